/-! RestartBook.Tables: looking through the slots; the bases; one table into another -/
theorem hd_J7_fill_53178 : yJ7_fill_53178.cls ≠ "java/lang/invoke/MethodHandle" ∧ yJ7_fill_53178.cls ≠ "java/lang/invoke/VarHandle" ∧ (parseMethodDescriptor yJ7_fill_53178.desc).map (fun d => d.parameters.length) = some 2 := by decide +kernel
theorem TR_lwS {v : TW} {T : TF} (h : TR v T) {i st : Nat} (hst : st ≠ 0) (hb : TB T) (hs : st < 2 ^ 31) (hi : i < v.1) (he : v.2.2.1 i = nI st) (hno : ∀ j, j < i → v.2.2.1 j ≠ nI st) : v.2.1 i = nI (lwD T st 200) := by
  obtain ⟨h0, wl, h1, h2, h3⟩ := h
  have a := h1 i hi
  rw [a.1.1]
  refine congrArg nI (lwD_least (w := wl i) a.2.1 ((nI_eq (hb _).1 hs).mp (a.1.2.1.symm.trans he)) (fun w' b1 b2 b3 => ?_) 200 a.2.2.1).symm
  obtain ⟨j, hj, rfl⟩ := h3 w' (by rw [b3]; exact hst)
  refine hno j ?_ (by rw [(h1 j hj).1.2.1, b3])
  by_cases q : j < i
  · exact q
  · rcases Nat.lt_or_ge i j with q2 | q2
    · have := h2 i j q2 hj; omega
    · have : j = i := by omega
      subst this; omega
theorem TR_lwN {v : TW} {T : TF} (h : TR v T) {st : Nat} (hst : st ≠ 0) (hno : ∀ j, j < v.1 → v.2.2.1 j ≠ nI st) : lwD T st 200 = 0 := by
  obtain ⟨h0, wl, h1, h2, h3⟩ := h
  refine lwD_none 200 (fun w _ _ b3 => ?_)
  obtain ⟨j, hj, rfl⟩ := h3 w (by rw [b3]; exact hst)
  exact hno j hj (by rw [(h1 j hj).1.2.1, b3])
set_option maxHeartbeats 4000000 in
set_option maxRecDepth 100000 in
theorem cT_leastWorkIn (l : Launch) (D : va_G) (cI : ClassId) (a a1 a2 a3 a4 a5 : Nat) (v : TW) (fb : Nat → Int32) (T : TF) (h : TR v T) (st : Nat) (hst : st ≠ 0) (hs : st < 2 ^ 31) (hb2 : TB T) : Kt l yX2_leastWorkIn wsX2_leastWorkIn 0 0 (0) (0) D cI [.ref a, .int (nI st)] ([(a, .inr (2, [.int (nI v.1), .ref a1, .ref a2, .ref a3, .ref a4, .ref a5])), (a1, .inl (cI, 16, .inl v.2.1)), (a2, .inl (cI, 16, .inl v.2.2.1)), (a3, .inl (cI, 16, .inl v.2.2.2.1)), (a4, .inl (cI, 16, .inl v.2.2.2.2)), (a5, .inl (cI, 64, .inl fb))]) (pI (fun (r : Int32) (u : Unit) => r = nI (lwD T st 200))) (fun (u : Unit) => [(a, .inr (2, [.int (nI v.1), .ref a1, .ref a2, .ref a3, .ref a4, .ref a5])), (a1, .inl (cI, 16, .inl v.2.1)), (a2, .inl (cI, 16, .inl v.2.2.1)), (a3, .inl (cI, 16, .inl v.2.2.2.1)), (a4, .inl (cI, 16, .inl v.2.2.2.2)), (a5, .inl (cI, 64, .inl fb))]) := by
  refine kt_start (cc := cX2_leastWorkIn) (maxL := 3) (ret := (some .int)) (by decide +kernel) rfl (Nat.le_of_ble_eq_true rfl) ?_
  intro p e s m below meth c hx hb hml hr hlk hown hnm hts ls hl hw
  have hown : s.vm.findClass RX2 = some m.cls := hown
  have hl : lv_has ls 3 [(0, .ref a), (1, .int (nI st))] := hl
  have k7 := hts (.fieldLink RX2 7 "RestartBook$Tables" "size" "I") (by decide +kernel)
  have k13 := hts (.fieldLink RX2 13 "RestartBook$Tables" "works" "[I") (by decide +kernel)
  have k17 := hts (.fieldLink RX2 17 "RestartBook$Tables" "states" "[I") (by decide +kernel)
  have hin2 : ∀ w ∈ u_ws RX2 TX2 6, w ∈ wsX2_leastWorkIn := in_X2_leastWorkIn
  have hv16 := TR_le h
  refine lv_iconst (v := nI 0) hx hb dX2_leastWorkIn_0 (by decide +kernel) ?_
  refine lv_istore_n (lv' := [(2, .int (nI 0)), (0, .ref a), (1, .int (nI st))]) hx hb dX2_leastWorkIn_1 rfl hl (by decide) rfl (fun ls hl => ?_)
  have lp : ∀ (t : Nat) (i : Nat) (H : Heap) (locs : List Loc) (ls : Array Slot), v.1 - i < t → (i ≤ v.1) → (∀ j, j < i → v.2.2.1 j ≠ nI st) → ww D cI (va_A ([(a, .inr (2, [.int (nI v.1), .ref a1, .ref a2, .ref a3, .ref a4, .ref a5])), (a1, .inl (cI, 16, .inl v.2.1)), (a2, .inl (cI, 16, .inl v.2.2.1)), (a3, .inl (cI, 16, .inl v.2.2.2.1)), (a4, .inl (cI, 16, .inl v.2.2.2.2)), (a5, .inl (cI, 64, .inl fb))]) s.heap.size) s.heap s ([(a, .inr (2, [.int (nI v.1), .ref a1, .ref a2, .ref a3, .ref a4, .ref a5])), (a1, .inl (cI, 16, .inl v.2.1)), (a2, .inl (cI, 16, .inl v.2.2.1)), (a3, .inl (cI, 16, .inl v.2.2.2.1)), (a4, .inl (cI, 16, .inl v.2.2.2.2)), (a5, .inl (cI, 64, .inl fb))]) H locs → lv_has ls 3 [(2, .int (nI i)), (0, .ref a), (1, .int (nI st))] → W p l e { frames := 0, cells := 0, slots := 0, locals := 0 } s m [.ref a, .int (nI st)].toArray below meth c H locs (0) (0) (MQ below (kQ D cI ([(a, .inr (2, [.int (nI v.1), .ref a1, .ref a2, .ref a3, .ref a4, .ref a5])), (a1, .inl (cI, 16, .inl v.2.1)), (a2, .inl (cI, 16, .inl v.2.2.1)), (a3, .inl (cI, 16, .inl v.2.2.2.1)), (a4, .inl (cI, 16, .inl v.2.2.2.2)), (a5, .inl (cI, 64, .inl fb))]) s.heap.size (pI (fun (r : Int32) (u : Unit) => r = nI (lwD T st 200))) (fun (u : Unit) => [(a, .inr (2, [.int (nI v.1), .ref a1, .ref a2, .ref a3, .ref a4, .ref a5])), (a1, .inl (cI, 16, .inl v.2.1)), (a2, .inl (cI, 16, .inl v.2.2.1)), (a3, .inl (cI, 16, .inl v.2.2.2.1)), (a4, .inl (cI, 16, .inl v.2.2.2.2)), (a5, .inl (cI, 64, .inl fb))])) [.ref a, .int (nI st)].toArray s (0) (0) (va_A ([(a, .inr (2, [.int (nI v.1), .ref a1, .ref a2, .ref a3, .ref a4, .ref a5])), (a1, .inl (cI, 16, .inl v.2.1)), (a2, .inl (cI, 16, .inl v.2.2.1)), (a3, .inl (cI, 16, .inl v.2.2.2.1)), (a4, .inl (cI, 16, .inl v.2.2.2.2)), (a5, .inl (cI, 64, .inl fb))]) s.heap.size)) (F0 m 2 ls []) := by
    intro t
    induction t with
    | zero => intro i H locs ls ht; exact absurd ht (Nat.not_lt_zero _)
    | succ t ih_2 =>
      intro i H locs ls ht hi0 hno hw hl
      refine lv_iload_n hx hb dX2_leastWorkIn_2 rfl (lv_at hl 0 rfl) ?_
      refine lv_aload_n hx hb dX2_leastWorkIn_3 rfl (lv_at hl 1 rfl) ?_
      refine ww_get hx hb hts hin2 hown hw 0 rfl rfl 0 (by decide) k7 rfl dX2_leastWorkIn_4 ?_
      refine lv_icmp_ge (tgt := 33) hx hb dX2_leastWorkIn_7 (by decide) (fun c_7 => ?_) (fun c_7 => ?_)
      · refine lv_iconst (v := nI 0) hx hb dX2_leastWorkIn_33 (by decide +kernel) ?_
        exact ww_iret (u := ()) hx hb hr hlk hw (by rw [TR_lwN h hst (fun j hj => hno j (by simp (disch := omega) only [i_le, nI_toInt] at c_7; omega))]) (Nat.le_of_ble_eq_true rfl) (Nat.le_of_ble_eq_true rfl) dX2_leastWorkIn_34
      · have hi : i < v.1 := by simp (disch := omega) only [i_le, nI_toInt] at c_7; omega
        refine lv_aload_n hx hb dX2_leastWorkIn_10 rfl (lv_at hl 1 rfl) ?_
        refine ww_get hx hb hts hin2 hown hw 0 rfl rfl 2 (by decide) k17 rfl dX2_leastWorkIn_11 ?_
        refine lv_iload_n hx hb dX2_leastWorkIn_14 rfl (lv_at hl 0 rfl) ?_
        refine ww_iald hx hb hw 2 rfl i rfl (by omega) (by omega) dX2_leastWorkIn_15 ?_
        refine lv_iload_n hx hb dX2_leastWorkIn_16 rfl (lv_at hl 2 rfl) ?_
        refine lv_icmp_ne (tgt := 27) hx hb dX2_leastWorkIn_17 (by decide) (fun c_17 => ?_) (fun c_17 => ?_)
        · refine lv_iinc (v := nI (i + 1)) (lv' := [(2, .int (nI (i + 1))), (0, .ref a), (1, .int (nI st))]) hx hb dX2_leastWorkIn_27 hl (k := 0) rfl (nI_add _ _) (by decide) rfl (fun ls hl => ?_)
          refine lv_goto (tgt := 2) hx hb dX2_leastWorkIn_30 (by decide) ?_
          exact ih_2 (i + 1) _ _ _ (by omega) (by omega) (fun j hj => (Nat.lt_succ_iff_lt_or_eq.mp hj).elim (hno j) (fun e => by rw [e]; exact c_17)) hw (lv_sub hl [0, 1, 2] rfl)
        · refine lv_aload_n hx hb dX2_leastWorkIn_20 rfl (lv_at hl 1 rfl) ?_
          refine ww_get hx hb hts hin2 hown hw 0 rfl rfl 1 (by decide) k13 rfl dX2_leastWorkIn_21 ?_
          refine lv_iload_n hx hb dX2_leastWorkIn_24 rfl (lv_at hl 0 rfl) ?_
          refine ww_iald hx hb hw 1 rfl i rfl (by omega) (by omega) dX2_leastWorkIn_25 ?_
          exact ww_iret (u := ()) hx hb hr hlk hw (TR_lwS h hst hb2 hs hi c_17 hno) (Nat.le_of_ble_eq_true rfl) (Nat.le_of_ble_eq_true rfl) dX2_leastWorkIn_26
  exact lp ((v.1 - (0)) + 1) 0 _ _ _ (Nat.lt_succ_self _) (Nat.zero_le _) (fun j hj => absurd hj (Nat.not_lt_zero _)) hw (lv_sub hl [0, 1, 2] rfl)
/-- behind i slots: what is found, and what the fold says of the works up to there -/
def WU (v : TW) (T : TF) (i : Nat) (x : Int32) : Prop := ∃ mm : Nat, mm ≤ 200 ∧ (∀ j, j < v.1 → ∀ w, w ≤ 200 → v.2.1 j = nI w → (j < i ↔ w ≤ mm)) ∧ ((x = -1 ∧ wuD T mm = 0) ∨ ∃ k, k < i ∧ x = nI k ∧ v.2.1 k = nI (wuD T mm) ∧ wuD T mm ≠ 0)
theorem WU_0 {v : TW} {T : TF} (h : TR v T) : WU v T 0 (-1) := by
  refine ⟨0, by omega, fun j hj w hw he => ⟨fun q => absurd q (Nat.not_lt_zero _), fun q => ?_⟩, Or.inl ⟨rfl, rfl⟩⟩
  have := (TR_at h (by omega) hj he).1
  omega
theorem WU_go {v : TW} {T : TF} (h : TR v T) {i mm w : Nat} (hi : i < v.1) (he : v.2.1 i = nI w) (hw : w ≤ 200) (hm : ∀ j, j < v.1 → ∀ w, w ≤ 200 → v.2.1 j = nI w → (j < i ↔ w ≤ mm)) : mm < w ∧ (∀ j, j < v.1 → ∀ w', w' ≤ 200 → v.2.1 j = nI w' → (j < i + 1 ↔ w' ≤ w)) ∧ wuD T (w - 1) = wuD T mm := by
  have hmw : mm < w := by
    have := hm i hi w hw he
    by_cases q : w ≤ mm
    · exact absurd (this.mpr q) (Nat.lt_irrefl _)
    · omega
  have ord : ∀ j, j < v.1 → ∀ w', w' ≤ 200 → v.2.1 j = nI w' → ((j < i → w' < w) ∧ (i < j → w < w')) := by
    obtain ⟨h0, wl, h1, h2, h3⟩ := h
    intro j hj w' hw' he'
    have e1 : wl j = w' := (nI_eq (by have := (h1 j hj).2.2.1; omega) (by omega)).mp ((h1 j hj).1.1.symm.trans he')
    have e2 : wl i = w := (nI_eq (by have := (h1 i hi).2.2.1; omega) (by omega)).mp ((h1 i hi).1.1.symm.trans he)
    exact ⟨fun q => by rw [← e1, ← e2]; exact h2 j i q hi, fun q => by rw [← e1, ← e2]; exact h2 i j q hj⟩
  refine ⟨hmw, fun j hj w' hw' he' => ?_, wuD_skip (w - 1) (by omega) (fun q q1 q2 => ?_)⟩
  · have o := ord j hj w' hw' he'
    constructor
    · intro q
      rcases Nat.lt_or_ge j i with a | a
      · exact Nat.le_of_lt (o.1 a)
      · have : j = i := by omega
        subst this
        have : w' = w := (nI_eq (by omega) (by omega)).mp (he'.symm.trans he)
        omega
    · intro q
      by_cases a : j < i + 1
      · exact a
      · have := o.2 (by omega); omega
  · by_cases z : (T q).1 = 0
    · exact z
    · obtain ⟨-, b2, j, hj, b3⟩ := TR_some h z
      have o := ord j hj q b2 b3
      have c := hm j hj q b2 b3
      have nlt : ¬ j < i := fun k => by have := c.mp k; omega
      rcases Nat.lt_or_ge i j with a | a
      · have := o.2 a; omega
      · have : j = i := by omega
        subst this
        have : q = w := (nI_eq (by omega) (by omega)).mp (b3.symm.trans he)
        omega
theorem wuD_step {T : TF} {w : Nat} (hw : 1 ≤ w) : (wuP T (wuD T (w - 1)) w → wuD T w = w) ∧ (¬ wuP T (wuD T (w - 1)) w → wuD T w = wuD T (w - 1)) := by
  obtain ⟨m, rfl⟩ : ∃ m, w = m + 1 := ⟨w - 1, by omega⟩
  exact ⟨fun q => wuD_pos q, fun q => wuD_neg q⟩
theorem WU_take {v : TW} {T : TF} (h : TR v T) (hb : TB T) {i : Nat} {x : Int32} (hi : i < v.1) (hu : WU v T i x) (ho : v.2.2.1 i = nI 1 ∨ v.2.2.1 i = nI 2) (hx : x = -1 ∨ ∃ k, k < i ∧ x = nI k ∧ v.2.2.2.2 k < v.2.2.2.2 i) : WU v T (i + 1) (nI i) := by
  obtain ⟨mm, m1, m2, m3⟩ := hu
  obtain ⟨w, w1, w2, w3⟩ := TR_mem h hi
  obtain ⟨g1, g2, g3⟩ := WU_go h hi w2 w1 m2
  have aw := TR_at h (by omega) hi w2
  have hp : wuP T (wuD T (w - 1)) w := by
    refine ⟨ho.elim (fun q => Or.inl ((nI_eq (hb w).1 (by omega)).mp (aw.2.2.2.1.symm.trans q))) (fun q => Or.inr ((nI_eq (hb w).1 (by omega)).mp (aw.2.2.2.1.symm.trans q))), ?_⟩
    rw [g3]
    rcases hx with hx | ⟨k, k1, k2, k3⟩
    · rcases m3 with m3 | ⟨k, k1, k2, -⟩
      · exact Or.inl m3.2
      · exact absurd (k2.symm.trans hx) (nI_nm1 (by have := TR_le h; omega))
    · rcases m3 with m3 | ⟨k', l1, l2, l3, l4⟩
      · exact absurd (k2.symm.trans m3.1) (nI_nm1 (by have := TR_le h; omega))
      · have e : k = k' := (nI_eq (by have := TR_le h; omega) (by have := TR_le h; omega)).mp (k2.symm.trans l2)
        subst e
        have ak := TR_at h (by have := wuD_le T mm; omega) (by omega) l3
        rw [ak.2.2.2.2.2, aw.2.2.2.2.2, nI_ltI (hb _).2.2 (hb _).2.2] at k3
        exact Or.inr k3
  have e := (wuD_step aw.1).1 hp
  exact ⟨w, w1, g2, Or.inr ⟨i, by omega, rfl, by rw [e]; exact w2, by rw [e]; have := aw.1; omega⟩⟩
theorem WU_keep {v : TW} {T : TF} (h : TR v T) (hb : TB T) {i : Nat} {x : Int32} (hi : i < v.1) (hu : WU v T i x) (ho : (¬ v.2.2.1 i = nI 1 ∧ ¬ v.2.2.1 i = nI 2) ∨ ∃ k, k < i ∧ x = nI k ∧ v.2.2.2.2 i ≤ v.2.2.2.2 k) : WU v T (i + 1) x := by
  obtain ⟨mm, m1, m2, m3⟩ := hu
  obtain ⟨w, w1, w2, w3⟩ := TR_mem h hi
  obtain ⟨g1, g2, g3⟩ := WU_go h hi w2 w1 m2
  have aw := TR_at h (by omega) hi w2
  have hp : ¬ wuP T (wuD T (w - 1)) w := by
    rintro ⟨p1, p2⟩
    rcases ho with ⟨o1, o2⟩ | ⟨k, k1, k2, k3⟩
    · rcases p1 with p | p
      · exact o1 (by rw [aw.2.2.2.1, p])
      · exact o2 (by rw [aw.2.2.2.1, p])
    · rw [g3] at p2
      rcases m3 with m3 | ⟨k', l1, l2, l3, l4⟩
      · exact absurd (k2.symm.trans m3.1) (nI_nm1 (by have := TR_le h; omega))
      · have e : k = k' := (nI_eq (by have := TR_le h; omega) (by have := TR_le h; omega)).mp (k2.symm.trans l2)
        subst e
        have ak := TR_at h (by have := wuD_le T mm; omega) (by omega) l3
        rw [ak.2.2.2.2.2, aw.2.2.2.2.2, nI_leI (hb _).2.2 (hb _).2.2] at k3
        rcases p2 with p2 | p2
        · exact l4 p2
        · omega
  have e := (wuD_step aw.1).2 hp
  rw [g3] at e
  refine ⟨w, w1, g2, ?_⟩
  rw [e]
  exact m3.imp id (fun ⟨k, k1, k2⟩ => ⟨k, by omega, k2⟩)
theorem WU_end {v : TW} {T : TF} (h : TR v T) {x : Int32} (hu : WU v T v.1 x) : (x = -1 ∧ wuD T 200 = 0) ∨ ∃ k, k < v.1 ∧ x = nI k ∧ v.2.1 k = nI (wuD T 200) := by
  obtain ⟨mm, m1, m2, m3⟩ := hu
  have e : wuD T 200 = wuD T mm := wuD_skip 200 m1 (fun q q1 q2 => by
    by_cases z : (T q).1 = 0
    · exact z
    · obtain ⟨-, b2, j, hj, b3⟩ := TR_some h z
      have := (m2 j hj q b2 b3).mp hj
      omega)
  rw [e]
  exact m3.imp id (fun ⟨k, k1, k2, k3, _⟩ => ⟨k, k1, k2, k3⟩)
set_option maxHeartbeats 4000000 in
set_option maxRecDepth 100000 in
theorem cT_workToUndo (l : Launch) (D : va_G) (cI : ClassId) (a a1 a2 a3 a4 a5 : Nat) (v : TW) (fb : Nat → Int32) (T : TF) (h : TR v T) (hb2 : TB T) : Kt l yX2_workToUndo wsX2_workToUndo 0 0 (0) (0) D cI [.ref a] ([(a, .inr (2, [.int (nI v.1), .ref a1, .ref a2, .ref a3, .ref a4, .ref a5])), (a1, .inl (cI, 16, .inl v.2.1)), (a2, .inl (cI, 16, .inl v.2.2.1)), (a3, .inl (cI, 16, .inl v.2.2.2.1)), (a4, .inl (cI, 16, .inl v.2.2.2.2)), (a5, .inl (cI, 64, .inl fb))]) (pI (fun (r : Int32) (u : Unit) => r = nI (wuD T 200))) (fun (u : Unit) => [(a, .inr (2, [.int (nI v.1), .ref a1, .ref a2, .ref a3, .ref a4, .ref a5])), (a1, .inl (cI, 16, .inl v.2.1)), (a2, .inl (cI, 16, .inl v.2.2.1)), (a3, .inl (cI, 16, .inl v.2.2.2.1)), (a4, .inl (cI, 16, .inl v.2.2.2.2)), (a5, .inl (cI, 64, .inl fb))]) := by
  refine kt_start (cc := cX2_workToUndo) (maxL := 4) (ret := (some .int)) (by decide +kernel) rfl (Nat.le_of_ble_eq_true rfl) ?_
  intro p e s m below meth c hx hb hml hr hlk hown hnm hts ls hl hw
  have hown : s.vm.findClass RX2 = some m.cls := hown
  have hl : lv_has ls 4 [(0, .ref a)] := hl
  have k7 := hts (.fieldLink RX2 7 "RestartBook$Tables" "size" "I") (by decide +kernel)
  have k13 := hts (.fieldLink RX2 13 "RestartBook$Tables" "works" "[I") (by decide +kernel)
  have k17 := hts (.fieldLink RX2 17 "RestartBook$Tables" "states" "[I") (by decide +kernel)
  have k23 := hts (.fieldLink RX2 23 "RestartBook$Tables" "nexts" "[I") (by decide +kernel)
  have hin2 : ∀ w ∈ u_ws RX2 TX2 6, w ∈ wsX2_workToUndo := in_X2_workToUndo
  have hv16 := TR_le h
  refine lv_iconst (v := (-1)) hx hb dX2_workToUndo_0 (by decide +kernel) ?_
  refine lv_istore_n (lv' := [(1, .int ((-1))), (0, .ref a)]) hx hb dX2_workToUndo_1 rfl hl (by decide) rfl (fun ls hl => ?_)
  refine lv_iconst (v := nI 0) hx hb dX2_workToUndo_2 (by decide +kernel) ?_
  refine lv_istore_n (lv' := [(2, .int (nI 0)), (1, .int ((-1))), (0, .ref a)]) hx hb dX2_workToUndo_3 rfl hl (by decide) rfl (fun ls hl => ?_)
  have lp : ∀ (t : Nat) (i : Nat) (x : Int32) (H : Heap) (locs : List Loc) (ls : Array Slot), v.1 - i < t → (i ≤ v.1) → (WU v T i x) → ww D cI (va_A ([(a, .inr (2, [.int (nI v.1), .ref a1, .ref a2, .ref a3, .ref a4, .ref a5])), (a1, .inl (cI, 16, .inl v.2.1)), (a2, .inl (cI, 16, .inl v.2.2.1)), (a3, .inl (cI, 16, .inl v.2.2.2.1)), (a4, .inl (cI, 16, .inl v.2.2.2.2)), (a5, .inl (cI, 64, .inl fb))]) s.heap.size) s.heap s ([(a, .inr (2, [.int (nI v.1), .ref a1, .ref a2, .ref a3, .ref a4, .ref a5])), (a1, .inl (cI, 16, .inl v.2.1)), (a2, .inl (cI, 16, .inl v.2.2.1)), (a3, .inl (cI, 16, .inl v.2.2.2.1)), (a4, .inl (cI, 16, .inl v.2.2.2.2)), (a5, .inl (cI, 64, .inl fb))]) H locs → lv_has ls 4 [(2, .int (nI i)), (1, .int x), (0, .ref a)] → W p l e { frames := 0, cells := 0, slots := 0, locals := 0 } s m [.ref a].toArray below meth c H locs (0) (0) (MQ below (kQ D cI ([(a, .inr (2, [.int (nI v.1), .ref a1, .ref a2, .ref a3, .ref a4, .ref a5])), (a1, .inl (cI, 16, .inl v.2.1)), (a2, .inl (cI, 16, .inl v.2.2.1)), (a3, .inl (cI, 16, .inl v.2.2.2.1)), (a4, .inl (cI, 16, .inl v.2.2.2.2)), (a5, .inl (cI, 64, .inl fb))]) s.heap.size (pI (fun (r : Int32) (u : Unit) => r = nI (wuD T 200))) (fun (u : Unit) => [(a, .inr (2, [.int (nI v.1), .ref a1, .ref a2, .ref a3, .ref a4, .ref a5])), (a1, .inl (cI, 16, .inl v.2.1)), (a2, .inl (cI, 16, .inl v.2.2.1)), (a3, .inl (cI, 16, .inl v.2.2.2.1)), (a4, .inl (cI, 16, .inl v.2.2.2.2)), (a5, .inl (cI, 64, .inl fb))])) [.ref a].toArray s (0) (0) (va_A ([(a, .inr (2, [.int (nI v.1), .ref a1, .ref a2, .ref a3, .ref a4, .ref a5])), (a1, .inl (cI, 16, .inl v.2.1)), (a2, .inl (cI, 16, .inl v.2.2.1)), (a3, .inl (cI, 16, .inl v.2.2.2.1)), (a4, .inl (cI, 16, .inl v.2.2.2.2)), (a5, .inl (cI, 64, .inl fb))]) s.heap.size)) (F0 m 4 ls []) := by
    intro t
    induction t with
    | zero => intro i x H locs ls ht; exact absurd ht (Nat.not_lt_zero _)
    | succ t ih_4 =>
      intro i x H locs ls ht hi0 hu hw hl
      refine lv_iload_n hx hb dX2_workToUndo_4 rfl (lv_at hl 0 rfl) ?_
      refine lv_aload_n hx hb dX2_workToUndo_5 rfl (lv_at hl 2 rfl) ?_
      refine ww_get hx hb hts hin2 hown hw 0 rfl rfl 0 (by decide) k7 rfl dX2_workToUndo_6 ?_
      refine lv_icmp_ge (tgt := 70) hx hb dX2_workToUndo_9 (by decide) (fun c_9 => ?_) (fun c_9 => ?_)
      · have hie : i = v.1 := by simp (disch := omega) only [i_le, nI_toInt] at c_9; omega
        subst hie
        rcases WU_end h hu with ⟨rfl, hz⟩ | ⟨k, k1, rfl, k2⟩
        · skip
          refine lv_iload_n hx hb dX2_workToUndo_70 rfl (lv_at hl 1 rfl) ?_
          refine lv_iconst (v := (-1)) hx hb dX2_workToUndo_71 (by decide +kernel) ?_
          refine lv_icmp_ne (tgt := 79) hx hb dX2_workToUndo_72 (by decide) (fun c_72 => absurd c_72 (fun q => q rfl)) (fun c_72 => ?_)
          refine lv_iconst (v := nI 0) hx hb dX2_workToUndo_75 (by decide +kernel) ?_
          refine lv_goto (tgt := 85) hx hb dX2_workToUndo_76 (by decide) ?_
          exact ww_iret (u := ()) hx hb hr hlk hw (by rw [hz]) (Nat.le_of_ble_eq_true rfl) (Nat.le_of_ble_eq_true rfl) dX2_workToUndo_85
        · have hk16 : k < 16 := by omega
          refine lv_iload_n hx hb dX2_workToUndo_70 rfl (lv_at hl 1 rfl) ?_
          refine lv_iconst (v := (-1)) hx hb dX2_workToUndo_71 (by decide +kernel) ?_
          refine lv_icmp_ne (tgt := 79) hx hb dX2_workToUndo_72 (by decide) (fun c_72 => ?_) (fun c_72 => absurd c_72 (nI_nm1 (by omega)))
          refine lv_aload_n hx hb dX2_workToUndo_79 rfl (lv_at hl 2 rfl) ?_
          refine ww_get hx hb hts hin2 hown hw 0 rfl rfl 1 (by decide) k13 rfl dX2_workToUndo_80 ?_
          refine lv_iload_n hx hb dX2_workToUndo_83 rfl (lv_at hl 1 rfl) ?_
          refine ww_iald hx hb hw 1 rfl k rfl (by omega) (by omega) dX2_workToUndo_84 ?_
          exact ww_iret (u := ()) hx hb hr hlk hw (k2) (Nat.le_of_ble_eq_true rfl) (Nat.le_of_ble_eq_true rfl) dX2_workToUndo_85
      · have hi : i < v.1 := by simp (disch := omega) only [i_le, nI_toInt] at c_9; omega
        refine lv_aload_n hx hb dX2_workToUndo_12 rfl (lv_at hl 2 rfl) ?_
        refine ww_get hx hb hts hin2 hown hw 0 rfl rfl 2 (by decide) k17 rfl dX2_workToUndo_13 ?_
        refine lv_iload_n hx hb dX2_workToUndo_16 rfl (lv_at hl 0 rfl) ?_
        refine ww_iald hx hb hw 2 rfl i rfl (by omega) (by omega) dX2_workToUndo_17 ?_
        refine lv_iconst (v := nI 1) hx hb dX2_workToUndo_18 (by decide +kernel) ?_
        refine lv_icmp_eq (tgt := 32) hx hb dX2_workToUndo_19 (by decide) (fun c_19 => ?_) (fun c_19 => ?_)
        · refine lv_iconst (v := nI 1) hx hb dX2_workToUndo_32 (by decide +kernel) ?_
          refine lv_goto (tgt := 37) hx hb dX2_workToUndo_33 (by decide) ?_
          refine lv_istore_n (lv' := [(3, .int (nI 1)), (2, .int (nI i)), (1, .int x), (0, .ref a)]) hx hb dX2_workToUndo_37 rfl hl (by decide) rfl (fun ls hl => ?_)
          refine lv_iload_n hx hb dX2_workToUndo_38 rfl (lv_at hl 0 rfl) ?_
          refine lv_if_eq (tgt := 64) hx hb dX2_workToUndo_39 (by decide) (fun c_39 => absurd c_39 (by decide)) (fun c_39 => ?_)
          refine lv_iload_n hx hb dX2_workToUndo_42 rfl (lv_at hl 2 rfl) ?_
          refine lv_iconst (v := (-1)) hx hb dX2_workToUndo_43 (by decide +kernel) ?_
          refine lv_icmp_eq (tgt := 62) hx hb dX2_workToUndo_44 (by decide) (fun c_44 => ?_) (fun c_44 => ?_)
          · refine lv_iload_n hx hb dX2_workToUndo_62 rfl (lv_at hl 1 rfl) ?_
            refine lv_istore_n (lv' := [(1, .int (nI i)), (3, .int (nI 1)), (2, .int (nI i)), (0, .ref a)]) hx hb dX2_workToUndo_63 rfl hl (by decide) rfl (fun ls hl => ?_)
            refine lv_iinc (v := nI (i + 1)) (lv' := [(2, .int (nI (i + 1))), (1, .int (nI i)), (3, .int (nI 1)), (0, .ref a)]) hx hb dX2_workToUndo_64 hl (k := 2) rfl (nI_add _ _) (by decide) rfl (fun ls hl => ?_)
            refine lv_goto (tgt := 4) hx hb dX2_workToUndo_67 (by decide) ?_
            exact ih_4 (i + 1) (nI i) _ _ _ (by omega) (by omega) (WU_take h hb2 hi hu (by first | exact Or.inl c_19 | exact Or.inr c_29) (by first | exact Or.inl c_44 | exact Or.inr ⟨k, k1, rfl, by rw [i_lt]; rw [i_le] at c_59; omega⟩)) hw (lv_sub hl [0, 1, 3] rfl)
          · obtain ⟨k, k1, rfl⟩ : ∃ k, k < i ∧ x = nI k := by obtain ⟨mm, -, -, q⟩ := hu; exact q.elim (fun q => absurd q.1 c_44) (fun ⟨k, k1, k2, _⟩ => ⟨k, k1, k2⟩)
            refine lv_aload_n hx hb dX2_workToUndo_47 rfl (lv_at hl 3 rfl) ?_
            refine ww_get hx hb hts hin2 hown hw 0 rfl rfl 4 (by decide) k23 rfl dX2_workToUndo_48 ?_
            refine lv_iload_n hx hb dX2_workToUndo_51 rfl (lv_at hl 1 rfl) ?_
            refine ww_iald hx hb hw 4 rfl i rfl (by omega) (by omega) dX2_workToUndo_52 ?_
            refine lv_aload_n hx hb dX2_workToUndo_53 rfl (lv_at hl 3 rfl) ?_
            refine ww_get hx hb hts hin2 hown hw 0 rfl rfl 4 (by decide) k23 rfl dX2_workToUndo_54 ?_
            refine lv_iload_n hx hb dX2_workToUndo_57 rfl (lv_at hl 2 rfl) ?_
            refine ww_iald hx hb hw 4 rfl k rfl (by omega) (by omega) dX2_workToUndo_58 ?_
            refine lv_icmp_le (tgt := 64) hx hb dX2_workToUndo_59 (by decide) (fun c_59 => ?_) (fun c_59 => ?_)
            · refine lv_iinc (v := nI (i + 1)) (lv' := [(2, .int (nI (i + 1))), (3, .int (nI 1)), (1, .int (nI k)), (0, .ref a)]) hx hb dX2_workToUndo_64 hl (k := 1) rfl (nI_add _ _) (by decide) rfl (fun ls hl => ?_)
              refine lv_goto (tgt := 4) hx hb dX2_workToUndo_67 (by decide) ?_
              exact ih_4 (i + 1) (nI k) _ _ _ (by omega) (by omega) (WU_keep h hb2 hi hu (by first | exact Or.inl ⟨c_19, c_29⟩ | exact Or.inr ⟨k, k1, rfl, c_59⟩)) hw (lv_sub hl [0, 2, 3] rfl)
            · refine lv_iload_n hx hb dX2_workToUndo_62 rfl (lv_at hl 1 rfl) ?_
              refine lv_istore_n (lv' := [(1, .int (nI i)), (3, .int (nI 1)), (2, .int (nI i)), (0, .ref a)]) hx hb dX2_workToUndo_63 rfl hl (by decide) rfl (fun ls hl => ?_)
              refine lv_iinc (v := nI (i + 1)) (lv' := [(2, .int (nI (i + 1))), (1, .int (nI i)), (3, .int (nI 1)), (0, .ref a)]) hx hb dX2_workToUndo_64 hl (k := 2) rfl (nI_add _ _) (by decide) rfl (fun ls hl => ?_)
              refine lv_goto (tgt := 4) hx hb dX2_workToUndo_67 (by decide) ?_
              exact ih_4 (i + 1) (nI i) _ _ _ (by omega) (by omega) (WU_take h hb2 hi hu (by first | exact Or.inl c_19 | exact Or.inr c_29) (by first | exact Or.inl c_44 | exact Or.inr ⟨k, k1, rfl, by rw [i_lt]; rw [i_le] at c_59; omega⟩)) hw (lv_sub hl [0, 1, 3] rfl)
        · refine lv_aload_n hx hb dX2_workToUndo_22 rfl (lv_at hl 2 rfl) ?_
          refine ww_get hx hb hts hin2 hown hw 0 rfl rfl 2 (by decide) k17 rfl dX2_workToUndo_23 ?_
          refine lv_iload_n hx hb dX2_workToUndo_26 rfl (lv_at hl 0 rfl) ?_
          refine ww_iald hx hb hw 2 rfl i rfl (by omega) (by omega) dX2_workToUndo_27 ?_
          refine lv_iconst (v := nI 2) hx hb dX2_workToUndo_28 (by decide +kernel) ?_
          refine lv_icmp_ne (tgt := 36) hx hb dX2_workToUndo_29 (by decide) (fun c_29 => ?_) (fun c_29 => ?_)
          · refine lv_iconst (v := nI 0) hx hb dX2_workToUndo_36 (by decide +kernel) ?_
            refine lv_istore_n (lv' := [(3, .int (nI 0)), (2, .int (nI i)), (1, .int x), (0, .ref a)]) hx hb dX2_workToUndo_37 rfl hl (by decide) rfl (fun ls hl => ?_)
            refine lv_iload_n hx hb dX2_workToUndo_38 rfl (lv_at hl 0 rfl) ?_
            refine lv_if_eq (tgt := 64) hx hb dX2_workToUndo_39 (by decide) (fun c_39 => ?_) (fun c_39 => absurd (by decide) c_39)
            refine lv_iinc (v := nI (i + 1)) (lv' := [(2, .int (nI (i + 1))), (3, .int (nI 0)), (1, .int x), (0, .ref a)]) hx hb dX2_workToUndo_64 hl (k := 1) rfl (nI_add _ _) (by decide) rfl (fun ls hl => ?_)
            refine lv_goto (tgt := 4) hx hb dX2_workToUndo_67 (by decide) ?_
            exact ih_4 (i + 1) x _ _ _ (by omega) (by omega) (WU_keep h hb2 hi hu (by first | exact Or.inl ⟨c_19, c_29⟩ | exact Or.inr ⟨k, k1, rfl, c_59⟩)) hw (lv_sub hl [0, 2, 3] rfl)
          · refine lv_iconst (v := nI 1) hx hb dX2_workToUndo_32 (by decide +kernel) ?_
            refine lv_goto (tgt := 37) hx hb dX2_workToUndo_33 (by decide) ?_
            refine lv_istore_n (lv' := [(3, .int (nI 1)), (2, .int (nI i)), (1, .int x), (0, .ref a)]) hx hb dX2_workToUndo_37 rfl hl (by decide) rfl (fun ls hl => ?_)
            refine lv_iload_n hx hb dX2_workToUndo_38 rfl (lv_at hl 0 rfl) ?_
            refine lv_if_eq (tgt := 64) hx hb dX2_workToUndo_39 (by decide) (fun c_39 => absurd c_39 (by decide)) (fun c_39 => ?_)
            refine lv_iload_n hx hb dX2_workToUndo_42 rfl (lv_at hl 2 rfl) ?_
            refine lv_iconst (v := (-1)) hx hb dX2_workToUndo_43 (by decide +kernel) ?_
            refine lv_icmp_eq (tgt := 62) hx hb dX2_workToUndo_44 (by decide) (fun c_44 => ?_) (fun c_44 => ?_)
            · refine lv_iload_n hx hb dX2_workToUndo_62 rfl (lv_at hl 1 rfl) ?_
              refine lv_istore_n (lv' := [(1, .int (nI i)), (3, .int (nI 1)), (2, .int (nI i)), (0, .ref a)]) hx hb dX2_workToUndo_63 rfl hl (by decide) rfl (fun ls hl => ?_)
              refine lv_iinc (v := nI (i + 1)) (lv' := [(2, .int (nI (i + 1))), (1, .int (nI i)), (3, .int (nI 1)), (0, .ref a)]) hx hb dX2_workToUndo_64 hl (k := 2) rfl (nI_add _ _) (by decide) rfl (fun ls hl => ?_)
              refine lv_goto (tgt := 4) hx hb dX2_workToUndo_67 (by decide) ?_
              exact ih_4 (i + 1) (nI i) _ _ _ (by omega) (by omega) (WU_take h hb2 hi hu (by first | exact Or.inl c_19 | exact Or.inr c_29) (by first | exact Or.inl c_44 | exact Or.inr ⟨k, k1, rfl, by rw [i_lt]; rw [i_le] at c_59; omega⟩)) hw (lv_sub hl [0, 1, 3] rfl)
            · obtain ⟨k, k1, rfl⟩ : ∃ k, k < i ∧ x = nI k := by obtain ⟨mm, -, -, q⟩ := hu; exact q.elim (fun q => absurd q.1 c_44) (fun ⟨k, k1, k2, _⟩ => ⟨k, k1, k2⟩)
              refine lv_aload_n hx hb dX2_workToUndo_47 rfl (lv_at hl 3 rfl) ?_
              refine ww_get hx hb hts hin2 hown hw 0 rfl rfl 4 (by decide) k23 rfl dX2_workToUndo_48 ?_
              refine lv_iload_n hx hb dX2_workToUndo_51 rfl (lv_at hl 1 rfl) ?_
              refine ww_iald hx hb hw 4 rfl i rfl (by omega) (by omega) dX2_workToUndo_52 ?_
              refine lv_aload_n hx hb dX2_workToUndo_53 rfl (lv_at hl 3 rfl) ?_
              refine ww_get hx hb hts hin2 hown hw 0 rfl rfl 4 (by decide) k23 rfl dX2_workToUndo_54 ?_
              refine lv_iload_n hx hb dX2_workToUndo_57 rfl (lv_at hl 2 rfl) ?_
              refine ww_iald hx hb hw 4 rfl k rfl (by omega) (by omega) dX2_workToUndo_58 ?_
              refine lv_icmp_le (tgt := 64) hx hb dX2_workToUndo_59 (by decide) (fun c_59 => ?_) (fun c_59 => ?_)
              · refine lv_iinc (v := nI (i + 1)) (lv' := [(2, .int (nI (i + 1))), (3, .int (nI 1)), (1, .int (nI k)), (0, .ref a)]) hx hb dX2_workToUndo_64 hl (k := 1) rfl (nI_add _ _) (by decide) rfl (fun ls hl => ?_)
                refine lv_goto (tgt := 4) hx hb dX2_workToUndo_67 (by decide) ?_
                exact ih_4 (i + 1) (nI k) _ _ _ (by omega) (by omega) (WU_keep h hb2 hi hu (by first | exact Or.inl ⟨c_19, c_29⟩ | exact Or.inr ⟨k, k1, rfl, c_59⟩)) hw (lv_sub hl [0, 2, 3] rfl)
              · refine lv_iload_n hx hb dX2_workToUndo_62 rfl (lv_at hl 1 rfl) ?_
                refine lv_istore_n (lv' := [(1, .int (nI i)), (3, .int (nI 1)), (2, .int (nI i)), (0, .ref a)]) hx hb dX2_workToUndo_63 rfl hl (by decide) rfl (fun ls hl => ?_)
                refine lv_iinc (v := nI (i + 1)) (lv' := [(2, .int (nI (i + 1))), (1, .int (nI i)), (3, .int (nI 1)), (0, .ref a)]) hx hb dX2_workToUndo_64 hl (k := 2) rfl (nI_add _ _) (by decide) rfl (fun ls hl => ?_)
                refine lv_goto (tgt := 4) hx hb dX2_workToUndo_67 (by decide) ?_
                exact ih_4 (i + 1) (nI i) _ _ _ (by omega) (by omega) (WU_take h hb2 hi hu (by first | exact Or.inl c_19 | exact Or.inr c_29) (by first | exact Or.inl c_44 | exact Or.inr ⟨k, k1, rfl, by rw [i_lt]; rw [i_le] at c_59; omega⟩)) hw (lv_sub hl [0, 1, 3] rfl)
  exact lp ((v.1 - (0)) + 1) 0 (-1) _ _ _ (Nat.lt_succ_self _) (Nat.zero_le _) (WU_0 h) hw (lv_sub hl [0, 1, 2] rfl)
set_option maxHeartbeats 4000000 in
set_option maxRecDepth 100000 in
theorem cT_baseOf (l : Launch) (D : va_G) (cI : ClassId) (a a1 a2 a3 a4 a5 : Nat) (v : TW) (fb : Nat → Int32) (i : Nat) (hi : i < 64) : Kt l yX2_baseOf wsX2_baseOf 1 20 (0) (0) D cI [.ref a, .int (nI i)] ([(a, .inr (2, [.int (nI v.1), .ref a1, .ref a2, .ref a3, .ref a4, .ref a5])), (a1, .inl (cI, 16, .inl v.2.1)), (a2, .inl (cI, 16, .inl v.2.2.1)), (a3, .inl (cI, 16, .inl v.2.2.2.1)), (a4, .inl (cI, 16, .inl v.2.2.2.2)), (a5, .inl (cI, 64, .inl fb))]) (pI (fun (r : Int32) (u : Unit) => r = fb i)) (fun (u : Unit) => [(a, .inr (2, [.int (nI v.1), .ref a1, .ref a2, .ref a3, .ref a4, .ref a5])), (a1, .inl (cI, 16, .inl v.2.1)), (a2, .inl (cI, 16, .inl v.2.2.1)), (a3, .inl (cI, 16, .inl v.2.2.2.1)), (a4, .inl (cI, 16, .inl v.2.2.2.2)), (a5, .inl (cI, 64, .inl fb))]) := by
  refine kt_start (cc := cX2_baseOf) (maxL := 2) (ret := (some .int)) (by decide +kernel) rfl (Nat.le_of_ble_eq_true rfl) ?_
  intro p e s m below meth c hx hb hml hr hlk hown hnm hts ls hl hw
  have hown : s.vm.findClass RX2 = some m.cls := hown
  have hl : lv_has ls 2 [(0, .ref a), (1, .int (nI i))] := hl
  have k28 := hts (.fieldLink RX2 28 "RestartBook$Tables" "bases" "[I") (by decide +kernel)
  have hin2 : ∀ w ∈ u_ws RX2 TX2 6, w ∈ wsX2_baseOf := in_X2_baseOf
  refine lv_iload_n hx hb dX2_baseOf_0 rfl (lv_at hl 1 rfl) ?_
  refine ww_callS ([]) ([(a, .inr (2, [.int (nI v.1), .ref a1, .ref a2, .ref a3, .ref a4, .ref a5])), (a1, .inl (cI, 16, .inl v.2.1)), (a2, .inl (cI, 16, .inl v.2.2.1)), (a3, .inl (cI, 16, .inl v.2.2.2.1)), (a4, .inl (cI, 16, .inl v.2.2.2.2)), (a5, .inl (cI, 64, .inl fb))]) (As := [.int (nI i)]) (rest := []) ⟨hx, hb, hml, hown, hts⟩ (cP_hasPage l D cI (nI i)) gX2_baseOf_X1_hasPage rfl hd_X1_hasPage ⟨Nat.le_of_ble_eq_true rfl, Nat.le_of_ble_eq_true rfl⟩ hw rfl rfl rfl hl.1 (Nat.le_of_ble_eq_true rfl) dX2_baseOf_1 ⟨Nat.le_of_ble_eq_true rfl, Nat.le_of_ble_eq_true rfl⟩ (fun v u H locs hq hw => ?_)
  obtain ⟨r, rfl, hq⟩ := hq
  obtain ⟨rfl, -⟩ := hq.resolve_right (fun h => h.2 ⟨i, hi, rfl⟩)
  have hw : ww D cI _ _ s ([(a, .inr (2, [.int (nI v.1), .ref a1, .ref a2, .ref a3, .ref a4, .ref a5])), (a1, .inl (cI, 16, .inl v.2.1)), (a2, .inl (cI, 16, .inl v.2.2.1)), (a3, .inl (cI, 16, .inl v.2.2.2.1)), (a4, .inl (cI, 16, .inl v.2.2.2.2)), (a5, .inl (cI, 64, .inl fb))]) H locs := hw
  refine W.eq (g2 := F0 m 4 ls [.int (1)]) rfl ?_
  refine lv_if_eq (tgt := 16) hx hb dX2_baseOf_4 (by decide) (fun c_4 => absurd c_4 (by decide)) (fun c_4 => ?_)
  refine lv_aload_n hx hb dX2_baseOf_7 rfl (lv_at hl 0 rfl) ?_
  refine ww_get hx hb hts hin2 hown hw 0 rfl rfl 5 (by decide) k28 rfl dX2_baseOf_8 ?_
  refine lv_iload_n hx hb dX2_baseOf_11 rfl (lv_at hl 1 rfl) ?_
  refine ww_iald hx hb hw 5 rfl i rfl (by omega) (by omega) dX2_baseOf_12 ?_
  refine lv_goto (tgt := 17) hx hb dX2_baseOf_13 (by decide) ?_
  exact ww_iret (u := ()) hx hb hr hlk hw (rfl) (Nat.le_of_ble_eq_true rfl) (Nat.le_of_ble_eq_true rfl) dX2_baseOf_17
set_option maxHeartbeats 4000000 in
set_option maxRecDepth 100000 in
theorem cT_makeDirty (l : Launch) (D : va_G) (cI : ClassId) (a a1 a2 a3 a4 a5 : Nat) (v : TW) (fb : Nat → Int32) (i : Nat) (y : Int32) (hi : i < 64) : Kt l yX2_makeDirty wsX2_makeDirty 1 20 (0) (0) D cI [.ref a, .int (nI i), .int y] ([(a, .inr (2, [.int (nI v.1), .ref a1, .ref a2, .ref a3, .ref a4, .ref a5])), (a1, .inl (cI, 16, .inl v.2.1)), (a2, .inl (cI, 16, .inl v.2.2.1)), (a3, .inl (cI, 16, .inl v.2.2.2.1)), (a4, .inl (cI, 16, .inl v.2.2.2.2)), (a5, .inl (cI, 64, .inl fb))]) (pV (fun (u : Nat → Int32) => u = if fb i = 0 then upd fb i y else fb)) (fun (u : Nat → Int32) => [(a, .inr (2, [.int (nI v.1), .ref a1, .ref a2, .ref a3, .ref a4, .ref a5])), (a1, .inl (cI, 16, .inl v.2.1)), (a2, .inl (cI, 16, .inl v.2.2.1)), (a3, .inl (cI, 16, .inl v.2.2.2.1)), (a4, .inl (cI, 16, .inl v.2.2.2.2)), (a5, .inl (cI, 64, .inl u))]) := by
  refine kt_start (cc := cX2_makeDirty) (maxL := 3) (ret := none) (by decide +kernel) rfl (Nat.le_of_ble_eq_true rfl) ?_
  intro p e s m below meth c hx hb hml hr hlk hown hnm hts ls hl hw
  have hown : s.vm.findClass RX2 = some m.cls := hown
  have hl : lv_has ls 3 [(0, .ref a), (1, .int (nI i)), (2, .int y)] := hl
  have k28 := hts (.fieldLink RX2 28 "RestartBook$Tables" "bases" "[I") (by decide +kernel)
  have hin2 : ∀ w ∈ u_ws RX2 TX2 6, w ∈ wsX2_makeDirty := in_X2_makeDirty
  refine lv_iload_n hx hb dX2_makeDirty_0 rfl (lv_at hl 1 rfl) ?_
  refine ww_callS ([]) ([(a, .inr (2, [.int (nI v.1), .ref a1, .ref a2, .ref a3, .ref a4, .ref a5])), (a1, .inl (cI, 16, .inl v.2.1)), (a2, .inl (cI, 16, .inl v.2.2.1)), (a3, .inl (cI, 16, .inl v.2.2.2.1)), (a4, .inl (cI, 16, .inl v.2.2.2.2)), (a5, .inl (cI, 64, .inl fb))]) (As := [.int (nI i)]) (rest := []) ⟨hx, hb, hml, hown, hts⟩ (cP_hasPage l D cI (nI i)) gX2_makeDirty_X1_hasPage rfl hd_X1_hasPage ⟨Nat.le_of_ble_eq_true rfl, Nat.le_of_ble_eq_true rfl⟩ hw rfl rfl rfl hl.1 (Nat.le_of_ble_eq_true rfl) dX2_makeDirty_1 ⟨Nat.le_of_ble_eq_true rfl, Nat.le_of_ble_eq_true rfl⟩ (fun v u H locs hq hw => ?_)
  obtain ⟨r, rfl, hq⟩ := hq
  obtain ⟨rfl, -⟩ := hq.resolve_right (fun h => h.2 ⟨i, hi, rfl⟩)
  have hw : ww D cI _ _ s ([(a, .inr (2, [.int (nI v.1), .ref a1, .ref a2, .ref a3, .ref a4, .ref a5])), (a1, .inl (cI, 16, .inl v.2.1)), (a2, .inl (cI, 16, .inl v.2.2.1)), (a3, .inl (cI, 16, .inl v.2.2.2.1)), (a4, .inl (cI, 16, .inl v.2.2.2.2)), (a5, .inl (cI, 64, .inl fb))]) H locs := hw
  refine W.eq (g2 := F0 m 4 ls [.int (1)]) rfl ?_
  refine lv_if_eq (tgt := 23) hx hb dX2_makeDirty_4 (by decide) (fun c_4 => absurd c_4 (by decide)) (fun c_4 => ?_)
  refine lv_aload_n hx hb dX2_makeDirty_7 rfl (lv_at hl 0 rfl) ?_
  refine ww_get hx hb hts hin2 hown hw 0 rfl rfl 5 (by decide) k28 rfl dX2_makeDirty_8 ?_
  refine lv_iload_n hx hb dX2_makeDirty_11 rfl (lv_at hl 1 rfl) ?_
  refine ww_iald hx hb hw 5 rfl i rfl (by omega) (by omega) dX2_makeDirty_12 ?_
  refine lv_if_ne (tgt := 23) hx hb dX2_makeDirty_13 (by decide) (fun c_13 => ?_) (fun c_13 => ?_)
  · exact ww_vret (u := fb) hx hb hr hlk hw ((if_neg c_13).symm) (Nat.le_of_ble_eq_true rfl) (Nat.le_of_ble_eq_true rfl) rfl dX2_makeDirty_23
  · refine lv_aload_n hx hb dX2_makeDirty_16 rfl (lv_at hl 0 rfl) ?_
    refine ww_get hx hb hts hin2 hown hw 0 rfl rfl 5 (by decide) k28 rfl dX2_makeDirty_17 ?_
    refine lv_iload_n hx hb dX2_makeDirty_20 rfl (lv_at hl 1 rfl) ?_
    refine lv_iload_n hx hb dX2_makeDirty_21 rfl (lv_at hl 2 rfl) ?_
    refine ww_iast (ws' := [(a, .inr (2, [.int (nI v.1), .ref a1, .ref a2, .ref a3, .ref a4, .ref a5])), (a1, .inl (cI, 16, .inl v.2.1)), (a2, .inl (cI, 16, .inl v.2.2.1)), (a3, .inl (cI, 16, .inl v.2.2.2.1)), (a4, .inl (cI, 16, .inl v.2.2.2.2)), (a5, .inl (cI, 64, .inl (upd fb i y)))]) hx hb hw 5 rfl i rfl (by omega) (by omega) rfl dX2_makeDirty_22 (fun H locs hw => ?_)
    exact ww_vret (u := (upd fb i y)) hx hb hr hlk hw ((if_pos c_13).symm) (Nat.le_of_ble_eq_true rfl) (Nat.le_of_ble_eq_true rfl) rfl dX2_makeDirty_23
set_option maxHeartbeats 4000000 in
set_option maxRecDepth 100000 in
theorem cT_makeClean (l : Launch) (D : va_G) (cI : ClassId) (a a1 a2 a3 a4 a5 : Nat) (v : TW) (fb : Nat → Int32) (i : Nat) (hi : i < 64) : Kt l yX2_makeClean wsX2_makeClean 1 20 (0) (0) D cI [.ref a, .int (nI i)] ([(a, .inr (2, [.int (nI v.1), .ref a1, .ref a2, .ref a3, .ref a4, .ref a5])), (a1, .inl (cI, 16, .inl v.2.1)), (a2, .inl (cI, 16, .inl v.2.2.1)), (a3, .inl (cI, 16, .inl v.2.2.2.1)), (a4, .inl (cI, 16, .inl v.2.2.2.2)), (a5, .inl (cI, 64, .inl fb))]) (pV (fun (u : Unit) => True)) (fun (u : Unit) => [(a, .inr (2, [.int (nI v.1), .ref a1, .ref a2, .ref a3, .ref a4, .ref a5])), (a1, .inl (cI, 16, .inl v.2.1)), (a2, .inl (cI, 16, .inl v.2.2.1)), (a3, .inl (cI, 16, .inl v.2.2.2.1)), (a4, .inl (cI, 16, .inl v.2.2.2.2)), (a5, .inl (cI, 64, .inl (upd fb i (nI 0))))]) := by
  refine kt_start (cc := cX2_makeClean) (maxL := 2) (ret := none) (by decide +kernel) rfl (Nat.le_of_ble_eq_true rfl) ?_
  intro p e s m below meth c hx hb hml hr hlk hown hnm hts ls hl hw
  have hown : s.vm.findClass RX2 = some m.cls := hown
  have hl : lv_has ls 2 [(0, .ref a), (1, .int (nI i))] := hl
  have k28 := hts (.fieldLink RX2 28 "RestartBook$Tables" "bases" "[I") (by decide +kernel)
  have hin2 : ∀ w ∈ u_ws RX2 TX2 6, w ∈ wsX2_makeClean := in_X2_makeClean
  refine lv_iload_n hx hb dX2_makeClean_0 rfl (lv_at hl 1 rfl) ?_
  refine ww_callS ([]) ([(a, .inr (2, [.int (nI v.1), .ref a1, .ref a2, .ref a3, .ref a4, .ref a5])), (a1, .inl (cI, 16, .inl v.2.1)), (a2, .inl (cI, 16, .inl v.2.2.1)), (a3, .inl (cI, 16, .inl v.2.2.2.1)), (a4, .inl (cI, 16, .inl v.2.2.2.2)), (a5, .inl (cI, 64, .inl fb))]) (As := [.int (nI i)]) (rest := []) ⟨hx, hb, hml, hown, hts⟩ (cP_hasPage l D cI (nI i)) gX2_makeClean_X1_hasPage rfl hd_X1_hasPage ⟨Nat.le_of_ble_eq_true rfl, Nat.le_of_ble_eq_true rfl⟩ hw rfl rfl rfl hl.1 (Nat.le_of_ble_eq_true rfl) dX2_makeClean_1 ⟨Nat.le_of_ble_eq_true rfl, Nat.le_of_ble_eq_true rfl⟩ (fun v u H locs hq hw => ?_)
  obtain ⟨r, rfl, hq⟩ := hq
  obtain ⟨rfl, -⟩ := hq.resolve_right (fun h => h.2 ⟨i, hi, rfl⟩)
  have hw : ww D cI _ _ s ([(a, .inr (2, [.int (nI v.1), .ref a1, .ref a2, .ref a3, .ref a4, .ref a5])), (a1, .inl (cI, 16, .inl v.2.1)), (a2, .inl (cI, 16, .inl v.2.2.1)), (a3, .inl (cI, 16, .inl v.2.2.2.1)), (a4, .inl (cI, 16, .inl v.2.2.2.2)), (a5, .inl (cI, 64, .inl fb))]) H locs := hw
  refine W.eq (g2 := F0 m 4 ls [.int (1)]) rfl ?_
  refine lv_if_eq (tgt := 14) hx hb dX2_makeClean_4 (by decide) (fun c_4 => absurd c_4 (by decide)) (fun c_4 => ?_)
  refine lv_aload_n hx hb dX2_makeClean_7 rfl (lv_at hl 0 rfl) ?_
  refine ww_get hx hb hts hin2 hown hw 0 rfl rfl 5 (by decide) k28 rfl dX2_makeClean_8 ?_
  refine lv_iload_n hx hb dX2_makeClean_11 rfl (lv_at hl 1 rfl) ?_
  refine lv_iconst (v := nI 0) hx hb dX2_makeClean_12 (by decide +kernel) ?_
  refine ww_iast (ws' := [(a, .inr (2, [.int (nI v.1), .ref a1, .ref a2, .ref a3, .ref a4, .ref a5])), (a1, .inl (cI, 16, .inl v.2.1)), (a2, .inl (cI, 16, .inl v.2.2.1)), (a3, .inl (cI, 16, .inl v.2.2.2.1)), (a4, .inl (cI, 16, .inl v.2.2.2.2)), (a5, .inl (cI, 64, .inl (upd fb i (nI 0))))]) hx hb hw 5 rfl i rfl (by omega) (by omega) rfl dX2_makeClean_13 (fun H locs hw => ?_)
  exact ww_vret (u := ()) hx hb hr hlk hw (trivial) (Nat.le_of_ble_eq_true rfl) (Nat.le_of_ble_eq_true rfl) rfl dX2_makeClean_14
theorem lbD_lt {fb : Nat → Int32} {base : Nat → Nat} (h : BR fb base) : ∀ m, m ≤ 64 → lbD base m < 2 ^ 31 := by
  intro m
  induction m with
  | zero => intro _; show 0 < 2 ^ 31; omega
  | succ m ih =>
    intro hm
    simp only [lbD]
    split
    · exact (h m (by omega)).2
    · exact ih (by omega)
set_option maxHeartbeats 4000000 in
set_option maxRecDepth 100000 in
theorem cT_leastBase (l : Launch) (D : va_G) (cI : ClassId) (a a1 a2 a3 a4 a5 : Nat) (v : TW) (fb : Nat → Int32) (base : Nat → Nat) (hbr : BR fb base) : Kt l yX2_leastBase wsX2_leastBase 0 0 (0) (0) D cI [.ref a] ([(a, .inr (2, [.int (nI v.1), .ref a1, .ref a2, .ref a3, .ref a4, .ref a5])), (a1, .inl (cI, 16, .inl v.2.1)), (a2, .inl (cI, 16, .inl v.2.2.1)), (a3, .inl (cI, 16, .inl v.2.2.2.1)), (a4, .inl (cI, 16, .inl v.2.2.2.2)), (a5, .inl (cI, 64, .inl fb))]) (pI (fun (r : Int32) (u : Unit) => r = nI (lbD base 64))) (fun (u : Unit) => [(a, .inr (2, [.int (nI v.1), .ref a1, .ref a2, .ref a3, .ref a4, .ref a5])), (a1, .inl (cI, 16, .inl v.2.1)), (a2, .inl (cI, 16, .inl v.2.2.1)), (a3, .inl (cI, 16, .inl v.2.2.2.1)), (a4, .inl (cI, 16, .inl v.2.2.2.2)), (a5, .inl (cI, 64, .inl fb))]) := by
  refine kt_start (cc := cX2_leastBase) (maxL := 3) (ret := (some .int)) (by decide +kernel) rfl (Nat.le_of_ble_eq_true rfl) ?_
  intro p e s m below meth c hx hb hml hr hlk hown hnm hts ls hl hw
  have hown : s.vm.findClass RX2 = some m.cls := hown
  have hl : lv_has ls 3 [(0, .ref a)] := hl
  have k28 := hts (.fieldLink RX2 28 "RestartBook$Tables" "bases" "[I") (by decide +kernel)
  have hin2 : ∀ w ∈ u_ws RX2 TX2 6, w ∈ wsX2_leastBase := in_X2_leastBase
  refine lv_iconst (v := nI 0) hx hb dX2_leastBase_0 (by decide +kernel) ?_
  refine lv_istore_n (lv' := [(1, .int (nI 0)), (0, .ref a)]) hx hb dX2_leastBase_1 rfl hl (by decide) rfl (fun ls hl => ?_)
  refine lv_iconst (v := nI 0) hx hb dX2_leastBase_2 (by decide +kernel) ?_
  refine lv_istore_n (lv' := [(2, .int (nI 0)), (1, .int (nI 0)), (0, .ref a)]) hx hb dX2_leastBase_3 rfl hl (by decide) rfl (fun ls hl => ?_)
  have lp : ∀ (t : Nat) (q : Nat) (z : Nat) (H : Heap) (locs : List Loc) (ls : Array Slot), 64 - q < t → (q ≤ 64) → (z = lbD base q) → ww D cI (va_A ([(a, .inr (2, [.int (nI v.1), .ref a1, .ref a2, .ref a3, .ref a4, .ref a5])), (a1, .inl (cI, 16, .inl v.2.1)), (a2, .inl (cI, 16, .inl v.2.2.1)), (a3, .inl (cI, 16, .inl v.2.2.2.1)), (a4, .inl (cI, 16, .inl v.2.2.2.2)), (a5, .inl (cI, 64, .inl fb))]) s.heap.size) s.heap s ([(a, .inr (2, [.int (nI v.1), .ref a1, .ref a2, .ref a3, .ref a4, .ref a5])), (a1, .inl (cI, 16, .inl v.2.1)), (a2, .inl (cI, 16, .inl v.2.2.1)), (a3, .inl (cI, 16, .inl v.2.2.2.1)), (a4, .inl (cI, 16, .inl v.2.2.2.2)), (a5, .inl (cI, 64, .inl fb))]) H locs → lv_has ls 3 [(2, .int (nI q)), (1, .int (nI z)), (0, .ref a)] → W p l e { frames := 0, cells := 0, slots := 0, locals := 0 } s m [.ref a].toArray below meth c H locs (0) (0) (MQ below (kQ D cI ([(a, .inr (2, [.int (nI v.1), .ref a1, .ref a2, .ref a3, .ref a4, .ref a5])), (a1, .inl (cI, 16, .inl v.2.1)), (a2, .inl (cI, 16, .inl v.2.2.1)), (a3, .inl (cI, 16, .inl v.2.2.2.1)), (a4, .inl (cI, 16, .inl v.2.2.2.2)), (a5, .inl (cI, 64, .inl fb))]) s.heap.size (pI (fun (r : Int32) (u : Unit) => r = nI (lbD base 64))) (fun (u : Unit) => [(a, .inr (2, [.int (nI v.1), .ref a1, .ref a2, .ref a3, .ref a4, .ref a5])), (a1, .inl (cI, 16, .inl v.2.1)), (a2, .inl (cI, 16, .inl v.2.2.1)), (a3, .inl (cI, 16, .inl v.2.2.2.1)), (a4, .inl (cI, 16, .inl v.2.2.2.2)), (a5, .inl (cI, 64, .inl fb))])) [.ref a].toArray s (0) (0) (va_A ([(a, .inr (2, [.int (nI v.1), .ref a1, .ref a2, .ref a3, .ref a4, .ref a5])), (a1, .inl (cI, 16, .inl v.2.1)), (a2, .inl (cI, 16, .inl v.2.2.1)), (a3, .inl (cI, 16, .inl v.2.2.2.1)), (a4, .inl (cI, 16, .inl v.2.2.2.2)), (a5, .inl (cI, 64, .inl fb))]) s.heap.size)) (F0 m 4 ls []) := by
    intro t
    induction t with
    | zero => intro q z H locs ls ht; exact absurd ht (Nat.not_lt_zero _)
    | succ t ih_4 =>
      intro q z H locs ls ht hq0 hz hw hl
      refine lv_iload_n hx hb dX2_leastBase_4 rfl (lv_at hl 0 rfl) ?_
      refine lv_aload_n hx hb dX2_leastBase_5 rfl (lv_at hl 2 rfl) ?_
      refine ww_get hx hb hts hin2 hown hw 0 rfl rfl 5 (by decide) k28 rfl dX2_leastBase_6 ?_
      refine ww_alen hx hb hw 5 rfl dX2_leastBase_9 ?_
      refine lv_icmp_ge (tgt := 49) hx hb dX2_leastBase_10 (by decide) (fun c_10 => ?_) (fun c_10 => ?_)
      · refine lv_iload_n hx hb dX2_leastBase_49 rfl (lv_at hl 1 rfl) ?_
        exact ww_iret (u := ()) hx hb hr hlk hw (by rw [hz, show q = 64 by simp (disch := omega) only [i_le, nI_toInt] at c_10; omega]) (Nat.le_of_ble_eq_true rfl) (Nat.le_of_ble_eq_true rfl) dX2_leastBase_50
      · have hq : q < 64 := by simp (disch := omega) only [i_le, nI_toInt] at c_10; omega
        have hbq := (hbr q hq).2
        have hzl : z < 2 ^ 31 := by rw [hz]; exact lbD_lt hbr q (by omega)
        refine lv_aload_n hx hb dX2_leastBase_13 rfl (lv_at hl 2 rfl) ?_
        refine ww_get hx hb hts hin2 hown hw 0 rfl rfl 5 (by decide) k28 rfl dX2_leastBase_14 ?_
        refine lv_iload_n hx hb dX2_leastBase_17 rfl (lv_at hl 0 rfl) ?_
        refine ww_iald hx hb hw 5 rfl q rfl (by omega) (by omega) dX2_leastBase_18 ?_
        refine lv_eqi (show _ = nI (base q) from (hbr q hq).1) ?_
        refine lv_if_eq (tgt := 43) hx hb dX2_leastBase_19 (by decide) (fun c_19 => ?_) (fun c_19 => ?_)
        · refine lv_iinc (v := nI (q + 1)) (lv' := [(2, .int (nI (q + 1))), (1, .int (nI z)), (0, .ref a)]) hx hb dX2_leastBase_43 hl (k := 0) rfl (nI_add _ _) (by decide) rfl (fun ls hl => ?_)
          refine lv_goto (tgt := 4) hx hb dX2_leastBase_46 (by decide) ?_
          exact ih_4 (q + 1) z _ _ _ (by omega) (by omega) (by rw [hz]; exact (if_neg (fun k => by first | exact k.1 ((nI_eq (by omega) (by omega)).mp (by rw [nI_0]; exact c_19)) | (rcases k.2 with k2 | k2; exact c_23 (by rw [hz, k2, nI_0]); rw [nI_leI (by omega) (by omega)] at c_33; omega))).symm) hw (lv_sub hl [0, 1, 2] rfl)
        · refine lv_iload_n hx hb dX2_leastBase_22 rfl (lv_at hl 1 rfl) ?_
          refine lv_if_eq (tgt := 36) hx hb dX2_leastBase_23 (by decide) (fun c_23 => ?_) (fun c_23 => ?_)
          · refine lv_aload_n hx hb dX2_leastBase_36 rfl (lv_at hl 2 rfl) ?_
            refine ww_get hx hb hts hin2 hown hw 0 rfl rfl 5 (by decide) k28 rfl dX2_leastBase_37 ?_
            refine lv_iload_n hx hb dX2_leastBase_40 rfl (lv_at hl 0 rfl) ?_
            refine ww_iald hx hb hw 5 rfl q rfl (by omega) (by omega) dX2_leastBase_41 ?_
            refine lv_eqi (show _ = nI (base q) from (hbr q hq).1) ?_
            refine lv_istore_n (lv' := [(1, .int (nI (base q))), (2, .int (nI q)), (0, .ref a)]) hx hb dX2_leastBase_42 rfl hl (by decide) rfl (fun ls hl => ?_)
            refine lv_iinc (v := nI (q + 1)) (lv' := [(2, .int (nI (q + 1))), (1, .int (nI (base q))), (0, .ref a)]) hx hb dX2_leastBase_43 hl (k := 1) rfl (nI_add _ _) (by decide) rfl (fun ls hl => ?_)
            refine lv_goto (tgt := 4) hx hb dX2_leastBase_46 (by decide) ?_
            exact ih_4 (q + 1) (base q) _ _ _ (by omega) (by omega) ((if_pos ⟨fun k => c_19 (by rw [k, nI_0]), by first | exact Or.inl (hz ▸ ((nI_eq (by omega) (by omega)).mp (by rw [nI_0]; exact c_23))) | exact Or.inr (by rw [nI_leI (by omega) (by omega)] at c_33; omega)⟩).symm) hw (lv_sub hl [0, 1, 2] rfl)
          · refine lv_aload_n hx hb dX2_leastBase_26 rfl (lv_at hl 2 rfl) ?_
            refine ww_get hx hb hts hin2 hown hw 0 rfl rfl 5 (by decide) k28 rfl dX2_leastBase_27 ?_
            refine lv_iload_n hx hb dX2_leastBase_30 rfl (lv_at hl 0 rfl) ?_
            refine ww_iald hx hb hw 5 rfl q rfl (by omega) (by omega) dX2_leastBase_31 ?_
            refine lv_eqi (show _ = nI (base q) from (hbr q hq).1) ?_
            refine lv_iload_n hx hb dX2_leastBase_32 rfl (lv_at hl 1 rfl) ?_
            refine lv_icmp_ge (tgt := 43) hx hb dX2_leastBase_33 (by decide) (fun c_33 => ?_) (fun c_33 => ?_)
            · refine lv_iinc (v := nI (q + 1)) (lv' := [(2, .int (nI (q + 1))), (1, .int (nI z)), (0, .ref a)]) hx hb dX2_leastBase_43 hl (k := 0) rfl (nI_add _ _) (by decide) rfl (fun ls hl => ?_)
              refine lv_goto (tgt := 4) hx hb dX2_leastBase_46 (by decide) ?_
              exact ih_4 (q + 1) z _ _ _ (by omega) (by omega) (by rw [hz]; exact (if_neg (fun k => by first | exact k.1 ((nI_eq (by omega) (by omega)).mp (by rw [nI_0]; exact c_19)) | (rcases k.2 with k2 | k2; exact c_23 (by rw [hz, k2, nI_0]); rw [nI_leI (by omega) (by omega)] at c_33; omega))).symm) hw (lv_sub hl [0, 1, 2] rfl)
            · refine lv_aload_n hx hb dX2_leastBase_36 rfl (lv_at hl 2 rfl) ?_
              refine ww_get hx hb hts hin2 hown hw 0 rfl rfl 5 (by decide) k28 rfl dX2_leastBase_37 ?_
              refine lv_iload_n hx hb dX2_leastBase_40 rfl (lv_at hl 0 rfl) ?_
              refine ww_iald hx hb hw 5 rfl q rfl (by omega) (by omega) dX2_leastBase_41 ?_
              refine lv_eqi (show _ = nI (base q) from (hbr q hq).1) ?_
              refine lv_istore_n (lv' := [(1, .int (nI (base q))), (2, .int (nI q)), (0, .ref a)]) hx hb dX2_leastBase_42 rfl hl (by decide) rfl (fun ls hl => ?_)
              refine lv_iinc (v := nI (q + 1)) (lv' := [(2, .int (nI (q + 1))), (1, .int (nI (base q))), (0, .ref a)]) hx hb dX2_leastBase_43 hl (k := 1) rfl (nI_add _ _) (by decide) rfl (fun ls hl => ?_)
              refine lv_goto (tgt := 4) hx hb dX2_leastBase_46 (by decide) ?_
              exact ih_4 (q + 1) (base q) _ _ _ (by omega) (by omega) ((if_pos ⟨fun k => c_19 (by rw [k, nI_0]), by first | exact Or.inl (hz ▸ ((nI_eq (by omega) (by omega)).mp (by rw [nI_0]; exact c_23))) | exact Or.inr (by rw [nI_leI (by omega) (by omega)] at c_33; omega)⟩).symm) hw (lv_sub hl [0, 1, 2] rfl)
  exact lp ((64 - (0)) + 1) 0 0 _ _ _ (Nat.lt_succ_self _) (Nat.zero_le _) rfl hw (lv_sub hl [0, 1, 2] rfl)
set_option maxHeartbeats 4000000 in
set_option maxRecDepth 100000 in
theorem cJ_fill (l : Launch) (D : va_G) (cI : ClassId) (b n : Nat) (f : Nat → Int32) (x : Int32) (hn : n < 2 ^ 31) : Kt l yJ7_fill_53178 wsJ7_fill_53178 0 0 (0) (0) D cI [.ref b, .int x] ([(b, .inl (cI, n, .inl f))]) (pV (fun (u : Nat → Int32) => ∀ j, j < n → u j = x)) (fun (u : Nat → Int32) => [(b, .inl (cI, n, .inl u))]) := by
  refine kt_start (cc := cJ7_fill_53178) (maxL := 4) (ret := none) (by decide +kernel) rfl (Nat.le_of_ble_eq_true rfl) ?_
  intro p e s m below meth c hx hb hml hr hlk hown hnm hts ls hl hw
  have hown : s.vm.findClass RJ7 = some m.cls := hown
  have hl : lv_has ls 4 [(0, .ref b), (1, .int x)] := hl
  refine lv_iconst (v := nI 0) hx hb dJ7_fill_53178_0 (by decide +kernel) ?_
  refine lv_istore_n (lv' := [(2, .int (nI 0)), (0, .ref b), (1, .int x)]) hx hb dJ7_fill_53178_1 rfl hl (by decide) rfl (fun ls hl => ?_)
  refine lv_aload_n hx hb dJ7_fill_53178_2 rfl (lv_at hl 1 rfl) ?_
  refine ww_alen hx hb hw 0 rfl dJ7_fill_53178_3 ?_
  refine lv_istore_n (lv' := [(3, .int (nI n)), (2, .int (nI 0)), (0, .ref b), (1, .int x)]) hx hb dJ7_fill_53178_4 rfl hl (by decide) rfl (fun ls hl => ?_)
  have lp : ∀ (t : Nat) (i : Nat) (g : Nat → Int32) (H : Heap) (locs : List Loc) (ls : Array Slot), n - i < t → (i ≤ n) → (∀ j, j < i → g j = x) → ww D cI (va_A ([(b, .inl (cI, n, .inl f))]) s.heap.size) s.heap s ([(b, .inl (cI, n, .inl g))]) H locs → lv_has ls 4 [(2, .int (nI i)), (3, .int (nI n)), (0, .ref b), (1, .int x)] → W p l e { frames := 0, cells := 0, slots := 0, locals := 0 } s m [.ref b, .int x].toArray below meth c H locs (0) (0) (MQ below (kQ D cI ([(b, .inl (cI, n, .inl f))]) s.heap.size (pV (fun (u : Nat → Int32) => ∀ j, j < n → u j = x)) (fun (u : Nat → Int32) => [(b, .inl (cI, n, .inl u))])) [.ref b, .int x].toArray s (0) (0) (va_A ([(b, .inl (cI, n, .inl f))]) s.heap.size)) (F0 m 5 ls []) := by
    intro t
    induction t with
    | zero => intro i g H locs ls ht; exact absurd ht (Nat.not_lt_zero _)
    | succ t ih_5 =>
      intro i g H locs ls ht hi0 hf hw hl
      refine lv_iload_n hx hb dJ7_fill_53178_5 rfl (lv_at hl 0 rfl) ?_
      refine lv_iload_n hx hb dJ7_fill_53178_6 rfl (lv_at hl 1 rfl) ?_
      refine lv_icmp_ge (tgt := 20) hx hb dJ7_fill_53178_7 (by decide) (fun c_7 => ?_) (fun c_7 => ?_)
      · exact ww_vret (u := g) hx hb hr hlk hw (fun j hj => hf j (by simp (disch := omega) only [i_le, nI_toInt] at c_7; omega)) (Nat.le_of_ble_eq_true rfl) (Nat.le_of_ble_eq_true rfl) rfl dJ7_fill_53178_20
      · have hi : i < n := by simp (disch := omega) only [i_le, nI_toInt] at c_7; omega
        refine lv_aload_n hx hb dJ7_fill_53178_10 rfl (lv_at hl 2 rfl) ?_
        refine lv_iload_n hx hb dJ7_fill_53178_11 rfl (lv_at hl 0 rfl) ?_
        refine lv_iload_n hx hb dJ7_fill_53178_12 rfl (lv_at hl 3 rfl) ?_
        refine ww_iast (ws' := [(b, .inl (cI, n, .inl (upd g i x)))]) hx hb hw 0 rfl i rfl (by omega) (by omega) rfl dJ7_fill_53178_13 (fun H locs hw => ?_)
        refine lv_iinc (v := nI (i + 1)) (lv' := [(2, .int (nI (i + 1))), (3, .int (nI n)), (0, .ref b), (1, .int x)]) hx hb dJ7_fill_53178_14 hl (k := 0) rfl (nI_add _ _) (by decide) rfl (fun ls hl => ?_)
        refine lv_goto (tgt := 5) hx hb dJ7_fill_53178_17 (by decide) ?_
        exact ih_5 (i + 1) (upd g i x) _ _ _ (by omega) (by omega) (fun j hj => by by_cases e : j = i; (rw [e]; simp [upd]); (simp only [upd, if_neg e]; exact hf j (by omega))) hw (lv_sub hl [0, 1, 2, 3] rfl)
  exact lp ((n - (0)) + 1) 0 f _ _ _ (Nat.lt_succ_self _) (Nat.zero_le _) (fun j hj => absurd hj (Nat.not_lt_zero _)) hw (lv_sub hl [1, 0, 2, 3] rfl)
set_option maxHeartbeats 4000000 in
set_option maxRecDepth 100000 in
theorem cT_makeEmpty (l : Launch) (D : va_G) (cI : ClassId) (a a1 a2 a3 a4 a5 : Nat) (v : TW) (fb : Nat → Int32) : Kt l yX2_makeEmpty wsX2_makeEmpty 1 23 (0) (0) D cI [.ref a] ([(a, .inr (2, [.int (nI v.1), .ref a1, .ref a2, .ref a3, .ref a4, .ref a5])), (a1, .inl (cI, 16, .inl v.2.1)), (a2, .inl (cI, 16, .inl v.2.2.1)), (a3, .inl (cI, 16, .inl v.2.2.2.1)), (a4, .inl (cI, 16, .inl v.2.2.2.2)), (a5, .inl (cI, 64, .inl fb))]) (pV (fun (u : Nat → Int32) => ∀ p, p < 64 → u p = nI 0)) (fun (u : Nat → Int32) => [(a, .inr (2, [.int (nI 0), .ref a1, .ref a2, .ref a3, .ref a4, .ref a5])), (a1, .inl (cI, 16, .inl v.2.1)), (a2, .inl (cI, 16, .inl v.2.2.1)), (a3, .inl (cI, 16, .inl v.2.2.2.1)), (a4, .inl (cI, 16, .inl v.2.2.2.2)), (a5, .inl (cI, 64, .inl u))]) := by
  refine kt_start (cc := cX2_makeEmpty) (maxL := 1) (ret := none) (by decide +kernel) rfl (Nat.le_of_ble_eq_true rfl) ?_
  intro p e s m below meth c hx hb hml hr hlk hown hnm hts ls hl hw
  have hown : s.vm.findClass RX2 = some m.cls := hown
  have hl : lv_has ls 1 [(0, .ref a)] := hl
  have k7 := hts (.fieldLink RX2 7 "RestartBook$Tables" "size" "I") (by decide +kernel)
  have k28 := hts (.fieldLink RX2 28 "RestartBook$Tables" "bases" "[I") (by decide +kernel)
  have hin2 : ∀ w ∈ u_ws RX2 TX2 6, w ∈ wsX2_makeEmpty := in_X2_makeEmpty
  refine lv_aload_n hx hb dX2_makeEmpty_0 rfl (lv_at hl 0 rfl) ?_
  refine lv_iconst (v := nI 0) hx hb dX2_makeEmpty_1 (by decide +kernel) ?_
  refine ww_put (ws' := [(a, .inr (2, [.int (nI 0), .ref a1, .ref a2, .ref a3, .ref a4, .ref a5])), (a1, .inl (cI, 16, .inl v.2.1)), (a2, .inl (cI, 16, .inl v.2.2.1)), (a3, .inl (cI, 16, .inl v.2.2.2.1)), (a4, .inl (cI, 16, .inl v.2.2.2.2)), (a5, .inl (cI, 64, .inl fb))]) hx hb hts hin2 tyX2 tyX2_ok nmX2 hown hw 0 rfl rfl 0 (by decide) k7 rfl rfl rfl (Nat.le_of_ble_eq_true rfl) rfl dX2_makeEmpty_2 (fun H locs hw => ?_)
  refine lv_aload_n hx hb dX2_makeEmpty_5 rfl (lv_at hl 0 rfl) ?_
  refine ww_get hx hb hts hin2 hown hw 0 rfl rfl 5 (by decide) k28 rfl dX2_makeEmpty_6 ?_
  refine lv_iconst (v := nI 0) hx hb dX2_makeEmpty_9 (by decide +kernel) ?_
  refine ww_callS ([(a, .inr (2, [.int (nI 0), .ref a1, .ref a2, .ref a3, .ref a4, .ref a5])), (a1, .inl (cI, 16, .inl v.2.1)), (a2, .inl (cI, 16, .inl v.2.2.1)), (a3, .inl (cI, 16, .inl v.2.2.2.1)), (a4, .inl (cI, 16, .inl v.2.2.2.2))]) ([]) (As := [.ref a5, .int (nI 0)]) (rest := []) ⟨hx, hb, hml, hown, hts⟩ (cJ_fill l D cI a5 64 fb (nI 0) (by omega)) gX2_makeEmpty_J7_fill_53178 rfl hd_J7_fill_53178 ⟨Nat.le_of_ble_eq_true rfl, Nat.le_of_ble_eq_true rfl⟩ hw rfl rfl rfl hl.1 (Nat.le_of_ble_eq_true rfl) dX2_makeEmpty_10 ⟨Nat.le_of_ble_eq_true rfl, Nat.le_of_ble_eq_true rfl⟩ (fun v2 u H locs hq hw => ?_)
  obtain ⟨rfl, hq⟩ := hq
  have hw : ww D cI _ _ s ([(a, .inr (2, [.int (nI 0), .ref a1, .ref a2, .ref a3, .ref a4, .ref a5])), (a1, .inl (cI, 16, .inl v.2.1)), (a2, .inl (cI, 16, .inl v.2.2.1)), (a3, .inl (cI, 16, .inl v.2.2.2.1)), (a4, .inl (cI, 16, .inl v.2.2.2.2)), (a5, .inl (cI, 64, .inl u))]) H locs := hw
  refine W.eq (g2 := F0 m 13 ls []) rfl ?_
  exact ww_vret (u := u) hx hb hr hlk hw (hq) (Nat.le_of_ble_eq_true rfl) (Nat.le_of_ble_eq_true rfl) rfl dX2_makeEmpty_13
