/-! RestartBookModel: its leaves -/
set_option maxRecDepth 20000 in
theorem in_X4_isWork : ∀ w ∈ u_ws RX4 TX4 28, w ∈ wsX4_isWork := by
  intro w h
  show w ∈ wsX4_isWork
  simp only [wsX4_isWork, List.mem_cons, List.mem_append]
  simp only [h, true_or, or_true]
set_option maxRecDepth 20000 in
theorem in_X4_many : ∀ w ∈ u_ws RX4 TX4 28, w ∈ wsX4_many := by
  intro w h
  show w ∈ wsX4_many
  simp only [wsX4_many, List.mem_cons, List.mem_append]
  simp only [h, true_or, or_true]
set_option maxRecDepth 20000 in
theorem in_X4_note : ∀ w ∈ u_ws RX4 TX4 28, w ∈ wsX4_note := by
  intro w h
  show w ∈ wsX4_note
  simp only [wsX4_note, List.mem_cons, List.mem_append]
  simp only [h, true_or, or_true]
set_option maxRecDepth 20000 in
theorem in_X4_forceTo : ∀ w ∈ u_ws RX4 TX4 28, w ∈ wsX4_forceTo := by
  intro w h
  show w ∈ wsX4_forceTo
  simp only [wsX4_forceTo, List.mem_cons, List.mem_append]
  simp only [h, true_or, or_true]
set_option maxRecDepth 20000 in
theorem in_X4_makeDirty : ∀ w ∈ u_ws RX4 TX4 28, w ∈ wsX4_makeDirty := by
  intro w h
  show w ∈ wsX4_makeDirty
  simp only [wsX4_makeDirty, List.mem_cons, List.mem_append]
  simp only [h, true_or, or_true]
set_option maxRecDepth 20000 in
theorem in_X4_apply : ∀ w ∈ u_ws RX4 TX4 28, w ∈ wsX4_apply := by
  intro w h
  show w ∈ wsX4_apply
  simp only [wsX4_apply, List.mem_cons, List.mem_append]
  simp only [h, true_or, or_true]
set_option maxRecDepth 20000 in
theorem in_X4_open : ∀ w ∈ u_ws RX4 TX4 28, w ∈ wsX4_open := by
  intro w h
  show w ∈ wsX4_open
  simp only [wsX4_open, List.mem_cons, List.mem_append]
  simp only [h, true_or, or_true]
theorem hd_X4_isWork : yX4_isWork.cls = RX4 ∧ yX4_isWork.cls ≠ "java/lang/invoke/MethodHandle" ∧ yX4_isWork.cls ≠ "java/lang/invoke/VarHandle" ∧ (parseMethodDescriptor yX4_isWork.desc).map (fun d => d.parameters.length) = some 1 := by decide +kernel
theorem hd_X4_many : yX4_many.cls = RX4 ∧ yX4_many.cls ≠ "java/lang/invoke/MethodHandle" ∧ yX4_many.cls ≠ "java/lang/invoke/VarHandle" ∧ (parseMethodDescriptor yX4_many.desc).map (fun d => d.parameters.length) = some 0 := by decide +kernel
theorem hd_X4_note : yX4_note.cls = RX4 ∧ yX4_note.cls ≠ "java/lang/invoke/MethodHandle" ∧ yX4_note.cls ≠ "java/lang/invoke/VarHandle" ∧ (parseMethodDescriptor yX4_note.desc).map (fun d => d.parameters.length) = some 2 := by decide +kernel
theorem hd_X4_forceTo : yX4_forceTo.cls = RX4 ∧ yX4_forceTo.cls ≠ "java/lang/invoke/MethodHandle" ∧ yX4_forceTo.cls ≠ "java/lang/invoke/VarHandle" ∧ (parseMethodDescriptor yX4_forceTo.desc).map (fun d => d.parameters.length) = some 1 := by decide +kernel
theorem hd_X4_makeDirty : yX4_makeDirty.cls = RX4 ∧ yX4_makeDirty.cls ≠ "java/lang/invoke/MethodHandle" ∧ yX4_makeDirty.cls ≠ "java/lang/invoke/VarHandle" ∧ (parseMethodDescriptor yX4_makeDirty.desc).map (fun d => d.parameters.length) = some 2 := by decide +kernel
theorem hd_X4_apply : yX4_apply.cls = RX4 ∧ yX4_apply.cls ≠ "java/lang/invoke/MethodHandle" ∧ yX4_apply.cls ≠ "java/lang/invoke/VarHandle" ∧ (parseMethodDescriptor yX4_apply.desc).map (fun d => d.parameters.length) = some 1 := by decide +kernel
theorem hd_X4_open : yX4_open.cls = RX4 ∧ yX4_open.cls ≠ "java/lang/invoke/MethodHandle" ∧ yX4_open.cls ≠ "java/lang/invoke/VarHandle" ∧ (parseMethodDescriptor yX4_open.desc).map (fun d => d.parameters.length) = some 1 := by decide +kernel
theorem hd_X4_in : yX4_in.cls ≠ "java/lang/invoke/MethodHandle" ∧ yX4_in.cls ≠ "java/lang/invoke/VarHandle" ∧ (parseMethodDescriptor yX4_in.desc).map (fun d => d.parameters.length) = some 3 := by decide +kernel
set_option maxHeartbeats 1000000 in
set_option maxRecDepth 100000 in
theorem cM_in (l : Launch) (D : va_G) (cI : ClassId) (y1 y2 y3 : Int32) : Kt l yX4_in wsX4_in 0 0 (0) (0) D cI [.int y1, .int y2, .int y3] ([]) (pI (fun (r : Int32) (u : Unit) => (r = 1 ∧ (y2 ≤ y1 ∧ y1 ≤ y3)) ∨ (r = 0 ∧ ¬ (y2 ≤ y1 ∧ y1 ≤ y3)))) (fun (u : Unit) => []) := by
  refine kt_start (cc := cX4_in) (maxL := 3) (ret := (some .boolean)) (by decide +kernel) rfl (Nat.le_of_ble_eq_true rfl) ?_
  intro p e s m below meth c hx hb hml hr hlk hown hnm hts ls hl hw
  have hown : s.vm.findClass RX4 = some m.cls := hown
  have hl : lv_has ls 3 [(0, .int y1), (1, .int y2), (2, .int y3)] := hl
  refine lv_iload_n hx hb dX4_in_0 rfl (lv_at hl 0 rfl) ?_
  refine lv_iload_n hx hb dX4_in_1 rfl (lv_at hl 1 rfl) ?_
  refine lv_icmp_lt (tgt := 14) hx hb dX4_in_2 (by decide) (fun c_2 => ?_) (fun c_2 => ?_)
  · refine lv_iconst (v := nI 0) hx hb dX4_in_14 (by decide +kernel) ?_
    exact ww_zret (u := ()) hx hb hr hlk (by decide +kernel) hw (Or.inr ⟨by decide, fun h => by have h1 := h.1; have h2 := h.2; rw [i_le] at h1 h2; first | (rw [i_lt] at c_2; omega) | (rw [i_lt] at c_7; omega)⟩) (Nat.le_of_ble_eq_true rfl) (Nat.le_of_ble_eq_true rfl) dX4_in_15
  · refine lv_iload_n hx hb dX4_in_5 rfl (lv_at hl 0 rfl) ?_
    refine lv_iload_n hx hb dX4_in_6 rfl (lv_at hl 2 rfl) ?_
    refine lv_icmp_gt (tgt := 14) hx hb dX4_in_7 (by decide) (fun c_7 => ?_) (fun c_7 => ?_)
    · refine lv_iconst (v := nI 0) hx hb dX4_in_14 (by decide +kernel) ?_
      exact ww_zret (u := ()) hx hb hr hlk (by decide +kernel) hw (Or.inr ⟨by decide, fun h => by have h1 := h.1; have h2 := h.2; rw [i_le] at h1 h2; first | (rw [i_lt] at c_2; omega) | (rw [i_lt] at c_7; omega)⟩) (Nat.le_of_ble_eq_true rfl) (Nat.le_of_ble_eq_true rfl) dX4_in_15
    · refine lv_iconst (v := nI 1) hx hb dX4_in_10 (by decide +kernel) ?_
      refine lv_goto (tgt := 15) hx hb dX4_in_11 (by decide) ?_
      exact ww_zret (u := ()) hx hb hr hlk (by decide +kernel) hw (Or.inl ⟨by decide, by rw [i_le]; rw [i_lt] at c_2; omega, by rw [i_le]; rw [i_lt] at c_7; omega⟩) (Nat.le_of_ble_eq_true rfl) (Nat.le_of_ble_eq_true rfl) dX4_in_15
set_option maxHeartbeats 1000000 in
set_option maxRecDepth 100000 in
theorem cM_isWork (l : Launch) (D : va_G) (cI : ClassId) (a : Nat) (ra : Nat → Nat) (g : Nat → Nat → Int32) (n fo ch pt wk dn ap : Nat) (lt : Int32) (T : TF) (hT : MT g T 201) (hTB : TB T) (hwk : wk ≤ 200) (hpr : ∀ w, (T w).1 ≠ 0 → 1 ≤ w ∧ w ≤ wk) (y1 : Int32) : Kt l yX4_isWork wsX4_isWork 1 22 (0) (0) D cI [.ref a, .int y1] ([(a, .inr (4, [.ref (ra 0), .ref (ra 1), .ref (ra 2), .ref (ra 3), .ref (ra 4), .ref (ra 5), .ref (ra 6), .int (nI n), .int (nI fo), .int (nI ch), .ref (ra 10), .ref (ra 11), .ref (ra 12), .ref (ra 13), .int (nI pt), .ref (ra 15), .ref (ra 16), .ref (ra 17), .ref (ra 18), .ref (ra 19), .int (nI wk), .ref (ra 21), .ref (ra 22), .ref (ra 23), .int (nI dn), .int (nI ap), .int lt, .ref (ra 27)])), ((ra 0), .inl (cI, 5200, .inl (g 0))), ((ra 1), .inl (cI, 5200, .inl (g 1))), ((ra 2), .inl (cI, 5200, .inl (g 2))), ((ra 3), .inl (cI, 5200, .inl (g 3))), ((ra 4), .inl (cI, 5200, .inl (g 4))), ((ra 5), .inl (cI, 5200, .inl (g 5))), ((ra 6), .inl (cI, 5200, .inl (g 6))), ((ra 10), .inl (cI, 20200, .inl (g 10))), ((ra 11), .inl (cI, 20200, .inl (g 11))), ((ra 12), .inl (cI, 20200, .inl (g 12))), ((ra 13), .inl (cI, 6500, .inl (g 13))), ((ra 15), .inl (cI, 512, .inl (g 15))), ((ra 16), .inl (cI, 64, .inl (g 16))), ((ra 17), .inl (cI, 64, .inl (g 17))), ((ra 18), .inl (cI, 512, .inl (g 18))), ((ra 19), .inl (cI, 64, .inl (g 19))), ((ra 21), .inl (cI, 201, .inl (g 21))), ((ra 22), .inl (cI, 201, .inl (g 22))), ((ra 23), .inl (cI, 201, .inl (g 23))), ((ra 27), .inl (cI, 4, .inl (g 27)))]) (pI (fun (r : Int32) (u : Unit) => (r = 1 ∧ (T (cl y1)).1 ≠ 0) ∨ (r = 0 ∧ (T (cl y1)).1 = 0))) (fun (u : Unit) => [(a, .inr (4, [.ref (ra 0), .ref (ra 1), .ref (ra 2), .ref (ra 3), .ref (ra 4), .ref (ra 5), .ref (ra 6), .int (nI n), .int (nI fo), .int (nI ch), .ref (ra 10), .ref (ra 11), .ref (ra 12), .ref (ra 13), .int (nI pt), .ref (ra 15), .ref (ra 16), .ref (ra 17), .ref (ra 18), .ref (ra 19), .int (nI wk), .ref (ra 21), .ref (ra 22), .ref (ra 23), .int (nI dn), .int (nI ap), .int lt, .ref (ra 27)])), ((ra 0), .inl (cI, 5200, .inl (g 0))), ((ra 1), .inl (cI, 5200, .inl (g 1))), ((ra 2), .inl (cI, 5200, .inl (g 2))), ((ra 3), .inl (cI, 5200, .inl (g 3))), ((ra 4), .inl (cI, 5200, .inl (g 4))), ((ra 5), .inl (cI, 5200, .inl (g 5))), ((ra 6), .inl (cI, 5200, .inl (g 6))), ((ra 10), .inl (cI, 20200, .inl (g 10))), ((ra 11), .inl (cI, 20200, .inl (g 11))), ((ra 12), .inl (cI, 20200, .inl (g 12))), ((ra 13), .inl (cI, 6500, .inl (g 13))), ((ra 15), .inl (cI, 512, .inl (g 15))), ((ra 16), .inl (cI, 64, .inl (g 16))), ((ra 17), .inl (cI, 64, .inl (g 17))), ((ra 18), .inl (cI, 512, .inl (g 18))), ((ra 19), .inl (cI, 64, .inl (g 19))), ((ra 21), .inl (cI, 201, .inl (g 21))), ((ra 22), .inl (cI, 201, .inl (g 22))), ((ra 23), .inl (cI, 201, .inl (g 23))), ((ra 27), .inl (cI, 4, .inl (g 27)))]) := by
  refine kt_start (cc := cX4_isWork) (maxL := 2) (ret := (some .boolean)) (by decide +kernel) rfl (Nat.le_of_ble_eq_true rfl) ?_
  intro p e s m below meth c hx hb hml hr hlk hown hnm hts ls hl hw
  have hown : s.vm.findClass RX4 = some m.cls := hown
  have hl : lv_has ls 2 [(0, .ref a), (1, .int y1)] := hl
  have k58 := hts (.fieldLink RX4 58 "RestartBookModel" "states" "[I") (by decide +kernel)
  have k70 := hts (.fieldLink RX4 70 "RestartBookModel" "works" "I") (by decide +kernel)
  have hin4 : ∀ w ∈ u_ws RX4 TX4 28, w ∈ wsX4_isWork := in_X4_isWork
  refine lv_iload_n hx hb dX4_isWork_0 rfl (lv_at hl 1 rfl) ?_
  refine lv_iconst (v := nI 1) hx hb dX4_isWork_1 (by decide +kernel) ?_
  refine lv_aload_n hx hb dX4_isWork_2 rfl (lv_at hl 0 rfl) ?_
  refine ww_get hx hb hts hin4 hown hw 0 rfl rfl 20 (by decide) k70 rfl dX4_isWork_3 ?_
  refine ww_callS ([]) ([(a, .inr (4, [.ref (ra 0), .ref (ra 1), .ref (ra 2), .ref (ra 3), .ref (ra 4), .ref (ra 5), .ref (ra 6), .int (nI n), .int (nI fo), .int (nI ch), .ref (ra 10), .ref (ra 11), .ref (ra 12), .ref (ra 13), .int (nI pt), .ref (ra 15), .ref (ra 16), .ref (ra 17), .ref (ra 18), .ref (ra 19), .int (nI wk), .ref (ra 21), .ref (ra 22), .ref (ra 23), .int (nI dn), .int (nI ap), .int lt, .ref (ra 27)])), ((ra 0), .inl (cI, 5200, .inl (g 0))), ((ra 1), .inl (cI, 5200, .inl (g 1))), ((ra 2), .inl (cI, 5200, .inl (g 2))), ((ra 3), .inl (cI, 5200, .inl (g 3))), ((ra 4), .inl (cI, 5200, .inl (g 4))), ((ra 5), .inl (cI, 5200, .inl (g 5))), ((ra 6), .inl (cI, 5200, .inl (g 6))), ((ra 10), .inl (cI, 20200, .inl (g 10))), ((ra 11), .inl (cI, 20200, .inl (g 11))), ((ra 12), .inl (cI, 20200, .inl (g 12))), ((ra 13), .inl (cI, 6500, .inl (g 13))), ((ra 15), .inl (cI, 512, .inl (g 15))), ((ra 16), .inl (cI, 64, .inl (g 16))), ((ra 17), .inl (cI, 64, .inl (g 17))), ((ra 18), .inl (cI, 512, .inl (g 18))), ((ra 19), .inl (cI, 64, .inl (g 19))), ((ra 21), .inl (cI, 201, .inl (g 21))), ((ra 22), .inl (cI, 201, .inl (g 22))), ((ra 23), .inl (cI, 201, .inl (g 23))), ((ra 27), .inl (cI, 4, .inl (g 27)))]) (As := [.int y1, .int (nI 1), .int (nI wk)]) (rest := []) ⟨hx, hb, hml, hown, hts⟩ (cM_in l D cI y1 (nI 1) (nI wk)) gX4_isWork_X4_in rfl hd_X4_in ⟨Nat.le_of_ble_eq_true rfl, Nat.le_of_ble_eq_true rfl⟩ hw rfl rfl rfl hl.1 (Nat.le_of_ble_eq_true rfl) dX4_isWork_6 ⟨Nat.le_of_ble_eq_true rfl, Nat.le_of_ble_eq_true rfl⟩ (fun rv u H locs hq hw => ?_)
  obtain ⟨rr, rfl, hq⟩ := hq
  have hw : ww D cI _ _ s ([(a, .inr (4, [.ref (ra 0), .ref (ra 1), .ref (ra 2), .ref (ra 3), .ref (ra 4), .ref (ra 5), .ref (ra 6), .int (nI n), .int (nI fo), .int (nI ch), .ref (ra 10), .ref (ra 11), .ref (ra 12), .ref (ra 13), .int (nI pt), .ref (ra 15), .ref (ra 16), .ref (ra 17), .ref (ra 18), .ref (ra 19), .int (nI wk), .ref (ra 21), .ref (ra 22), .ref (ra 23), .int (nI dn), .int (nI ap), .int lt, .ref (ra 27)])), ((ra 0), .inl (cI, 5200, .inl (g 0))), ((ra 1), .inl (cI, 5200, .inl (g 1))), ((ra 2), .inl (cI, 5200, .inl (g 2))), ((ra 3), .inl (cI, 5200, .inl (g 3))), ((ra 4), .inl (cI, 5200, .inl (g 4))), ((ra 5), .inl (cI, 5200, .inl (g 5))), ((ra 6), .inl (cI, 5200, .inl (g 6))), ((ra 10), .inl (cI, 20200, .inl (g 10))), ((ra 11), .inl (cI, 20200, .inl (g 11))), ((ra 12), .inl (cI, 20200, .inl (g 12))), ((ra 13), .inl (cI, 6500, .inl (g 13))), ((ra 15), .inl (cI, 512, .inl (g 15))), ((ra 16), .inl (cI, 64, .inl (g 16))), ((ra 17), .inl (cI, 64, .inl (g 17))), ((ra 18), .inl (cI, 512, .inl (g 18))), ((ra 19), .inl (cI, 64, .inl (g 19))), ((ra 21), .inl (cI, 201, .inl (g 21))), ((ra 22), .inl (cI, 201, .inl (g 22))), ((ra 23), .inl (cI, 201, .inl (g 23))), ((ra 27), .inl (cI, 4, .inl (g 27)))]) H locs := hw
  refine W.eq (g2 := F0 m 9 ls [.int (rr)]) rfl ?_
  rcases hq with ⟨rfl, hq⟩ | ⟨rfl, hq⟩
  · have hq1 := hq.1
    have hq2 := hq.2
    simp (disch := omega) only [i_le, nI_toInt] at hq1 hq2
    obtain ⟨j, hj, rfl⟩ := i_nat (x := y1) (by omega)
    rw [nI_toInt hj] at hq1 hq2
    have hcj : cl (nI j) = j := cl_nI hj
    have hjw : j ≤ wk := by omega
    refine lv_if_eq (tgt := 25) hx hb dX4_isWork_9 (by decide) (fun c_9 => absurd c_9 (by decide)) (fun c_9 => ?_)
    refine lv_aload_n hx hb dX4_isWork_12 rfl (lv_at hl 0 rfl) ?_
    refine ww_get hx hb hts hin4 hown hw 0 rfl rfl 21 (by decide) k58 rfl dX4_isWork_13 ?_
    refine lv_iload_n hx hb dX4_isWork_16 rfl (lv_at hl 1 rfl) ?_
    refine ww_iald hx hb hw 17 rfl j rfl (by omega) (by omega) dX4_isWork_17 ?_
    refine lv_eqi (show _ = nI (T j).1 from (hT j (by omega)).1 (by omega)) ?_
    refine lv_if_le (tgt := 25) hx hb dX4_isWork_18 (by decide) (fun c_18 => ?_) (fun c_18 => ?_)
    · refine lv_iconst (v := nI 0) hx hb dX4_isWork_25 (by decide +kernel) ?_
      exact ww_zret (u := ()) hx hb hr hlk (by decide +kernel) hw (Or.inr ⟨by decide, by first | exact hno | (rw [hcj]; exact (nI_le0 (hTB j).1).mp c_18)⟩) (Nat.le_of_ble_eq_true rfl) (Nat.le_of_ble_eq_true rfl) dX4_isWork_26
    · refine lv_iconst (v := nI 1) hx hb dX4_isWork_21 (by decide +kernel) ?_
      refine lv_goto (tgt := 26) hx hb dX4_isWork_22 (by decide) ?_
      exact ww_zret (u := ()) hx hb hr hlk (by decide +kernel) hw (Or.inl ⟨by decide, by rw [hcj]; exact fun q => c_18 ((nI_le0 (hTB j).1).mpr q)⟩) (Nat.le_of_ble_eq_true rfl) (Nat.le_of_ble_eq_true rfl) dX4_isWork_26
  · have hno : (T (cl y1)).1 = 0 := by
      by_cases z : (T (cl y1)).1 = 0
      · exact z
      · obtain ⟨z1, z2⟩ := hpr _ z
        have e := cl_pos z1
        exact absurd (show nI 1 ≤ y1 ∧ y1 ≤ nI wk by rw [e]; exact ⟨nI_le z1 (by omega), nI_le z2 (by omega)⟩) hq
    refine lv_if_eq (tgt := 25) hx hb dX4_isWork_9 (by decide) (fun c_9 => ?_) (fun c_9 => absurd (rfl) c_9)
    refine lv_iconst (v := nI 0) hx hb dX4_isWork_25 (by decide +kernel) ?_
    exact ww_zret (u := ()) hx hb hr hlk (by decide +kernel) hw (Or.inr ⟨by decide, by first | exact hno | (rw [hcj]; exact (nI_le0 (hTB j).1).mp c_18)⟩) (Nat.le_of_ble_eq_true rfl) (Nat.le_of_ble_eq_true rfl) dX4_isWork_26
theorem card_ext {T : TF} {wk : Nat} (h : ∀ w, wk < w → (T w).1 = 0) : ∀ m, wk ≤ m → cardT T m = cardT T wk := by
  intro m hm
  induction hm with
  | refl => rfl
  | step hm ih =>
    simp only [cardT]
    rw [if_pos (h _ (Nat.lt_succ_of_le hm)), ih]
    rfl
theorem card_le (T : TF) : ∀ m, cardT T m ≤ m := by
  intro m
  induction m with
  | zero => exact Nat.le_refl _
  | succ m ih => simp only [cardT]; split <;> omega
theorem card_s {T : TF} {q : Nat} (hq : 1 ≤ q) : cardT T q = cardT T (q - 1) + (if (T q).1 = 0 then 0 else 1) := by
  obtain ⟨j, rfl⟩ : ∃ j, q = j + 1 := ⟨q - 1, by omega⟩
  rfl
set_option maxHeartbeats 1000000 in
set_option maxRecDepth 100000 in
theorem cM_many (l : Launch) (D : va_G) (cI : ClassId) (a : Nat) (ra : Nat → Nat) (g : Nat → Nat → Int32) (n fo ch pt wk dn ap : Nat) (lt : Int32) (T : TF) (hT : MT g T 201) (hTB : TB T) (hwk : wk ≤ 200) (hpr : ∀ w, (T w).1 ≠ 0 → 1 ≤ w ∧ w ≤ wk) : Kt l yX4_many wsX4_many 0 0 (0) (0) D cI [.ref a] ([(a, .inr (4, [.ref (ra 0), .ref (ra 1), .ref (ra 2), .ref (ra 3), .ref (ra 4), .ref (ra 5), .ref (ra 6), .int (nI n), .int (nI fo), .int (nI ch), .ref (ra 10), .ref (ra 11), .ref (ra 12), .ref (ra 13), .int (nI pt), .ref (ra 15), .ref (ra 16), .ref (ra 17), .ref (ra 18), .ref (ra 19), .int (nI wk), .ref (ra 21), .ref (ra 22), .ref (ra 23), .int (nI dn), .int (nI ap), .int lt, .ref (ra 27)])), ((ra 0), .inl (cI, 5200, .inl (g 0))), ((ra 1), .inl (cI, 5200, .inl (g 1))), ((ra 2), .inl (cI, 5200, .inl (g 2))), ((ra 3), .inl (cI, 5200, .inl (g 3))), ((ra 4), .inl (cI, 5200, .inl (g 4))), ((ra 5), .inl (cI, 5200, .inl (g 5))), ((ra 6), .inl (cI, 5200, .inl (g 6))), ((ra 10), .inl (cI, 20200, .inl (g 10))), ((ra 11), .inl (cI, 20200, .inl (g 11))), ((ra 12), .inl (cI, 20200, .inl (g 12))), ((ra 13), .inl (cI, 6500, .inl (g 13))), ((ra 15), .inl (cI, 512, .inl (g 15))), ((ra 16), .inl (cI, 64, .inl (g 16))), ((ra 17), .inl (cI, 64, .inl (g 17))), ((ra 18), .inl (cI, 512, .inl (g 18))), ((ra 19), .inl (cI, 64, .inl (g 19))), ((ra 21), .inl (cI, 201, .inl (g 21))), ((ra 22), .inl (cI, 201, .inl (g 22))), ((ra 23), .inl (cI, 201, .inl (g 23))), ((ra 27), .inl (cI, 4, .inl (g 27)))]) (pI (fun (r : Int32) (u : Unit) => r = nI (cardT T 200))) (fun (u : Unit) => [(a, .inr (4, [.ref (ra 0), .ref (ra 1), .ref (ra 2), .ref (ra 3), .ref (ra 4), .ref (ra 5), .ref (ra 6), .int (nI n), .int (nI fo), .int (nI ch), .ref (ra 10), .ref (ra 11), .ref (ra 12), .ref (ra 13), .int (nI pt), .ref (ra 15), .ref (ra 16), .ref (ra 17), .ref (ra 18), .ref (ra 19), .int (nI wk), .ref (ra 21), .ref (ra 22), .ref (ra 23), .int (nI dn), .int (nI ap), .int lt, .ref (ra 27)])), ((ra 0), .inl (cI, 5200, .inl (g 0))), ((ra 1), .inl (cI, 5200, .inl (g 1))), ((ra 2), .inl (cI, 5200, .inl (g 2))), ((ra 3), .inl (cI, 5200, .inl (g 3))), ((ra 4), .inl (cI, 5200, .inl (g 4))), ((ra 5), .inl (cI, 5200, .inl (g 5))), ((ra 6), .inl (cI, 5200, .inl (g 6))), ((ra 10), .inl (cI, 20200, .inl (g 10))), ((ra 11), .inl (cI, 20200, .inl (g 11))), ((ra 12), .inl (cI, 20200, .inl (g 12))), ((ra 13), .inl (cI, 6500, .inl (g 13))), ((ra 15), .inl (cI, 512, .inl (g 15))), ((ra 16), .inl (cI, 64, .inl (g 16))), ((ra 17), .inl (cI, 64, .inl (g 17))), ((ra 18), .inl (cI, 512, .inl (g 18))), ((ra 19), .inl (cI, 64, .inl (g 19))), ((ra 21), .inl (cI, 201, .inl (g 21))), ((ra 22), .inl (cI, 201, .inl (g 22))), ((ra 23), .inl (cI, 201, .inl (g 23))), ((ra 27), .inl (cI, 4, .inl (g 27)))]) := by
  refine kt_start (cc := cX4_many) (maxL := 3) (ret := (some .int)) (by decide +kernel) rfl (Nat.le_of_ble_eq_true rfl) ?_
  intro p e s m below meth c hx hb hml hr hlk hown hnm hts ls hl hw
  have hown : s.vm.findClass RX4 = some m.cls := hown
  have hl : lv_has ls 3 [(0, .ref a)] := hl
  have k58 := hts (.fieldLink RX4 58 "RestartBookModel" "states" "[I") (by decide +kernel)
  have k70 := hts (.fieldLink RX4 70 "RestartBookModel" "works" "I") (by decide +kernel)
  have hin4 : ∀ w ∈ u_ws RX4 TX4 28, w ∈ wsX4_many := in_X4_many
  refine lv_iconst (v := nI 0) hx hb dX4_many_0 (by decide +kernel) ?_
  refine lv_istore_n (lv' := [(1, .int (nI 0)), (0, .ref a)]) hx hb dX4_many_1 rfl hl (by decide) rfl (fun ls hl => ?_)
  refine lv_iconst (v := nI 1) hx hb dX4_many_2 (by decide +kernel) ?_
  refine lv_istore_n (lv' := [(2, .int (nI 1)), (1, .int (nI 0)), (0, .ref a)]) hx hb dX4_many_3 rfl hl (by decide) rfl (fun ls hl => ?_)
  have lp : ∀ (t : Nat) (q : Nat) (d : Nat) (H : Heap) (locs : List Loc) (ls : Array Slot), wk + 1 - q < t → (1 ≤ q) → (q ≤ wk + 1) → (d = cardT T (q - 1)) → ww D cI (va_A ([(a, .inr (4, [.ref (ra 0), .ref (ra 1), .ref (ra 2), .ref (ra 3), .ref (ra 4), .ref (ra 5), .ref (ra 6), .int (nI n), .int (nI fo), .int (nI ch), .ref (ra 10), .ref (ra 11), .ref (ra 12), .ref (ra 13), .int (nI pt), .ref (ra 15), .ref (ra 16), .ref (ra 17), .ref (ra 18), .ref (ra 19), .int (nI wk), .ref (ra 21), .ref (ra 22), .ref (ra 23), .int (nI dn), .int (nI ap), .int lt, .ref (ra 27)])), ((ra 0), .inl (cI, 5200, .inl (g 0))), ((ra 1), .inl (cI, 5200, .inl (g 1))), ((ra 2), .inl (cI, 5200, .inl (g 2))), ((ra 3), .inl (cI, 5200, .inl (g 3))), ((ra 4), .inl (cI, 5200, .inl (g 4))), ((ra 5), .inl (cI, 5200, .inl (g 5))), ((ra 6), .inl (cI, 5200, .inl (g 6))), ((ra 10), .inl (cI, 20200, .inl (g 10))), ((ra 11), .inl (cI, 20200, .inl (g 11))), ((ra 12), .inl (cI, 20200, .inl (g 12))), ((ra 13), .inl (cI, 6500, .inl (g 13))), ((ra 15), .inl (cI, 512, .inl (g 15))), ((ra 16), .inl (cI, 64, .inl (g 16))), ((ra 17), .inl (cI, 64, .inl (g 17))), ((ra 18), .inl (cI, 512, .inl (g 18))), ((ra 19), .inl (cI, 64, .inl (g 19))), ((ra 21), .inl (cI, 201, .inl (g 21))), ((ra 22), .inl (cI, 201, .inl (g 22))), ((ra 23), .inl (cI, 201, .inl (g 23))), ((ra 27), .inl (cI, 4, .inl (g 27)))]) s.heap.size) s.heap s ([(a, .inr (4, [.ref (ra 0), .ref (ra 1), .ref (ra 2), .ref (ra 3), .ref (ra 4), .ref (ra 5), .ref (ra 6), .int (nI n), .int (nI fo), .int (nI ch), .ref (ra 10), .ref (ra 11), .ref (ra 12), .ref (ra 13), .int (nI pt), .ref (ra 15), .ref (ra 16), .ref (ra 17), .ref (ra 18), .ref (ra 19), .int (nI wk), .ref (ra 21), .ref (ra 22), .ref (ra 23), .int (nI dn), .int (nI ap), .int lt, .ref (ra 27)])), ((ra 0), .inl (cI, 5200, .inl (g 0))), ((ra 1), .inl (cI, 5200, .inl (g 1))), ((ra 2), .inl (cI, 5200, .inl (g 2))), ((ra 3), .inl (cI, 5200, .inl (g 3))), ((ra 4), .inl (cI, 5200, .inl (g 4))), ((ra 5), .inl (cI, 5200, .inl (g 5))), ((ra 6), .inl (cI, 5200, .inl (g 6))), ((ra 10), .inl (cI, 20200, .inl (g 10))), ((ra 11), .inl (cI, 20200, .inl (g 11))), ((ra 12), .inl (cI, 20200, .inl (g 12))), ((ra 13), .inl (cI, 6500, .inl (g 13))), ((ra 15), .inl (cI, 512, .inl (g 15))), ((ra 16), .inl (cI, 64, .inl (g 16))), ((ra 17), .inl (cI, 64, .inl (g 17))), ((ra 18), .inl (cI, 512, .inl (g 18))), ((ra 19), .inl (cI, 64, .inl (g 19))), ((ra 21), .inl (cI, 201, .inl (g 21))), ((ra 22), .inl (cI, 201, .inl (g 22))), ((ra 23), .inl (cI, 201, .inl (g 23))), ((ra 27), .inl (cI, 4, .inl (g 27)))]) H locs → lv_has ls 3 [(2, .int (nI q)), (1, .int (nI d)), (0, .ref a)] → W p l e { frames := 0, cells := 0, slots := 0, locals := 0 } s m [.ref a].toArray below meth c H locs (0) (0) (MQ below (kQ D cI ([(a, .inr (4, [.ref (ra 0), .ref (ra 1), .ref (ra 2), .ref (ra 3), .ref (ra 4), .ref (ra 5), .ref (ra 6), .int (nI n), .int (nI fo), .int (nI ch), .ref (ra 10), .ref (ra 11), .ref (ra 12), .ref (ra 13), .int (nI pt), .ref (ra 15), .ref (ra 16), .ref (ra 17), .ref (ra 18), .ref (ra 19), .int (nI wk), .ref (ra 21), .ref (ra 22), .ref (ra 23), .int (nI dn), .int (nI ap), .int lt, .ref (ra 27)])), ((ra 0), .inl (cI, 5200, .inl (g 0))), ((ra 1), .inl (cI, 5200, .inl (g 1))), ((ra 2), .inl (cI, 5200, .inl (g 2))), ((ra 3), .inl (cI, 5200, .inl (g 3))), ((ra 4), .inl (cI, 5200, .inl (g 4))), ((ra 5), .inl (cI, 5200, .inl (g 5))), ((ra 6), .inl (cI, 5200, .inl (g 6))), ((ra 10), .inl (cI, 20200, .inl (g 10))), ((ra 11), .inl (cI, 20200, .inl (g 11))), ((ra 12), .inl (cI, 20200, .inl (g 12))), ((ra 13), .inl (cI, 6500, .inl (g 13))), ((ra 15), .inl (cI, 512, .inl (g 15))), ((ra 16), .inl (cI, 64, .inl (g 16))), ((ra 17), .inl (cI, 64, .inl (g 17))), ((ra 18), .inl (cI, 512, .inl (g 18))), ((ra 19), .inl (cI, 64, .inl (g 19))), ((ra 21), .inl (cI, 201, .inl (g 21))), ((ra 22), .inl (cI, 201, .inl (g 22))), ((ra 23), .inl (cI, 201, .inl (g 23))), ((ra 27), .inl (cI, 4, .inl (g 27)))]) s.heap.size (pI (fun (r : Int32) (u : Unit) => r = nI (cardT T 200))) (fun (u : Unit) => [(a, .inr (4, [.ref (ra 0), .ref (ra 1), .ref (ra 2), .ref (ra 3), .ref (ra 4), .ref (ra 5), .ref (ra 6), .int (nI n), .int (nI fo), .int (nI ch), .ref (ra 10), .ref (ra 11), .ref (ra 12), .ref (ra 13), .int (nI pt), .ref (ra 15), .ref (ra 16), .ref (ra 17), .ref (ra 18), .ref (ra 19), .int (nI wk), .ref (ra 21), .ref (ra 22), .ref (ra 23), .int (nI dn), .int (nI ap), .int lt, .ref (ra 27)])), ((ra 0), .inl (cI, 5200, .inl (g 0))), ((ra 1), .inl (cI, 5200, .inl (g 1))), ((ra 2), .inl (cI, 5200, .inl (g 2))), ((ra 3), .inl (cI, 5200, .inl (g 3))), ((ra 4), .inl (cI, 5200, .inl (g 4))), ((ra 5), .inl (cI, 5200, .inl (g 5))), ((ra 6), .inl (cI, 5200, .inl (g 6))), ((ra 10), .inl (cI, 20200, .inl (g 10))), ((ra 11), .inl (cI, 20200, .inl (g 11))), ((ra 12), .inl (cI, 20200, .inl (g 12))), ((ra 13), .inl (cI, 6500, .inl (g 13))), ((ra 15), .inl (cI, 512, .inl (g 15))), ((ra 16), .inl (cI, 64, .inl (g 16))), ((ra 17), .inl (cI, 64, .inl (g 17))), ((ra 18), .inl (cI, 512, .inl (g 18))), ((ra 19), .inl (cI, 64, .inl (g 19))), ((ra 21), .inl (cI, 201, .inl (g 21))), ((ra 22), .inl (cI, 201, .inl (g 22))), ((ra 23), .inl (cI, 201, .inl (g 23))), ((ra 27), .inl (cI, 4, .inl (g 27)))])) [.ref a].toArray s (0) (0) (va_A ([(a, .inr (4, [.ref (ra 0), .ref (ra 1), .ref (ra 2), .ref (ra 3), .ref (ra 4), .ref (ra 5), .ref (ra 6), .int (nI n), .int (nI fo), .int (nI ch), .ref (ra 10), .ref (ra 11), .ref (ra 12), .ref (ra 13), .int (nI pt), .ref (ra 15), .ref (ra 16), .ref (ra 17), .ref (ra 18), .ref (ra 19), .int (nI wk), .ref (ra 21), .ref (ra 22), .ref (ra 23), .int (nI dn), .int (nI ap), .int lt, .ref (ra 27)])), ((ra 0), .inl (cI, 5200, .inl (g 0))), ((ra 1), .inl (cI, 5200, .inl (g 1))), ((ra 2), .inl (cI, 5200, .inl (g 2))), ((ra 3), .inl (cI, 5200, .inl (g 3))), ((ra 4), .inl (cI, 5200, .inl (g 4))), ((ra 5), .inl (cI, 5200, .inl (g 5))), ((ra 6), .inl (cI, 5200, .inl (g 6))), ((ra 10), .inl (cI, 20200, .inl (g 10))), ((ra 11), .inl (cI, 20200, .inl (g 11))), ((ra 12), .inl (cI, 20200, .inl (g 12))), ((ra 13), .inl (cI, 6500, .inl (g 13))), ((ra 15), .inl (cI, 512, .inl (g 15))), ((ra 16), .inl (cI, 64, .inl (g 16))), ((ra 17), .inl (cI, 64, .inl (g 17))), ((ra 18), .inl (cI, 512, .inl (g 18))), ((ra 19), .inl (cI, 64, .inl (g 19))), ((ra 21), .inl (cI, 201, .inl (g 21))), ((ra 22), .inl (cI, 201, .inl (g 22))), ((ra 23), .inl (cI, 201, .inl (g 23))), ((ra 27), .inl (cI, 4, .inl (g 27)))]) s.heap.size)) (F0 m 4 ls []) := by
    intro t
    induction t with
    | zero => intro q d H locs ls ht; exact absurd ht (Nat.not_lt_zero _)
    | succ t ih_4 =>
      intro q d H locs ls ht hq1 hq2 hd hw hl
      refine lv_iload_n hx hb dX4_many_4 rfl (lv_at hl 0 rfl) ?_
      refine lv_aload_n hx hb dX4_many_5 rfl (lv_at hl 2 rfl) ?_
      refine ww_get hx hb hts hin4 hown hw 0 rfl rfl 20 (by decide) k70 rfl dX4_many_6 ?_
      refine lv_icmp_gt (tgt := 35) hx hb dX4_many_9 (by decide) (fun c_9 => ?_) (fun c_9 => ?_)
      · refine lv_iload_n hx hb dX4_many_35 rfl (lv_at hl 1 rfl) ?_
        exact ww_iret (u := ()) hx hb hr hlk hw (by rw [hd, show q - 1 = wk by simp (disch := omega) only [i_lt, nI_toInt] at c_9; omega, card_ext (fun w hw => by by_cases z : (T w).1 = 0; exact z; have := (hpr w z).2; omega) 200 hwk]) (Nat.le_of_ble_eq_true rfl) (Nat.le_of_ble_eq_true rfl) dX4_many_36
      · have hqw : q ≤ wk := by simp (disch := omega) only [i_lt, nI_toInt] at c_9; omega
        refine lv_iload_n hx hb dX4_many_12 rfl (lv_at hl 1 rfl) ?_
        refine lv_aload_n hx hb dX4_many_13 rfl (lv_at hl 2 rfl) ?_
        refine ww_get hx hb hts hin4 hown hw 0 rfl rfl 21 (by decide) k58 rfl dX4_many_14 ?_
        refine lv_iload_n hx hb dX4_many_17 rfl (lv_at hl 0 rfl) ?_
        refine ww_iald hx hb hw 17 rfl q rfl (by omega) (by omega) dX4_many_18 ?_
        refine lv_eqi (show _ = nI (T q).1 from (hT q (by omega)).1 (by omega)) ?_
        refine lv_if_le (tgt := 26) hx hb dX4_many_19 (by decide) (fun c_19 => ?_) (fun c_19 => ?_)
        · refine lv_iconst (v := nI 0) hx hb dX4_many_26 (by decide +kernel) ?_
          refine lv_iadd hx hb dX4_many_27 ?_
          refine lv_eqi (show _ = nI (d + 0) from nI_add _ _) ?_
          refine lv_istore_n (lv' := [(1, .int (nI (d + 0))), (2, .int (nI q)), (0, .ref a)]) hx hb dX4_many_28 rfl hl (by decide) rfl (fun ls hl => ?_)
          refine lv_iinc (v := nI (q + 1)) (lv' := [(2, .int (nI (q + 1))), (1, .int (nI (d + 0))), (0, .ref a)]) hx hb dX4_many_29 hl (k := 1) rfl (nI_add _ _) (by decide) rfl (fun ls hl => ?_)
          refine lv_goto (tgt := 4) hx hb dX4_many_32 (by decide) ?_
          exact ih_4 (q + 1) (d + 0) _ _ _ (by omega) (by omega) (by omega) (by rw [Nat.add_sub_cancel, card_s hq1, if_pos ((nI_le0 (hTB q).1).mp c_19), hd]) hw (lv_sub hl [0, 1, 2] rfl)
        · refine lv_iconst (v := nI 1) hx hb dX4_many_22 (by decide +kernel) ?_
          refine lv_goto (tgt := 27) hx hb dX4_many_23 (by decide) ?_
          refine lv_iadd hx hb dX4_many_27 ?_
          refine lv_eqi (show _ = nI (d + 1) from nI_add _ _) ?_
          refine lv_istore_n (lv' := [(1, .int (nI (d + 1))), (2, .int (nI q)), (0, .ref a)]) hx hb dX4_many_28 rfl hl (by decide) rfl (fun ls hl => ?_)
          refine lv_iinc (v := nI (q + 1)) (lv' := [(2, .int (nI (q + 1))), (1, .int (nI (d + 1))), (0, .ref a)]) hx hb dX4_many_29 hl (k := 1) rfl (nI_add _ _) (by decide) rfl (fun ls hl => ?_)
          refine lv_goto (tgt := 4) hx hb dX4_many_32 (by decide) ?_
          exact ih_4 (q + 1) (d + 1) _ _ _ (by omega) (by omega) (by omega) (by rw [Nat.add_sub_cancel, card_s hq1, if_neg (fun z => c_19 ((nI_le0 (hTB q).1).mpr z)), hd]) hw (lv_sub hl [0, 1, 2] rfl)
  exact lp ((wk + 1 - (1)) + 1) 1 0 _ _ _ (Nat.lt_succ_self _) (Nat.le_refl _) (by omega) rfl hw (lv_sub hl [0, 1, 2] rfl)
def NoteP (g u : Nat → Nat → Int32) (n k w : Nat) : Prop := (∀ c, c ≤ 6 → ∀ r, r ≠ n + 1 → u c r = g c r) ∧ (u 0 (n + 1) = nI k ∧ u 1 (n + 1) = nI w ∧ u 2 (n + 1) = (if w = 0 then nI 0 else g 22 w) ∧ u 3 (n + 1) = nI 0 ∧ u 4 (n + 1) = nI 0 ∧ u 5 (n + 1) = nI 0 ∧ u 6 (n + 1) = nI 0) ∧ (∀ c, 7 ≤ c → c ≠ 22 → u c = g c) ∧ u 22 = (if w = 0 then g 22 else upd (g 22) w (nI (n + 1)))
theorem note_7 (g : Nat → Nat → Int32) (n : Nat) (x0 x1 x2 x3 x4 x5 x6 : Int32) {u : Nat → Nat → Int32} (hu : u = va_up (va_up (va_up (va_up (va_up (va_up (va_up g 0 (upd (g 0) (n + 1) x0)) 1 (upd (g 1) (n + 1) x1)) 2 (upd (g 2) (n + 1) x2)) 3 (upd (g 3) (n + 1) x3)) 4 (upd (g 4) (n + 1) x4)) 5 (upd (g 5) (n + 1) x5)) 6 (upd (g 6) (n + 1) x6)) :
    (∀ c, c ≤ 6 → ∀ r, r ≠ n + 1 → u c r = g c r) ∧ (u 0 (n + 1) = x0 ∧ u 1 (n + 1) = x1 ∧ u 2 (n + 1) = x2 ∧ u 3 (n + 1) = x3 ∧ u 4 (n + 1) = x4 ∧ u 5 (n + 1) = x5 ∧ u 6 (n + 1) = x6) ∧ ∀ c, 7 ≤ c → u c = g c := by
  subst hu
  refine ⟨fun c hc r hr => ?_, by simp [va_up, upd], fun c hc => ?_⟩
  · rcases (show c = 0 ∨ c = 1 ∨ c = 2 ∨ c = 3 ∨ c = 4 ∨ c = 5 ∨ c = 6 by omega) with h | h | h | h | h | h | h <;> subst h <;> simp [va_up, upd, hr]
  · simp only [va_up]
    rw [if_neg (by omega), if_neg (by omega), if_neg (by omega), if_neg (by omega), if_neg (by omega), if_neg (by omega), if_neg (by omega)]
theorem note_8 (g : Nat → Nat → Int32) (n k w : Nat) (hw0 : w ≠ 0) {u7 u : Nat → Nat → Int32} (hu7 : u7 = va_up (va_up (va_up (va_up (va_up (va_up (va_up g 0 (upd (g 0) (n + 1) (nI k))) 1 (upd (g 1) (n + 1) (nI w))) 2 (upd (g 2) (n + 1) (g 22 w))) 3 (upd (g 3) (n + 1) (nI 0))) 4 (upd (g 4) (n + 1) (nI 0))) 5 (upd (g 5) (n + 1) (nI 0))) 6 (upd (g 6) (n + 1) (nI 0))) (hu : u = va_up u7 22 (upd (g 22) w (nI (n + 1)))) : NoteP g u n k w := by
  have n7 := note_7 g n (nI k) (nI w) (g 22 w) (nI 0) (nI 0) (nI 0) (nI 0) hu7
  have e : ∀ c, c ≠ 22 → u c = u7 c := fun c hc => by rw [hu]; simp [va_up, hc]
  refine ⟨fun c hc r hr => ?_, ?_, fun c hc hc2 => ?_, ?_⟩
  · rw [e c (by omega)]; exact n7.1 c hc r hr
  · rw [if_neg hw0, e 0 (by omega), e 1 (by omega), e 2 (by omega), e 3 (by omega), e 4 (by omega), e 5 (by omega), e 6 (by omega)]; exact n7.2.1
  · rw [e c hc2]; exact n7.2.2 c hc
  · rw [if_neg hw0, hu]; simp [va_up]
set_option maxHeartbeats 1000000 in
set_option maxRecDepth 100000 in
theorem cM_note (l : Launch) (D : va_G) (cI : ClassId) (a : Nat) (ra : Nat → Nat) (g : Nat → Nat → Int32) (n fo ch pt wk dn ap : Nat) (lt : Int32) (k w : Nat) (hn : n + 1 < 5200) (hw2 : w ≤ 200) : Kt l yX4_note wsX4_note 0 0 (0) (0) D cI [.ref a, .int (nI k), .int (nI w)] ([(a, .inr (4, [.ref (ra 0), .ref (ra 1), .ref (ra 2), .ref (ra 3), .ref (ra 4), .ref (ra 5), .ref (ra 6), .int (nI n), .int (nI fo), .int (nI ch), .ref (ra 10), .ref (ra 11), .ref (ra 12), .ref (ra 13), .int (nI pt), .ref (ra 15), .ref (ra 16), .ref (ra 17), .ref (ra 18), .ref (ra 19), .int (nI wk), .ref (ra 21), .ref (ra 22), .ref (ra 23), .int (nI dn), .int (nI ap), .int lt, .ref (ra 27)])), ((ra 0), .inl (cI, 5200, .inl (g 0))), ((ra 1), .inl (cI, 5200, .inl (g 1))), ((ra 2), .inl (cI, 5200, .inl (g 2))), ((ra 3), .inl (cI, 5200, .inl (g 3))), ((ra 4), .inl (cI, 5200, .inl (g 4))), ((ra 5), .inl (cI, 5200, .inl (g 5))), ((ra 6), .inl (cI, 5200, .inl (g 6))), ((ra 10), .inl (cI, 20200, .inl (g 10))), ((ra 11), .inl (cI, 20200, .inl (g 11))), ((ra 12), .inl (cI, 20200, .inl (g 12))), ((ra 13), .inl (cI, 6500, .inl (g 13))), ((ra 15), .inl (cI, 512, .inl (g 15))), ((ra 16), .inl (cI, 64, .inl (g 16))), ((ra 17), .inl (cI, 64, .inl (g 17))), ((ra 18), .inl (cI, 512, .inl (g 18))), ((ra 19), .inl (cI, 64, .inl (g 19))), ((ra 21), .inl (cI, 201, .inl (g 21))), ((ra 22), .inl (cI, 201, .inl (g 22))), ((ra 23), .inl (cI, 201, .inl (g 23))), ((ra 27), .inl (cI, 4, .inl (g 27)))]) (pI (fun (r : Int32) (u : Nat → Nat → Int32) => r = nI (n + 1) ∧ NoteP g u n k w)) (fun (u : Nat → Nat → Int32) => [(a, .inr (4, [.ref (ra 0), .ref (ra 1), .ref (ra 2), .ref (ra 3), .ref (ra 4), .ref (ra 5), .ref (ra 6), .int (nI (n + 1)), .int (nI fo), .int (nI ch), .ref (ra 10), .ref (ra 11), .ref (ra 12), .ref (ra 13), .int (nI pt), .ref (ra 15), .ref (ra 16), .ref (ra 17), .ref (ra 18), .ref (ra 19), .int (nI wk), .ref (ra 21), .ref (ra 22), .ref (ra 23), .int (nI dn), .int (nI ap), .int lt, .ref (ra 27)])), ((ra 0), .inl (cI, 5200, .inl (u 0))), ((ra 1), .inl (cI, 5200, .inl (u 1))), ((ra 2), .inl (cI, 5200, .inl (u 2))), ((ra 3), .inl (cI, 5200, .inl (u 3))), ((ra 4), .inl (cI, 5200, .inl (u 4))), ((ra 5), .inl (cI, 5200, .inl (u 5))), ((ra 6), .inl (cI, 5200, .inl (u 6))), ((ra 10), .inl (cI, 20200, .inl (u 10))), ((ra 11), .inl (cI, 20200, .inl (u 11))), ((ra 12), .inl (cI, 20200, .inl (u 12))), ((ra 13), .inl (cI, 6500, .inl (u 13))), ((ra 15), .inl (cI, 512, .inl (u 15))), ((ra 16), .inl (cI, 64, .inl (u 16))), ((ra 17), .inl (cI, 64, .inl (u 17))), ((ra 18), .inl (cI, 512, .inl (u 18))), ((ra 19), .inl (cI, 64, .inl (u 19))), ((ra 21), .inl (cI, 201, .inl (u 21))), ((ra 22), .inl (cI, 201, .inl (u 22))), ((ra 23), .inl (cI, 201, .inl (u 23))), ((ra 27), .inl (cI, 4, .inl (u 27)))]) := by
  refine kt_start (cc := cX4_note) (maxL := 3) (ret := (some .int)) (by decide +kernel) rfl (Nat.le_of_ble_eq_true rfl) ?_
  intro p e s m below meth c hx hb hml hr hlk hown hnm hts ls hl hw
  have hown : s.vm.findClass RX4 = some m.cls := hown
  have hl : lv_has ls 3 [(0, .ref a), (1, .int (nI k)), (2, .int (nI w))] := hl
  have k7 := hts (.fieldLink RX4 7 "RestartBookModel" "kinds" "[I") (by decide +kernel)
  have k13 := hts (.fieldLink RX4 13 "RestartBookModel" "whose" "[I") (by decide +kernel)
  have k16 := hts (.fieldLink RX4 16 "RestartBookModel" "befores" "[I") (by decide +kernel)
  have k19 := hts (.fieldLink RX4 19 "RestartBookModel" "pages" "[I") (by decide +kernel)
  have k22 := hts (.fieldLink RX4 22 "RestartBookModel" "words" "[I") (by decide +kernel)
  have k25 := hts (.fieldLink RX4 25 "RestartBookModel" "sums" "[I") (by decide +kernel)
  have k28 := hts (.fieldLink RX4 28 "RestartBookModel" "goals" "[I") (by decide +kernel)
  have k61 := hts (.fieldLink RX4 61 "RestartBookModel" "lasts" "[I") (by decide +kernel)
  have k78 := hts (.fieldLink RX4 78 "RestartBookModel" "records" "I") (by decide +kernel)
  have hin4 : ∀ w ∈ u_ws RX4 TX4 28, w ∈ wsX4_note := in_X4_note
  refine lv_aload_n hx hb dX4_note_0 rfl (lv_at hl 0 rfl) ?_
  refine lv_dup hx hb dX4_note_1 rfl ?_
  refine ww_get hx hb hts hin4 hown hw 0 rfl rfl 7 (by decide) k78 rfl dX4_note_2 ?_
  refine lv_iconst (v := nI 1) hx hb dX4_note_5 (by decide +kernel) ?_
  refine lv_iadd hx hb dX4_note_6 ?_
  refine lv_eqi (show _ = nI (n + 1) from nI_add _ _) ?_
  refine ww_put (ws' := [(a, .inr (4, [.ref (ra 0), .ref (ra 1), .ref (ra 2), .ref (ra 3), .ref (ra 4), .ref (ra 5), .ref (ra 6), .int (nI (n + 1)), .int (nI fo), .int (nI ch), .ref (ra 10), .ref (ra 11), .ref (ra 12), .ref (ra 13), .int (nI pt), .ref (ra 15), .ref (ra 16), .ref (ra 17), .ref (ra 18), .ref (ra 19), .int (nI wk), .ref (ra 21), .ref (ra 22), .ref (ra 23), .int (nI dn), .int (nI ap), .int lt, .ref (ra 27)])), ((ra 0), .inl (cI, 5200, .inl (g 0))), ((ra 1), .inl (cI, 5200, .inl (g 1))), ((ra 2), .inl (cI, 5200, .inl (g 2))), ((ra 3), .inl (cI, 5200, .inl (g 3))), ((ra 4), .inl (cI, 5200, .inl (g 4))), ((ra 5), .inl (cI, 5200, .inl (g 5))), ((ra 6), .inl (cI, 5200, .inl (g 6))), ((ra 10), .inl (cI, 20200, .inl (g 10))), ((ra 11), .inl (cI, 20200, .inl (g 11))), ((ra 12), .inl (cI, 20200, .inl (g 12))), ((ra 13), .inl (cI, 6500, .inl (g 13))), ((ra 15), .inl (cI, 512, .inl (g 15))), ((ra 16), .inl (cI, 64, .inl (g 16))), ((ra 17), .inl (cI, 64, .inl (g 17))), ((ra 18), .inl (cI, 512, .inl (g 18))), ((ra 19), .inl (cI, 64, .inl (g 19))), ((ra 21), .inl (cI, 201, .inl (g 21))), ((ra 22), .inl (cI, 201, .inl (g 22))), ((ra 23), .inl (cI, 201, .inl (g 23))), ((ra 27), .inl (cI, 4, .inl (g 27)))]) hx hb hts hin4 tyX4 tyX4_ok nmX4 hown hw 0 rfl rfl 7 (by decide) k78 rfl rfl rfl (Nat.le_of_ble_eq_true rfl) rfl dX4_note_7 (fun H locs hw => ?_)
  refine lv_aload_n hx hb dX4_note_10 rfl (lv_at hl 0 rfl) ?_
  refine ww_get hx hb hts hin4 hown hw 0 rfl rfl 0 (by decide) k7 rfl dX4_note_11 ?_
  refine lv_aload_n hx hb dX4_note_14 rfl (lv_at hl 0 rfl) ?_
  refine ww_get hx hb hts hin4 hown hw 0 rfl rfl 7 (by decide) k78 rfl dX4_note_15 ?_
  refine lv_iload_n hx hb dX4_note_18 rfl (lv_at hl 1 rfl) ?_
  refine W.eq (g2 := F0 m 19 ls [.int (nI k), .int (nI (n + 1)), .ref (ra 0)]) rfl ?_
  refine ww_iast (ws' := [(a, .inr (4, [.ref (ra 0), .ref (ra 1), .ref (ra 2), .ref (ra 3), .ref (ra 4), .ref (ra 5), .ref (ra 6), .int (nI (n + 1)), .int (nI fo), .int (nI ch), .ref (ra 10), .ref (ra 11), .ref (ra 12), .ref (ra 13), .int (nI pt), .ref (ra 15), .ref (ra 16), .ref (ra 17), .ref (ra 18), .ref (ra 19), .int (nI wk), .ref (ra 21), .ref (ra 22), .ref (ra 23), .int (nI dn), .int (nI ap), .int lt, .ref (ra 27)])), ((ra 0), .inl (cI, 5200, .inl (upd (g 0) (n + 1) (nI k)))), ((ra 1), .inl (cI, 5200, .inl (g 1))), ((ra 2), .inl (cI, 5200, .inl (g 2))), ((ra 3), .inl (cI, 5200, .inl (g 3))), ((ra 4), .inl (cI, 5200, .inl (g 4))), ((ra 5), .inl (cI, 5200, .inl (g 5))), ((ra 6), .inl (cI, 5200, .inl (g 6))), ((ra 10), .inl (cI, 20200, .inl (g 10))), ((ra 11), .inl (cI, 20200, .inl (g 11))), ((ra 12), .inl (cI, 20200, .inl (g 12))), ((ra 13), .inl (cI, 6500, .inl (g 13))), ((ra 15), .inl (cI, 512, .inl (g 15))), ((ra 16), .inl (cI, 64, .inl (g 16))), ((ra 17), .inl (cI, 64, .inl (g 17))), ((ra 18), .inl (cI, 512, .inl (g 18))), ((ra 19), .inl (cI, 64, .inl (g 19))), ((ra 21), .inl (cI, 201, .inl (g 21))), ((ra 22), .inl (cI, 201, .inl (g 22))), ((ra 23), .inl (cI, 201, .inl (g 23))), ((ra 27), .inl (cI, 4, .inl (g 27)))]) hx hb hw 1 rfl (n + 1) rfl (by omega) (by omega) rfl dX4_note_19 (fun H locs hw => ?_)
  refine lv_aload_n hx hb dX4_note_20 rfl (lv_at hl 0 rfl) ?_
  refine ww_get hx hb hts hin4 hown hw 0 rfl rfl 1 (by decide) k13 rfl dX4_note_21 ?_
  refine lv_aload_n hx hb dX4_note_24 rfl (lv_at hl 0 rfl) ?_
  refine ww_get hx hb hts hin4 hown hw 0 rfl rfl 7 (by decide) k78 rfl dX4_note_25 ?_
  refine lv_iload_n hx hb dX4_note_28 rfl (lv_at hl 2 rfl) ?_
  refine ww_iast (ws' := [(a, .inr (4, [.ref (ra 0), .ref (ra 1), .ref (ra 2), .ref (ra 3), .ref (ra 4), .ref (ra 5), .ref (ra 6), .int (nI (n + 1)), .int (nI fo), .int (nI ch), .ref (ra 10), .ref (ra 11), .ref (ra 12), .ref (ra 13), .int (nI pt), .ref (ra 15), .ref (ra 16), .ref (ra 17), .ref (ra 18), .ref (ra 19), .int (nI wk), .ref (ra 21), .ref (ra 22), .ref (ra 23), .int (nI dn), .int (nI ap), .int lt, .ref (ra 27)])), ((ra 0), .inl (cI, 5200, .inl (upd (g 0) (n + 1) (nI k)))), ((ra 1), .inl (cI, 5200, .inl (upd (g 1) (n + 1) (nI w)))), ((ra 2), .inl (cI, 5200, .inl (g 2))), ((ra 3), .inl (cI, 5200, .inl (g 3))), ((ra 4), .inl (cI, 5200, .inl (g 4))), ((ra 5), .inl (cI, 5200, .inl (g 5))), ((ra 6), .inl (cI, 5200, .inl (g 6))), ((ra 10), .inl (cI, 20200, .inl (g 10))), ((ra 11), .inl (cI, 20200, .inl (g 11))), ((ra 12), .inl (cI, 20200, .inl (g 12))), ((ra 13), .inl (cI, 6500, .inl (g 13))), ((ra 15), .inl (cI, 512, .inl (g 15))), ((ra 16), .inl (cI, 64, .inl (g 16))), ((ra 17), .inl (cI, 64, .inl (g 17))), ((ra 18), .inl (cI, 512, .inl (g 18))), ((ra 19), .inl (cI, 64, .inl (g 19))), ((ra 21), .inl (cI, 201, .inl (g 21))), ((ra 22), .inl (cI, 201, .inl (g 22))), ((ra 23), .inl (cI, 201, .inl (g 23))), ((ra 27), .inl (cI, 4, .inl (g 27)))]) hx hb hw 2 rfl (n + 1) rfl (by omega) (by omega) rfl dX4_note_29 (fun H locs hw => ?_)
  refine lv_aload_n hx hb dX4_note_30 rfl (lv_at hl 0 rfl) ?_
  refine ww_get hx hb hts hin4 hown hw 0 rfl rfl 2 (by decide) k16 rfl dX4_note_31 ?_
  refine lv_aload_n hx hb dX4_note_34 rfl (lv_at hl 0 rfl) ?_
  refine ww_get hx hb hts hin4 hown hw 0 rfl rfl 7 (by decide) k78 rfl dX4_note_35 ?_
  refine lv_iload_n hx hb dX4_note_38 rfl (lv_at hl 2 rfl) ?_
  refine W.eq (g2 := F0 m 39 ls [.int (nI w), .int (nI (n + 1)), .ref (ra 2)]) rfl ?_
  refine lv_if_le (tgt := 51) hx hb dX4_note_39 (by decide) (fun c_39 => ?_) (fun c_39 => ?_)
  · refine lv_iconst (v := nI 0) hx hb dX4_note_51 (by decide +kernel) ?_
    refine ww_iast (ws' := [(a, .inr (4, [.ref (ra 0), .ref (ra 1), .ref (ra 2), .ref (ra 3), .ref (ra 4), .ref (ra 5), .ref (ra 6), .int (nI (n + 1)), .int (nI fo), .int (nI ch), .ref (ra 10), .ref (ra 11), .ref (ra 12), .ref (ra 13), .int (nI pt), .ref (ra 15), .ref (ra 16), .ref (ra 17), .ref (ra 18), .ref (ra 19), .int (nI wk), .ref (ra 21), .ref (ra 22), .ref (ra 23), .int (nI dn), .int (nI ap), .int lt, .ref (ra 27)])), ((ra 0), .inl (cI, 5200, .inl (upd (g 0) (n + 1) (nI k)))), ((ra 1), .inl (cI, 5200, .inl (upd (g 1) (n + 1) (nI w)))), ((ra 2), .inl (cI, 5200, .inl (upd (g 2) (n + 1) (nI 0)))), ((ra 3), .inl (cI, 5200, .inl (g 3))), ((ra 4), .inl (cI, 5200, .inl (g 4))), ((ra 5), .inl (cI, 5200, .inl (g 5))), ((ra 6), .inl (cI, 5200, .inl (g 6))), ((ra 10), .inl (cI, 20200, .inl (g 10))), ((ra 11), .inl (cI, 20200, .inl (g 11))), ((ra 12), .inl (cI, 20200, .inl (g 12))), ((ra 13), .inl (cI, 6500, .inl (g 13))), ((ra 15), .inl (cI, 512, .inl (g 15))), ((ra 16), .inl (cI, 64, .inl (g 16))), ((ra 17), .inl (cI, 64, .inl (g 17))), ((ra 18), .inl (cI, 512, .inl (g 18))), ((ra 19), .inl (cI, 64, .inl (g 19))), ((ra 21), .inl (cI, 201, .inl (g 21))), ((ra 22), .inl (cI, 201, .inl (g 22))), ((ra 23), .inl (cI, 201, .inl (g 23))), ((ra 27), .inl (cI, 4, .inl (g 27)))]) hx hb hw 3 rfl (n + 1) rfl (by omega) (by omega) rfl dX4_note_52 (fun H locs hw => ?_)
    refine lv_aload_n hx hb dX4_note_53 rfl (lv_at hl 0 rfl) ?_
    refine ww_get hx hb hts hin4 hown hw 0 rfl rfl 3 (by decide) k19 rfl dX4_note_54 ?_
    refine lv_aload_n hx hb dX4_note_57 rfl (lv_at hl 0 rfl) ?_
    refine ww_get hx hb hts hin4 hown hw 0 rfl rfl 7 (by decide) k78 rfl dX4_note_58 ?_
    refine lv_iconst (v := nI 0) hx hb dX4_note_61 (by decide +kernel) ?_
    refine ww_iast (ws' := [(a, .inr (4, [.ref (ra 0), .ref (ra 1), .ref (ra 2), .ref (ra 3), .ref (ra 4), .ref (ra 5), .ref (ra 6), .int (nI (n + 1)), .int (nI fo), .int (nI ch), .ref (ra 10), .ref (ra 11), .ref (ra 12), .ref (ra 13), .int (nI pt), .ref (ra 15), .ref (ra 16), .ref (ra 17), .ref (ra 18), .ref (ra 19), .int (nI wk), .ref (ra 21), .ref (ra 22), .ref (ra 23), .int (nI dn), .int (nI ap), .int lt, .ref (ra 27)])), ((ra 0), .inl (cI, 5200, .inl (upd (g 0) (n + 1) (nI k)))), ((ra 1), .inl (cI, 5200, .inl (upd (g 1) (n + 1) (nI w)))), ((ra 2), .inl (cI, 5200, .inl (upd (g 2) (n + 1) (nI 0)))), ((ra 3), .inl (cI, 5200, .inl (upd (g 3) (n + 1) (nI 0)))), ((ra 4), .inl (cI, 5200, .inl (g 4))), ((ra 5), .inl (cI, 5200, .inl (g 5))), ((ra 6), .inl (cI, 5200, .inl (g 6))), ((ra 10), .inl (cI, 20200, .inl (g 10))), ((ra 11), .inl (cI, 20200, .inl (g 11))), ((ra 12), .inl (cI, 20200, .inl (g 12))), ((ra 13), .inl (cI, 6500, .inl (g 13))), ((ra 15), .inl (cI, 512, .inl (g 15))), ((ra 16), .inl (cI, 64, .inl (g 16))), ((ra 17), .inl (cI, 64, .inl (g 17))), ((ra 18), .inl (cI, 512, .inl (g 18))), ((ra 19), .inl (cI, 64, .inl (g 19))), ((ra 21), .inl (cI, 201, .inl (g 21))), ((ra 22), .inl (cI, 201, .inl (g 22))), ((ra 23), .inl (cI, 201, .inl (g 23))), ((ra 27), .inl (cI, 4, .inl (g 27)))]) hx hb hw 4 rfl (n + 1) rfl (by omega) (by omega) rfl dX4_note_62 (fun H locs hw => ?_)
    refine lv_aload_n hx hb dX4_note_63 rfl (lv_at hl 0 rfl) ?_
    refine ww_get hx hb hts hin4 hown hw 0 rfl rfl 4 (by decide) k22 rfl dX4_note_64 ?_
    refine lv_aload_n hx hb dX4_note_67 rfl (lv_at hl 0 rfl) ?_
    refine W.eq (g2 := F0 m 68 ls [.ref a, .ref (ra 4)]) rfl ?_
    refine ww_get hx hb hts hin4 hown hw 0 rfl rfl 7 (by decide) k78 rfl dX4_note_68 ?_
    refine lv_iconst (v := nI 0) hx hb dX4_note_71 (by decide +kernel) ?_
    refine ww_iast (ws' := [(a, .inr (4, [.ref (ra 0), .ref (ra 1), .ref (ra 2), .ref (ra 3), .ref (ra 4), .ref (ra 5), .ref (ra 6), .int (nI (n + 1)), .int (nI fo), .int (nI ch), .ref (ra 10), .ref (ra 11), .ref (ra 12), .ref (ra 13), .int (nI pt), .ref (ra 15), .ref (ra 16), .ref (ra 17), .ref (ra 18), .ref (ra 19), .int (nI wk), .ref (ra 21), .ref (ra 22), .ref (ra 23), .int (nI dn), .int (nI ap), .int lt, .ref (ra 27)])), ((ra 0), .inl (cI, 5200, .inl (upd (g 0) (n + 1) (nI k)))), ((ra 1), .inl (cI, 5200, .inl (upd (g 1) (n + 1) (nI w)))), ((ra 2), .inl (cI, 5200, .inl (upd (g 2) (n + 1) (nI 0)))), ((ra 3), .inl (cI, 5200, .inl (upd (g 3) (n + 1) (nI 0)))), ((ra 4), .inl (cI, 5200, .inl (upd (g 4) (n + 1) (nI 0)))), ((ra 5), .inl (cI, 5200, .inl (g 5))), ((ra 6), .inl (cI, 5200, .inl (g 6))), ((ra 10), .inl (cI, 20200, .inl (g 10))), ((ra 11), .inl (cI, 20200, .inl (g 11))), ((ra 12), .inl (cI, 20200, .inl (g 12))), ((ra 13), .inl (cI, 6500, .inl (g 13))), ((ra 15), .inl (cI, 512, .inl (g 15))), ((ra 16), .inl (cI, 64, .inl (g 16))), ((ra 17), .inl (cI, 64, .inl (g 17))), ((ra 18), .inl (cI, 512, .inl (g 18))), ((ra 19), .inl (cI, 64, .inl (g 19))), ((ra 21), .inl (cI, 201, .inl (g 21))), ((ra 22), .inl (cI, 201, .inl (g 22))), ((ra 23), .inl (cI, 201, .inl (g 23))), ((ra 27), .inl (cI, 4, .inl (g 27)))]) hx hb hw 5 rfl (n + 1) rfl (by omega) (by omega) rfl dX4_note_72 (fun H locs hw => ?_)
    refine lv_aload_n hx hb dX4_note_73 rfl (lv_at hl 0 rfl) ?_
    refine ww_get hx hb hts hin4 hown hw 0 rfl rfl 5 (by decide) k25 rfl dX4_note_74 ?_
    refine lv_aload_n hx hb dX4_note_77 rfl (lv_at hl 0 rfl) ?_
    refine ww_get hx hb hts hin4 hown hw 0 rfl rfl 7 (by decide) k78 rfl dX4_note_78 ?_
    refine lv_iconst (v := nI 0) hx hb dX4_note_81 (by decide +kernel) ?_
    refine ww_iast (ws' := [(a, .inr (4, [.ref (ra 0), .ref (ra 1), .ref (ra 2), .ref (ra 3), .ref (ra 4), .ref (ra 5), .ref (ra 6), .int (nI (n + 1)), .int (nI fo), .int (nI ch), .ref (ra 10), .ref (ra 11), .ref (ra 12), .ref (ra 13), .int (nI pt), .ref (ra 15), .ref (ra 16), .ref (ra 17), .ref (ra 18), .ref (ra 19), .int (nI wk), .ref (ra 21), .ref (ra 22), .ref (ra 23), .int (nI dn), .int (nI ap), .int lt, .ref (ra 27)])), ((ra 0), .inl (cI, 5200, .inl (upd (g 0) (n + 1) (nI k)))), ((ra 1), .inl (cI, 5200, .inl (upd (g 1) (n + 1) (nI w)))), ((ra 2), .inl (cI, 5200, .inl (upd (g 2) (n + 1) (nI 0)))), ((ra 3), .inl (cI, 5200, .inl (upd (g 3) (n + 1) (nI 0)))), ((ra 4), .inl (cI, 5200, .inl (upd (g 4) (n + 1) (nI 0)))), ((ra 5), .inl (cI, 5200, .inl (upd (g 5) (n + 1) (nI 0)))), ((ra 6), .inl (cI, 5200, .inl (g 6))), ((ra 10), .inl (cI, 20200, .inl (g 10))), ((ra 11), .inl (cI, 20200, .inl (g 11))), ((ra 12), .inl (cI, 20200, .inl (g 12))), ((ra 13), .inl (cI, 6500, .inl (g 13))), ((ra 15), .inl (cI, 512, .inl (g 15))), ((ra 16), .inl (cI, 64, .inl (g 16))), ((ra 17), .inl (cI, 64, .inl (g 17))), ((ra 18), .inl (cI, 512, .inl (g 18))), ((ra 19), .inl (cI, 64, .inl (g 19))), ((ra 21), .inl (cI, 201, .inl (g 21))), ((ra 22), .inl (cI, 201, .inl (g 22))), ((ra 23), .inl (cI, 201, .inl (g 23))), ((ra 27), .inl (cI, 4, .inl (g 27)))]) hx hb hw 6 rfl (n + 1) rfl (by omega) (by omega) rfl dX4_note_82 (fun H locs hw => ?_)
    refine lv_aload_n hx hb dX4_note_83 rfl (lv_at hl 0 rfl) ?_
    refine ww_get hx hb hts hin4 hown hw 0 rfl rfl 6 (by decide) k28 rfl dX4_note_84 ?_
    refine lv_aload_n hx hb dX4_note_87 rfl (lv_at hl 0 rfl) ?_
    refine W.eq (g2 := F0 m 88 ls [.ref a, .ref (ra 6)]) rfl ?_
    refine ww_get hx hb hts hin4 hown hw 0 rfl rfl 7 (by decide) k78 rfl dX4_note_88 ?_
    refine lv_iconst (v := nI 0) hx hb dX4_note_91 (by decide +kernel) ?_
    refine ww_iast (ws' := [(a, .inr (4, [.ref (ra 0), .ref (ra 1), .ref (ra 2), .ref (ra 3), .ref (ra 4), .ref (ra 5), .ref (ra 6), .int (nI (n + 1)), .int (nI fo), .int (nI ch), .ref (ra 10), .ref (ra 11), .ref (ra 12), .ref (ra 13), .int (nI pt), .ref (ra 15), .ref (ra 16), .ref (ra 17), .ref (ra 18), .ref (ra 19), .int (nI wk), .ref (ra 21), .ref (ra 22), .ref (ra 23), .int (nI dn), .int (nI ap), .int lt, .ref (ra 27)])), ((ra 0), .inl (cI, 5200, .inl (upd (g 0) (n + 1) (nI k)))), ((ra 1), .inl (cI, 5200, .inl (upd (g 1) (n + 1) (nI w)))), ((ra 2), .inl (cI, 5200, .inl (upd (g 2) (n + 1) (nI 0)))), ((ra 3), .inl (cI, 5200, .inl (upd (g 3) (n + 1) (nI 0)))), ((ra 4), .inl (cI, 5200, .inl (upd (g 4) (n + 1) (nI 0)))), ((ra 5), .inl (cI, 5200, .inl (upd (g 5) (n + 1) (nI 0)))), ((ra 6), .inl (cI, 5200, .inl (upd (g 6) (n + 1) (nI 0)))), ((ra 10), .inl (cI, 20200, .inl (g 10))), ((ra 11), .inl (cI, 20200, .inl (g 11))), ((ra 12), .inl (cI, 20200, .inl (g 12))), ((ra 13), .inl (cI, 6500, .inl (g 13))), ((ra 15), .inl (cI, 512, .inl (g 15))), ((ra 16), .inl (cI, 64, .inl (g 16))), ((ra 17), .inl (cI, 64, .inl (g 17))), ((ra 18), .inl (cI, 512, .inl (g 18))), ((ra 19), .inl (cI, 64, .inl (g 19))), ((ra 21), .inl (cI, 201, .inl (g 21))), ((ra 22), .inl (cI, 201, .inl (g 22))), ((ra 23), .inl (cI, 201, .inl (g 23))), ((ra 27), .inl (cI, 4, .inl (g 27)))]) hx hb hw 7 rfl (n + 1) rfl (by omega) (by omega) rfl dX4_note_92 (fun H locs hw => ?_)
    refine lv_iload_n hx hb dX4_note_93 rfl (lv_at hl 2 rfl) ?_
    refine lv_if_le (tgt := 107) hx hb dX4_note_94 (by decide) (fun c_94 => ?_) (fun c_94 => absurd (c_39) c_94)
    refine lv_aload_n hx hb dX4_note_107 rfl (lv_at hl 0 rfl) ?_
    refine ww_get hx hb hts hin4 hown hw 0 rfl rfl 7 (by decide) k78 rfl dX4_note_108 ?_
    exact ww_iret (u := (va_up (va_up (va_up (va_up (va_up (va_up (va_up g 0 (upd (g 0) (n + 1) (nI k))) 1 (upd (g 1) (n + 1) (nI w))) 2 (upd (g 2) (n + 1) (nI 0))) 3 (upd (g 3) (n + 1) (nI 0))) 4 (upd (g 4) (n + 1) (nI 0))) 5 (upd (g 5) (n + 1) (nI 0))) 6 (upd (g 6) (n + 1) (nI 0)))) hx hb hr hlk hw (by have n7 := note_7 g n (nI k) (nI w) (nI 0) (nI 0) (nI 0) (nI 0) (nI 0) rfl; have hw0 : w = 0 := (nI_le0 (by omega)).mp c_39; exact ⟨rfl, n7.1, by rw [if_pos hw0]; exact n7.2.1, fun c hc _ => n7.2.2 c hc, by rw [if_pos hw0]; exact n7.2.2 22 (by omega)⟩) (Nat.le_of_ble_eq_true rfl) (Nat.le_of_ble_eq_true rfl) dX4_note_111
  · refine lv_aload_n hx hb dX4_note_42 rfl (lv_at hl 0 rfl) ?_
    refine ww_get hx hb hts hin4 hown hw 0 rfl rfl 22 (by decide) k61 rfl dX4_note_43 ?_
    refine lv_iload_n hx hb dX4_note_46 rfl (lv_at hl 2 rfl) ?_
    refine ww_iald hx hb hw 18 rfl w rfl (by omega) (by omega) dX4_note_47 ?_
    refine lv_goto (tgt := 52) hx hb dX4_note_48 (by decide) ?_
    refine ww_iast (ws' := [(a, .inr (4, [.ref (ra 0), .ref (ra 1), .ref (ra 2), .ref (ra 3), .ref (ra 4), .ref (ra 5), .ref (ra 6), .int (nI (n + 1)), .int (nI fo), .int (nI ch), .ref (ra 10), .ref (ra 11), .ref (ra 12), .ref (ra 13), .int (nI pt), .ref (ra 15), .ref (ra 16), .ref (ra 17), .ref (ra 18), .ref (ra 19), .int (nI wk), .ref (ra 21), .ref (ra 22), .ref (ra 23), .int (nI dn), .int (nI ap), .int lt, .ref (ra 27)])), ((ra 0), .inl (cI, 5200, .inl (upd (g 0) (n + 1) (nI k)))), ((ra 1), .inl (cI, 5200, .inl (upd (g 1) (n + 1) (nI w)))), ((ra 2), .inl (cI, 5200, .inl (upd (g 2) (n + 1) ((g 22) w)))), ((ra 3), .inl (cI, 5200, .inl (g 3))), ((ra 4), .inl (cI, 5200, .inl (g 4))), ((ra 5), .inl (cI, 5200, .inl (g 5))), ((ra 6), .inl (cI, 5200, .inl (g 6))), ((ra 10), .inl (cI, 20200, .inl (g 10))), ((ra 11), .inl (cI, 20200, .inl (g 11))), ((ra 12), .inl (cI, 20200, .inl (g 12))), ((ra 13), .inl (cI, 6500, .inl (g 13))), ((ra 15), .inl (cI, 512, .inl (g 15))), ((ra 16), .inl (cI, 64, .inl (g 16))), ((ra 17), .inl (cI, 64, .inl (g 17))), ((ra 18), .inl (cI, 512, .inl (g 18))), ((ra 19), .inl (cI, 64, .inl (g 19))), ((ra 21), .inl (cI, 201, .inl (g 21))), ((ra 22), .inl (cI, 201, .inl (g 22))), ((ra 23), .inl (cI, 201, .inl (g 23))), ((ra 27), .inl (cI, 4, .inl (g 27)))]) hx hb hw 3 rfl (n + 1) rfl (by omega) (by omega) rfl dX4_note_52 (fun H locs hw => ?_)
    refine lv_aload_n hx hb dX4_note_53 rfl (lv_at hl 0 rfl) ?_
    refine ww_get hx hb hts hin4 hown hw 0 rfl rfl 3 (by decide) k19 rfl dX4_note_54 ?_
    refine lv_aload_n hx hb dX4_note_57 rfl (lv_at hl 0 rfl) ?_
    refine ww_get hx hb hts hin4 hown hw 0 rfl rfl 7 (by decide) k78 rfl dX4_note_58 ?_
    refine lv_iconst (v := nI 0) hx hb dX4_note_61 (by decide +kernel) ?_
    refine W.eq (g2 := F0 m 62 ls [.int (nI 0), .int (nI (n + 1)), .ref (ra 3)]) rfl ?_
    refine ww_iast (ws' := [(a, .inr (4, [.ref (ra 0), .ref (ra 1), .ref (ra 2), .ref (ra 3), .ref (ra 4), .ref (ra 5), .ref (ra 6), .int (nI (n + 1)), .int (nI fo), .int (nI ch), .ref (ra 10), .ref (ra 11), .ref (ra 12), .ref (ra 13), .int (nI pt), .ref (ra 15), .ref (ra 16), .ref (ra 17), .ref (ra 18), .ref (ra 19), .int (nI wk), .ref (ra 21), .ref (ra 22), .ref (ra 23), .int (nI dn), .int (nI ap), .int lt, .ref (ra 27)])), ((ra 0), .inl (cI, 5200, .inl (upd (g 0) (n + 1) (nI k)))), ((ra 1), .inl (cI, 5200, .inl (upd (g 1) (n + 1) (nI w)))), ((ra 2), .inl (cI, 5200, .inl (upd (g 2) (n + 1) ((g 22) w)))), ((ra 3), .inl (cI, 5200, .inl (upd (g 3) (n + 1) (nI 0)))), ((ra 4), .inl (cI, 5200, .inl (g 4))), ((ra 5), .inl (cI, 5200, .inl (g 5))), ((ra 6), .inl (cI, 5200, .inl (g 6))), ((ra 10), .inl (cI, 20200, .inl (g 10))), ((ra 11), .inl (cI, 20200, .inl (g 11))), ((ra 12), .inl (cI, 20200, .inl (g 12))), ((ra 13), .inl (cI, 6500, .inl (g 13))), ((ra 15), .inl (cI, 512, .inl (g 15))), ((ra 16), .inl (cI, 64, .inl (g 16))), ((ra 17), .inl (cI, 64, .inl (g 17))), ((ra 18), .inl (cI, 512, .inl (g 18))), ((ra 19), .inl (cI, 64, .inl (g 19))), ((ra 21), .inl (cI, 201, .inl (g 21))), ((ra 22), .inl (cI, 201, .inl (g 22))), ((ra 23), .inl (cI, 201, .inl (g 23))), ((ra 27), .inl (cI, 4, .inl (g 27)))]) hx hb hw 4 rfl (n + 1) rfl (by omega) (by omega) rfl dX4_note_62 (fun H locs hw => ?_)
    refine lv_aload_n hx hb dX4_note_63 rfl (lv_at hl 0 rfl) ?_
    refine ww_get hx hb hts hin4 hown hw 0 rfl rfl 4 (by decide) k22 rfl dX4_note_64 ?_
    refine lv_aload_n hx hb dX4_note_67 rfl (lv_at hl 0 rfl) ?_
    refine ww_get hx hb hts hin4 hown hw 0 rfl rfl 7 (by decide) k78 rfl dX4_note_68 ?_
    refine lv_iconst (v := nI 0) hx hb dX4_note_71 (by decide +kernel) ?_
    refine ww_iast (ws' := [(a, .inr (4, [.ref (ra 0), .ref (ra 1), .ref (ra 2), .ref (ra 3), .ref (ra 4), .ref (ra 5), .ref (ra 6), .int (nI (n + 1)), .int (nI fo), .int (nI ch), .ref (ra 10), .ref (ra 11), .ref (ra 12), .ref (ra 13), .int (nI pt), .ref (ra 15), .ref (ra 16), .ref (ra 17), .ref (ra 18), .ref (ra 19), .int (nI wk), .ref (ra 21), .ref (ra 22), .ref (ra 23), .int (nI dn), .int (nI ap), .int lt, .ref (ra 27)])), ((ra 0), .inl (cI, 5200, .inl (upd (g 0) (n + 1) (nI k)))), ((ra 1), .inl (cI, 5200, .inl (upd (g 1) (n + 1) (nI w)))), ((ra 2), .inl (cI, 5200, .inl (upd (g 2) (n + 1) ((g 22) w)))), ((ra 3), .inl (cI, 5200, .inl (upd (g 3) (n + 1) (nI 0)))), ((ra 4), .inl (cI, 5200, .inl (upd (g 4) (n + 1) (nI 0)))), ((ra 5), .inl (cI, 5200, .inl (g 5))), ((ra 6), .inl (cI, 5200, .inl (g 6))), ((ra 10), .inl (cI, 20200, .inl (g 10))), ((ra 11), .inl (cI, 20200, .inl (g 11))), ((ra 12), .inl (cI, 20200, .inl (g 12))), ((ra 13), .inl (cI, 6500, .inl (g 13))), ((ra 15), .inl (cI, 512, .inl (g 15))), ((ra 16), .inl (cI, 64, .inl (g 16))), ((ra 17), .inl (cI, 64, .inl (g 17))), ((ra 18), .inl (cI, 512, .inl (g 18))), ((ra 19), .inl (cI, 64, .inl (g 19))), ((ra 21), .inl (cI, 201, .inl (g 21))), ((ra 22), .inl (cI, 201, .inl (g 22))), ((ra 23), .inl (cI, 201, .inl (g 23))), ((ra 27), .inl (cI, 4, .inl (g 27)))]) hx hb hw 5 rfl (n + 1) rfl (by omega) (by omega) rfl dX4_note_72 (fun H locs hw => ?_)
    refine lv_aload_n hx hb dX4_note_73 rfl (lv_at hl 0 rfl) ?_
    refine ww_get hx hb hts hin4 hown hw 0 rfl rfl 5 (by decide) k25 rfl dX4_note_74 ?_
    refine lv_aload_n hx hb dX4_note_77 rfl (lv_at hl 0 rfl) ?_
    refine ww_get hx hb hts hin4 hown hw 0 rfl rfl 7 (by decide) k78 rfl dX4_note_78 ?_
    refine lv_iconst (v := nI 0) hx hb dX4_note_81 (by decide +kernel) ?_
    refine W.eq (g2 := F0 m 82 ls [.int (nI 0), .int (nI (n + 1)), .ref (ra 5)]) rfl ?_
    refine ww_iast (ws' := [(a, .inr (4, [.ref (ra 0), .ref (ra 1), .ref (ra 2), .ref (ra 3), .ref (ra 4), .ref (ra 5), .ref (ra 6), .int (nI (n + 1)), .int (nI fo), .int (nI ch), .ref (ra 10), .ref (ra 11), .ref (ra 12), .ref (ra 13), .int (nI pt), .ref (ra 15), .ref (ra 16), .ref (ra 17), .ref (ra 18), .ref (ra 19), .int (nI wk), .ref (ra 21), .ref (ra 22), .ref (ra 23), .int (nI dn), .int (nI ap), .int lt, .ref (ra 27)])), ((ra 0), .inl (cI, 5200, .inl (upd (g 0) (n + 1) (nI k)))), ((ra 1), .inl (cI, 5200, .inl (upd (g 1) (n + 1) (nI w)))), ((ra 2), .inl (cI, 5200, .inl (upd (g 2) (n + 1) ((g 22) w)))), ((ra 3), .inl (cI, 5200, .inl (upd (g 3) (n + 1) (nI 0)))), ((ra 4), .inl (cI, 5200, .inl (upd (g 4) (n + 1) (nI 0)))), ((ra 5), .inl (cI, 5200, .inl (upd (g 5) (n + 1) (nI 0)))), ((ra 6), .inl (cI, 5200, .inl (g 6))), ((ra 10), .inl (cI, 20200, .inl (g 10))), ((ra 11), .inl (cI, 20200, .inl (g 11))), ((ra 12), .inl (cI, 20200, .inl (g 12))), ((ra 13), .inl (cI, 6500, .inl (g 13))), ((ra 15), .inl (cI, 512, .inl (g 15))), ((ra 16), .inl (cI, 64, .inl (g 16))), ((ra 17), .inl (cI, 64, .inl (g 17))), ((ra 18), .inl (cI, 512, .inl (g 18))), ((ra 19), .inl (cI, 64, .inl (g 19))), ((ra 21), .inl (cI, 201, .inl (g 21))), ((ra 22), .inl (cI, 201, .inl (g 22))), ((ra 23), .inl (cI, 201, .inl (g 23))), ((ra 27), .inl (cI, 4, .inl (g 27)))]) hx hb hw 6 rfl (n + 1) rfl (by omega) (by omega) rfl dX4_note_82 (fun H locs hw => ?_)
    refine lv_aload_n hx hb dX4_note_83 rfl (lv_at hl 0 rfl) ?_
    refine ww_get hx hb hts hin4 hown hw 0 rfl rfl 6 (by decide) k28 rfl dX4_note_84 ?_
    refine lv_aload_n hx hb dX4_note_87 rfl (lv_at hl 0 rfl) ?_
    refine ww_get hx hb hts hin4 hown hw 0 rfl rfl 7 (by decide) k78 rfl dX4_note_88 ?_
    refine lv_iconst (v := nI 0) hx hb dX4_note_91 (by decide +kernel) ?_
    refine ww_iast (ws' := [(a, .inr (4, [.ref (ra 0), .ref (ra 1), .ref (ra 2), .ref (ra 3), .ref (ra 4), .ref (ra 5), .ref (ra 6), .int (nI (n + 1)), .int (nI fo), .int (nI ch), .ref (ra 10), .ref (ra 11), .ref (ra 12), .ref (ra 13), .int (nI pt), .ref (ra 15), .ref (ra 16), .ref (ra 17), .ref (ra 18), .ref (ra 19), .int (nI wk), .ref (ra 21), .ref (ra 22), .ref (ra 23), .int (nI dn), .int (nI ap), .int lt, .ref (ra 27)])), ((ra 0), .inl (cI, 5200, .inl (upd (g 0) (n + 1) (nI k)))), ((ra 1), .inl (cI, 5200, .inl (upd (g 1) (n + 1) (nI w)))), ((ra 2), .inl (cI, 5200, .inl (upd (g 2) (n + 1) ((g 22) w)))), ((ra 3), .inl (cI, 5200, .inl (upd (g 3) (n + 1) (nI 0)))), ((ra 4), .inl (cI, 5200, .inl (upd (g 4) (n + 1) (nI 0)))), ((ra 5), .inl (cI, 5200, .inl (upd (g 5) (n + 1) (nI 0)))), ((ra 6), .inl (cI, 5200, .inl (upd (g 6) (n + 1) (nI 0)))), ((ra 10), .inl (cI, 20200, .inl (g 10))), ((ra 11), .inl (cI, 20200, .inl (g 11))), ((ra 12), .inl (cI, 20200, .inl (g 12))), ((ra 13), .inl (cI, 6500, .inl (g 13))), ((ra 15), .inl (cI, 512, .inl (g 15))), ((ra 16), .inl (cI, 64, .inl (g 16))), ((ra 17), .inl (cI, 64, .inl (g 17))), ((ra 18), .inl (cI, 512, .inl (g 18))), ((ra 19), .inl (cI, 64, .inl (g 19))), ((ra 21), .inl (cI, 201, .inl (g 21))), ((ra 22), .inl (cI, 201, .inl (g 22))), ((ra 23), .inl (cI, 201, .inl (g 23))), ((ra 27), .inl (cI, 4, .inl (g 27)))]) hx hb hw 7 rfl (n + 1) rfl (by omega) (by omega) rfl dX4_note_92 (fun H locs hw => ?_)
    refine lv_iload_n hx hb dX4_note_93 rfl (lv_at hl 2 rfl) ?_
    refine lv_if_le (tgt := 107) hx hb dX4_note_94 (by decide) (fun c_94 => absurd c_94 (c_39)) (fun c_94 => ?_)
    refine lv_aload_n hx hb dX4_note_97 rfl (lv_at hl 0 rfl) ?_
    refine ww_get hx hb hts hin4 hown hw 0 rfl rfl 22 (by decide) k61 rfl dX4_note_98 ?_
    refine lv_iload_n hx hb dX4_note_101 rfl (lv_at hl 2 rfl) ?_
    refine W.eq (g2 := F0 m 102 ls [.int (nI w), .ref (ra 22)]) rfl ?_
    refine lv_aload_n hx hb dX4_note_102 rfl (lv_at hl 0 rfl) ?_
    refine ww_get hx hb hts hin4 hown hw 0 rfl rfl 7 (by decide) k78 rfl dX4_note_103 ?_
    refine ww_iast (ws' := [(a, .inr (4, [.ref (ra 0), .ref (ra 1), .ref (ra 2), .ref (ra 3), .ref (ra 4), .ref (ra 5), .ref (ra 6), .int (nI (n + 1)), .int (nI fo), .int (nI ch), .ref (ra 10), .ref (ra 11), .ref (ra 12), .ref (ra 13), .int (nI pt), .ref (ra 15), .ref (ra 16), .ref (ra 17), .ref (ra 18), .ref (ra 19), .int (nI wk), .ref (ra 21), .ref (ra 22), .ref (ra 23), .int (nI dn), .int (nI ap), .int lt, .ref (ra 27)])), ((ra 0), .inl (cI, 5200, .inl (upd (g 0) (n + 1) (nI k)))), ((ra 1), .inl (cI, 5200, .inl (upd (g 1) (n + 1) (nI w)))), ((ra 2), .inl (cI, 5200, .inl (upd (g 2) (n + 1) ((g 22) w)))), ((ra 3), .inl (cI, 5200, .inl (upd (g 3) (n + 1) (nI 0)))), ((ra 4), .inl (cI, 5200, .inl (upd (g 4) (n + 1) (nI 0)))), ((ra 5), .inl (cI, 5200, .inl (upd (g 5) (n + 1) (nI 0)))), ((ra 6), .inl (cI, 5200, .inl (upd (g 6) (n + 1) (nI 0)))), ((ra 10), .inl (cI, 20200, .inl (g 10))), ((ra 11), .inl (cI, 20200, .inl (g 11))), ((ra 12), .inl (cI, 20200, .inl (g 12))), ((ra 13), .inl (cI, 6500, .inl (g 13))), ((ra 15), .inl (cI, 512, .inl (g 15))), ((ra 16), .inl (cI, 64, .inl (g 16))), ((ra 17), .inl (cI, 64, .inl (g 17))), ((ra 18), .inl (cI, 512, .inl (g 18))), ((ra 19), .inl (cI, 64, .inl (g 19))), ((ra 21), .inl (cI, 201, .inl (g 21))), ((ra 22), .inl (cI, 201, .inl (upd (g 22) w (nI (n + 1))))), ((ra 23), .inl (cI, 201, .inl (g 23))), ((ra 27), .inl (cI, 4, .inl (g 27)))]) hx hb hw 18 rfl w rfl (by omega) (by omega) rfl dX4_note_106 (fun H locs hw => ?_)
    refine lv_aload_n hx hb dX4_note_107 rfl (lv_at hl 0 rfl) ?_
    refine ww_get hx hb hts hin4 hown hw 0 rfl rfl 7 (by decide) k78 rfl dX4_note_108 ?_
    exact ww_iret (u := (va_up (va_up (va_up (va_up (va_up (va_up (va_up (va_up g 0 (upd (g 0) (n + 1) (nI k))) 1 (upd (g 1) (n + 1) (nI w))) 2 (upd (g 2) (n + 1) ((g 22) w))) 3 (upd (g 3) (n + 1) (nI 0))) 4 (upd (g 4) (n + 1) (nI 0))) 5 (upd (g 5) (n + 1) (nI 0))) 6 (upd (g 6) (n + 1) (nI 0))) 22 (upd (g 22) w (nI (n + 1))))) hx hb hr hlk hw (⟨rfl, note_8 g n k w (fun z => c_39 (by rw [z]; decide)) rfl rfl⟩) (Nat.le_of_ble_eq_true rfl) (Nat.le_of_ble_eq_true rfl) dX4_note_111
set_option maxHeartbeats 1000000 in
set_option maxRecDepth 100000 in
theorem cM_forceTo (l : Launch) (D : va_G) (cI : ClassId) (a : Nat) (ra : Nat → Nat) (g : Nat → Nat → Int32) (n fo ch pt wk dn ap : Nat) (lt : Int32) (y1 : Int32) (hn : n < 2 ^ 31) (hf : fo < 2 ^ 31) : Kt l yX4_forceTo wsX4_forceTo 0 0 (0) (0) D cI [.ref a, .int y1] ([(a, .inr (4, [.ref (ra 0), .ref (ra 1), .ref (ra 2), .ref (ra 3), .ref (ra 4), .ref (ra 5), .ref (ra 6), .int (nI n), .int (nI fo), .int (nI ch), .ref (ra 10), .ref (ra 11), .ref (ra 12), .ref (ra 13), .int (nI pt), .ref (ra 15), .ref (ra 16), .ref (ra 17), .ref (ra 18), .ref (ra 19), .int (nI wk), .ref (ra 21), .ref (ra 22), .ref (ra 23), .int (nI dn), .int (nI ap), .int lt, .ref (ra 27)])), ((ra 0), .inl (cI, 5200, .inl (g 0))), ((ra 1), .inl (cI, 5200, .inl (g 1))), ((ra 2), .inl (cI, 5200, .inl (g 2))), ((ra 3), .inl (cI, 5200, .inl (g 3))), ((ra 4), .inl (cI, 5200, .inl (g 4))), ((ra 5), .inl (cI, 5200, .inl (g 5))), ((ra 6), .inl (cI, 5200, .inl (g 6))), ((ra 10), .inl (cI, 20200, .inl (g 10))), ((ra 11), .inl (cI, 20200, .inl (g 11))), ((ra 12), .inl (cI, 20200, .inl (g 12))), ((ra 13), .inl (cI, 6500, .inl (g 13))), ((ra 15), .inl (cI, 512, .inl (g 15))), ((ra 16), .inl (cI, 64, .inl (g 16))), ((ra 17), .inl (cI, 64, .inl (g 17))), ((ra 18), .inl (cI, 512, .inl (g 18))), ((ra 19), .inl (cI, 64, .inl (g 19))), ((ra 21), .inl (cI, 201, .inl (g 21))), ((ra 22), .inl (cI, 201, .inl (g 22))), ((ra 23), .inl (cI, 201, .inl (g 23))), ((ra 27), .inl (cI, 4, .inl (g 27)))]) (pV (fun (u : Unit) => True)) (fun (u : Unit) => [(a, .inr (4, [.ref (ra 0), .ref (ra 1), .ref (ra 2), .ref (ra 3), .ref (ra 4), .ref (ra 5), .ref (ra 6), .int (nI n), .int (nI (max fo (min y1.toNatClampNeg n))), .int (nI ch), .ref (ra 10), .ref (ra 11), .ref (ra 12), .ref (ra 13), .int (nI pt), .ref (ra 15), .ref (ra 16), .ref (ra 17), .ref (ra 18), .ref (ra 19), .int (nI wk), .ref (ra 21), .ref (ra 22), .ref (ra 23), .int (nI dn), .int (nI ap), .int lt, .ref (ra 27)])), ((ra 0), .inl (cI, 5200, .inl (g 0))), ((ra 1), .inl (cI, 5200, .inl (g 1))), ((ra 2), .inl (cI, 5200, .inl (g 2))), ((ra 3), .inl (cI, 5200, .inl (g 3))), ((ra 4), .inl (cI, 5200, .inl (g 4))), ((ra 5), .inl (cI, 5200, .inl (g 5))), ((ra 6), .inl (cI, 5200, .inl (g 6))), ((ra 10), .inl (cI, 20200, .inl (g 10))), ((ra 11), .inl (cI, 20200, .inl (g 11))), ((ra 12), .inl (cI, 20200, .inl (g 12))), ((ra 13), .inl (cI, 6500, .inl (g 13))), ((ra 15), .inl (cI, 512, .inl (g 15))), ((ra 16), .inl (cI, 64, .inl (g 16))), ((ra 17), .inl (cI, 64, .inl (g 17))), ((ra 18), .inl (cI, 512, .inl (g 18))), ((ra 19), .inl (cI, 64, .inl (g 19))), ((ra 21), .inl (cI, 201, .inl (g 21))), ((ra 22), .inl (cI, 201, .inl (g 22))), ((ra 23), .inl (cI, 201, .inl (g 23))), ((ra 27), .inl (cI, 4, .inl (g 27)))]) := by
  refine kt_start (cc := cX4_forceTo) (maxL := 3) (ret := none) (by decide +kernel) rfl (Nat.le_of_ble_eq_true rfl) ?_
  intro p e s m below meth c hx hb hml hr hlk hown hnm hts ls hl hw
  have hown : s.vm.findClass RX4 = some m.cls := hown
  have hl : lv_has ls 3 [(0, .ref a), (1, .int y1)] := hl
  have k78 := hts (.fieldLink RX4 78 "RestartBookModel" "records" "I") (by decide +kernel)
  have k81 := hts (.fieldLink RX4 81 "RestartBookModel" "forced" "I") (by decide +kernel)
  have hin4 : ∀ w ∈ u_ws RX4 TX4 28, w ∈ wsX4_forceTo := in_X4_forceTo
  refine lv_iload_n hx hb dX4_forceTo_0 rfl (lv_at hl 1 rfl) ?_
  refine lv_aload_n hx hb dX4_forceTo_1 rfl (lv_at hl 0 rfl) ?_
  refine ww_get hx hb hts hin4 hown hw 0 rfl rfl 7 (by decide) k78 rfl dX4_forceTo_2 ?_
  refine lv_icmp_ge (tgt := 12) hx hb dX4_forceTo_5 (by decide) (fun c_5 => ?_) (fun c_5 => ?_)
  · refine lv_aload_n hx hb dX4_forceTo_12 rfl (lv_at hl 0 rfl) ?_
    refine ww_get hx hb hts hin4 hown hw 0 rfl rfl 7 (by decide) k78 rfl dX4_forceTo_13 ?_
    refine lv_istore_n (lv' := [(2, .int (nI n)), (0, .ref a), (1, .int y1)]) hx hb dX4_forceTo_16 rfl hl (by decide) rfl (fun ls hl => ?_)
    refine lv_aload_n hx hb dX4_forceTo_17 rfl (lv_at hl 1 rfl) ?_
    refine lv_iload_n hx hb dX4_forceTo_18 rfl (lv_at hl 0 rfl) ?_
    refine lv_aload_n hx hb dX4_forceTo_19 rfl (lv_at hl 1 rfl) ?_
    refine ww_get hx hb hts hin4 hown hw 0 rfl rfl 8 (by decide) k81 rfl dX4_forceTo_20 ?_
    refine lv_icmp_le (tgt := 30) hx hb dX4_forceTo_23 (by decide) (fun c_23 => ?_) (fun c_23 => ?_)
    · refine lv_aload_n hx hb dX4_forceTo_30 rfl (lv_at hl 1 rfl) ?_
      refine ww_get hx hb hts hin4 hown hw 0 rfl rfl 8 (by decide) k81 rfl dX4_forceTo_31 ?_
      have hm : (if nI n < y1 then nI n else y1) = nI n := by split; rfl; (rw [i_le] at c_5; rename_i q; rw [i_lt] at q; exact i_eq.mpr (by omega))
      refine lv_eqi (show _ = nI (max fo (min y1.toNatClampNeg n)) from by rw [← nI_force y1 hn hf, hm]; rw [if_neg]; rw [i_lt]; rw [i_le] at c_23; omega) ?_
      refine ww_put (ws' := [(a, .inr (4, [.ref (ra 0), .ref (ra 1), .ref (ra 2), .ref (ra 3), .ref (ra 4), .ref (ra 5), .ref (ra 6), .int (nI n), .int (nI (max fo (min y1.toNatClampNeg n))), .int (nI ch), .ref (ra 10), .ref (ra 11), .ref (ra 12), .ref (ra 13), .int (nI pt), .ref (ra 15), .ref (ra 16), .ref (ra 17), .ref (ra 18), .ref (ra 19), .int (nI wk), .ref (ra 21), .ref (ra 22), .ref (ra 23), .int (nI dn), .int (nI ap), .int lt, .ref (ra 27)])), ((ra 0), .inl (cI, 5200, .inl (g 0))), ((ra 1), .inl (cI, 5200, .inl (g 1))), ((ra 2), .inl (cI, 5200, .inl (g 2))), ((ra 3), .inl (cI, 5200, .inl (g 3))), ((ra 4), .inl (cI, 5200, .inl (g 4))), ((ra 5), .inl (cI, 5200, .inl (g 5))), ((ra 6), .inl (cI, 5200, .inl (g 6))), ((ra 10), .inl (cI, 20200, .inl (g 10))), ((ra 11), .inl (cI, 20200, .inl (g 11))), ((ra 12), .inl (cI, 20200, .inl (g 12))), ((ra 13), .inl (cI, 6500, .inl (g 13))), ((ra 15), .inl (cI, 512, .inl (g 15))), ((ra 16), .inl (cI, 64, .inl (g 16))), ((ra 17), .inl (cI, 64, .inl (g 17))), ((ra 18), .inl (cI, 512, .inl (g 18))), ((ra 19), .inl (cI, 64, .inl (g 19))), ((ra 21), .inl (cI, 201, .inl (g 21))), ((ra 22), .inl (cI, 201, .inl (g 22))), ((ra 23), .inl (cI, 201, .inl (g 23))), ((ra 27), .inl (cI, 4, .inl (g 27)))]) hx hb hts hin4 tyX4 tyX4_ok nmX4 hown hw 0 rfl rfl 8 (by decide) k81 rfl rfl rfl (Nat.le_of_ble_eq_true rfl) rfl dX4_forceTo_34 (fun H locs hw => ?_)
      exact ww_vret (u := ()) hx hb hr hlk hw (trivial) (Nat.le_of_ble_eq_true rfl) (Nat.le_of_ble_eq_true rfl) rfl dX4_forceTo_37
    · refine lv_iload_n hx hb dX4_forceTo_26 rfl (lv_at hl 0 rfl) ?_
      refine lv_goto (tgt := 34) hx hb dX4_forceTo_27 (by decide) ?_
      have hm : (if nI n < y1 then nI n else y1) = nI n := by split; rfl; (rw [i_le] at c_5; rename_i q; rw [i_lt] at q; exact i_eq.mpr (by omega))
      refine lv_eqi (show _ = nI (max fo (min y1.toNatClampNeg n)) from by rw [← nI_force y1 hn hf, hm]; rw [if_pos]; rw [i_lt]; rw [i_le] at c_23; omega) ?_
      refine ww_put (ws' := [(a, .inr (4, [.ref (ra 0), .ref (ra 1), .ref (ra 2), .ref (ra 3), .ref (ra 4), .ref (ra 5), .ref (ra 6), .int (nI n), .int (nI (max fo (min y1.toNatClampNeg n))), .int (nI ch), .ref (ra 10), .ref (ra 11), .ref (ra 12), .ref (ra 13), .int (nI pt), .ref (ra 15), .ref (ra 16), .ref (ra 17), .ref (ra 18), .ref (ra 19), .int (nI wk), .ref (ra 21), .ref (ra 22), .ref (ra 23), .int (nI dn), .int (nI ap), .int lt, .ref (ra 27)])), ((ra 0), .inl (cI, 5200, .inl (g 0))), ((ra 1), .inl (cI, 5200, .inl (g 1))), ((ra 2), .inl (cI, 5200, .inl (g 2))), ((ra 3), .inl (cI, 5200, .inl (g 3))), ((ra 4), .inl (cI, 5200, .inl (g 4))), ((ra 5), .inl (cI, 5200, .inl (g 5))), ((ra 6), .inl (cI, 5200, .inl (g 6))), ((ra 10), .inl (cI, 20200, .inl (g 10))), ((ra 11), .inl (cI, 20200, .inl (g 11))), ((ra 12), .inl (cI, 20200, .inl (g 12))), ((ra 13), .inl (cI, 6500, .inl (g 13))), ((ra 15), .inl (cI, 512, .inl (g 15))), ((ra 16), .inl (cI, 64, .inl (g 16))), ((ra 17), .inl (cI, 64, .inl (g 17))), ((ra 18), .inl (cI, 512, .inl (g 18))), ((ra 19), .inl (cI, 64, .inl (g 19))), ((ra 21), .inl (cI, 201, .inl (g 21))), ((ra 22), .inl (cI, 201, .inl (g 22))), ((ra 23), .inl (cI, 201, .inl (g 23))), ((ra 27), .inl (cI, 4, .inl (g 27)))]) hx hb hts hin4 tyX4 tyX4_ok nmX4 hown hw 0 rfl rfl 8 (by decide) k81 rfl rfl rfl (Nat.le_of_ble_eq_true rfl) rfl dX4_forceTo_34 (fun H locs hw => ?_)
      exact ww_vret (u := ()) hx hb hr hlk hw (trivial) (Nat.le_of_ble_eq_true rfl) (Nat.le_of_ble_eq_true rfl) rfl dX4_forceTo_37
  · refine lv_iload_n hx hb dX4_forceTo_8 rfl (lv_at hl 1 rfl) ?_
    refine lv_goto (tgt := 16) hx hb dX4_forceTo_9 (by decide) ?_
    refine lv_istore_n (lv' := [(2, .int y1), (0, .ref a), (1, .int y1)]) hx hb dX4_forceTo_16 rfl hl (by decide) rfl (fun ls hl => ?_)
    refine lv_aload_n hx hb dX4_forceTo_17 rfl (lv_at hl 1 rfl) ?_
    refine lv_iload_n hx hb dX4_forceTo_18 rfl (lv_at hl 0 rfl) ?_
    refine lv_aload_n hx hb dX4_forceTo_19 rfl (lv_at hl 1 rfl) ?_
    refine ww_get hx hb hts hin4 hown hw 0 rfl rfl 8 (by decide) k81 rfl dX4_forceTo_20 ?_
    refine lv_icmp_le (tgt := 30) hx hb dX4_forceTo_23 (by decide) (fun c_23 => ?_) (fun c_23 => ?_)
    · refine lv_aload_n hx hb dX4_forceTo_30 rfl (lv_at hl 1 rfl) ?_
      refine ww_get hx hb hts hin4 hown hw 0 rfl rfl 8 (by decide) k81 rfl dX4_forceTo_31 ?_
      have hm : (if nI n < y1 then nI n else y1) = y1 := by rw [if_neg]; rw [i_lt]; rw [i_le] at c_5; omega
      refine lv_eqi (show _ = nI (max fo (min y1.toNatClampNeg n)) from by rw [← nI_force y1 hn hf, hm]; rw [if_neg]; rw [i_lt]; rw [i_le] at c_23; omega) ?_
      refine ww_put (ws' := [(a, .inr (4, [.ref (ra 0), .ref (ra 1), .ref (ra 2), .ref (ra 3), .ref (ra 4), .ref (ra 5), .ref (ra 6), .int (nI n), .int (nI (max fo (min y1.toNatClampNeg n))), .int (nI ch), .ref (ra 10), .ref (ra 11), .ref (ra 12), .ref (ra 13), .int (nI pt), .ref (ra 15), .ref (ra 16), .ref (ra 17), .ref (ra 18), .ref (ra 19), .int (nI wk), .ref (ra 21), .ref (ra 22), .ref (ra 23), .int (nI dn), .int (nI ap), .int lt, .ref (ra 27)])), ((ra 0), .inl (cI, 5200, .inl (g 0))), ((ra 1), .inl (cI, 5200, .inl (g 1))), ((ra 2), .inl (cI, 5200, .inl (g 2))), ((ra 3), .inl (cI, 5200, .inl (g 3))), ((ra 4), .inl (cI, 5200, .inl (g 4))), ((ra 5), .inl (cI, 5200, .inl (g 5))), ((ra 6), .inl (cI, 5200, .inl (g 6))), ((ra 10), .inl (cI, 20200, .inl (g 10))), ((ra 11), .inl (cI, 20200, .inl (g 11))), ((ra 12), .inl (cI, 20200, .inl (g 12))), ((ra 13), .inl (cI, 6500, .inl (g 13))), ((ra 15), .inl (cI, 512, .inl (g 15))), ((ra 16), .inl (cI, 64, .inl (g 16))), ((ra 17), .inl (cI, 64, .inl (g 17))), ((ra 18), .inl (cI, 512, .inl (g 18))), ((ra 19), .inl (cI, 64, .inl (g 19))), ((ra 21), .inl (cI, 201, .inl (g 21))), ((ra 22), .inl (cI, 201, .inl (g 22))), ((ra 23), .inl (cI, 201, .inl (g 23))), ((ra 27), .inl (cI, 4, .inl (g 27)))]) hx hb hts hin4 tyX4 tyX4_ok nmX4 hown hw 0 rfl rfl 8 (by decide) k81 rfl rfl rfl (Nat.le_of_ble_eq_true rfl) rfl dX4_forceTo_34 (fun H locs hw => ?_)
      exact ww_vret (u := ()) hx hb hr hlk hw (trivial) (Nat.le_of_ble_eq_true rfl) (Nat.le_of_ble_eq_true rfl) rfl dX4_forceTo_37
    · refine lv_iload_n hx hb dX4_forceTo_26 rfl (lv_at hl 0 rfl) ?_
      refine lv_goto (tgt := 34) hx hb dX4_forceTo_27 (by decide) ?_
      have hm : (if nI n < y1 then nI n else y1) = y1 := by rw [if_neg]; rw [i_lt]; rw [i_le] at c_5; omega
      refine lv_eqi (show _ = nI (max fo (min y1.toNatClampNeg n)) from by rw [← nI_force y1 hn hf, hm]; rw [if_pos]; rw [i_lt]; rw [i_le] at c_23; omega) ?_
      refine ww_put (ws' := [(a, .inr (4, [.ref (ra 0), .ref (ra 1), .ref (ra 2), .ref (ra 3), .ref (ra 4), .ref (ra 5), .ref (ra 6), .int (nI n), .int (nI (max fo (min y1.toNatClampNeg n))), .int (nI ch), .ref (ra 10), .ref (ra 11), .ref (ra 12), .ref (ra 13), .int (nI pt), .ref (ra 15), .ref (ra 16), .ref (ra 17), .ref (ra 18), .ref (ra 19), .int (nI wk), .ref (ra 21), .ref (ra 22), .ref (ra 23), .int (nI dn), .int (nI ap), .int lt, .ref (ra 27)])), ((ra 0), .inl (cI, 5200, .inl (g 0))), ((ra 1), .inl (cI, 5200, .inl (g 1))), ((ra 2), .inl (cI, 5200, .inl (g 2))), ((ra 3), .inl (cI, 5200, .inl (g 3))), ((ra 4), .inl (cI, 5200, .inl (g 4))), ((ra 5), .inl (cI, 5200, .inl (g 5))), ((ra 6), .inl (cI, 5200, .inl (g 6))), ((ra 10), .inl (cI, 20200, .inl (g 10))), ((ra 11), .inl (cI, 20200, .inl (g 11))), ((ra 12), .inl (cI, 20200, .inl (g 12))), ((ra 13), .inl (cI, 6500, .inl (g 13))), ((ra 15), .inl (cI, 512, .inl (g 15))), ((ra 16), .inl (cI, 64, .inl (g 16))), ((ra 17), .inl (cI, 64, .inl (g 17))), ((ra 18), .inl (cI, 512, .inl (g 18))), ((ra 19), .inl (cI, 64, .inl (g 19))), ((ra 21), .inl (cI, 201, .inl (g 21))), ((ra 22), .inl (cI, 201, .inl (g 22))), ((ra 23), .inl (cI, 201, .inl (g 23))), ((ra 27), .inl (cI, 4, .inl (g 27)))]) hx hb hts hin4 tyX4 tyX4_ok nmX4 hown hw 0 rfl rfl 8 (by decide) k81 rfl rfl rfl (Nat.le_of_ble_eq_true rfl) rfl dX4_forceTo_34 (fun H locs hw => ?_)
      exact ww_vret (u := ()) hx hb hr hlk hw (trivial) (Nat.le_of_ble_eq_true rfl) (Nat.le_of_ble_eq_true rfl) rfl dX4_forceTo_37
set_option maxHeartbeats 1000000 in
set_option maxRecDepth 100000 in
theorem cM_makeDirty (l : Launch) (D : va_G) (cI : ClassId) (a : Nat) (ra : Nat → Nat) (g : Nat → Nat → Int32) (n fo ch pt wk dn ap : Nat) (lt : Int32) (pg : Nat) (y : Int32) (hp : pg < 64) : Kt l yX4_makeDirty wsX4_makeDirty 0 0 (0) (0) D cI [.ref a, .int (nI pg), .int y] ([(a, .inr (4, [.ref (ra 0), .ref (ra 1), .ref (ra 2), .ref (ra 3), .ref (ra 4), .ref (ra 5), .ref (ra 6), .int (nI n), .int (nI fo), .int (nI ch), .ref (ra 10), .ref (ra 11), .ref (ra 12), .ref (ra 13), .int (nI pt), .ref (ra 15), .ref (ra 16), .ref (ra 17), .ref (ra 18), .ref (ra 19), .int (nI wk), .ref (ra 21), .ref (ra 22), .ref (ra 23), .int (nI dn), .int (nI ap), .int lt, .ref (ra 27)])), ((ra 0), .inl (cI, 5200, .inl (g 0))), ((ra 1), .inl (cI, 5200, .inl (g 1))), ((ra 2), .inl (cI, 5200, .inl (g 2))), ((ra 3), .inl (cI, 5200, .inl (g 3))), ((ra 4), .inl (cI, 5200, .inl (g 4))), ((ra 5), .inl (cI, 5200, .inl (g 5))), ((ra 6), .inl (cI, 5200, .inl (g 6))), ((ra 10), .inl (cI, 20200, .inl (g 10))), ((ra 11), .inl (cI, 20200, .inl (g 11))), ((ra 12), .inl (cI, 20200, .inl (g 12))), ((ra 13), .inl (cI, 6500, .inl (g 13))), ((ra 15), .inl (cI, 512, .inl (g 15))), ((ra 16), .inl (cI, 64, .inl (g 16))), ((ra 17), .inl (cI, 64, .inl (g 17))), ((ra 18), .inl (cI, 512, .inl (g 18))), ((ra 19), .inl (cI, 64, .inl (g 19))), ((ra 21), .inl (cI, 201, .inl (g 21))), ((ra 22), .inl (cI, 201, .inl (g 22))), ((ra 23), .inl (cI, 201, .inl (g 23))), ((ra 27), .inl (cI, 4, .inl (g 27)))]) (pV (fun (u : Nat → Nat → Int32) => u = if g 17 pg = -1 then va_up g 17 (upd (g 17) pg y) else g)) (fun (u : Nat → Nat → Int32) => [(a, .inr (4, [.ref (ra 0), .ref (ra 1), .ref (ra 2), .ref (ra 3), .ref (ra 4), .ref (ra 5), .ref (ra 6), .int (nI n), .int (nI fo), .int (nI ch), .ref (ra 10), .ref (ra 11), .ref (ra 12), .ref (ra 13), .int (nI pt), .ref (ra 15), .ref (ra 16), .ref (ra 17), .ref (ra 18), .ref (ra 19), .int (nI wk), .ref (ra 21), .ref (ra 22), .ref (ra 23), .int (nI dn), .int (nI ap), .int lt, .ref (ra 27)])), ((ra 0), .inl (cI, 5200, .inl (u 0))), ((ra 1), .inl (cI, 5200, .inl (u 1))), ((ra 2), .inl (cI, 5200, .inl (u 2))), ((ra 3), .inl (cI, 5200, .inl (u 3))), ((ra 4), .inl (cI, 5200, .inl (u 4))), ((ra 5), .inl (cI, 5200, .inl (u 5))), ((ra 6), .inl (cI, 5200, .inl (u 6))), ((ra 10), .inl (cI, 20200, .inl (u 10))), ((ra 11), .inl (cI, 20200, .inl (u 11))), ((ra 12), .inl (cI, 20200, .inl (u 12))), ((ra 13), .inl (cI, 6500, .inl (u 13))), ((ra 15), .inl (cI, 512, .inl (u 15))), ((ra 16), .inl (cI, 64, .inl (u 16))), ((ra 17), .inl (cI, 64, .inl (u 17))), ((ra 18), .inl (cI, 512, .inl (u 18))), ((ra 19), .inl (cI, 64, .inl (u 19))), ((ra 21), .inl (cI, 201, .inl (u 21))), ((ra 22), .inl (cI, 201, .inl (u 22))), ((ra 23), .inl (cI, 201, .inl (u 23))), ((ra 27), .inl (cI, 4, .inl (u 27)))]) := by
  refine kt_start (cc := cX4_makeDirty) (maxL := 3) (ret := none) (by decide +kernel) rfl (Nat.le_of_ble_eq_true rfl) ?_
  intro p e s m below meth c hx hb hml hr hlk hown hnm hts ls hl hw
  have hown : s.vm.findClass RX4 = some m.cls := hown
  have hl : lv_has ls 3 [(0, .ref a), (1, .int (nI pg)), (2, .int y)] := hl
  have k49 := hts (.fieldLink RX4 49 "RestartBookModel" "bases" "[I") (by decide +kernel)
  have hin4 : ∀ w ∈ u_ws RX4 TX4 28, w ∈ wsX4_makeDirty := in_X4_makeDirty
  refine lv_aload_n hx hb dX4_makeDirty_0 rfl (lv_at hl 0 rfl) ?_
  refine ww_get hx hb hts hin4 hown hw 0 rfl rfl 17 (by decide) k49 rfl dX4_makeDirty_1 ?_
  refine lv_iload_n hx hb dX4_makeDirty_4 rfl (lv_at hl 1 rfl) ?_
  refine ww_iald hx hb hw 14 rfl pg rfl (by omega) (by omega) dX4_makeDirty_5 ?_
  refine lv_iconst (v := (-1)) hx hb dX4_makeDirty_6 (by decide +kernel) ?_
  refine lv_icmp_ne (tgt := 17) hx hb dX4_makeDirty_7 (by decide) (fun c_7 => ?_) (fun c_7 => ?_)
  · exact ww_vret (u := g) hx hb hr hlk hw ((if_neg c_7).symm) (Nat.le_of_ble_eq_true rfl) (Nat.le_of_ble_eq_true rfl) rfl dX4_makeDirty_17
  · refine lv_aload_n hx hb dX4_makeDirty_10 rfl (lv_at hl 0 rfl) ?_
    refine ww_get hx hb hts hin4 hown hw 0 rfl rfl 17 (by decide) k49 rfl dX4_makeDirty_11 ?_
    refine lv_iload_n hx hb dX4_makeDirty_14 rfl (lv_at hl 1 rfl) ?_
    refine lv_iload_n hx hb dX4_makeDirty_15 rfl (lv_at hl 2 rfl) ?_
    refine ww_iast (ws' := [(a, .inr (4, [.ref (ra 0), .ref (ra 1), .ref (ra 2), .ref (ra 3), .ref (ra 4), .ref (ra 5), .ref (ra 6), .int (nI n), .int (nI fo), .int (nI ch), .ref (ra 10), .ref (ra 11), .ref (ra 12), .ref (ra 13), .int (nI pt), .ref (ra 15), .ref (ra 16), .ref (ra 17), .ref (ra 18), .ref (ra 19), .int (nI wk), .ref (ra 21), .ref (ra 22), .ref (ra 23), .int (nI dn), .int (nI ap), .int lt, .ref (ra 27)])), ((ra 0), .inl (cI, 5200, .inl (g 0))), ((ra 1), .inl (cI, 5200, .inl (g 1))), ((ra 2), .inl (cI, 5200, .inl (g 2))), ((ra 3), .inl (cI, 5200, .inl (g 3))), ((ra 4), .inl (cI, 5200, .inl (g 4))), ((ra 5), .inl (cI, 5200, .inl (g 5))), ((ra 6), .inl (cI, 5200, .inl (g 6))), ((ra 10), .inl (cI, 20200, .inl (g 10))), ((ra 11), .inl (cI, 20200, .inl (g 11))), ((ra 12), .inl (cI, 20200, .inl (g 12))), ((ra 13), .inl (cI, 6500, .inl (g 13))), ((ra 15), .inl (cI, 512, .inl (g 15))), ((ra 16), .inl (cI, 64, .inl (g 16))), ((ra 17), .inl (cI, 64, .inl (upd (g 17) pg y))), ((ra 18), .inl (cI, 512, .inl (g 18))), ((ra 19), .inl (cI, 64, .inl (g 19))), ((ra 21), .inl (cI, 201, .inl (g 21))), ((ra 22), .inl (cI, 201, .inl (g 22))), ((ra 23), .inl (cI, 201, .inl (g 23))), ((ra 27), .inl (cI, 4, .inl (g 27)))]) hx hb hw 14 rfl pg rfl (by omega) (by omega) rfl dX4_makeDirty_16 (fun H locs hw => ?_)
    exact ww_vret (u := (va_up g 17 (upd (g 17) pg y))) hx hb hr hlk hw ((if_pos c_7).symm) (Nat.le_of_ble_eq_true rfl) (Nat.le_of_ble_eq_true rfl) rfl dX4_makeDirty_17
set_option maxHeartbeats 1000000 in
set_option maxRecDepth 100000 in
theorem cM_apply (l : Launch) (D : va_G) (cI : ClassId) (a : Nat) (ra : Nat → Nat) (g : Nat → Nat → Int32) (n fo ch pt wk dn ap : Nat) (lt : Int32) (q pg wd : Nat) (hq : q < 5200) (hp : pg < 64) (hd : wd < 8) (h3 : g 3 q = nI pg) (h4 : g 4 q = nI wd) : Kt l yX4_apply wsX4_apply 0 0 (0) (0) D cI [.ref a, .int (nI q)] ([(a, .inr (4, [.ref (ra 0), .ref (ra 1), .ref (ra 2), .ref (ra 3), .ref (ra 4), .ref (ra 5), .ref (ra 6), .int (nI n), .int (nI fo), .int (nI ch), .ref (ra 10), .ref (ra 11), .ref (ra 12), .ref (ra 13), .int (nI pt), .ref (ra 15), .ref (ra 16), .ref (ra 17), .ref (ra 18), .ref (ra 19), .int (nI wk), .ref (ra 21), .ref (ra 22), .ref (ra 23), .int (nI dn), .int (nI ap), .int lt, .ref (ra 27)])), ((ra 0), .inl (cI, 5200, .inl (g 0))), ((ra 1), .inl (cI, 5200, .inl (g 1))), ((ra 2), .inl (cI, 5200, .inl (g 2))), ((ra 3), .inl (cI, 5200, .inl (g 3))), ((ra 4), .inl (cI, 5200, .inl (g 4))), ((ra 5), .inl (cI, 5200, .inl (g 5))), ((ra 6), .inl (cI, 5200, .inl (g 6))), ((ra 10), .inl (cI, 20200, .inl (g 10))), ((ra 11), .inl (cI, 20200, .inl (g 11))), ((ra 12), .inl (cI, 20200, .inl (g 12))), ((ra 13), .inl (cI, 6500, .inl (g 13))), ((ra 15), .inl (cI, 512, .inl (g 15))), ((ra 16), .inl (cI, 64, .inl (g 16))), ((ra 17), .inl (cI, 64, .inl (g 17))), ((ra 18), .inl (cI, 512, .inl (g 18))), ((ra 19), .inl (cI, 64, .inl (g 19))), ((ra 21), .inl (cI, 201, .inl (g 21))), ((ra 22), .inl (cI, 201, .inl (g 22))), ((ra 23), .inl (cI, 201, .inl (g 23))), ((ra 27), .inl (cI, 4, .inl (g 27)))]) (pV (fun (u : Nat → Nat → Int32) => u = va_up (va_up g 15 (upd (g 15) (8 * pg + wd) (g 15 (8 * pg + wd) + g 5 q))) 16 (upd (g 16) pg (nI q)))) (fun (u : Nat → Nat → Int32) => [(a, .inr (4, [.ref (ra 0), .ref (ra 1), .ref (ra 2), .ref (ra 3), .ref (ra 4), .ref (ra 5), .ref (ra 6), .int (nI n), .int (nI fo), .int (nI ch), .ref (ra 10), .ref (ra 11), .ref (ra 12), .ref (ra 13), .int (nI pt), .ref (ra 15), .ref (ra 16), .ref (ra 17), .ref (ra 18), .ref (ra 19), .int (nI wk), .ref (ra 21), .ref (ra 22), .ref (ra 23), .int (nI dn), .int (nI ap), .int lt, .ref (ra 27)])), ((ra 0), .inl (cI, 5200, .inl (u 0))), ((ra 1), .inl (cI, 5200, .inl (u 1))), ((ra 2), .inl (cI, 5200, .inl (u 2))), ((ra 3), .inl (cI, 5200, .inl (u 3))), ((ra 4), .inl (cI, 5200, .inl (u 4))), ((ra 5), .inl (cI, 5200, .inl (u 5))), ((ra 6), .inl (cI, 5200, .inl (u 6))), ((ra 10), .inl (cI, 20200, .inl (u 10))), ((ra 11), .inl (cI, 20200, .inl (u 11))), ((ra 12), .inl (cI, 20200, .inl (u 12))), ((ra 13), .inl (cI, 6500, .inl (u 13))), ((ra 15), .inl (cI, 512, .inl (u 15))), ((ra 16), .inl (cI, 64, .inl (u 16))), ((ra 17), .inl (cI, 64, .inl (u 17))), ((ra 18), .inl (cI, 512, .inl (u 18))), ((ra 19), .inl (cI, 64, .inl (u 19))), ((ra 21), .inl (cI, 201, .inl (u 21))), ((ra 22), .inl (cI, 201, .inl (u 22))), ((ra 23), .inl (cI, 201, .inl (u 23))), ((ra 27), .inl (cI, 4, .inl (u 27)))]) := by
  refine kt_start (cc := cX4_apply) (maxL := 3) (ret := none) (by decide +kernel) rfl (Nat.le_of_ble_eq_true rfl) ?_
  intro p e s m below meth c hx hb hml hr hlk hown hnm hts ls hl hw
  have hown : s.vm.findClass RX4 = some m.cls := hown
  have hl : lv_has ls 3 [(0, .ref a), (1, .int (nI q))] := hl
  have k19 := hts (.fieldLink RX4 19 "RestartBookModel" "pages" "[I") (by decide +kernel)
  have k22 := hts (.fieldLink RX4 22 "RestartBookModel" "words" "[I") (by decide +kernel)
  have k25 := hts (.fieldLink RX4 25 "RestartBookModel" "sums" "[I") (by decide +kernel)
  have k43 := hts (.fieldLink RX4 43 "RestartBookModel" "memory" "[I") (by decide +kernel)
  have k46 := hts (.fieldLink RX4 46 "RestartBookModel" "marks" "[I") (by decide +kernel)
  have hin4 : ∀ w ∈ u_ws RX4 TX4 28, w ∈ wsX4_apply := in_X4_apply
  refine lv_aload_n hx hb dX4_apply_0 rfl (lv_at hl 0 rfl) ?_
  refine ww_get hx hb hts hin4 hown hw 0 rfl rfl 3 (by decide) k19 rfl dX4_apply_1 ?_
  refine lv_iload_n hx hb dX4_apply_4 rfl (lv_at hl 1 rfl) ?_
  refine ww_iald hx hb hw 4 rfl q rfl (by omega) (by omega) dX4_apply_5 ?_
  refine lv_eqi (show _ = nI pg from h3) ?_
  refine lv_istore_n (lv' := [(2, .int (nI pg)), (0, .ref a), (1, .int (nI q))]) hx hb dX4_apply_6 rfl hl (by decide) rfl (fun ls hl => ?_)
  refine lv_aload_n hx hb dX4_apply_7 rfl (lv_at hl 1 rfl) ?_
  refine ww_get hx hb hts hin4 hown hw 0 rfl rfl 15 (by decide) k43 rfl dX4_apply_8 ?_
  refine lv_bipush (v := nI 8) hx hb dX4_apply_11 (by decide +kernel) ?_
  refine lv_iload_n hx hb dX4_apply_13 rfl (lv_at hl 0 rfl) ?_
  refine lv_imul hx hb dX4_apply_14 ?_
  refine lv_eqi (show _ = nI (8 * pg) from pk_mul _ _) ?_
  refine lv_aload_n hx hb dX4_apply_15 rfl (lv_at hl 1 rfl) ?_
  refine W.eq (g2 := F0 m 16 ls [.ref a, .int (nI (8 * pg)), .ref (ra 15)]) rfl ?_
  refine ww_get hx hb hts hin4 hown hw 0 rfl rfl 4 (by decide) k22 rfl dX4_apply_16 ?_
  refine lv_iload_n hx hb dX4_apply_19 rfl (lv_at hl 2 rfl) ?_
  refine ww_iald hx hb hw 5 rfl q rfl (by omega) (by omega) dX4_apply_20 ?_
  refine lv_eqi (show _ = nI wd from h4) ?_
  refine lv_iadd hx hb dX4_apply_21 ?_
  refine lv_eqi (show _ = nI ((8 * pg) + wd) from nI_add _ _) ?_
  refine lv_dup2_11 hx hb dX4_apply_22 rfl rfl ?_
  refine ww_iald hx hb hw 12 rfl ((8 * pg) + wd) rfl (by omega) (by omega) dX4_apply_23 ?_
  refine lv_aload_n hx hb dX4_apply_24 rfl (lv_at hl 1 rfl) ?_
  refine ww_get hx hb hts hin4 hown hw 0 rfl rfl 5 (by decide) k25 rfl dX4_apply_25 ?_
  refine lv_iload_n hx hb dX4_apply_28 rfl (lv_at hl 2 rfl) ?_
  refine ww_iald hx hb hw 6 rfl q rfl (by omega) (by omega) dX4_apply_29 ?_
  refine lv_iadd hx hb dX4_apply_30 ?_
  refine ww_iast (ws' := [(a, .inr (4, [.ref (ra 0), .ref (ra 1), .ref (ra 2), .ref (ra 3), .ref (ra 4), .ref (ra 5), .ref (ra 6), .int (nI n), .int (nI fo), .int (nI ch), .ref (ra 10), .ref (ra 11), .ref (ra 12), .ref (ra 13), .int (nI pt), .ref (ra 15), .ref (ra 16), .ref (ra 17), .ref (ra 18), .ref (ra 19), .int (nI wk), .ref (ra 21), .ref (ra 22), .ref (ra 23), .int (nI dn), .int (nI ap), .int lt, .ref (ra 27)])), ((ra 0), .inl (cI, 5200, .inl (g 0))), ((ra 1), .inl (cI, 5200, .inl (g 1))), ((ra 2), .inl (cI, 5200, .inl (g 2))), ((ra 3), .inl (cI, 5200, .inl (g 3))), ((ra 4), .inl (cI, 5200, .inl (g 4))), ((ra 5), .inl (cI, 5200, .inl (g 5))), ((ra 6), .inl (cI, 5200, .inl (g 6))), ((ra 10), .inl (cI, 20200, .inl (g 10))), ((ra 11), .inl (cI, 20200, .inl (g 11))), ((ra 12), .inl (cI, 20200, .inl (g 12))), ((ra 13), .inl (cI, 6500, .inl (g 13))), ((ra 15), .inl (cI, 512, .inl (upd (g 15) ((8 * pg) + wd) (((g 15) ((8 * pg) + wd)) + ((g 5) q))))), ((ra 16), .inl (cI, 64, .inl (g 16))), ((ra 17), .inl (cI, 64, .inl (g 17))), ((ra 18), .inl (cI, 512, .inl (g 18))), ((ra 19), .inl (cI, 64, .inl (g 19))), ((ra 21), .inl (cI, 201, .inl (g 21))), ((ra 22), .inl (cI, 201, .inl (g 22))), ((ra 23), .inl (cI, 201, .inl (g 23))), ((ra 27), .inl (cI, 4, .inl (g 27)))]) hx hb hw 12 rfl ((8 * pg) + wd) rfl (by omega) (by omega) rfl dX4_apply_31 (fun H locs hw => ?_)
  refine W.eq (g2 := F0 m 32 ls []) rfl ?_
  refine lv_aload_n hx hb dX4_apply_32 rfl (lv_at hl 1 rfl) ?_
  refine ww_get hx hb hts hin4 hown hw 0 rfl rfl 16 (by decide) k46 rfl dX4_apply_33 ?_
  refine lv_iload_n hx hb dX4_apply_36 rfl (lv_at hl 0 rfl) ?_
  refine lv_iload_n hx hb dX4_apply_37 rfl (lv_at hl 2 rfl) ?_
  refine ww_iast (ws' := [(a, .inr (4, [.ref (ra 0), .ref (ra 1), .ref (ra 2), .ref (ra 3), .ref (ra 4), .ref (ra 5), .ref (ra 6), .int (nI n), .int (nI fo), .int (nI ch), .ref (ra 10), .ref (ra 11), .ref (ra 12), .ref (ra 13), .int (nI pt), .ref (ra 15), .ref (ra 16), .ref (ra 17), .ref (ra 18), .ref (ra 19), .int (nI wk), .ref (ra 21), .ref (ra 22), .ref (ra 23), .int (nI dn), .int (nI ap), .int lt, .ref (ra 27)])), ((ra 0), .inl (cI, 5200, .inl (g 0))), ((ra 1), .inl (cI, 5200, .inl (g 1))), ((ra 2), .inl (cI, 5200, .inl (g 2))), ((ra 3), .inl (cI, 5200, .inl (g 3))), ((ra 4), .inl (cI, 5200, .inl (g 4))), ((ra 5), .inl (cI, 5200, .inl (g 5))), ((ra 6), .inl (cI, 5200, .inl (g 6))), ((ra 10), .inl (cI, 20200, .inl (g 10))), ((ra 11), .inl (cI, 20200, .inl (g 11))), ((ra 12), .inl (cI, 20200, .inl (g 12))), ((ra 13), .inl (cI, 6500, .inl (g 13))), ((ra 15), .inl (cI, 512, .inl (upd (g 15) ((8 * pg) + wd) (((g 15) ((8 * pg) + wd)) + ((g 5) q))))), ((ra 16), .inl (cI, 64, .inl (upd (g 16) pg (nI q)))), ((ra 17), .inl (cI, 64, .inl (g 17))), ((ra 18), .inl (cI, 512, .inl (g 18))), ((ra 19), .inl (cI, 64, .inl (g 19))), ((ra 21), .inl (cI, 201, .inl (g 21))), ((ra 22), .inl (cI, 201, .inl (g 22))), ((ra 23), .inl (cI, 201, .inl (g 23))), ((ra 27), .inl (cI, 4, .inl (g 27)))]) hx hb hw 13 rfl pg rfl (by omega) (by omega) rfl dX4_apply_38 (fun H locs hw => ?_)
  exact ww_vret (u := (va_up (va_up g 15 (upd (g 15) ((8 * pg) + wd) (((g 15) ((8 * pg) + wd)) + ((g 5) q)))) 16 (upd (g 16) pg (nI q)))) hx hb hr hlk hw (rfl) (Nat.le_of_ble_eq_true rfl) (Nat.le_of_ble_eq_true rfl) rfl dX4_apply_39
set_option maxHeartbeats 1000000 in
set_option maxRecDepth 100000 in
theorem cM_open (l : Launch) (D : va_G) (cI : ClassId) (a : Nat) (ra : Nat → Nat) (g : Nat → Nat → Int32) (n fo ch pt wk dn ap : Nat) (lt : Int32) (q : Nat) (hq : q < 5200) (hk : q = 0 ∨ g 0 q = nI 1 ∨ g 0 q = nI 2) : Kt l yX4_open wsX4_open 0 0 (0) (0) D cI [.ref a, .int (nI q)] ([(a, .inr (4, [.ref (ra 0), .ref (ra 1), .ref (ra 2), .ref (ra 3), .ref (ra 4), .ref (ra 5), .ref (ra 6), .int (nI n), .int (nI fo), .int (nI ch), .ref (ra 10), .ref (ra 11), .ref (ra 12), .ref (ra 13), .int (nI pt), .ref (ra 15), .ref (ra 16), .ref (ra 17), .ref (ra 18), .ref (ra 19), .int (nI wk), .ref (ra 21), .ref (ra 22), .ref (ra 23), .int (nI dn), .int (nI ap), .int lt, .ref (ra 27)])), ((ra 0), .inl (cI, 5200, .inl (g 0))), ((ra 1), .inl (cI, 5200, .inl (g 1))), ((ra 2), .inl (cI, 5200, .inl (g 2))), ((ra 3), .inl (cI, 5200, .inl (g 3))), ((ra 4), .inl (cI, 5200, .inl (g 4))), ((ra 5), .inl (cI, 5200, .inl (g 5))), ((ra 6), .inl (cI, 5200, .inl (g 6))), ((ra 10), .inl (cI, 20200, .inl (g 10))), ((ra 11), .inl (cI, 20200, .inl (g 11))), ((ra 12), .inl (cI, 20200, .inl (g 12))), ((ra 13), .inl (cI, 6500, .inl (g 13))), ((ra 15), .inl (cI, 512, .inl (g 15))), ((ra 16), .inl (cI, 64, .inl (g 16))), ((ra 17), .inl (cI, 64, .inl (g 17))), ((ra 18), .inl (cI, 512, .inl (g 18))), ((ra 19), .inl (cI, 64, .inl (g 19))), ((ra 21), .inl (cI, 201, .inl (g 21))), ((ra 22), .inl (cI, 201, .inl (g 22))), ((ra 23), .inl (cI, 201, .inl (g 23))), ((ra 27), .inl (cI, 4, .inl (g 27)))]) (pI (fun (r : Int32) (u : Unit) => r = if q ≠ 0 ∧ g 0 q = nI 2 then g 6 q else nI q)) (fun (u : Unit) => [(a, .inr (4, [.ref (ra 0), .ref (ra 1), .ref (ra 2), .ref (ra 3), .ref (ra 4), .ref (ra 5), .ref (ra 6), .int (nI n), .int (nI fo), .int (nI ch), .ref (ra 10), .ref (ra 11), .ref (ra 12), .ref (ra 13), .int (nI pt), .ref (ra 15), .ref (ra 16), .ref (ra 17), .ref (ra 18), .ref (ra 19), .int (nI wk), .ref (ra 21), .ref (ra 22), .ref (ra 23), .int (nI dn), .int (nI ap), .int lt, .ref (ra 27)])), ((ra 0), .inl (cI, 5200, .inl (g 0))), ((ra 1), .inl (cI, 5200, .inl (g 1))), ((ra 2), .inl (cI, 5200, .inl (g 2))), ((ra 3), .inl (cI, 5200, .inl (g 3))), ((ra 4), .inl (cI, 5200, .inl (g 4))), ((ra 5), .inl (cI, 5200, .inl (g 5))), ((ra 6), .inl (cI, 5200, .inl (g 6))), ((ra 10), .inl (cI, 20200, .inl (g 10))), ((ra 11), .inl (cI, 20200, .inl (g 11))), ((ra 12), .inl (cI, 20200, .inl (g 12))), ((ra 13), .inl (cI, 6500, .inl (g 13))), ((ra 15), .inl (cI, 512, .inl (g 15))), ((ra 16), .inl (cI, 64, .inl (g 16))), ((ra 17), .inl (cI, 64, .inl (g 17))), ((ra 18), .inl (cI, 512, .inl (g 18))), ((ra 19), .inl (cI, 64, .inl (g 19))), ((ra 21), .inl (cI, 201, .inl (g 21))), ((ra 22), .inl (cI, 201, .inl (g 22))), ((ra 23), .inl (cI, 201, .inl (g 23))), ((ra 27), .inl (cI, 4, .inl (g 27)))]) := by
  refine kt_start (cc := cX4_open) (maxL := 3) (ret := (some .int)) (by decide +kernel) rfl (Nat.le_of_ble_eq_true rfl) ?_
  intro p e s m below meth c hx hb hml hr hlk hown hnm hts ls hl hw
  have hown : s.vm.findClass RX4 = some m.cls := hown
  have hl : lv_has ls 3 [(0, .ref a), (1, .int (nI q))] := hl
  have k7 := hts (.fieldLink RX4 7 "RestartBookModel" "kinds" "[I") (by decide +kernel)
  have k16 := hts (.fieldLink RX4 16 "RestartBookModel" "befores" "[I") (by decide +kernel)
  have k28 := hts (.fieldLink RX4 28 "RestartBookModel" "goals" "[I") (by decide +kernel)
  have hin4 : ∀ w ∈ u_ws RX4 TX4 28, w ∈ wsX4_open := in_X4_open
  refine lv_iload_n hx hb dX4_open_0 rfl (lv_at hl 1 rfl) ?_
  refine lv_istore_n (lv' := [(2, .int (nI q)), (0, .ref a), (1, .int (nI q))]) hx hb dX4_open_1 rfl hl (by decide) rfl (fun ls hl => ?_)
  refine lv_iload_n hx hb dX4_open_2 rfl (lv_at hl 0 rfl) ?_
  refine lv_if_le (tgt := 36) hx hb dX4_open_3 (by decide) (fun c_3 => ?_) (fun c_3 => ?_)
  · refine lv_iload_n hx hb dX4_open_36 rfl (lv_at hl 0 rfl) ?_
    refine lv_if_le (tgt := 59) hx hb dX4_open_37 (by decide) (fun c_37 => ?_) (fun c_37 => ?_)
    · refine lv_iload_n hx hb dX4_open_59 rfl (lv_at hl 0 rfl) ?_
      exact ww_iret (u := ()) hx hb hr hlk hw (by rw [if_neg]; rintro ⟨z1, z2⟩; first | exact z1 ((nI_le0 (by omega)).mp c_37) | exact c_47 z2) (Nat.le_of_ble_eq_true rfl) (Nat.le_of_ble_eq_true rfl) dX4_open_60
    · refine lv_aload_n hx hb dX4_open_40 rfl (lv_at hl 1 rfl) ?_
      refine ww_get hx hb hts hin4 hown hw 0 rfl rfl 0 (by decide) k7 rfl dX4_open_41 ?_
      refine lv_iload_n hx hb dX4_open_44 rfl (lv_at hl 0 rfl) ?_
      refine ww_iald hx hb hw 1 rfl q rfl (by omega) (by omega) dX4_open_45 ?_
      refine lv_iconst (v := nI 2) hx hb dX4_open_46 (by decide +kernel) ?_
      refine lv_icmp_ne (tgt := 59) hx hb dX4_open_47 (by decide) (fun c_47 => ?_) (fun c_47 => ?_)
      · refine lv_iload_n hx hb dX4_open_59 rfl (lv_at hl 0 rfl) ?_
        exact ww_iret (u := ()) hx hb hr hlk hw (by rw [if_neg]; rintro ⟨z1, z2⟩; first | exact z1 ((nI_le0 (by omega)).mp c_37) | exact c_47 z2) (Nat.le_of_ble_eq_true rfl) (Nat.le_of_ble_eq_true rfl) dX4_open_60
      · refine lv_aload_n hx hb dX4_open_50 rfl (lv_at hl 1 rfl) ?_
        refine ww_get hx hb hts hin4 hown hw 0 rfl rfl 6 (by decide) k28 rfl dX4_open_51 ?_
        refine lv_iload_n hx hb dX4_open_54 rfl (lv_at hl 0 rfl) ?_
        refine ww_iald hx hb hw 7 rfl q rfl (by omega) (by omega) dX4_open_55 ?_
        refine lv_goto (tgt := 60) hx hb dX4_open_56 (by decide) ?_
        exact ww_iret (u := ()) hx hb hr hlk hw (by rw [if_pos ⟨fun z => c_37 ((nI_le0 (by omega)).mpr z), c_47⟩]) (Nat.le_of_ble_eq_true rfl) (Nat.le_of_ble_eq_true rfl) dX4_open_60
  · refine lv_aload_n hx hb dX4_open_6 rfl (lv_at hl 1 rfl) ?_
    refine ww_get hx hb hts hin4 hown hw 0 rfl rfl 0 (by decide) k7 rfl dX4_open_7 ?_
    refine lv_iload_n hx hb dX4_open_10 rfl (lv_at hl 0 rfl) ?_
    refine ww_iald hx hb hw 1 rfl q rfl (by omega) (by omega) dX4_open_11 ?_
    refine lv_iconst (v := nI 1) hx hb dX4_open_12 (by decide +kernel) ?_
    refine lv_icmp_eq (tgt := 36) hx hb dX4_open_13 (by decide) (fun c_13 => ?_) (fun c_13 => ?_)
    · refine lv_iload_n hx hb dX4_open_36 rfl (lv_at hl 0 rfl) ?_
      refine lv_if_le (tgt := 59) hx hb dX4_open_37 (by decide) (fun c_37 => ?_) (fun c_37 => ?_)
      · refine lv_iload_n hx hb dX4_open_59 rfl (lv_at hl 0 rfl) ?_
        exact ww_iret (u := ()) hx hb hr hlk hw (by rw [if_neg]; rintro ⟨z1, z2⟩; first | exact z1 ((nI_le0 (by omega)).mp c_37) | exact c_47 z2) (Nat.le_of_ble_eq_true rfl) (Nat.le_of_ble_eq_true rfl) dX4_open_60
      · refine lv_aload_n hx hb dX4_open_40 rfl (lv_at hl 1 rfl) ?_
        refine ww_get hx hb hts hin4 hown hw 0 rfl rfl 0 (by decide) k7 rfl dX4_open_41 ?_
        refine lv_iload_n hx hb dX4_open_44 rfl (lv_at hl 0 rfl) ?_
        refine ww_iald hx hb hw 1 rfl q rfl (by omega) (by omega) dX4_open_45 ?_
        refine lv_iconst (v := nI 2) hx hb dX4_open_46 (by decide +kernel) ?_
        refine lv_icmp_ne (tgt := 59) hx hb dX4_open_47 (by decide) (fun c_47 => ?_) (fun c_47 => ?_)
        · refine lv_iload_n hx hb dX4_open_59 rfl (lv_at hl 0 rfl) ?_
          exact ww_iret (u := ()) hx hb hr hlk hw (by rw [if_neg]; rintro ⟨z1, z2⟩; first | exact z1 ((nI_le0 (by omega)).mp c_37) | exact c_47 z2) (Nat.le_of_ble_eq_true rfl) (Nat.le_of_ble_eq_true rfl) dX4_open_60
        · refine lv_aload_n hx hb dX4_open_50 rfl (lv_at hl 1 rfl) ?_
          refine ww_get hx hb hts hin4 hown hw 0 rfl rfl 6 (by decide) k28 rfl dX4_open_51 ?_
          refine lv_iload_n hx hb dX4_open_54 rfl (lv_at hl 0 rfl) ?_
          refine ww_iald hx hb hw 7 rfl q rfl (by omega) (by omega) dX4_open_55 ?_
          refine lv_goto (tgt := 60) hx hb dX4_open_56 (by decide) ?_
          exact ww_iret (u := ()) hx hb hr hlk hw (by rw [if_pos ⟨fun z => c_37 ((nI_le0 (by omega)).mpr z), c_47⟩]) (Nat.le_of_ble_eq_true rfl) (Nat.le_of_ble_eq_true rfl) dX4_open_60
    · refine lv_aload_n hx hb dX4_open_16 rfl (lv_at hl 1 rfl) ?_
      refine ww_get hx hb hts hin4 hown hw 0 rfl rfl 0 (by decide) k7 rfl dX4_open_17 ?_
      refine lv_iload_n hx hb dX4_open_20 rfl (lv_at hl 0 rfl) ?_
      refine ww_iald hx hb hw 1 rfl q rfl (by omega) (by omega) dX4_open_21 ?_
      refine lv_iconst (v := nI 2) hx hb dX4_open_22 (by decide +kernel) ?_
      refine lv_icmp_eq (tgt := 36) hx hb dX4_open_23 (by decide) (fun c_23 => ?_) (fun c_23 => ?_)
      · refine lv_iload_n hx hb dX4_open_36 rfl (lv_at hl 0 rfl) ?_
        refine lv_if_le (tgt := 59) hx hb dX4_open_37 (by decide) (fun c_37 => ?_) (fun c_37 => ?_)
        · refine lv_iload_n hx hb dX4_open_59 rfl (lv_at hl 0 rfl) ?_
          exact ww_iret (u := ()) hx hb hr hlk hw (by rw [if_neg]; rintro ⟨z1, z2⟩; first | exact z1 ((nI_le0 (by omega)).mp c_37) | exact c_47 z2) (Nat.le_of_ble_eq_true rfl) (Nat.le_of_ble_eq_true rfl) dX4_open_60
        · refine lv_aload_n hx hb dX4_open_40 rfl (lv_at hl 1 rfl) ?_
          refine ww_get hx hb hts hin4 hown hw 0 rfl rfl 0 (by decide) k7 rfl dX4_open_41 ?_
          refine lv_iload_n hx hb dX4_open_44 rfl (lv_at hl 0 rfl) ?_
          refine ww_iald hx hb hw 1 rfl q rfl (by omega) (by omega) dX4_open_45 ?_
          refine lv_iconst (v := nI 2) hx hb dX4_open_46 (by decide +kernel) ?_
          refine lv_icmp_ne (tgt := 59) hx hb dX4_open_47 (by decide) (fun c_47 => ?_) (fun c_47 => ?_)
          · refine lv_iload_n hx hb dX4_open_59 rfl (lv_at hl 0 rfl) ?_
            exact ww_iret (u := ()) hx hb hr hlk hw (by rw [if_neg]; rintro ⟨z1, z2⟩; first | exact z1 ((nI_le0 (by omega)).mp c_37) | exact c_47 z2) (Nat.le_of_ble_eq_true rfl) (Nat.le_of_ble_eq_true rfl) dX4_open_60
          · refine lv_aload_n hx hb dX4_open_50 rfl (lv_at hl 1 rfl) ?_
            refine ww_get hx hb hts hin4 hown hw 0 rfl rfl 6 (by decide) k28 rfl dX4_open_51 ?_
            refine lv_iload_n hx hb dX4_open_54 rfl (lv_at hl 0 rfl) ?_
            refine ww_iald hx hb hw 7 rfl q rfl (by omega) (by omega) dX4_open_55 ?_
            refine lv_goto (tgt := 60) hx hb dX4_open_56 (by decide) ?_
            exact ww_iret (u := ()) hx hb hr hlk hw (by rw [if_pos ⟨fun z => c_37 ((nI_le0 (by omega)).mpr z), c_47⟩]) (Nat.le_of_ble_eq_true rfl) (Nat.le_of_ble_eq_true rfl) dX4_open_60
      · exact absurd (hk.resolve_left (fun z => c_3 ((nI_le0 (by omega)).mpr z))) (fun z => z.elim c_13 c_23)
