/-! RestartBookModel: the calls of its face (1) -/
set_option maxRecDepth 20000 in
theorem in_X4_begin : ∀ w ∈ u_ws RX4 TX4 28, w ∈ wsX4_begin := by
  intro w h
  show w ∈ wsX4_begin
  simp only [wsX4_begin, List.mem_cons, List.mem_append]
  simp only [h, true_or, or_true]
set_option maxRecDepth 20000 in
theorem in_X4_back : ∀ w ∈ u_ws RX4 TX4 28, w ∈ wsX4_back := by
  intro w h
  show w ∈ wsX4_back
  simp only [wsX4_back, List.mem_cons, List.mem_append]
  simp only [h, true_or, or_true]
set_option maxRecDepth 20000 in
theorem in_X4_prepare : ∀ w ∈ u_ws RX4 TX4 28, w ∈ wsX4_prepare := by
  intro w h
  show w ∈ wsX4_prepare
  simp only [wsX4_prepare, List.mem_cons, List.mem_append]
  simp only [h, true_or, or_true]
set_option maxRecDepth 20000 in
theorem in_X4_commit : ∀ w ∈ u_ws RX4 TX4 28, w ∈ wsX4_commit := by
  intro w h
  show w ∈ wsX4_commit
  simp only [wsX4_commit, List.mem_cons, List.mem_append]
  simp only [h, true_or, or_true]
set_option maxRecDepth 20000 in
theorem in_X4_abort : ∀ w ∈ u_ws RX4 TX4 28, w ∈ wsX4_abort := by
  intro w h
  show w ∈ wsX4_abort
  simp only [wsX4_abort, List.mem_cons, List.mem_append]
  simp only [h, true_or, or_true]
set_option maxRecDepth 20000 in
theorem in_X4_force : ∀ w ∈ u_ws RX4 TX4 28, w ∈ wsX4_force := by
  intro w h
  show w ∈ wsX4_force
  simp only [wsX4_force, List.mem_cons, List.mem_append]
  simp only [h, true_or, or_true]
set_option maxRecDepth 20000 in
theorem in_X4_part : ∀ w ∈ u_ws RX4 TX4 28, w ∈ wsX4_part := by
  intro w h
  show w ∈ wsX4_part
  simp only [wsX4_part, List.mem_cons, List.mem_append]
  simp only [h, true_or, or_true]
set_option maxRecDepth 20000 in
theorem in_X4_word : ∀ w ∈ u_ws RX4 TX4 28, w ∈ wsX4_word := by
  intro w h
  show w ∈ wsX4_word
  simp only [wsX4_word, List.mem_cons, List.mem_append]
  simp only [h, true_or, or_true]
set_option maxRecDepth 20000 in
theorem in_X4_page : ∀ w ∈ u_ws RX4 TX4 28, w ∈ wsX4_page := by
  intro w h
  show w ∈ wsX4_page
  simp only [wsX4_page, List.mem_cons, List.mem_append]
  simp only [h, true_or, or_true]
set_option maxRecDepth 20000 in
theorem in_X4_record : ∀ w ∈ u_ws RX4 TX4 28, w ∈ wsX4_record := by
  intro w h
  show w ∈ wsX4_record
  simp only [wsX4_record, List.mem_cons, List.mem_append]
  simp only [h, true_or, or_true]
set_option maxRecDepth 20000 in
theorem in_X4_count : ∀ w ∈ u_ws RX4 TX4 28, w ∈ wsX4_count := by
  intro w h
  show w ∈ wsX4_count
  simp only [wsX4_count, List.mem_cons, List.mem_append]
  simp only [h, true_or, or_true]
set_option maxRecDepth 20000 in
theorem in_X4_add : ∀ w ∈ u_ws RX4 TX4 28, w ∈ wsX4_add := by
  intro w h
  show w ∈ wsX4_add
  simp only [wsX4_add, List.mem_cons, List.mem_append]
  simp only [h, true_or, or_true]
theorem hd_X4_begin : yX4_begin.cls = RX4 ∧ yX4_begin.cls ≠ "java/lang/invoke/MethodHandle" ∧ yX4_begin.cls ≠ "java/lang/invoke/VarHandle" ∧ (parseMethodDescriptor yX4_begin.desc).map (fun d => d.parameters.length) = some 0 := by decide +kernel
theorem hd_X4_back : yX4_back.cls = RX4 ∧ yX4_back.cls ≠ "java/lang/invoke/MethodHandle" ∧ yX4_back.cls ≠ "java/lang/invoke/VarHandle" ∧ (parseMethodDescriptor yX4_back.desc).map (fun d => d.parameters.length) = some 2 := by decide +kernel
theorem hd_X4_prepare : yX4_prepare.cls = RX4 ∧ yX4_prepare.cls ≠ "java/lang/invoke/MethodHandle" ∧ yX4_prepare.cls ≠ "java/lang/invoke/VarHandle" ∧ (parseMethodDescriptor yX4_prepare.desc).map (fun d => d.parameters.length) = some 1 := by decide +kernel
theorem hd_X4_commit : yX4_commit.cls = RX4 ∧ yX4_commit.cls ≠ "java/lang/invoke/MethodHandle" ∧ yX4_commit.cls ≠ "java/lang/invoke/VarHandle" ∧ (parseMethodDescriptor yX4_commit.desc).map (fun d => d.parameters.length) = some 1 := by decide +kernel
theorem hd_X4_abort : yX4_abort.cls = RX4 ∧ yX4_abort.cls ≠ "java/lang/invoke/MethodHandle" ∧ yX4_abort.cls ≠ "java/lang/invoke/VarHandle" ∧ (parseMethodDescriptor yX4_abort.desc).map (fun d => d.parameters.length) = some 1 := by decide +kernel
theorem hd_X4_force : yX4_force.cls = RX4 ∧ yX4_force.cls ≠ "java/lang/invoke/MethodHandle" ∧ yX4_force.cls ≠ "java/lang/invoke/VarHandle" ∧ (parseMethodDescriptor yX4_force.desc).map (fun d => d.parameters.length) = some 1 := by decide +kernel
theorem hd_X4_part : yX4_part.cls = RX4 ∧ yX4_part.cls ≠ "java/lang/invoke/MethodHandle" ∧ yX4_part.cls ≠ "java/lang/invoke/VarHandle" ∧ (parseMethodDescriptor yX4_part.desc).map (fun d => d.parameters.length) = some 0 := by decide +kernel
theorem hd_X4_word : yX4_word.cls = RX4 ∧ yX4_word.cls ≠ "java/lang/invoke/MethodHandle" ∧ yX4_word.cls ≠ "java/lang/invoke/VarHandle" ∧ (parseMethodDescriptor yX4_word.desc).map (fun d => d.parameters.length) = some 2 := by decide +kernel
theorem hd_X4_page : yX4_page.cls = RX4 ∧ yX4_page.cls ≠ "java/lang/invoke/MethodHandle" ∧ yX4_page.cls ≠ "java/lang/invoke/VarHandle" ∧ (parseMethodDescriptor yX4_page.desc).map (fun d => d.parameters.length) = some 2 := by decide +kernel
theorem hd_X4_record : yX4_record.cls = RX4 ∧ yX4_record.cls ≠ "java/lang/invoke/MethodHandle" ∧ yX4_record.cls ≠ "java/lang/invoke/VarHandle" ∧ (parseMethodDescriptor yX4_record.desc).map (fun d => d.parameters.length) = some 2 := by decide +kernel
theorem hd_X4_count : yX4_count.cls = RX4 ∧ yX4_count.cls ≠ "java/lang/invoke/MethodHandle" ∧ yX4_count.cls ≠ "java/lang/invoke/VarHandle" ∧ (parseMethodDescriptor yX4_count.desc).map (fun d => d.parameters.length) = some 1 := by decide +kernel
theorem hd_X4_add : yX4_add.cls = RX4 ∧ yX4_add.cls ≠ "java/lang/invoke/MethodHandle" ∧ yX4_add.cls ≠ "java/lang/invoke/VarHandle" ∧ (parseMethodDescriptor yX4_add.desc).map (fun d => d.parameters.length) = some 4 := by decide +kernel
theorem in_workM {b : Nat} {S : SS} (hI : Inv0 b S) {w : Int32} (hk : (sT S (cl w)).1 ≠ 0) : ∃ j : Nat, j ≤ 200 ∧ w = nI j ∧ cl (nI j) = j ∧ (sT S j).1 ≠ 0 := by
  have h := ((Inv0_T hI).1 _).2 hk
  have hw := hI.2.1.2.1
  exact ⟨cl w, by have := h.2.1; omega, cl_pos h.1, cl_nI (by have := h.2.1; omega), hk⟩
theorem in_y {x : Int32} {n : Nat} (hn : n < 2 ^ 31) (h : nI 0 ≤ x ∧ x ≤ nI n) : ∃ j : Nat, j ≤ n ∧ x = nI j := by
  have h1 := h.1
  have h2 := h.2
  simp (disch := omega) only [i_le, nI_toInt] at h1 h2
  obtain ⟨j, hj, rfl⟩ := i_nat (x := x) (by omega)
  rw [nI_toInt hj] at h2
  exact ⟨j, by omega, rfl⟩
theorem in_n {x : Int32} {n : Nat} (hn : n < 2 ^ 31) (h : ¬ (nI 0 ≤ x ∧ x ≤ nI n)) : ¬ inN x (n + 1) := by
  rintro ⟨h1, h2⟩
  refine h ⟨?_, ?_⟩ <;> simp (disch := omega) only [i_le, nI_toInt] <;> omega
set_option maxHeartbeats 1000000 in
set_option maxRecDepth 100000 in
theorem cG_part (l : Launch) (D : va_G) (cI : ClassId) (a : Nat) (ra : Nat → Nat) (S : SS) (g : Nat → Nat → Int32) (lt : Int32) (b : Nat) (hI : Inv0 b S) (hb4 : b ≤ 4000) (hm : RM S g lt 201) : Kt l yX4_part wsX4_part 0 0 (0) (0) D cI [.ref a] ([(a, .inr (4, [.ref (ra 0), .ref (ra 1), .ref (ra 2), .ref (ra 3), .ref (ra 4), .ref (ra 5), .ref (ra 6), .int (nI (sN S)), .int (nI (sFo S)), .int (nI (sCh S)), .ref (ra 10), .ref (ra 11), .ref (ra 12), .ref (ra 13), .int (nI (sPt S)), .ref (ra 15), .ref (ra 16), .ref (ra 17), .ref (ra 18), .ref (ra 19), .int (nI (sWk S)), .ref (ra 21), .ref (ra 22), .ref (ra 23), .int (nI (sDo S)), .int (nI (sAt S)), .int lt, .ref (ra 27)])), ((ra 0), .inl (cI, 5200, .inl (g 0))), ((ra 1), .inl (cI, 5200, .inl (g 1))), ((ra 2), .inl (cI, 5200, .inl (g 2))), ((ra 3), .inl (cI, 5200, .inl (g 3))), ((ra 4), .inl (cI, 5200, .inl (g 4))), ((ra 5), .inl (cI, 5200, .inl (g 5))), ((ra 6), .inl (cI, 5200, .inl (g 6))), ((ra 10), .inl (cI, 20200, .inl (g 10))), ((ra 11), .inl (cI, 20200, .inl (g 11))), ((ra 12), .inl (cI, 20200, .inl (g 12))), ((ra 13), .inl (cI, 6500, .inl (g 13))), ((ra 15), .inl (cI, 512, .inl (g 15))), ((ra 16), .inl (cI, 64, .inl (g 16))), ((ra 17), .inl (cI, 64, .inl (g 17))), ((ra 18), .inl (cI, 512, .inl (g 18))), ((ra 19), .inl (cI, 64, .inl (g 19))), ((ra 21), .inl (cI, 201, .inl (g 21))), ((ra 22), .inl (cI, 201, .inl (g 22))), ((ra 23), .inl (cI, 201, .inl (g 23))), ((ra 27), .inl (cI, 4, .inl (g 27)))]) (pI (fun (r : Int32) (u : Unit) => r = nI (sDo S))) (fun (u : Unit) => [(a, .inr (4, [.ref (ra 0), .ref (ra 1), .ref (ra 2), .ref (ra 3), .ref (ra 4), .ref (ra 5), .ref (ra 6), .int (nI (sN S)), .int (nI (sFo S)), .int (nI (sCh S)), .ref (ra 10), .ref (ra 11), .ref (ra 12), .ref (ra 13), .int (nI (sPt S)), .ref (ra 15), .ref (ra 16), .ref (ra 17), .ref (ra 18), .ref (ra 19), .int (nI (sWk S)), .ref (ra 21), .ref (ra 22), .ref (ra 23), .int (nI (sDo S)), .int (nI (sAt S)), .int lt, .ref (ra 27)])), ((ra 0), .inl (cI, 5200, .inl (g 0))), ((ra 1), .inl (cI, 5200, .inl (g 1))), ((ra 2), .inl (cI, 5200, .inl (g 2))), ((ra 3), .inl (cI, 5200, .inl (g 3))), ((ra 4), .inl (cI, 5200, .inl (g 4))), ((ra 5), .inl (cI, 5200, .inl (g 5))), ((ra 6), .inl (cI, 5200, .inl (g 6))), ((ra 10), .inl (cI, 20200, .inl (g 10))), ((ra 11), .inl (cI, 20200, .inl (g 11))), ((ra 12), .inl (cI, 20200, .inl (g 12))), ((ra 13), .inl (cI, 6500, .inl (g 13))), ((ra 15), .inl (cI, 512, .inl (g 15))), ((ra 16), .inl (cI, 64, .inl (g 16))), ((ra 17), .inl (cI, 64, .inl (g 17))), ((ra 18), .inl (cI, 512, .inl (g 18))), ((ra 19), .inl (cI, 64, .inl (g 19))), ((ra 21), .inl (cI, 201, .inl (g 21))), ((ra 22), .inl (cI, 201, .inl (g 22))), ((ra 23), .inl (cI, 201, .inl (g 23))), ((ra 27), .inl (cI, 4, .inl (g 27)))]) := by
  refine kt_start (cc := cX4_part) (maxL := 1) (ret := (some .int)) (by decide +kernel) rfl (Nat.le_of_ble_eq_true rfl) ?_
  intro p e s m below meth c hx hb hml hr hlk hown hnm hts ls hl hw
  have hown : s.vm.findClass RX4 = some m.cls := hown
  have hl : lv_has ls 1 [(0, .ref a)] := hl
  have k103 := hts (.fieldLink RX4 103 "RestartBookModel" "doing" "I") (by decide +kernel)
  have hin4 : ∀ w ∈ u_ws RX4 TX4 28, w ∈ wsX4_part := in_X4_part
  have hn4 := Inv0_n hI
  have hwk := hI.2.1.2.1
  have hdo4 : sDo S ≤ 4 := by rcases hI.2.2.2.2.2 with q | q | q <;> omega
  have hTB := Inv0_TB hI hb4
  refine lv_aload_n hx hb dX4_part_0 rfl (lv_at hl 0 rfl) ?_
  refine ww_get hx hb hts hin4 hown hw 0 rfl rfl 24 (by decide) k103 rfl dX4_part_1 ?_
  exact ww_iret (u := ()) hx hb hr hlk hw (rfl) (Nat.le_of_ble_eq_true rfl) (Nat.le_of_ble_eq_true rfl) dX4_part_4
set_option maxHeartbeats 1000000 in
set_option maxRecDepth 100000 in
theorem cG_word (l : Launch) (D : va_G) (cI : ClassId) (a : Nat) (ra : Nat → Nat) (S : SS) (g : Nat → Nat → Int32) (lt : Int32) (b : Nat) (hI : Inv0 b S) (hb4 : b ≤ 4000) (hm : RM S g lt 201) (y1 y2 : Int32) : Kt l yX4_word wsX4_word 1 22 (0) (0) D cI [.ref a, .int y1, .int y2] ([(a, .inr (4, [.ref (ra 0), .ref (ra 1), .ref (ra 2), .ref (ra 3), .ref (ra 4), .ref (ra 5), .ref (ra 6), .int (nI (sN S)), .int (nI (sFo S)), .int (nI (sCh S)), .ref (ra 10), .ref (ra 11), .ref (ra 12), .ref (ra 13), .int (nI (sPt S)), .ref (ra 15), .ref (ra 16), .ref (ra 17), .ref (ra 18), .ref (ra 19), .int (nI (sWk S)), .ref (ra 21), .ref (ra 22), .ref (ra 23), .int (nI (sDo S)), .int (nI (sAt S)), .int lt, .ref (ra 27)])), ((ra 0), .inl (cI, 5200, .inl (g 0))), ((ra 1), .inl (cI, 5200, .inl (g 1))), ((ra 2), .inl (cI, 5200, .inl (g 2))), ((ra 3), .inl (cI, 5200, .inl (g 3))), ((ra 4), .inl (cI, 5200, .inl (g 4))), ((ra 5), .inl (cI, 5200, .inl (g 5))), ((ra 6), .inl (cI, 5200, .inl (g 6))), ((ra 10), .inl (cI, 20200, .inl (g 10))), ((ra 11), .inl (cI, 20200, .inl (g 11))), ((ra 12), .inl (cI, 20200, .inl (g 12))), ((ra 13), .inl (cI, 6500, .inl (g 13))), ((ra 15), .inl (cI, 512, .inl (g 15))), ((ra 16), .inl (cI, 64, .inl (g 16))), ((ra 17), .inl (cI, 64, .inl (g 17))), ((ra 18), .inl (cI, 512, .inl (g 18))), ((ra 19), .inl (cI, 64, .inl (g 19))), ((ra 21), .inl (cI, 201, .inl (g 21))), ((ra 22), .inl (cI, 201, .inl (g 22))), ((ra 23), .inl (cI, 201, .inl (g 23))), ((ra 27), .inl (cI, 4, .inl (g 27)))]) (pI (fun (r : Int32) (u : Unit) => r = oWord S y1 y2)) (fun (u : Unit) => [(a, .inr (4, [.ref (ra 0), .ref (ra 1), .ref (ra 2), .ref (ra 3), .ref (ra 4), .ref (ra 5), .ref (ra 6), .int (nI (sN S)), .int (nI (sFo S)), .int (nI (sCh S)), .ref (ra 10), .ref (ra 11), .ref (ra 12), .ref (ra 13), .int (nI (sPt S)), .ref (ra 15), .ref (ra 16), .ref (ra 17), .ref (ra 18), .ref (ra 19), .int (nI (sWk S)), .ref (ra 21), .ref (ra 22), .ref (ra 23), .int (nI (sDo S)), .int (nI (sAt S)), .int lt, .ref (ra 27)])), ((ra 0), .inl (cI, 5200, .inl (g 0))), ((ra 1), .inl (cI, 5200, .inl (g 1))), ((ra 2), .inl (cI, 5200, .inl (g 2))), ((ra 3), .inl (cI, 5200, .inl (g 3))), ((ra 4), .inl (cI, 5200, .inl (g 4))), ((ra 5), .inl (cI, 5200, .inl (g 5))), ((ra 6), .inl (cI, 5200, .inl (g 6))), ((ra 10), .inl (cI, 20200, .inl (g 10))), ((ra 11), .inl (cI, 20200, .inl (g 11))), ((ra 12), .inl (cI, 20200, .inl (g 12))), ((ra 13), .inl (cI, 6500, .inl (g 13))), ((ra 15), .inl (cI, 512, .inl (g 15))), ((ra 16), .inl (cI, 64, .inl (g 16))), ((ra 17), .inl (cI, 64, .inl (g 17))), ((ra 18), .inl (cI, 512, .inl (g 18))), ((ra 19), .inl (cI, 64, .inl (g 19))), ((ra 21), .inl (cI, 201, .inl (g 21))), ((ra 22), .inl (cI, 201, .inl (g 22))), ((ra 23), .inl (cI, 201, .inl (g 23))), ((ra 27), .inl (cI, 4, .inl (g 27)))]) := by
  refine kt_start (cc := cX4_word) (maxL := 3) (ret := (some .int)) (by decide +kernel) rfl (Nat.le_of_ble_eq_true rfl) ?_
  intro p e s m below meth c hx hb hml hr hlk hown hnm hts ls hl hw
  have hown : s.vm.findClass RX4 = some m.cls := hown
  have hl : lv_has ls 3 [(0, .ref a), (1, .int y1), (2, .int y2)] := hl
  have k43 := hts (.fieldLink RX4 43 "RestartBookModel" "memory" "[I") (by decide +kernel)
  have hin4 : ∀ w ∈ u_ws RX4 TX4 28, w ∈ wsX4_word := in_X4_word
  have hn4 := Inv0_n hI
  have hwk := hI.2.1.2.1
  have hdo4 : sDo S ≤ 4 := by rcases hI.2.2.2.2.2 with q | q | q <;> omega
  have hTB := Inv0_TB hI hb4
  refine lv_iload_n hx hb dX4_word_0 rfl (lv_at hl 1 rfl) ?_
  refine lv_iconst (v := nI 0) hx hb dX4_word_1 (by decide +kernel) ?_
  refine lv_bipush (v := nI 63) hx hb dX4_word_2 (by decide +kernel) ?_
  refine ww_callS ([]) ([(a, .inr (4, [.ref (ra 0), .ref (ra 1), .ref (ra 2), .ref (ra 3), .ref (ra 4), .ref (ra 5), .ref (ra 6), .int (nI (sN S)), .int (nI (sFo S)), .int (nI (sCh S)), .ref (ra 10), .ref (ra 11), .ref (ra 12), .ref (ra 13), .int (nI (sPt S)), .ref (ra 15), .ref (ra 16), .ref (ra 17), .ref (ra 18), .ref (ra 19), .int (nI (sWk S)), .ref (ra 21), .ref (ra 22), .ref (ra 23), .int (nI (sDo S)), .int (nI (sAt S)), .int lt, .ref (ra 27)])), ((ra 0), .inl (cI, 5200, .inl (g 0))), ((ra 1), .inl (cI, 5200, .inl (g 1))), ((ra 2), .inl (cI, 5200, .inl (g 2))), ((ra 3), .inl (cI, 5200, .inl (g 3))), ((ra 4), .inl (cI, 5200, .inl (g 4))), ((ra 5), .inl (cI, 5200, .inl (g 5))), ((ra 6), .inl (cI, 5200, .inl (g 6))), ((ra 10), .inl (cI, 20200, .inl (g 10))), ((ra 11), .inl (cI, 20200, .inl (g 11))), ((ra 12), .inl (cI, 20200, .inl (g 12))), ((ra 13), .inl (cI, 6500, .inl (g 13))), ((ra 15), .inl (cI, 512, .inl (g 15))), ((ra 16), .inl (cI, 64, .inl (g 16))), ((ra 17), .inl (cI, 64, .inl (g 17))), ((ra 18), .inl (cI, 512, .inl (g 18))), ((ra 19), .inl (cI, 64, .inl (g 19))), ((ra 21), .inl (cI, 201, .inl (g 21))), ((ra 22), .inl (cI, 201, .inl (g 22))), ((ra 23), .inl (cI, 201, .inl (g 23))), ((ra 27), .inl (cI, 4, .inl (g 27)))]) (As := [.int y1, .int (nI 0), .int (nI 63)]) (rest := []) ⟨hx, hb, hml, hown, hts⟩ (cM_in l D cI y1 (nI 0) (nI 63)) gX4_word_X4_in rfl hd_X4_in ⟨Nat.le_of_ble_eq_true rfl, Nat.le_of_ble_eq_true rfl⟩ hw rfl rfl rfl hl.1 (Nat.le_of_ble_eq_true rfl) dX4_word_4 ⟨Nat.le_of_ble_eq_true rfl, Nat.le_of_ble_eq_true rfl⟩ (fun rv u H locs hq hw => ?_)
  obtain ⟨rr, rfl, hq⟩ := hq
  have hw : ww D cI _ _ s ([(a, .inr (4, [.ref (ra 0), .ref (ra 1), .ref (ra 2), .ref (ra 3), .ref (ra 4), .ref (ra 5), .ref (ra 6), .int (nI (sN S)), .int (nI (sFo S)), .int (nI (sCh S)), .ref (ra 10), .ref (ra 11), .ref (ra 12), .ref (ra 13), .int (nI (sPt S)), .ref (ra 15), .ref (ra 16), .ref (ra 17), .ref (ra 18), .ref (ra 19), .int (nI (sWk S)), .ref (ra 21), .ref (ra 22), .ref (ra 23), .int (nI (sDo S)), .int (nI (sAt S)), .int lt, .ref (ra 27)])), ((ra 0), .inl (cI, 5200, .inl (g 0))), ((ra 1), .inl (cI, 5200, .inl (g 1))), ((ra 2), .inl (cI, 5200, .inl (g 2))), ((ra 3), .inl (cI, 5200, .inl (g 3))), ((ra 4), .inl (cI, 5200, .inl (g 4))), ((ra 5), .inl (cI, 5200, .inl (g 5))), ((ra 6), .inl (cI, 5200, .inl (g 6))), ((ra 10), .inl (cI, 20200, .inl (g 10))), ((ra 11), .inl (cI, 20200, .inl (g 11))), ((ra 12), .inl (cI, 20200, .inl (g 12))), ((ra 13), .inl (cI, 6500, .inl (g 13))), ((ra 15), .inl (cI, 512, .inl (g 15))), ((ra 16), .inl (cI, 64, .inl (g 16))), ((ra 17), .inl (cI, 64, .inl (g 17))), ((ra 18), .inl (cI, 512, .inl (g 18))), ((ra 19), .inl (cI, 64, .inl (g 19))), ((ra 21), .inl (cI, 201, .inl (g 21))), ((ra 22), .inl (cI, 201, .inl (g 22))), ((ra 23), .inl (cI, 201, .inl (g 23))), ((ra 27), .inl (cI, 4, .inl (g 27)))]) H locs := hw
  refine W.eq (g2 := F0 m 7 ls [.int (rr)]) rfl ?_
  rcases hq with ⟨rfl, hq⟩ | ⟨rfl, hq⟩
  · obtain ⟨pj, hpj, rfl⟩ := in_y (by omega) hq
    have hin : inN (nI pj) 64 := (inN_iff (by omega)).mpr ⟨pj, by omega, rfl⟩
    have hcp : cl (nI pj) = pj := cl_nI (by omega)
    refine lv_if_eq (tgt := 34) hx hb dX4_word_7 (by decide) (fun c_7 => absurd c_7 (by decide)) (fun c_7 => ?_)
    refine lv_iload_n hx hb dX4_word_10 rfl (lv_at hl 2 rfl) ?_
    refine lv_iconst (v := nI 0) hx hb dX4_word_11 (by decide +kernel) ?_
    refine lv_bipush (v := nI 7) hx hb dX4_word_12 (by decide +kernel) ?_
    refine ww_callS ([]) ([(a, .inr (4, [.ref (ra 0), .ref (ra 1), .ref (ra 2), .ref (ra 3), .ref (ra 4), .ref (ra 5), .ref (ra 6), .int (nI (sN S)), .int (nI (sFo S)), .int (nI (sCh S)), .ref (ra 10), .ref (ra 11), .ref (ra 12), .ref (ra 13), .int (nI (sPt S)), .ref (ra 15), .ref (ra 16), .ref (ra 17), .ref (ra 18), .ref (ra 19), .int (nI (sWk S)), .ref (ra 21), .ref (ra 22), .ref (ra 23), .int (nI (sDo S)), .int (nI (sAt S)), .int lt, .ref (ra 27)])), ((ra 0), .inl (cI, 5200, .inl (g 0))), ((ra 1), .inl (cI, 5200, .inl (g 1))), ((ra 2), .inl (cI, 5200, .inl (g 2))), ((ra 3), .inl (cI, 5200, .inl (g 3))), ((ra 4), .inl (cI, 5200, .inl (g 4))), ((ra 5), .inl (cI, 5200, .inl (g 5))), ((ra 6), .inl (cI, 5200, .inl (g 6))), ((ra 10), .inl (cI, 20200, .inl (g 10))), ((ra 11), .inl (cI, 20200, .inl (g 11))), ((ra 12), .inl (cI, 20200, .inl (g 12))), ((ra 13), .inl (cI, 6500, .inl (g 13))), ((ra 15), .inl (cI, 512, .inl (g 15))), ((ra 16), .inl (cI, 64, .inl (g 16))), ((ra 17), .inl (cI, 64, .inl (g 17))), ((ra 18), .inl (cI, 512, .inl (g 18))), ((ra 19), .inl (cI, 64, .inl (g 19))), ((ra 21), .inl (cI, 201, .inl (g 21))), ((ra 22), .inl (cI, 201, .inl (g 22))), ((ra 23), .inl (cI, 201, .inl (g 23))), ((ra 27), .inl (cI, 4, .inl (g 27)))]) (As := [.int y2, .int (nI 0), .int (nI 7)]) (rest := []) ⟨hx, hb, hml, hown, hts⟩ (cM_in l D cI y2 (nI 0) (nI 7)) gX4_word_X4_in rfl hd_X4_in ⟨Nat.le_of_ble_eq_true rfl, Nat.le_of_ble_eq_true rfl⟩ hw rfl rfl rfl hl.1 (Nat.le_of_ble_eq_true rfl) dX4_word_14 ⟨Nat.le_of_ble_eq_true rfl, Nat.le_of_ble_eq_true rfl⟩ (fun rv u H locs hq hw => ?_)
    obtain ⟨rr, rfl, hq⟩ := hq
    have hw : ww D cI _ _ s ([(a, .inr (4, [.ref (ra 0), .ref (ra 1), .ref (ra 2), .ref (ra 3), .ref (ra 4), .ref (ra 5), .ref (ra 6), .int (nI (sN S)), .int (nI (sFo S)), .int (nI (sCh S)), .ref (ra 10), .ref (ra 11), .ref (ra 12), .ref (ra 13), .int (nI (sPt S)), .ref (ra 15), .ref (ra 16), .ref (ra 17), .ref (ra 18), .ref (ra 19), .int (nI (sWk S)), .ref (ra 21), .ref (ra 22), .ref (ra 23), .int (nI (sDo S)), .int (nI (sAt S)), .int lt, .ref (ra 27)])), ((ra 0), .inl (cI, 5200, .inl (g 0))), ((ra 1), .inl (cI, 5200, .inl (g 1))), ((ra 2), .inl (cI, 5200, .inl (g 2))), ((ra 3), .inl (cI, 5200, .inl (g 3))), ((ra 4), .inl (cI, 5200, .inl (g 4))), ((ra 5), .inl (cI, 5200, .inl (g 5))), ((ra 6), .inl (cI, 5200, .inl (g 6))), ((ra 10), .inl (cI, 20200, .inl (g 10))), ((ra 11), .inl (cI, 20200, .inl (g 11))), ((ra 12), .inl (cI, 20200, .inl (g 12))), ((ra 13), .inl (cI, 6500, .inl (g 13))), ((ra 15), .inl (cI, 512, .inl (g 15))), ((ra 16), .inl (cI, 64, .inl (g 16))), ((ra 17), .inl (cI, 64, .inl (g 17))), ((ra 18), .inl (cI, 512, .inl (g 18))), ((ra 19), .inl (cI, 64, .inl (g 19))), ((ra 21), .inl (cI, 201, .inl (g 21))), ((ra 22), .inl (cI, 201, .inl (g 22))), ((ra 23), .inl (cI, 201, .inl (g 23))), ((ra 27), .inl (cI, 4, .inl (g 27)))]) H locs := hw
    refine W.eq (g2 := F0 m 17 ls [.int (rr)]) rfl ?_
    rcases hq with ⟨rfl, hq⟩ | ⟨rfl, hq⟩
    · obtain ⟨dj, hdj, rfl⟩ := in_y (by omega) hq
      have hin8 : inN (nI dj) 8 := (inN_iff (by omega)).mpr ⟨dj, by omega, rfl⟩
      have hcd : cl (nI dj) = dj := cl_nI (by omega)
      refine lv_if_eq (tgt := 34) hx hb dX4_word_17 (by decide) (fun c_17 => absurd c_17 (by decide)) (fun c_17 => ?_)
      refine lv_aload_n hx hb dX4_word_20 rfl (lv_at hl 0 rfl) ?_
      refine ww_get hx hb hts hin4 hown hw 0 rfl rfl 15 (by decide) k43 rfl dX4_word_21 ?_
      refine lv_bipush (v := nI 8) hx hb dX4_word_24 (by decide +kernel) ?_
      refine lv_iload_n hx hb dX4_word_26 rfl (lv_at hl 1 rfl) ?_
      refine lv_imul hx hb dX4_word_27 ?_
      refine lv_eqi (show _ = nI (8 * pj) from pk_mul _ _) ?_
      refine lv_iload_n hx hb dX4_word_28 rfl (lv_at hl 2 rfl) ?_
      refine lv_iadd hx hb dX4_word_29 ?_
      refine lv_eqi (show _ = nI ((8 * pj) + dj) from nI_add _ _) ?_
      refine ww_iald hx hb hw 12 rfl ((8 * pj) + dj) rfl (by omega) (by omega) dX4_word_30 ?_
      refine lv_goto (tgt := 35) hx hb dX4_word_31 (by decide) ?_
      exact ww_iret (u := ()) hx hb hr hlk hw (by rw [oWord, if_pos ⟨hin, hin8⟩, hcp, hcd, show pj * 8 + dj = 8 * pj + dj by omega]; exact (hm.2.1.1 _ (by omega)).1) (Nat.le_of_ble_eq_true rfl) (Nat.le_of_ble_eq_true rfl) dX4_word_35
    · have hin8 : ¬ inN y2 8 := in_n (by omega) hq
      refine lv_if_eq (tgt := 34) hx hb dX4_word_17 (by decide) (fun c_17 => ?_) (fun c_17 => absurd (rfl) c_17)
      refine lv_iconst (v := nI 0) hx hb dX4_word_34 (by decide +kernel) ?_
      exact ww_iret (u := ()) hx hb hr hlk hw (by rw [oWord, if_neg (fun q => by first | exact hin q.1 | exact hin8 q.2)]; exact nI_0) (Nat.le_of_ble_eq_true rfl) (Nat.le_of_ble_eq_true rfl) dX4_word_35
  · have hin : ¬ inN y1 64 := in_n (by omega) hq
    refine lv_if_eq (tgt := 34) hx hb dX4_word_7 (by decide) (fun c_7 => ?_) (fun c_7 => absurd (rfl) c_7)
    refine lv_iconst (v := nI 0) hx hb dX4_word_34 (by decide +kernel) ?_
    exact ww_iret (u := ()) hx hb hr hlk hw (by rw [oWord, if_neg (fun q => by first | exact hin q.1 | exact hin8 q.2)]; exact nI_0) (Nat.le_of_ble_eq_true rfl) (Nat.le_of_ble_eq_true rfl) dX4_word_35
set_option maxHeartbeats 1000000 in
set_option maxRecDepth 100000 in
theorem cG_page (l : Launch) (D : va_G) (cI : ClassId) (a : Nat) (ra : Nat → Nat) (S : SS) (g : Nat → Nat → Int32) (lt : Int32) (b : Nat) (hI : Inv0 b S) (hb4 : b ≤ 4000) (hm : RM S g lt 201) (y1 y2 : Int32) : Kt l yX4_page wsX4_page 1 22 (0) (0) D cI [.ref a, .int y1, .int y2] ([(a, .inr (4, [.ref (ra 0), .ref (ra 1), .ref (ra 2), .ref (ra 3), .ref (ra 4), .ref (ra 5), .ref (ra 6), .int (nI (sN S)), .int (nI (sFo S)), .int (nI (sCh S)), .ref (ra 10), .ref (ra 11), .ref (ra 12), .ref (ra 13), .int (nI (sPt S)), .ref (ra 15), .ref (ra 16), .ref (ra 17), .ref (ra 18), .ref (ra 19), .int (nI (sWk S)), .ref (ra 21), .ref (ra 22), .ref (ra 23), .int (nI (sDo S)), .int (nI (sAt S)), .int lt, .ref (ra 27)])), ((ra 0), .inl (cI, 5200, .inl (g 0))), ((ra 1), .inl (cI, 5200, .inl (g 1))), ((ra 2), .inl (cI, 5200, .inl (g 2))), ((ra 3), .inl (cI, 5200, .inl (g 3))), ((ra 4), .inl (cI, 5200, .inl (g 4))), ((ra 5), .inl (cI, 5200, .inl (g 5))), ((ra 6), .inl (cI, 5200, .inl (g 6))), ((ra 10), .inl (cI, 20200, .inl (g 10))), ((ra 11), .inl (cI, 20200, .inl (g 11))), ((ra 12), .inl (cI, 20200, .inl (g 12))), ((ra 13), .inl (cI, 6500, .inl (g 13))), ((ra 15), .inl (cI, 512, .inl (g 15))), ((ra 16), .inl (cI, 64, .inl (g 16))), ((ra 17), .inl (cI, 64, .inl (g 17))), ((ra 18), .inl (cI, 512, .inl (g 18))), ((ra 19), .inl (cI, 64, .inl (g 19))), ((ra 21), .inl (cI, 201, .inl (g 21))), ((ra 22), .inl (cI, 201, .inl (g 22))), ((ra 23), .inl (cI, 201, .inl (g 23))), ((ra 27), .inl (cI, 4, .inl (g 27)))]) (pI (fun (r : Int32) (u : Unit) => r = oPage S y1 y2)) (fun (u : Unit) => [(a, .inr (4, [.ref (ra 0), .ref (ra 1), .ref (ra 2), .ref (ra 3), .ref (ra 4), .ref (ra 5), .ref (ra 6), .int (nI (sN S)), .int (nI (sFo S)), .int (nI (sCh S)), .ref (ra 10), .ref (ra 11), .ref (ra 12), .ref (ra 13), .int (nI (sPt S)), .ref (ra 15), .ref (ra 16), .ref (ra 17), .ref (ra 18), .ref (ra 19), .int (nI (sWk S)), .ref (ra 21), .ref (ra 22), .ref (ra 23), .int (nI (sDo S)), .int (nI (sAt S)), .int lt, .ref (ra 27)])), ((ra 0), .inl (cI, 5200, .inl (g 0))), ((ra 1), .inl (cI, 5200, .inl (g 1))), ((ra 2), .inl (cI, 5200, .inl (g 2))), ((ra 3), .inl (cI, 5200, .inl (g 3))), ((ra 4), .inl (cI, 5200, .inl (g 4))), ((ra 5), .inl (cI, 5200, .inl (g 5))), ((ra 6), .inl (cI, 5200, .inl (g 6))), ((ra 10), .inl (cI, 20200, .inl (g 10))), ((ra 11), .inl (cI, 20200, .inl (g 11))), ((ra 12), .inl (cI, 20200, .inl (g 12))), ((ra 13), .inl (cI, 6500, .inl (g 13))), ((ra 15), .inl (cI, 512, .inl (g 15))), ((ra 16), .inl (cI, 64, .inl (g 16))), ((ra 17), .inl (cI, 64, .inl (g 17))), ((ra 18), .inl (cI, 512, .inl (g 18))), ((ra 19), .inl (cI, 64, .inl (g 19))), ((ra 21), .inl (cI, 201, .inl (g 21))), ((ra 22), .inl (cI, 201, .inl (g 22))), ((ra 23), .inl (cI, 201, .inl (g 23))), ((ra 27), .inl (cI, 4, .inl (g 27)))]) := by
  refine kt_start (cc := cX4_page) (maxL := 3) (ret := (some .int)) (by decide +kernel) rfl (Nat.le_of_ble_eq_true rfl) ?_
  intro p e s m below meth c hx hb hml hr hlk hown hnm hts ls hl hw
  have hown : s.vm.findClass RX4 = some m.cls := hown
  have hl : lv_has ls 3 [(0, .ref a), (1, .int y1), (2, .int y2)] := hl
  have k46 := hts (.fieldLink RX4 46 "RestartBookModel" "marks" "[I") (by decide +kernel)
  have k49 := hts (.fieldLink RX4 49 "RestartBookModel" "bases" "[I") (by decide +kernel)
  have k55 := hts (.fieldLink RX4 55 "RestartBookModel" "mediumMarks" "[I") (by decide +kernel)
  have hin4 : ∀ w ∈ u_ws RX4 TX4 28, w ∈ wsX4_page := in_X4_page
  have hn4 := Inv0_n hI
  have hwk := hI.2.1.2.1
  have hdo4 : sDo S ≤ 4 := by rcases hI.2.2.2.2.2 with q | q | q <;> omega
  have hTB := Inv0_TB hI hb4
  refine lv_iload_n hx hb dX4_page_0 rfl (lv_at hl 1 rfl) ?_
  refine lv_iconst (v := nI 0) hx hb dX4_page_1 (by decide +kernel) ?_
  refine lv_bipush (v := nI 63) hx hb dX4_page_2 (by decide +kernel) ?_
  refine ww_callS ([]) ([(a, .inr (4, [.ref (ra 0), .ref (ra 1), .ref (ra 2), .ref (ra 3), .ref (ra 4), .ref (ra 5), .ref (ra 6), .int (nI (sN S)), .int (nI (sFo S)), .int (nI (sCh S)), .ref (ra 10), .ref (ra 11), .ref (ra 12), .ref (ra 13), .int (nI (sPt S)), .ref (ra 15), .ref (ra 16), .ref (ra 17), .ref (ra 18), .ref (ra 19), .int (nI (sWk S)), .ref (ra 21), .ref (ra 22), .ref (ra 23), .int (nI (sDo S)), .int (nI (sAt S)), .int lt, .ref (ra 27)])), ((ra 0), .inl (cI, 5200, .inl (g 0))), ((ra 1), .inl (cI, 5200, .inl (g 1))), ((ra 2), .inl (cI, 5200, .inl (g 2))), ((ra 3), .inl (cI, 5200, .inl (g 3))), ((ra 4), .inl (cI, 5200, .inl (g 4))), ((ra 5), .inl (cI, 5200, .inl (g 5))), ((ra 6), .inl (cI, 5200, .inl (g 6))), ((ra 10), .inl (cI, 20200, .inl (g 10))), ((ra 11), .inl (cI, 20200, .inl (g 11))), ((ra 12), .inl (cI, 20200, .inl (g 12))), ((ra 13), .inl (cI, 6500, .inl (g 13))), ((ra 15), .inl (cI, 512, .inl (g 15))), ((ra 16), .inl (cI, 64, .inl (g 16))), ((ra 17), .inl (cI, 64, .inl (g 17))), ((ra 18), .inl (cI, 512, .inl (g 18))), ((ra 19), .inl (cI, 64, .inl (g 19))), ((ra 21), .inl (cI, 201, .inl (g 21))), ((ra 22), .inl (cI, 201, .inl (g 22))), ((ra 23), .inl (cI, 201, .inl (g 23))), ((ra 27), .inl (cI, 4, .inl (g 27)))]) (As := [.int y1, .int (nI 0), .int (nI 63)]) (rest := []) ⟨hx, hb, hml, hown, hts⟩ (cM_in l D cI y1 (nI 0) (nI 63)) gX4_page_X4_in rfl hd_X4_in ⟨Nat.le_of_ble_eq_true rfl, Nat.le_of_ble_eq_true rfl⟩ hw rfl rfl rfl hl.1 (Nat.le_of_ble_eq_true rfl) dX4_page_4 ⟨Nat.le_of_ble_eq_true rfl, Nat.le_of_ble_eq_true rfl⟩ (fun rv u H locs hq hw => ?_)
  obtain ⟨rr, rfl, hq⟩ := hq
  have hw : ww D cI _ _ s ([(a, .inr (4, [.ref (ra 0), .ref (ra 1), .ref (ra 2), .ref (ra 3), .ref (ra 4), .ref (ra 5), .ref (ra 6), .int (nI (sN S)), .int (nI (sFo S)), .int (nI (sCh S)), .ref (ra 10), .ref (ra 11), .ref (ra 12), .ref (ra 13), .int (nI (sPt S)), .ref (ra 15), .ref (ra 16), .ref (ra 17), .ref (ra 18), .ref (ra 19), .int (nI (sWk S)), .ref (ra 21), .ref (ra 22), .ref (ra 23), .int (nI (sDo S)), .int (nI (sAt S)), .int lt, .ref (ra 27)])), ((ra 0), .inl (cI, 5200, .inl (g 0))), ((ra 1), .inl (cI, 5200, .inl (g 1))), ((ra 2), .inl (cI, 5200, .inl (g 2))), ((ra 3), .inl (cI, 5200, .inl (g 3))), ((ra 4), .inl (cI, 5200, .inl (g 4))), ((ra 5), .inl (cI, 5200, .inl (g 5))), ((ra 6), .inl (cI, 5200, .inl (g 6))), ((ra 10), .inl (cI, 20200, .inl (g 10))), ((ra 11), .inl (cI, 20200, .inl (g 11))), ((ra 12), .inl (cI, 20200, .inl (g 12))), ((ra 13), .inl (cI, 6500, .inl (g 13))), ((ra 15), .inl (cI, 512, .inl (g 15))), ((ra 16), .inl (cI, 64, .inl (g 16))), ((ra 17), .inl (cI, 64, .inl (g 17))), ((ra 18), .inl (cI, 512, .inl (g 18))), ((ra 19), .inl (cI, 64, .inl (g 19))), ((ra 21), .inl (cI, 201, .inl (g 21))), ((ra 22), .inl (cI, 201, .inl (g 22))), ((ra 23), .inl (cI, 201, .inl (g 23))), ((ra 27), .inl (cI, 4, .inl (g 27)))]) H locs := hw
  refine W.eq (g2 := F0 m 7 ls [.int (rr)]) rfl ?_
  rcases hq with ⟨rfl, hq⟩ | ⟨rfl, hq⟩
  · obtain ⟨pj, hpj, rfl⟩ := in_y (by omega) hq
    have hin : inN (nI pj) 64 := (inN_iff (by omega)).mpr ⟨pj, by omega, rfl⟩
    have hcp : cl (nI pj) = pj := cl_nI (by omega)
    refine lv_if_eq (tgt := 19) hx hb dX4_page_7 (by decide) (fun c_7 => absurd c_7 (by decide)) (fun c_7 => ?_)
    refine lv_iload_n hx hb dX4_page_10 rfl (lv_at hl 2 rfl) ?_
    refine lv_iconst (v := nI 0) hx hb dX4_page_11 (by decide +kernel) ?_
    refine lv_iconst (v := nI 2) hx hb dX4_page_12 (by decide +kernel) ?_
    refine ww_callS ([]) ([(a, .inr (4, [.ref (ra 0), .ref (ra 1), .ref (ra 2), .ref (ra 3), .ref (ra 4), .ref (ra 5), .ref (ra 6), .int (nI (sN S)), .int (nI (sFo S)), .int (nI (sCh S)), .ref (ra 10), .ref (ra 11), .ref (ra 12), .ref (ra 13), .int (nI (sPt S)), .ref (ra 15), .ref (ra 16), .ref (ra 17), .ref (ra 18), .ref (ra 19), .int (nI (sWk S)), .ref (ra 21), .ref (ra 22), .ref (ra 23), .int (nI (sDo S)), .int (nI (sAt S)), .int lt, .ref (ra 27)])), ((ra 0), .inl (cI, 5200, .inl (g 0))), ((ra 1), .inl (cI, 5200, .inl (g 1))), ((ra 2), .inl (cI, 5200, .inl (g 2))), ((ra 3), .inl (cI, 5200, .inl (g 3))), ((ra 4), .inl (cI, 5200, .inl (g 4))), ((ra 5), .inl (cI, 5200, .inl (g 5))), ((ra 6), .inl (cI, 5200, .inl (g 6))), ((ra 10), .inl (cI, 20200, .inl (g 10))), ((ra 11), .inl (cI, 20200, .inl (g 11))), ((ra 12), .inl (cI, 20200, .inl (g 12))), ((ra 13), .inl (cI, 6500, .inl (g 13))), ((ra 15), .inl (cI, 512, .inl (g 15))), ((ra 16), .inl (cI, 64, .inl (g 16))), ((ra 17), .inl (cI, 64, .inl (g 17))), ((ra 18), .inl (cI, 512, .inl (g 18))), ((ra 19), .inl (cI, 64, .inl (g 19))), ((ra 21), .inl (cI, 201, .inl (g 21))), ((ra 22), .inl (cI, 201, .inl (g 22))), ((ra 23), .inl (cI, 201, .inl (g 23))), ((ra 27), .inl (cI, 4, .inl (g 27)))]) (As := [.int y2, .int (nI 0), .int (nI 2)]) (rest := []) ⟨hx, hb, hml, hown, hts⟩ (cM_in l D cI y2 (nI 0) (nI 2)) gX4_page_X4_in rfl hd_X4_in ⟨Nat.le_of_ble_eq_true rfl, Nat.le_of_ble_eq_true rfl⟩ hw rfl rfl rfl hl.1 (Nat.le_of_ble_eq_true rfl) dX4_page_13 ⟨Nat.le_of_ble_eq_true rfl, Nat.le_of_ble_eq_true rfl⟩ (fun rv u H locs hq hw => ?_)
    obtain ⟨rr, rfl, hq⟩ := hq
    have hw : ww D cI _ _ s ([(a, .inr (4, [.ref (ra 0), .ref (ra 1), .ref (ra 2), .ref (ra 3), .ref (ra 4), .ref (ra 5), .ref (ra 6), .int (nI (sN S)), .int (nI (sFo S)), .int (nI (sCh S)), .ref (ra 10), .ref (ra 11), .ref (ra 12), .ref (ra 13), .int (nI (sPt S)), .ref (ra 15), .ref (ra 16), .ref (ra 17), .ref (ra 18), .ref (ra 19), .int (nI (sWk S)), .ref (ra 21), .ref (ra 22), .ref (ra 23), .int (nI (sDo S)), .int (nI (sAt S)), .int lt, .ref (ra 27)])), ((ra 0), .inl (cI, 5200, .inl (g 0))), ((ra 1), .inl (cI, 5200, .inl (g 1))), ((ra 2), .inl (cI, 5200, .inl (g 2))), ((ra 3), .inl (cI, 5200, .inl (g 3))), ((ra 4), .inl (cI, 5200, .inl (g 4))), ((ra 5), .inl (cI, 5200, .inl (g 5))), ((ra 6), .inl (cI, 5200, .inl (g 6))), ((ra 10), .inl (cI, 20200, .inl (g 10))), ((ra 11), .inl (cI, 20200, .inl (g 11))), ((ra 12), .inl (cI, 20200, .inl (g 12))), ((ra 13), .inl (cI, 6500, .inl (g 13))), ((ra 15), .inl (cI, 512, .inl (g 15))), ((ra 16), .inl (cI, 64, .inl (g 16))), ((ra 17), .inl (cI, 64, .inl (g 17))), ((ra 18), .inl (cI, 512, .inl (g 18))), ((ra 19), .inl (cI, 64, .inl (g 19))), ((ra 21), .inl (cI, 201, .inl (g 21))), ((ra 22), .inl (cI, 201, .inl (g 22))), ((ra 23), .inl (cI, 201, .inl (g 23))), ((ra 27), .inl (cI, 4, .inl (g 27)))]) H locs := hw
    refine W.eq (g2 := F0 m 16 ls [.int (rr)]) rfl ?_
    rcases hq with ⟨rfl, hq⟩ | ⟨rfl, hq⟩
    · obtain ⟨t, ht, rfl⟩ := in_y (by omega) hq
      refine lv_if_ne (tgt := 22) hx hb dX4_page_16 (by decide) (fun c_16 => ?_) (fun c_16 => absurd c_16 (by decide))
      refine lv_iload_n hx hb dX4_page_22 rfl (lv_at hl 2 rfl) ?_
      refine lv_if_ne (tgt := 35) hx hb dX4_page_23 (by decide) (fun c_23 => ?_) (fun c_23 => ?_)
      · refine lv_iload_n hx hb dX4_page_35 rfl (lv_at hl 2 rfl) ?_
        refine lv_iconst (v := nI 1) hx hb dX4_page_36 (by decide +kernel) ?_
        refine lv_icmp_ne (tgt := 49) hx hb dX4_page_37 (by decide) (fun c_37 => ?_) (fun c_37 => ?_)
        · refine lv_aload_n hx hb dX4_page_49 rfl (lv_at hl 0 rfl) ?_
          refine ww_get hx hb hts hin4 hown hw 0 rfl rfl 19 (by decide) k55 rfl dX4_page_50 ?_
          refine lv_iload_n hx hb dX4_page_53 rfl (lv_at hl 1 rfl) ?_
          refine ww_iald hx hb hw 16 rfl pj rfl (by omega) (by omega) dX4_page_54 ?_
          exact ww_iret (u := ()) hx hb hr hlk hw (by rw [oPage, if_pos hin, if_neg c_23, if_neg c_37, if_pos (by have h0 : t ≠ 0 := fun q => c_23 (by rw [q]; decide); have h1 : t ≠ 1 := fun q => c_37 (by rw [q]); rw [show t = 2 by omega]), hcp]; exact (hm.2.1.2 pj (by omega)).2) (Nat.le_of_ble_eq_true rfl) (Nat.le_of_ble_eq_true rfl) dX4_page_55
        · refine lv_aload_n hx hb dX4_page_40 rfl (lv_at hl 0 rfl) ?_
          refine ww_get hx hb hts hin4 hown hw 0 rfl rfl 17 (by decide) k49 rfl dX4_page_41 ?_
          refine lv_iload_n hx hb dX4_page_44 rfl (lv_at hl 1 rfl) ?_
          refine ww_iald hx hb hw 14 rfl pj rfl (by omega) (by omega) dX4_page_45 ?_
          refine lv_goto (tgt := 55) hx hb dX4_page_46 (by decide) ?_
          exact ww_iret (u := ()) hx hb hr hlk hw (by rw [oPage, if_pos hin, if_neg c_23, if_pos c_37, hcp]; exact hm.2.2.2.1 pj (by omega)) (Nat.le_of_ble_eq_true rfl) (Nat.le_of_ble_eq_true rfl) dX4_page_55
      · refine lv_aload_n hx hb dX4_page_26 rfl (lv_at hl 0 rfl) ?_
        refine ww_get hx hb hts hin4 hown hw 0 rfl rfl 16 (by decide) k46 rfl dX4_page_27 ?_
        refine lv_iload_n hx hb dX4_page_30 rfl (lv_at hl 1 rfl) ?_
        refine ww_iald hx hb hw 13 rfl pj rfl (by omega) (by omega) dX4_page_31 ?_
        refine lv_goto (tgt := 55) hx hb dX4_page_32 (by decide) ?_
        exact ww_iret (u := ()) hx hb hr hlk hw (by rw [oPage, if_pos hin, if_pos c_23, hcp]; exact (hm.2.1.2 pj (by omega)).1) (Nat.le_of_ble_eq_true rfl) (Nat.le_of_ble_eq_true rfl) dX4_page_55
    · skip
      refine lv_if_ne (tgt := 22) hx hb dX4_page_16 (by decide) (fun c_16 => absurd c_16 (fun q => q rfl)) (fun c_16 => ?_)
      refine lv_bipush (v := (-102)) hx hb dX4_page_19 (by decide +kernel) ?_
      exact ww_iret (u := ()) hx hb hr hlk hw (by first | (rw [oPage, if_neg hin]) | (rw [oPage, if_pos hin, if_neg (fun q => hq (by rw [q]; decide)), if_neg (fun q => hq (by rw [q]; decide)), if_neg (fun q => hq (by rw [q]; decide))])) (Nat.le_of_ble_eq_true rfl) (Nat.le_of_ble_eq_true rfl) dX4_page_21
  · have hin : ¬ inN y1 64 := in_n (by omega) hq
    refine lv_if_eq (tgt := 19) hx hb dX4_page_7 (by decide) (fun c_7 => ?_) (fun c_7 => absurd (rfl) c_7)
    refine lv_bipush (v := (-102)) hx hb dX4_page_19 (by decide +kernel) ?_
    exact ww_iret (u := ()) hx hb hr hlk hw (by first | (rw [oPage, if_neg hin]) | (rw [oPage, if_pos hin, if_neg (fun q => hq (by rw [q]; decide)), if_neg (fun q => hq (by rw [q]; decide)), if_neg (fun q => hq (by rw [q]; decide))])) (Nat.le_of_ble_eq_true rfl) (Nat.le_of_ble_eq_true rfl) dX4_page_21
set_option maxHeartbeats 1000000 in
set_option maxRecDepth 100000 in
theorem cG_record (l : Launch) (D : va_G) (cI : ClassId) (a : Nat) (ra : Nat → Nat) (S : SS) (g : Nat → Nat → Int32) (lt : Int32) (b : Nat) (hI : Inv0 b S) (hb4 : b ≤ 4000) (hm : RM S g lt 201) (y1 y2 : Int32) : Kt l yX4_record wsX4_record 1 22 (0) (0) D cI [.ref a, .int y1, .int y2] ([(a, .inr (4, [.ref (ra 0), .ref (ra 1), .ref (ra 2), .ref (ra 3), .ref (ra 4), .ref (ra 5), .ref (ra 6), .int (nI (sN S)), .int (nI (sFo S)), .int (nI (sCh S)), .ref (ra 10), .ref (ra 11), .ref (ra 12), .ref (ra 13), .int (nI (sPt S)), .ref (ra 15), .ref (ra 16), .ref (ra 17), .ref (ra 18), .ref (ra 19), .int (nI (sWk S)), .ref (ra 21), .ref (ra 22), .ref (ra 23), .int (nI (sDo S)), .int (nI (sAt S)), .int lt, .ref (ra 27)])), ((ra 0), .inl (cI, 5200, .inl (g 0))), ((ra 1), .inl (cI, 5200, .inl (g 1))), ((ra 2), .inl (cI, 5200, .inl (g 2))), ((ra 3), .inl (cI, 5200, .inl (g 3))), ((ra 4), .inl (cI, 5200, .inl (g 4))), ((ra 5), .inl (cI, 5200, .inl (g 5))), ((ra 6), .inl (cI, 5200, .inl (g 6))), ((ra 10), .inl (cI, 20200, .inl (g 10))), ((ra 11), .inl (cI, 20200, .inl (g 11))), ((ra 12), .inl (cI, 20200, .inl (g 12))), ((ra 13), .inl (cI, 6500, .inl (g 13))), ((ra 15), .inl (cI, 512, .inl (g 15))), ((ra 16), .inl (cI, 64, .inl (g 16))), ((ra 17), .inl (cI, 64, .inl (g 17))), ((ra 18), .inl (cI, 512, .inl (g 18))), ((ra 19), .inl (cI, 64, .inl (g 19))), ((ra 21), .inl (cI, 201, .inl (g 21))), ((ra 22), .inl (cI, 201, .inl (g 22))), ((ra 23), .inl (cI, 201, .inl (g 23))), ((ra 27), .inl (cI, 4, .inl (g 27)))]) (pI (fun (r : Int32) (u : Unit) => r = oRec S y1 y2)) (fun (u : Unit) => [(a, .inr (4, [.ref (ra 0), .ref (ra 1), .ref (ra 2), .ref (ra 3), .ref (ra 4), .ref (ra 5), .ref (ra 6), .int (nI (sN S)), .int (nI (sFo S)), .int (nI (sCh S)), .ref (ra 10), .ref (ra 11), .ref (ra 12), .ref (ra 13), .int (nI (sPt S)), .ref (ra 15), .ref (ra 16), .ref (ra 17), .ref (ra 18), .ref (ra 19), .int (nI (sWk S)), .ref (ra 21), .ref (ra 22), .ref (ra 23), .int (nI (sDo S)), .int (nI (sAt S)), .int lt, .ref (ra 27)])), ((ra 0), .inl (cI, 5200, .inl (g 0))), ((ra 1), .inl (cI, 5200, .inl (g 1))), ((ra 2), .inl (cI, 5200, .inl (g 2))), ((ra 3), .inl (cI, 5200, .inl (g 3))), ((ra 4), .inl (cI, 5200, .inl (g 4))), ((ra 5), .inl (cI, 5200, .inl (g 5))), ((ra 6), .inl (cI, 5200, .inl (g 6))), ((ra 10), .inl (cI, 20200, .inl (g 10))), ((ra 11), .inl (cI, 20200, .inl (g 11))), ((ra 12), .inl (cI, 20200, .inl (g 12))), ((ra 13), .inl (cI, 6500, .inl (g 13))), ((ra 15), .inl (cI, 512, .inl (g 15))), ((ra 16), .inl (cI, 64, .inl (g 16))), ((ra 17), .inl (cI, 64, .inl (g 17))), ((ra 18), .inl (cI, 512, .inl (g 18))), ((ra 19), .inl (cI, 64, .inl (g 19))), ((ra 21), .inl (cI, 201, .inl (g 21))), ((ra 22), .inl (cI, 201, .inl (g 22))), ((ra 23), .inl (cI, 201, .inl (g 23))), ((ra 27), .inl (cI, 4, .inl (g 27)))]) := by
  refine kt_start (cc := cX4_record) (maxL := 3) (ret := (some .int)) (by decide +kernel) rfl (Nat.le_of_ble_eq_true rfl) ?_
  intro p e s m below meth c hx hb hml hr hlk hown hnm hts ls hl hw
  have hown : s.vm.findClass RX4 = some m.cls := hown
  have hl : lv_has ls 3 [(0, .ref a), (1, .int y1), (2, .int y2)] := hl
  have k7 := hts (.fieldLink RX4 7 "RestartBookModel" "kinds" "[I") (by decide +kernel)
  have k13 := hts (.fieldLink RX4 13 "RestartBookModel" "whose" "[I") (by decide +kernel)
  have k16 := hts (.fieldLink RX4 16 "RestartBookModel" "befores" "[I") (by decide +kernel)
  have k19 := hts (.fieldLink RX4 19 "RestartBookModel" "pages" "[I") (by decide +kernel)
  have k22 := hts (.fieldLink RX4 22 "RestartBookModel" "words" "[I") (by decide +kernel)
  have k25 := hts (.fieldLink RX4 25 "RestartBookModel" "sums" "[I") (by decide +kernel)
  have k28 := hts (.fieldLink RX4 28 "RestartBookModel" "goals" "[I") (by decide +kernel)
  have k78 := hts (.fieldLink RX4 78 "RestartBookModel" "records" "I") (by decide +kernel)
  have hin4 : ∀ w ∈ u_ws RX4 TX4 28, w ∈ wsX4_record := in_X4_record
  have hn4 := Inv0_n hI
  have hwk := hI.2.1.2.1
  have hdo4 : sDo S ≤ 4 := by rcases hI.2.2.2.2.2 with q | q | q <;> omega
  have hTB := Inv0_TB hI hb4
  refine lv_iload_n hx hb dX4_record_0 rfl (lv_at hl 1 rfl) ?_
  refine lv_iconst (v := nI 1) hx hb dX4_record_1 (by decide +kernel) ?_
  refine lv_aload_n hx hb dX4_record_2 rfl (lv_at hl 0 rfl) ?_
  refine ww_get hx hb hts hin4 hown hw 0 rfl rfl 7 (by decide) k78 rfl dX4_record_3 ?_
  refine ww_callS ([]) ([(a, .inr (4, [.ref (ra 0), .ref (ra 1), .ref (ra 2), .ref (ra 3), .ref (ra 4), .ref (ra 5), .ref (ra 6), .int (nI (sN S)), .int (nI (sFo S)), .int (nI (sCh S)), .ref (ra 10), .ref (ra 11), .ref (ra 12), .ref (ra 13), .int (nI (sPt S)), .ref (ra 15), .ref (ra 16), .ref (ra 17), .ref (ra 18), .ref (ra 19), .int (nI (sWk S)), .ref (ra 21), .ref (ra 22), .ref (ra 23), .int (nI (sDo S)), .int (nI (sAt S)), .int lt, .ref (ra 27)])), ((ra 0), .inl (cI, 5200, .inl (g 0))), ((ra 1), .inl (cI, 5200, .inl (g 1))), ((ra 2), .inl (cI, 5200, .inl (g 2))), ((ra 3), .inl (cI, 5200, .inl (g 3))), ((ra 4), .inl (cI, 5200, .inl (g 4))), ((ra 5), .inl (cI, 5200, .inl (g 5))), ((ra 6), .inl (cI, 5200, .inl (g 6))), ((ra 10), .inl (cI, 20200, .inl (g 10))), ((ra 11), .inl (cI, 20200, .inl (g 11))), ((ra 12), .inl (cI, 20200, .inl (g 12))), ((ra 13), .inl (cI, 6500, .inl (g 13))), ((ra 15), .inl (cI, 512, .inl (g 15))), ((ra 16), .inl (cI, 64, .inl (g 16))), ((ra 17), .inl (cI, 64, .inl (g 17))), ((ra 18), .inl (cI, 512, .inl (g 18))), ((ra 19), .inl (cI, 64, .inl (g 19))), ((ra 21), .inl (cI, 201, .inl (g 21))), ((ra 22), .inl (cI, 201, .inl (g 22))), ((ra 23), .inl (cI, 201, .inl (g 23))), ((ra 27), .inl (cI, 4, .inl (g 27)))]) (As := [.int y1, .int (nI 1), .int (nI (sN S))]) (rest := []) ⟨hx, hb, hml, hown, hts⟩ (cM_in l D cI y1 (nI 1) (nI (sN S))) gX4_record_X4_in rfl hd_X4_in ⟨Nat.le_of_ble_eq_true rfl, Nat.le_of_ble_eq_true rfl⟩ hw rfl rfl rfl hl.1 (Nat.le_of_ble_eq_true rfl) dX4_record_6 ⟨Nat.le_of_ble_eq_true rfl, Nat.le_of_ble_eq_true rfl⟩ (fun rv u H locs hq hw => ?_)
  obtain ⟨rr, rfl, hq⟩ := hq
  have hw : ww D cI _ _ s ([(a, .inr (4, [.ref (ra 0), .ref (ra 1), .ref (ra 2), .ref (ra 3), .ref (ra 4), .ref (ra 5), .ref (ra 6), .int (nI (sN S)), .int (nI (sFo S)), .int (nI (sCh S)), .ref (ra 10), .ref (ra 11), .ref (ra 12), .ref (ra 13), .int (nI (sPt S)), .ref (ra 15), .ref (ra 16), .ref (ra 17), .ref (ra 18), .ref (ra 19), .int (nI (sWk S)), .ref (ra 21), .ref (ra 22), .ref (ra 23), .int (nI (sDo S)), .int (nI (sAt S)), .int lt, .ref (ra 27)])), ((ra 0), .inl (cI, 5200, .inl (g 0))), ((ra 1), .inl (cI, 5200, .inl (g 1))), ((ra 2), .inl (cI, 5200, .inl (g 2))), ((ra 3), .inl (cI, 5200, .inl (g 3))), ((ra 4), .inl (cI, 5200, .inl (g 4))), ((ra 5), .inl (cI, 5200, .inl (g 5))), ((ra 6), .inl (cI, 5200, .inl (g 6))), ((ra 10), .inl (cI, 20200, .inl (g 10))), ((ra 11), .inl (cI, 20200, .inl (g 11))), ((ra 12), .inl (cI, 20200, .inl (g 12))), ((ra 13), .inl (cI, 6500, .inl (g 13))), ((ra 15), .inl (cI, 512, .inl (g 15))), ((ra 16), .inl (cI, 64, .inl (g 16))), ((ra 17), .inl (cI, 64, .inl (g 17))), ((ra 18), .inl (cI, 512, .inl (g 18))), ((ra 19), .inl (cI, 64, .inl (g 19))), ((ra 21), .inl (cI, 201, .inl (g 21))), ((ra 22), .inl (cI, 201, .inl (g 22))), ((ra 23), .inl (cI, 201, .inl (g 23))), ((ra 27), .inl (cI, 4, .inl (g 27)))]) H locs := hw
  refine W.eq (g2 := F0 m 9 ls [.int (rr)]) rfl ?_
  rcases hq with ⟨rfl, hq⟩ | ⟨rfl, hq⟩
  · have hq1 := hq.1
    have hq2 := hq.2
    simp (disch := omega) only [i_le, nI_toInt] at hq1 hq2
    obtain ⟨j, hj, rfl⟩ := i_nat (x := y1) (by omega)
    rw [nI_toInt hj] at hq1 hq2
    have hj1 : 1 ≤ j := by omega
    have hj2 : j ≤ sN S := by omega
    have hM := hm.1 j hj1 hj2
    have hRj := hI.2.1.1 j hj1 hj2
    refine lv_if_eq (tgt := 22) hx hb dX4_record_9 (by decide) (fun c_9 => absurd c_9 (by decide)) (fun c_9 => ?_)
    refine lv_iload_n hx hb dX4_record_12 rfl (lv_at hl 2 rfl) ?_
    refine lv_iconst (v := nI 0) hx hb dX4_record_13 (by decide +kernel) ?_
    refine lv_bipush (v := nI 6) hx hb dX4_record_14 (by decide +kernel) ?_
    refine ww_callS ([]) ([(a, .inr (4, [.ref (ra 0), .ref (ra 1), .ref (ra 2), .ref (ra 3), .ref (ra 4), .ref (ra 5), .ref (ra 6), .int (nI (sN S)), .int (nI (sFo S)), .int (nI (sCh S)), .ref (ra 10), .ref (ra 11), .ref (ra 12), .ref (ra 13), .int (nI (sPt S)), .ref (ra 15), .ref (ra 16), .ref (ra 17), .ref (ra 18), .ref (ra 19), .int (nI (sWk S)), .ref (ra 21), .ref (ra 22), .ref (ra 23), .int (nI (sDo S)), .int (nI (sAt S)), .int lt, .ref (ra 27)])), ((ra 0), .inl (cI, 5200, .inl (g 0))), ((ra 1), .inl (cI, 5200, .inl (g 1))), ((ra 2), .inl (cI, 5200, .inl (g 2))), ((ra 3), .inl (cI, 5200, .inl (g 3))), ((ra 4), .inl (cI, 5200, .inl (g 4))), ((ra 5), .inl (cI, 5200, .inl (g 5))), ((ra 6), .inl (cI, 5200, .inl (g 6))), ((ra 10), .inl (cI, 20200, .inl (g 10))), ((ra 11), .inl (cI, 20200, .inl (g 11))), ((ra 12), .inl (cI, 20200, .inl (g 12))), ((ra 13), .inl (cI, 6500, .inl (g 13))), ((ra 15), .inl (cI, 512, .inl (g 15))), ((ra 16), .inl (cI, 64, .inl (g 16))), ((ra 17), .inl (cI, 64, .inl (g 17))), ((ra 18), .inl (cI, 512, .inl (g 18))), ((ra 19), .inl (cI, 64, .inl (g 19))), ((ra 21), .inl (cI, 201, .inl (g 21))), ((ra 22), .inl (cI, 201, .inl (g 22))), ((ra 23), .inl (cI, 201, .inl (g 23))), ((ra 27), .inl (cI, 4, .inl (g 27)))]) (As := [.int y2, .int (nI 0), .int (nI 6)]) (rest := []) ⟨hx, hb, hml, hown, hts⟩ (cM_in l D cI y2 (nI 0) (nI 6)) gX4_record_X4_in rfl hd_X4_in ⟨Nat.le_of_ble_eq_true rfl, Nat.le_of_ble_eq_true rfl⟩ hw rfl rfl rfl hl.1 (Nat.le_of_ble_eq_true rfl) dX4_record_16 ⟨Nat.le_of_ble_eq_true rfl, Nat.le_of_ble_eq_true rfl⟩ (fun rv u H locs hq hw => ?_)
    obtain ⟨rr, rfl, hq⟩ := hq
    have hw : ww D cI _ _ s ([(a, .inr (4, [.ref (ra 0), .ref (ra 1), .ref (ra 2), .ref (ra 3), .ref (ra 4), .ref (ra 5), .ref (ra 6), .int (nI (sN S)), .int (nI (sFo S)), .int (nI (sCh S)), .ref (ra 10), .ref (ra 11), .ref (ra 12), .ref (ra 13), .int (nI (sPt S)), .ref (ra 15), .ref (ra 16), .ref (ra 17), .ref (ra 18), .ref (ra 19), .int (nI (sWk S)), .ref (ra 21), .ref (ra 22), .ref (ra 23), .int (nI (sDo S)), .int (nI (sAt S)), .int lt, .ref (ra 27)])), ((ra 0), .inl (cI, 5200, .inl (g 0))), ((ra 1), .inl (cI, 5200, .inl (g 1))), ((ra 2), .inl (cI, 5200, .inl (g 2))), ((ra 3), .inl (cI, 5200, .inl (g 3))), ((ra 4), .inl (cI, 5200, .inl (g 4))), ((ra 5), .inl (cI, 5200, .inl (g 5))), ((ra 6), .inl (cI, 5200, .inl (g 6))), ((ra 10), .inl (cI, 20200, .inl (g 10))), ((ra 11), .inl (cI, 20200, .inl (g 11))), ((ra 12), .inl (cI, 20200, .inl (g 12))), ((ra 13), .inl (cI, 6500, .inl (g 13))), ((ra 15), .inl (cI, 512, .inl (g 15))), ((ra 16), .inl (cI, 64, .inl (g 16))), ((ra 17), .inl (cI, 64, .inl (g 17))), ((ra 18), .inl (cI, 512, .inl (g 18))), ((ra 19), .inl (cI, 64, .inl (g 19))), ((ra 21), .inl (cI, 201, .inl (g 21))), ((ra 22), .inl (cI, 201, .inl (g 22))), ((ra 23), .inl (cI, 201, .inl (g 23))), ((ra 27), .inl (cI, 4, .inl (g 27)))]) H locs := hw
    refine W.eq (g2 := F0 m 19 ls [.int (rr)]) rfl ?_
    rcases hq with ⟨rfl, hq⟩ | ⟨rfl, hq⟩
    · obtain ⟨t, ht, rfl⟩ := in_y (by omega) hq
      have ho : 1 ≤ (nI j).toInt ∧ (nI j).toInt ≤ (sN S : Int) ∧ inN (nI t) 7 := by rw [nI_toInt hj]; exact ⟨by omega, by omega, (inN_iff (by omega)).mpr ⟨t, by omega, rfl⟩⟩
      have hcs : cl (nI j) = j ∧ cl (nI t) = t := ⟨cl_nI hj, cl_nI (by omega)⟩
      refine lv_if_ne (tgt := 24) hx hb dX4_record_19 (by decide) (fun c_19 => ?_) (fun c_19 => absurd c_19 (by decide))
      refine lv_iload_n hx hb dX4_record_24 rfl (lv_at hl 2 rfl) ?_
      by_cases c_25_0 : nI t = nI 0
      · refine lv_tableIn (tgt := 64) (off := 39) hx hb dX4_record_25 (by rw [c_25_0]; decide +kernel) (by rw [c_25_0]; decide +kernel) (by rw [c_25_0]; decide +kernel) (by decide) ?_
        refine lv_aload_n hx hb dX4_record_64 rfl (lv_at hl 0 rfl) ?_
        refine ww_get hx hb hts hin4 hown hw 0 rfl rfl 0 (by decide) k7 rfl dX4_record_65 ?_
        refine lv_iload_n hx hb dX4_record_68 rfl (lv_at hl 1 rfl) ?_
        refine ww_iald hx hb hw 1 rfl j rfl (by omega) (by omega) dX4_record_69 ?_
        exact ww_iret (u := ()) hx hb hr hlk hw (by rw [oRec, if_pos ho, hcs.1, hcs.2, nI_q (by omega) (by omega) c_25_0]; exact hM.1) (Nat.le_of_ble_eq_true rfl) (Nat.le_of_ble_eq_true rfl) dX4_record_70
      by_cases c_25_1 : nI t = nI 1
      · refine lv_tableIn (tgt := 71) (off := 46) hx hb dX4_record_25 (by rw [c_25_1]; decide +kernel) (by rw [c_25_1]; decide +kernel) (by rw [c_25_1]; decide +kernel) (by decide) ?_
        refine lv_aload_n hx hb dX4_record_71 rfl (lv_at hl 0 rfl) ?_
        refine ww_get hx hb hts hin4 hown hw 0 rfl rfl 1 (by decide) k13 rfl dX4_record_72 ?_
        refine lv_iload_n hx hb dX4_record_75 rfl (lv_at hl 1 rfl) ?_
        refine ww_iald hx hb hw 2 rfl j rfl (by omega) (by omega) dX4_record_76 ?_
        exact ww_iret (u := ()) hx hb hr hlk hw (by rw [oRec, if_pos ho, hcs.1, hcs.2, nI_q (by omega) (by omega) c_25_1]; exact hM.2.1) (Nat.le_of_ble_eq_true rfl) (Nat.le_of_ble_eq_true rfl) dX4_record_77
      by_cases c_25_2 : nI t = nI 2
      · refine lv_tableIn (tgt := 78) (off := 53) hx hb dX4_record_25 (by rw [c_25_2]; decide +kernel) (by rw [c_25_2]; decide +kernel) (by rw [c_25_2]; decide +kernel) (by decide) ?_
        refine lv_aload_n hx hb dX4_record_78 rfl (lv_at hl 0 rfl) ?_
        refine ww_get hx hb hts hin4 hown hw 0 rfl rfl 2 (by decide) k16 rfl dX4_record_79 ?_
        refine lv_iload_n hx hb dX4_record_82 rfl (lv_at hl 1 rfl) ?_
        refine ww_iald hx hb hw 3 rfl j rfl (by omega) (by omega) dX4_record_83 ?_
        exact ww_iret (u := ()) hx hb hr hlk hw (by rw [oRec, if_pos ho, hcs.1, hcs.2, nI_q (by omega) (by omega) c_25_2]; exact hM.2.2.1) (Nat.le_of_ble_eq_true rfl) (Nat.le_of_ble_eq_true rfl) dX4_record_84
      by_cases c_25_3 : nI t = nI 3
      · refine lv_tableIn (tgt := 85) (off := 60) hx hb dX4_record_25 (by rw [c_25_3]; decide +kernel) (by rw [c_25_3]; decide +kernel) (by rw [c_25_3]; decide +kernel) (by decide) ?_
        refine lv_aload_n hx hb dX4_record_85 rfl (lv_at hl 0 rfl) ?_
        refine ww_get hx hb hts hin4 hown hw 0 rfl rfl 3 (by decide) k19 rfl dX4_record_86 ?_
        refine lv_iload_n hx hb dX4_record_89 rfl (lv_at hl 1 rfl) ?_
        refine ww_iald hx hb hw 4 rfl j rfl (by omega) (by omega) dX4_record_90 ?_
        exact ww_iret (u := ()) hx hb hr hlk hw (by rw [oRec, if_pos ho, hcs.1, hcs.2, nI_q (by omega) (by omega) c_25_3]; exact hM.2.2.2.1) (Nat.le_of_ble_eq_true rfl) (Nat.le_of_ble_eq_true rfl) dX4_record_91
      by_cases c_25_4 : nI t = nI 4
      · refine lv_tableIn (tgt := 92) (off := 67) hx hb dX4_record_25 (by rw [c_25_4]; decide +kernel) (by rw [c_25_4]; decide +kernel) (by rw [c_25_4]; decide +kernel) (by decide) ?_
        refine lv_aload_n hx hb dX4_record_92 rfl (lv_at hl 0 rfl) ?_
        refine ww_get hx hb hts hin4 hown hw 0 rfl rfl 4 (by decide) k22 rfl dX4_record_93 ?_
        refine lv_iload_n hx hb dX4_record_96 rfl (lv_at hl 1 rfl) ?_
        refine ww_iald hx hb hw 5 rfl j rfl (by omega) (by omega) dX4_record_97 ?_
        exact ww_iret (u := ()) hx hb hr hlk hw (by rw [oRec, if_pos ho, hcs.1, hcs.2, nI_q (by omega) (by omega) c_25_4]; exact hM.2.2.2.2.1) (Nat.le_of_ble_eq_true rfl) (Nat.le_of_ble_eq_true rfl) dX4_record_98
      by_cases c_25_5 : nI t = nI 5
      · refine lv_tableIn (tgt := 99) (off := 74) hx hb dX4_record_25 (by rw [c_25_5]; decide +kernel) (by rw [c_25_5]; decide +kernel) (by rw [c_25_5]; decide +kernel) (by decide) ?_
        refine lv_aload_n hx hb dX4_record_99 rfl (lv_at hl 0 rfl) ?_
        refine ww_get hx hb hts hin4 hown hw 0 rfl rfl 5 (by decide) k25 rfl dX4_record_100 ?_
        refine lv_iload_n hx hb dX4_record_103 rfl (lv_at hl 1 rfl) ?_
        refine ww_iald hx hb hw 6 rfl j rfl (by omega) (by omega) dX4_record_104 ?_
        exact ww_iret (u := ()) hx hb hr hlk hw (by rw [oRec, if_pos ho, hcs.1, hcs.2, nI_q (by omega) (by omega) c_25_5]; exact hM.2.2.2.2.2.1) (Nat.le_of_ble_eq_true rfl) (Nat.le_of_ble_eq_true rfl) dX4_record_105
      refine lv_tableOut (tgt := 106) hx hb dX4_record_25 (swo6 c_25_0 c_25_1 c_25_2 c_25_3 c_25_4 c_25_5) (by decide) ?_
      refine lv_aload_n hx hb dX4_record_106 rfl (lv_at hl 0 rfl) ?_
      refine ww_get hx hb hts hin4 hown hw 0 rfl rfl 0 (by decide) k7 rfl dX4_record_107 ?_
      refine lv_iload_n hx hb dX4_record_110 rfl (lv_at hl 1 rfl) ?_
      refine ww_iald hx hb hw 1 rfl j rfl (by omega) (by omega) dX4_record_111 ?_
      refine lv_iconst (v := nI 2) hx hb dX4_record_112 (by decide +kernel) ?_
      refine lv_icmp_ne (tgt := 125) hx hb dX4_record_113 (by decide) (fun c_113 => ?_) (fun c_113 => ?_)
      · refine lv_iconst (v := nI 0) hx hb dX4_record_125 (by decide +kernel) ?_
        exact ww_iret (u := ()) hx hb hr hlk hw (by rw [oRec, if_pos ho, hcs.1, hcs.2, show t = 6 by have h0 := nI_ne (by omega) (by omega) c_25_0; have h1 := nI_ne (by omega) (by omega) c_25_1; have h2 := nI_ne (by omega) (by omega) c_25_2; have h3 := nI_ne (by omega) (by omega) c_25_3; have h4 := nI_ne (by omega) (by omega) c_25_4; have h5 := nI_ne (by omega) (by omega) c_25_5; omega]; show nI 0 = nI (rG (sR S j)); rw [hRj.2.2.2.2.2.2.2.2.1 (fun q => c_113 (by rw [hM.1, q]))]) (Nat.le_of_ble_eq_true rfl) (Nat.le_of_ble_eq_true rfl) dX4_record_126
      · refine lv_aload_n hx hb dX4_record_116 rfl (lv_at hl 0 rfl) ?_
        refine ww_get hx hb hts hin4 hown hw 0 rfl rfl 6 (by decide) k28 rfl dX4_record_117 ?_
        refine lv_iload_n hx hb dX4_record_120 rfl (lv_at hl 1 rfl) ?_
        refine ww_iald hx hb hw 7 rfl j rfl (by omega) (by omega) dX4_record_121 ?_
        refine lv_goto (tgt := 126) hx hb dX4_record_122 (by decide) ?_
        exact ww_iret (u := ()) hx hb hr hlk hw (by rw [oRec, if_pos ho, hcs.1, hcs.2, show t = 6 by have h0 := nI_ne (by omega) (by omega) c_25_0; have h1 := nI_ne (by omega) (by omega) c_25_1; have h2 := nI_ne (by omega) (by omega) c_25_2; have h3 := nI_ne (by omega) (by omega) c_25_3; have h4 := nI_ne (by omega) (by omega) c_25_4; have h5 := nI_ne (by omega) (by omega) c_25_5; omega]; exact hM.2.2.2.2.2.2 (fun q => by rw [hM.1, q] at c_113; exact absurd c_113 (by decide))) (Nat.le_of_ble_eq_true rfl) (Nat.le_of_ble_eq_true rfl) dX4_record_126
    · skip
      refine lv_if_ne (tgt := 24) hx hb dX4_record_19 (by decide) (fun c_19 => absurd c_19 (fun q => q rfl)) (fun c_19 => ?_)
      refine lv_iconst (v := (-1)) hx hb dX4_record_22 (by decide +kernel) ?_
      exact ww_iret (u := ()) hx hb hr hlk hw (by first | (rw [oRec, if_neg ho]) | (rw [oRec, if_neg (fun q => in_n (by omega) hq q.2.2)])) (Nat.le_of_ble_eq_true rfl) (Nat.le_of_ble_eq_true rfl) dX4_record_23
  · have ho : ¬ (1 ≤ y1.toInt ∧ y1.toInt ≤ (sN S : Int) ∧ inN y2 7) := fun q => hq (by constructor <;> simp (disch := omega) only [i_le, nI_toInt] <;> omega)
    refine lv_if_eq (tgt := 22) hx hb dX4_record_9 (by decide) (fun c_9 => ?_) (fun c_9 => absurd (rfl) c_9)
    refine lv_iconst (v := (-1)) hx hb dX4_record_22 (by decide +kernel) ?_
    exact ww_iret (u := ()) hx hb hr hlk hw (by first | (rw [oRec, if_neg ho]) | (rw [oRec, if_neg (fun q => in_n (by omega) hq q.2.2)])) (Nat.le_of_ble_eq_true rfl) (Nat.le_of_ble_eq_true rfl) dX4_record_23
set_option maxHeartbeats 1000000 in
set_option maxRecDepth 100000 in
theorem cG_count (l : Launch) (D : va_G) (cI : ClassId) (a : Nat) (ra : Nat → Nat) (S : SS) (g : Nat → Nat → Int32) (lt : Int32) (b : Nat) (hI : Inv0 b S) (hb4 : b ≤ 4000) (hm : RM S g lt 201) (y1 : Int32) : Kt l yX4_count wsX4_count 1 22 (0) (0) D cI [.ref a, .int y1] ([(a, .inr (4, [.ref (ra 0), .ref (ra 1), .ref (ra 2), .ref (ra 3), .ref (ra 4), .ref (ra 5), .ref (ra 6), .int (nI (sN S)), .int (nI (sFo S)), .int (nI (sCh S)), .ref (ra 10), .ref (ra 11), .ref (ra 12), .ref (ra 13), .int (nI (sPt S)), .ref (ra 15), .ref (ra 16), .ref (ra 17), .ref (ra 18), .ref (ra 19), .int (nI (sWk S)), .ref (ra 21), .ref (ra 22), .ref (ra 23), .int (nI (sDo S)), .int (nI (sAt S)), .int lt, .ref (ra 27)])), ((ra 0), .inl (cI, 5200, .inl (g 0))), ((ra 1), .inl (cI, 5200, .inl (g 1))), ((ra 2), .inl (cI, 5200, .inl (g 2))), ((ra 3), .inl (cI, 5200, .inl (g 3))), ((ra 4), .inl (cI, 5200, .inl (g 4))), ((ra 5), .inl (cI, 5200, .inl (g 5))), ((ra 6), .inl (cI, 5200, .inl (g 6))), ((ra 10), .inl (cI, 20200, .inl (g 10))), ((ra 11), .inl (cI, 20200, .inl (g 11))), ((ra 12), .inl (cI, 20200, .inl (g 12))), ((ra 13), .inl (cI, 6500, .inl (g 13))), ((ra 15), .inl (cI, 512, .inl (g 15))), ((ra 16), .inl (cI, 64, .inl (g 16))), ((ra 17), .inl (cI, 64, .inl (g 17))), ((ra 18), .inl (cI, 512, .inl (g 18))), ((ra 19), .inl (cI, 64, .inl (g 19))), ((ra 21), .inl (cI, 201, .inl (g 21))), ((ra 22), .inl (cI, 201, .inl (g 22))), ((ra 23), .inl (cI, 201, .inl (g 23))), ((ra 27), .inl (cI, 4, .inl (g 27)))]) (pI (fun (r : Int32) (u : Unit) => r = oCount S y1)) (fun (u : Unit) => [(a, .inr (4, [.ref (ra 0), .ref (ra 1), .ref (ra 2), .ref (ra 3), .ref (ra 4), .ref (ra 5), .ref (ra 6), .int (nI (sN S)), .int (nI (sFo S)), .int (nI (sCh S)), .ref (ra 10), .ref (ra 11), .ref (ra 12), .ref (ra 13), .int (nI (sPt S)), .ref (ra 15), .ref (ra 16), .ref (ra 17), .ref (ra 18), .ref (ra 19), .int (nI (sWk S)), .ref (ra 21), .ref (ra 22), .ref (ra 23), .int (nI (sDo S)), .int (nI (sAt S)), .int lt, .ref (ra 27)])), ((ra 0), .inl (cI, 5200, .inl (g 0))), ((ra 1), .inl (cI, 5200, .inl (g 1))), ((ra 2), .inl (cI, 5200, .inl (g 2))), ((ra 3), .inl (cI, 5200, .inl (g 3))), ((ra 4), .inl (cI, 5200, .inl (g 4))), ((ra 5), .inl (cI, 5200, .inl (g 5))), ((ra 6), .inl (cI, 5200, .inl (g 6))), ((ra 10), .inl (cI, 20200, .inl (g 10))), ((ra 11), .inl (cI, 20200, .inl (g 11))), ((ra 12), .inl (cI, 20200, .inl (g 12))), ((ra 13), .inl (cI, 6500, .inl (g 13))), ((ra 15), .inl (cI, 512, .inl (g 15))), ((ra 16), .inl (cI, 64, .inl (g 16))), ((ra 17), .inl (cI, 64, .inl (g 17))), ((ra 18), .inl (cI, 512, .inl (g 18))), ((ra 19), .inl (cI, 64, .inl (g 19))), ((ra 21), .inl (cI, 201, .inl (g 21))), ((ra 22), .inl (cI, 201, .inl (g 22))), ((ra 23), .inl (cI, 201, .inl (g 23))), ((ra 27), .inl (cI, 4, .inl (g 27)))]) := by
  refine kt_start (cc := cX4_count) (maxL := 2) (ret := (some .int)) (by decide +kernel) rfl (Nat.le_of_ble_eq_true rfl) ?_
  intro p e s m below meth c hx hb hml hr hlk hown hnm hts ls hl hw
  have hown : s.vm.findClass RX4 = some m.cls := hown
  have hl : lv_has ls 2 [(0, .ref a), (1, .int y1)] := hl
  have k67 := hts (.fieldLink RX4 67 "RestartBookModel" "counts" "[I") (by decide +kernel)
  have k78 := hts (.fieldLink RX4 78 "RestartBookModel" "records" "I") (by decide +kernel)
  have k81 := hts (.fieldLink RX4 81 "RestartBookModel" "forced" "I") (by decide +kernel)
  have hin4 : ∀ w ∈ u_ws RX4 TX4 28, w ∈ wsX4_count := in_X4_count
  have hn4 := Inv0_n hI
  have hwk := hI.2.1.2.1
  have hdo4 : sDo S ≤ 4 := by rcases hI.2.2.2.2.2 with q | q | q <;> omega
  have hTB := Inv0_TB hI hb4
  refine lv_iload_n hx hb dX4_count_0 rfl (lv_at hl 1 rfl) ?_
  refine lv_iconst (v := nI 0) hx hb dX4_count_1 (by decide +kernel) ?_
  refine lv_iconst (v := nI 5) hx hb dX4_count_2 (by decide +kernel) ?_
  refine ww_callS ([]) ([(a, .inr (4, [.ref (ra 0), .ref (ra 1), .ref (ra 2), .ref (ra 3), .ref (ra 4), .ref (ra 5), .ref (ra 6), .int (nI (sN S)), .int (nI (sFo S)), .int (nI (sCh S)), .ref (ra 10), .ref (ra 11), .ref (ra 12), .ref (ra 13), .int (nI (sPt S)), .ref (ra 15), .ref (ra 16), .ref (ra 17), .ref (ra 18), .ref (ra 19), .int (nI (sWk S)), .ref (ra 21), .ref (ra 22), .ref (ra 23), .int (nI (sDo S)), .int (nI (sAt S)), .int lt, .ref (ra 27)])), ((ra 0), .inl (cI, 5200, .inl (g 0))), ((ra 1), .inl (cI, 5200, .inl (g 1))), ((ra 2), .inl (cI, 5200, .inl (g 2))), ((ra 3), .inl (cI, 5200, .inl (g 3))), ((ra 4), .inl (cI, 5200, .inl (g 4))), ((ra 5), .inl (cI, 5200, .inl (g 5))), ((ra 6), .inl (cI, 5200, .inl (g 6))), ((ra 10), .inl (cI, 20200, .inl (g 10))), ((ra 11), .inl (cI, 20200, .inl (g 11))), ((ra 12), .inl (cI, 20200, .inl (g 12))), ((ra 13), .inl (cI, 6500, .inl (g 13))), ((ra 15), .inl (cI, 512, .inl (g 15))), ((ra 16), .inl (cI, 64, .inl (g 16))), ((ra 17), .inl (cI, 64, .inl (g 17))), ((ra 18), .inl (cI, 512, .inl (g 18))), ((ra 19), .inl (cI, 64, .inl (g 19))), ((ra 21), .inl (cI, 201, .inl (g 21))), ((ra 22), .inl (cI, 201, .inl (g 22))), ((ra 23), .inl (cI, 201, .inl (g 23))), ((ra 27), .inl (cI, 4, .inl (g 27)))]) (As := [.int y1, .int (nI 0), .int (nI 5)]) (rest := []) ⟨hx, hb, hml, hown, hts⟩ (cM_in l D cI y1 (nI 0) (nI 5)) gX4_count_X4_in rfl hd_X4_in ⟨Nat.le_of_ble_eq_true rfl, Nat.le_of_ble_eq_true rfl⟩ hw rfl rfl rfl hl.1 (Nat.le_of_ble_eq_true rfl) dX4_count_3 ⟨Nat.le_of_ble_eq_true rfl, Nat.le_of_ble_eq_true rfl⟩ (fun rv u H locs hq hw => ?_)
  obtain ⟨rr, rfl, hq⟩ := hq
  have hw : ww D cI _ _ s ([(a, .inr (4, [.ref (ra 0), .ref (ra 1), .ref (ra 2), .ref (ra 3), .ref (ra 4), .ref (ra 5), .ref (ra 6), .int (nI (sN S)), .int (nI (sFo S)), .int (nI (sCh S)), .ref (ra 10), .ref (ra 11), .ref (ra 12), .ref (ra 13), .int (nI (sPt S)), .ref (ra 15), .ref (ra 16), .ref (ra 17), .ref (ra 18), .ref (ra 19), .int (nI (sWk S)), .ref (ra 21), .ref (ra 22), .ref (ra 23), .int (nI (sDo S)), .int (nI (sAt S)), .int lt, .ref (ra 27)])), ((ra 0), .inl (cI, 5200, .inl (g 0))), ((ra 1), .inl (cI, 5200, .inl (g 1))), ((ra 2), .inl (cI, 5200, .inl (g 2))), ((ra 3), .inl (cI, 5200, .inl (g 3))), ((ra 4), .inl (cI, 5200, .inl (g 4))), ((ra 5), .inl (cI, 5200, .inl (g 5))), ((ra 6), .inl (cI, 5200, .inl (g 6))), ((ra 10), .inl (cI, 20200, .inl (g 10))), ((ra 11), .inl (cI, 20200, .inl (g 11))), ((ra 12), .inl (cI, 20200, .inl (g 12))), ((ra 13), .inl (cI, 6500, .inl (g 13))), ((ra 15), .inl (cI, 512, .inl (g 15))), ((ra 16), .inl (cI, 64, .inl (g 16))), ((ra 17), .inl (cI, 64, .inl (g 17))), ((ra 18), .inl (cI, 512, .inl (g 18))), ((ra 19), .inl (cI, 64, .inl (g 19))), ((ra 21), .inl (cI, 201, .inl (g 21))), ((ra 22), .inl (cI, 201, .inl (g 22))), ((ra 23), .inl (cI, 201, .inl (g 23))), ((ra 27), .inl (cI, 4, .inl (g 27)))]) H locs := hw
  refine W.eq (g2 := F0 m 6 ls [.int (rr)]) rfl ?_
  rcases hq with ⟨rfl, hq⟩ | ⟨rfl, hq⟩
  · obtain ⟨t, ht, rfl⟩ := in_y (by omega) hq
    refine lv_if_ne (tgt := 12) hx hb dX4_count_6 (by decide) (fun c_6 => ?_) (fun c_6 => absurd c_6 (by decide))
    refine lv_iload_n hx hb dX4_count_12 rfl (lv_at hl 1 rfl) ?_
    refine lv_if_ne (tgt := 23) hx hb dX4_count_13 (by decide) (fun c_13 => ?_) (fun c_13 => ?_)
    · refine lv_iload_n hx hb dX4_count_23 rfl (lv_at hl 1 rfl) ?_
      refine lv_iconst (v := nI 1) hx hb dX4_count_24 (by decide +kernel) ?_
      refine lv_icmp_ne (tgt := 35) hx hb dX4_count_25 (by decide) (fun c_25 => ?_) (fun c_25 => ?_)
      · have h0 : t ≠ 0 := fun q => c_13 (by rw [q]; decide)
        have h1 : t ≠ 1 := fun q => c_25 (by rw [q])
        have hcn := hm.2.2.2.2.2.1
        refine lv_aload_n hx hb dX4_count_35 rfl (lv_at hl 0 rfl) ?_
        refine ww_get hx hb hts hin4 hown hw 0 rfl rfl 27 (by decide) k67 rfl dX4_count_36 ?_
        refine lv_iload_n hx hb dX4_count_39 rfl (lv_at hl 1 rfl) ?_
        refine lv_iconst (v := nI 2) hx hb dX4_count_40 (by decide +kernel) ?_
        refine lv_isub hx hb dX4_count_41 ?_
        refine lv_eqi (show _ = nI (t - 2) from pk_sub (by omega)) ?_
        refine ww_iald hx hb hw 20 rfl (t - 2) rfl (by omega) (by omega) dX4_count_42 ?_
        exact ww_iret (u := ()) hx hb hr hlk hw (by rw [oCount, if_neg c_13, if_neg c_25]; rcases (show t = 2 ∨ t = 3 ∨ t = 4 ∨ t = 5 by omega) with q | q | q | q <;> subst q; (rw [if_pos rfl]; exact hcn.1); (rw [if_neg (by decide), if_pos rfl]; exact hcn.2.1); (rw [if_neg (by decide), if_neg (by decide), if_pos rfl]; exact hcn.2.2.1); (rw [if_neg (by decide), if_neg (by decide), if_neg (by decide), if_pos rfl]; exact hcn.2.2.2)) (Nat.le_of_ble_eq_true rfl) (Nat.le_of_ble_eq_true rfl) dX4_count_43
      · refine lv_aload_n hx hb dX4_count_28 rfl (lv_at hl 0 rfl) ?_
        refine ww_get hx hb hts hin4 hown hw 0 rfl rfl 8 (by decide) k81 rfl dX4_count_29 ?_
        refine lv_goto (tgt := 43) hx hb dX4_count_32 (by decide) ?_
        exact ww_iret (u := ()) hx hb hr hlk hw (by rw [oCount, if_neg c_13, if_pos c_25]) (Nat.le_of_ble_eq_true rfl) (Nat.le_of_ble_eq_true rfl) dX4_count_43
    · refine lv_aload_n hx hb dX4_count_16 rfl (lv_at hl 0 rfl) ?_
      refine ww_get hx hb hts hin4 hown hw 0 rfl rfl 7 (by decide) k78 rfl dX4_count_17 ?_
      refine lv_goto (tgt := 43) hx hb dX4_count_20 (by decide) ?_
      exact ww_iret (u := ()) hx hb hr hlk hw (by rw [oCount, if_pos c_13]) (Nat.le_of_ble_eq_true rfl) (Nat.le_of_ble_eq_true rfl) dX4_count_43
  · skip
    refine lv_if_ne (tgt := 12) hx hb dX4_count_6 (by decide) (fun c_6 => absurd c_6 (fun q => q rfl)) (fun c_6 => ?_)
    refine lv_bipush (v := (-102)) hx hb dX4_count_9 (by decide +kernel) ?_
    exact ww_iret (u := ()) hx hb hr hlk hw (by rw [oCount, if_neg (fun q => hq (by rw [q]; decide)), if_neg (fun q => hq (by rw [q]; decide)), if_neg (fun q => hq (by rw [q]; decide)), if_neg (fun q => hq (by rw [q]; decide)), if_neg (fun q => hq (by rw [q]; decide)), if_neg (fun q => hq (by rw [q]; decide))]) (Nat.le_of_ble_eq_true rfl) (Nat.le_of_ble_eq_true rfl) dX4_count_11
