/-! RestartBook: the calls of its face (3): what is asked; write, force -/
set_option maxRecDepth 20000 in
theorem in_X3_write : ∀ w ∈ u_ws RX3 TX3 13, w ∈ wsX3_write := by
  intro w h
  show w ∈ wsX3_write
  simp only [wsX3_write, List.mem_cons, List.mem_append]
  simp only [h, true_or, or_true]
set_option maxRecDepth 20000 in
theorem in_X3_force : ∀ w ∈ u_ws RX3 TX3 13, w ∈ wsX3_force := by
  intro w h
  show w ∈ wsX3_force
  simp only [wsX3_force, List.mem_cons, List.mem_append]
  simp only [h, true_or, or_true]
set_option maxRecDepth 20000 in
theorem in_X3_part : ∀ w ∈ u_ws RX3 TX3 13, w ∈ wsX3_part := by
  intro w h
  show w ∈ wsX3_part
  simp only [wsX3_part, List.mem_cons, List.mem_append]
  simp only [h, true_or, or_true]
set_option maxRecDepth 20000 in
theorem in_X3_word : ∀ w ∈ u_ws RX3 TX3 13, w ∈ wsX3_word := by
  intro w h
  show w ∈ wsX3_word
  simp only [wsX3_word, List.mem_cons, List.mem_append]
  simp only [h, true_or, or_true]
set_option maxRecDepth 20000 in
theorem in_X3_page : ∀ w ∈ u_ws RX3 TX3 13, w ∈ wsX3_page := by
  intro w h
  show w ∈ wsX3_page
  simp only [wsX3_page, List.mem_cons, List.mem_append]
  simp only [h, true_or, or_true]
set_option maxRecDepth 20000 in
theorem in_X3_table : ∀ w ∈ u_ws RX3 TX3 13, w ∈ wsX3_table := by
  intro w h
  show w ∈ wsX3_table
  simp only [wsX3_table, List.mem_cons, List.mem_append]
  simp only [h, true_or, or_true]
set_option maxRecDepth 20000 in
theorem in_X3_record : ∀ w ∈ u_ws RX3 TX3 13, w ∈ wsX3_record := by
  intro w h
  show w ∈ wsX3_record
  simp only [wsX3_record, List.mem_cons, List.mem_append]
  simp only [h, true_or, or_true]
set_option maxRecDepth 20000 in
theorem in_X3_count : ∀ w ∈ u_ws RX3 TX3 13, w ∈ wsX3_count := by
  intro w h
  show w ∈ wsX3_count
  simp only [wsX3_count, List.mem_cons, List.mem_append]
  simp only [h, true_or, or_true]
theorem hd_X3_write : yX3_write.cls = RX3 ∧ yX3_write.cls ≠ "java/lang/invoke/MethodHandle" ∧ yX3_write.cls ≠ "java/lang/invoke/VarHandle" ∧ (parseMethodDescriptor yX3_write.desc).map (fun d => d.parameters.length) = some 1 := by decide +kernel
theorem hd_X3_force : yX3_force.cls = RX3 ∧ yX3_force.cls ≠ "java/lang/invoke/MethodHandle" ∧ yX3_force.cls ≠ "java/lang/invoke/VarHandle" ∧ (parseMethodDescriptor yX3_force.desc).map (fun d => d.parameters.length) = some 1 := by decide +kernel
theorem hd_X3_part : yX3_part.cls = RX3 ∧ yX3_part.cls ≠ "java/lang/invoke/MethodHandle" ∧ yX3_part.cls ≠ "java/lang/invoke/VarHandle" ∧ (parseMethodDescriptor yX3_part.desc).map (fun d => d.parameters.length) = some 0 := by decide +kernel
theorem hd_X3_word : yX3_word.cls = RX3 ∧ yX3_word.cls ≠ "java/lang/invoke/MethodHandle" ∧ yX3_word.cls ≠ "java/lang/invoke/VarHandle" ∧ (parseMethodDescriptor yX3_word.desc).map (fun d => d.parameters.length) = some 2 := by decide +kernel
theorem hd_X3_page : yX3_page.cls = RX3 ∧ yX3_page.cls ≠ "java/lang/invoke/MethodHandle" ∧ yX3_page.cls ≠ "java/lang/invoke/VarHandle" ∧ (parseMethodDescriptor yX3_page.desc).map (fun d => d.parameters.length) = some 2 := by decide +kernel
theorem hd_X3_table : yX3_table.cls = RX3 ∧ yX3_table.cls ≠ "java/lang/invoke/MethodHandle" ∧ yX3_table.cls ≠ "java/lang/invoke/VarHandle" ∧ (parseMethodDescriptor yX3_table.desc).map (fun d => d.parameters.length) = some 2 := by decide +kernel
theorem hd_X3_record : yX3_record.cls = RX3 ∧ yX3_record.cls ≠ "java/lang/invoke/MethodHandle" ∧ yX3_record.cls ≠ "java/lang/invoke/VarHandle" ∧ (parseMethodDescriptor yX3_record.desc).map (fun d => d.parameters.length) = some 2 := by decide +kernel
theorem hd_X3_count : yX3_count.cls = RX3 ∧ yX3_count.cls ≠ "java/lang/invoke/MethodHandle" ∧ yX3_count.cls ≠ "java/lang/invoke/VarHandle" ∧ (parseMethodDescriptor yX3_count.desc).map (fun d => d.parameters.length) = some 1 := by decide +kernel
set_option maxHeartbeats 1000000 in
set_option maxRecDepth 100000 in
theorem cF_part (l : Launch) (D : va_G) (cI : ClassId) (a aL : Nat) (pa : A5) (ta da : A6) (S : SS) (x : XG) (b : Nat) (hI0 : Inv b S) (h5 : E5 S) (hb4 : b ≤ 4000) (hrx : RX S x) : Kt l yX3_part wsX3_part 0 0 (0) (0) D cI [.ref a] ([(a, .inr (3, [.ref aL, .ref pa.1, .ref ta.1, .ref da.1, .int (nI (sLp S)), .int (nI (sPt S)), .int (nI (sWk S)), .int (nI (sDo S)), .int (nI (sAt S)), .int (sC2 S), .int (sC3 S), .int (sC4 S), .int (sC5 S)]))] ++ (wL cI aL x.1 S.1 x.2.1 ++ (wG cI pa S.2.1 ++ (wT cI ta x.2.2.1 x.2.2.2.1 ++ wT cI da x.2.2.2.2.1 x.2.2.2.2.2)))) (pI (fun (r : Int32) (u : XG) => r = nI (sDo S) ∧ u = x)) (fun (u : XG) => [(a, .inr (3, [.ref aL, .ref pa.1, .ref ta.1, .ref da.1, .int (nI (sLp S)), .int (nI (sPt S)), .int (nI (sWk S)), .int (nI (sDo S)), .int (nI (sAt S)), .int (sC2 S), .int (sC3 S), .int (sC4 S), .int (sC5 S)]))] ++ (wL cI aL u.1 S.1 u.2.1 ++ (wG cI pa S.2.1 ++ (wT cI ta u.2.2.1 u.2.2.2.1 ++ wT cI da u.2.2.2.2.1 u.2.2.2.2.2)))) := by
  refine kt_start (cc := cX3_part) (maxL := 1) (ret := (some .int)) (by decide +kernel) rfl (Nat.le_of_ble_eq_true rfl) ?_
  intro p e s m below meth c hx hb hml hr hlk hown hnm hts ls hl hw
  have hown : s.vm.findClass RX3 = some m.cls := hown
  have hl : lv_has ls 1 [(0, .ref a)] := hl
  have k43 := hts (.fieldLink RX3 43 "RestartBook" "doing" "I") (by decide +kernel)
  have hin3 : ∀ w ∈ u_ws RX3 TX3 13, w ∈ wsX3_part := in_X3_part
  have hI := hI0.1
  have hn4 := Inv0_n hI
  have hwk := hI.2.1.2.1
  have hdo4 : sDo S ≤ 4 := by rcases hI.2.2.2.2.2 with z | z | z <;> omega
  refine lv_aload_n hx hb dX3_part_0 rfl (lv_at hl 0 rfl) ?_
  refine ww_get hx hb hts hin3 hown hw 0 rfl rfl 7 (by decide) k43 rfl dX3_part_1 ?_
  exact ww_iret (u := x) hx hb hr hlk hw (⟨rfl, rfl⟩) (Nat.le_of_ble_eq_true rfl) (Nat.le_of_ble_eq_true rfl) dX3_part_4
set_option maxHeartbeats 1000000 in
set_option maxRecDepth 100000 in
theorem cF_word (l : Launch) (D : va_G) (cI : ClassId) (a aL : Nat) (pa : A5) (ta da : A6) (S : SS) (x : XG) (b : Nat) (hI0 : Inv b S) (h5 : E5 S) (hb4 : b ≤ 4000) (hrx : RX S x) (y1 y2 : Int32) : Kt l yX3_word wsX3_word 2 43 (0) (0) D cI [.ref a, .int y1, .int y2] ([(a, .inr (3, [.ref aL, .ref pa.1, .ref ta.1, .ref da.1, .int (nI (sLp S)), .int (nI (sPt S)), .int (nI (sWk S)), .int (nI (sDo S)), .int (nI (sAt S)), .int (sC2 S), .int (sC3 S), .int (sC4 S), .int (sC5 S)]))] ++ (wL cI aL x.1 S.1 x.2.1 ++ (wG cI pa S.2.1 ++ (wT cI ta x.2.2.1 x.2.2.2.1 ++ wT cI da x.2.2.2.2.1 x.2.2.2.2.2)))) (pI (fun (r : Int32) (u : XG) => r = oWord S y1 y2 ∧ u = x)) (fun (u : XG) => [(a, .inr (3, [.ref aL, .ref pa.1, .ref ta.1, .ref da.1, .int (nI (sLp S)), .int (nI (sPt S)), .int (nI (sWk S)), .int (nI (sDo S)), .int (nI (sAt S)), .int (sC2 S), .int (sC3 S), .int (sC4 S), .int (sC5 S)]))] ++ (wL cI aL u.1 S.1 u.2.1 ++ (wG cI pa S.2.1 ++ (wT cI ta u.2.2.1 u.2.2.2.1 ++ wT cI da u.2.2.2.2.1 u.2.2.2.2.2)))) := by
  refine kt_start (cc := cX3_word) (maxL := 3) (ret := (some .int)) (by decide +kernel) rfl (Nat.le_of_ble_eq_true rfl) ?_
  intro p e s m below meth c hx hb hml hr hlk hown hnm hts ls hl hw
  have hown : s.vm.findClass RX3 = some m.cls := hown
  have hl : lv_has ls 3 [(0, .ref a), (1, .int y1), (2, .int y2)] := hl
  have k19 := hts (.fieldLink RX3 19 "RestartBook" "pages" "LRestartBook$Pages;") (by decide +kernel)
  have hin3 : ∀ w ∈ u_ws RX3 TX3 13, w ∈ wsX3_word := in_X3_word
  have hI := hI0.1
  have hn4 := Inv0_n hI
  have hwk := hI.2.1.2.1
  have hdo4 : sDo S ≤ 4 := by rcases hI.2.2.2.2.2 with z | z | z <;> omega
  refine lv_aload_n hx hb dX3_word_0 rfl (lv_at hl 0 rfl) ?_
  refine ww_get hx hb hts hin3 hown hw 0 rfl rfl 1 (by decide) k19 rfl dX3_word_1 ?_
  refine lv_iload_n hx hb dX3_word_4 rfl (lv_at hl 1 rfl) ?_
  refine lv_iload_n hx hb dX3_word_5 rfl (lv_at hl 2 rfl) ?_
  refine ww_callV ([(a, .inr (3, [.ref aL, .ref pa.1, .ref ta.1, .ref da.1, .int (nI (sLp S)), .int (nI (sPt S)), .int (nI (sWk S)), .int (nI (sDo S)), .int (nI (sAt S)), .int (sC2 S), .int (sC3 S), .int (sC4 S), .int (sC5 S)]))] ++ wL cI aL x.1 S.1 x.2.1) (wT cI ta x.2.2.1 x.2.2.2.1 ++ wT cI da x.2.2.2.2.1 x.2.2.2.2.2) (As := [.int y1, .int y2]) (rest := []) ⟨hx, hb, hml, hown, hts⟩ (cP_valueOf l D cI pa.1 pa.2.1 pa.2.2.1 pa.2.2.2.1 pa.2.2.2.2 S.2.1.1 S.2.1.2.1 S.2.1.2.2.1 S.2.1.2.2.2 y1 y2) gX3_word_X1_valueOf rfl hd_X1_valueOf ⟨Nat.le_of_ble_eq_true rfl, Nat.le_of_ble_eq_true rfl⟩ hw rfl rfl rfl rfl rfl hl.1 (Nat.le_of_ble_eq_true rfl) dX3_word_6 ⟨Nat.le_of_ble_eq_true rfl, Nat.le_of_ble_eq_true rfl⟩ (fun rv u H locs hq hw => ?_)
  obtain ⟨rr, rfl, hq⟩ := hq
  have hw : ww D cI _ _ s ([(a, .inr (3, [.ref aL, .ref pa.1, .ref ta.1, .ref da.1, .int (nI (sLp S)), .int (nI (sPt S)), .int (nI (sWk S)), .int (nI (sDo S)), .int (nI (sAt S)), .int (sC2 S), .int (sC3 S), .int (sC4 S), .int (sC5 S)]))] ++ (wL cI aL x.1 S.1 x.2.1 ++ (wG cI pa S.2.1 ++ (wT cI ta x.2.2.1 x.2.2.2.1 ++ wT cI da x.2.2.2.2.1 x.2.2.2.2.2)))) H locs := hw
  refine W.eq (g2 := F0 m 9 ls [.int (rr)]) rfl ?_
  exact ww_iret (u := x) hx hb hr hlk hw (⟨by rcases hq with ⟨i, j, hi, hj, rfl, rfl, rfl⟩ | ⟨hn, rfl⟩; (rw [oWord, if_pos ⟨(inN_iff (by omega)).mpr ⟨i, hi, rfl⟩, (inN_iff (by omega)).mpr ⟨j, hj, rfl⟩⟩, cl_nI (by omega), cl_nI (by omega)]); (rw [oWord, if_neg (fun q => hn ⟨(inN_iff (by omega)).mp q.1, (inN_iff (by omega)).mp q.2⟩)]), rfl⟩) (Nat.le_of_ble_eq_true rfl) (Nat.le_of_ble_eq_true rfl) dX3_word_9
set_option maxHeartbeats 1000000 in
set_option maxRecDepth 100000 in
theorem cF_page (l : Launch) (D : va_G) (cI : ClassId) (a aL : Nat) (pa : A5) (ta da : A6) (S : SS) (x : XG) (b : Nat) (hI0 : Inv b S) (h5 : E5 S) (hb4 : b ≤ 4000) (hrx : RX S x) (y1 y2 : Int32) : Kt l yX3_page wsX3_page 2 41 (0) (0) D cI [.ref a, .int y1, .int y2] ([(a, .inr (3, [.ref aL, .ref pa.1, .ref ta.1, .ref da.1, .int (nI (sLp S)), .int (nI (sPt S)), .int (nI (sWk S)), .int (nI (sDo S)), .int (nI (sAt S)), .int (sC2 S), .int (sC3 S), .int (sC4 S), .int (sC5 S)]))] ++ (wL cI aL x.1 S.1 x.2.1 ++ (wG cI pa S.2.1 ++ (wT cI ta x.2.2.1 x.2.2.2.1 ++ wT cI da x.2.2.2.2.1 x.2.2.2.2.2)))) (pI (fun (r : Int32) (u : XG) => r = oPage S y1 y2 ∧ u = x)) (fun (u : XG) => [(a, .inr (3, [.ref aL, .ref pa.1, .ref ta.1, .ref da.1, .int (nI (sLp S)), .int (nI (sPt S)), .int (nI (sWk S)), .int (nI (sDo S)), .int (nI (sAt S)), .int (sC2 S), .int (sC3 S), .int (sC4 S), .int (sC5 S)]))] ++ (wL cI aL u.1 S.1 u.2.1 ++ (wG cI pa S.2.1 ++ (wT cI ta u.2.2.1 u.2.2.2.1 ++ wT cI da u.2.2.2.2.1 u.2.2.2.2.2)))) := by
  refine kt_start (cc := cX3_page) (maxL := 3) (ret := (some .int)) (by decide +kernel) rfl (Nat.le_of_ble_eq_true rfl) ?_
  intro p e s m below meth c hx hb hml hr hlk hown hnm hts ls hl hw
  have hown : s.vm.findClass RX3 = some m.cls := hown
  have hl : lv_has ls 3 [(0, .ref a), (1, .int y1), (2, .int y2)] := hl
  have k19 := hts (.fieldLink RX3 19 "RestartBook" "pages" "LRestartBook$Pages;") (by decide +kernel)
  have k26 := hts (.fieldLink RX3 26 "RestartBook" "tables" "LRestartBook$Tables;") (by decide +kernel)
  have hin3 : ∀ w ∈ u_ws RX3 TX3 13, w ∈ wsX3_page := in_X3_page
  have hI := hI0.1
  have hn4 := Inv0_n hI
  have hwk := hI.2.1.2.1
  have hdo4 : sDo S ≤ 4 := by rcases hI.2.2.2.2.2 with z | z | z <;> omega
  refine lv_iload_n hx hb dX3_page_0 rfl (lv_at hl 1 rfl) ?_
  refine ww_callS ([]) ([(a, .inr (3, [.ref aL, .ref pa.1, .ref ta.1, .ref da.1, .int (nI (sLp S)), .int (nI (sPt S)), .int (nI (sWk S)), .int (nI (sDo S)), .int (nI (sAt S)), .int (sC2 S), .int (sC3 S), .int (sC4 S), .int (sC5 S)]))] ++ (wL cI aL x.1 S.1 x.2.1 ++ (wG cI pa S.2.1 ++ (wT cI ta x.2.2.1 x.2.2.2.1 ++ wT cI da x.2.2.2.2.1 x.2.2.2.2.2)))) (As := [.int y1]) (rest := []) ⟨hx, hb, hml, hown, hts⟩ (cP_hasPage l D cI y1) gX3_page_X1_hasPage rfl hd_X1_hasPage ⟨Nat.le_of_ble_eq_true rfl, Nat.le_of_ble_eq_true rfl⟩ hw rfl rfl rfl hl.1 (Nat.le_of_ble_eq_true rfl) dX3_page_1 ⟨Nat.zero_le _, Nat.zero_le _⟩ (fun rv u H locs hq hw => ?_)
  obtain ⟨rr, rfl, hq⟩ := hq
  have hw : ww D cI _ _ s ([(a, .inr (3, [.ref aL, .ref pa.1, .ref ta.1, .ref da.1, .int (nI (sLp S)), .int (nI (sPt S)), .int (nI (sWk S)), .int (nI (sDo S)), .int (nI (sAt S)), .int (sC2 S), .int (sC3 S), .int (sC4 S), .int (sC5 S)]))] ++ (wL cI aL x.1 S.1 x.2.1 ++ (wG cI pa S.2.1 ++ (wT cI ta x.2.2.1 x.2.2.2.1 ++ wT cI da x.2.2.2.2.1 x.2.2.2.2.2)))) H locs := hw
  refine W.eq (g2 := F0 m 4 ls [.int (rr)]) rfl ?_
  rcases hq with ⟨rfl, ⟨pj, hpj, rfl⟩⟩ | ⟨rfl, hq⟩
  · have hin : inN (nI pj) 64 := (inN_iff (by omega)).mpr ⟨pj, hpj, rfl⟩
    have hcp : cl (nI pj) = pj := cl_nI (by omega)
    refine lv_if_ne (tgt := 10) hx hb dX3_page_4 (by decide) (fun c_4 => ?_) (fun c_4 => absurd c_4 (by decide))
    refine lv_iload_n hx hb dX3_page_10 rfl (lv_at hl 2 rfl) ?_
    by_cases c_11_0 : y2 = nI 0
    · refine lv_tableIn (tgt := 36) (off := 25) hx hb dX3_page_11 (by rw [c_11_0]; decide +kernel) (by rw [c_11_0]; decide +kernel) (by rw [c_11_0]; decide +kernel) (by decide) ?_
      refine lv_aload_n hx hb dX3_page_36 rfl (lv_at hl 0 rfl) ?_
      refine ww_get hx hb hts hin3 hown hw 0 rfl rfl 1 (by decide) k19 rfl dX3_page_37 ?_
      refine lv_iload_n hx hb dX3_page_40 rfl (lv_at hl 1 rfl) ?_
      refine ww_callV ([(a, .inr (3, [.ref aL, .ref pa.1, .ref ta.1, .ref da.1, .int (nI (sLp S)), .int (nI (sPt S)), .int (nI (sWk S)), .int (nI (sDo S)), .int (nI (sAt S)), .int (sC2 S), .int (sC3 S), .int (sC4 S), .int (sC5 S)]))] ++ wL cI aL x.1 S.1 x.2.1) (wT cI ta x.2.2.1 x.2.2.2.1 ++ wT cI da x.2.2.2.2.1 x.2.2.2.2.2) (As := [.int (nI pj)]) (rest := []) ⟨hx, hb, hml, hown, hts⟩ (cP_markOf l D cI pa.1 pa.2.1 pa.2.2.1 pa.2.2.2.1 pa.2.2.2.2 S.2.1.1 S.2.1.2.1 S.2.1.2.2.1 S.2.1.2.2.2 pj hpj) gX3_page_X1_markOf rfl hd_X1_markOf ⟨Nat.le_of_ble_eq_true rfl, Nat.le_of_ble_eq_true rfl⟩ hw rfl rfl rfl rfl rfl hl.1 (Nat.le_of_ble_eq_true rfl) dX3_page_41 ⟨Nat.zero_le _, Nat.zero_le _⟩ (fun rv u H locs hq hw => ?_)
      obtain ⟨rr, rfl, hq⟩ := hq
      subst hq
      have hw : ww D cI _ _ s ([(a, .inr (3, [.ref aL, .ref pa.1, .ref ta.1, .ref da.1, .int (nI (sLp S)), .int (nI (sPt S)), .int (nI (sWk S)), .int (nI (sDo S)), .int (nI (sAt S)), .int (sC2 S), .int (sC3 S), .int (sC4 S), .int (sC5 S)]))] ++ (wL cI aL x.1 S.1 x.2.1 ++ (wG cI pa S.2.1 ++ (wT cI ta x.2.2.1 x.2.2.2.1 ++ wT cI da x.2.2.2.2.1 x.2.2.2.2.2)))) H locs := hw
      refine W.eq (g2 := F0 m 44 ls [.int (S.2.1.2.1 pj)]) rfl ?_
      exact ww_iret (u := x) hx hb hr hlk hw (⟨by rw [oPage, if_pos hin, if_pos (c_11_0.trans nI_0), hcp], rfl⟩) (Nat.le_of_ble_eq_true rfl) (Nat.le_of_ble_eq_true rfl) dX3_page_44
    by_cases c_11_1 : y2 = nI 1
    · refine lv_tableIn (tgt := 45) (off := 34) hx hb dX3_page_11 (by rw [c_11_1]; decide +kernel) (by rw [c_11_1]; decide +kernel) (by rw [c_11_1]; decide +kernel) (by decide) ?_
      refine lv_aload_n hx hb dX3_page_45 rfl (lv_at hl 0 rfl) ?_
      refine ww_get hx hb hts hin3 hown hw 0 rfl rfl 2 (by decide) k26 rfl dX3_page_46 ?_
      refine lv_iload_n hx hb dX3_page_49 rfl (lv_at hl 1 rfl) ?_
      refine ww_callV ([(a, .inr (3, [.ref aL, .ref pa.1, .ref ta.1, .ref da.1, .int (nI (sLp S)), .int (nI (sPt S)), .int (nI (sWk S)), .int (nI (sDo S)), .int (nI (sAt S)), .int (sC2 S), .int (sC3 S), .int (sC4 S), .int (sC5 S)]))] ++ (wL cI aL x.1 S.1 x.2.1 ++ wG cI pa S.2.1)) (wT cI da x.2.2.2.2.1 x.2.2.2.2.2) (As := [.int (nI pj)]) (rest := []) ⟨hx, hb, hml, hown, hts⟩ (cT_baseOf l D cI ta.1 ta.2.1 ta.2.2.1 ta.2.2.2.1 ta.2.2.2.2.1 ta.2.2.2.2.2 x.2.2.1 x.2.2.2.1 pj hpj) gX3_page_X2_baseOf rfl hd_X2_baseOf ⟨Nat.le_of_ble_eq_true rfl, Nat.le_of_ble_eq_true rfl⟩ hw rfl rfl rfl rfl rfl hl.1 (Nat.le_of_ble_eq_true rfl) dX3_page_50 ⟨Nat.zero_le _, Nat.zero_le _⟩ (fun rv u H locs hq hw => ?_)
      obtain ⟨rr, rfl, hq⟩ := hq
      have hbl := (hrx.2.2.1 pj hpj).2
      rw [(hrx.2.2.1 pj hpj).1] at hq
      subst hq
      have hw : ww D cI _ _ s ([(a, .inr (3, [.ref aL, .ref pa.1, .ref ta.1, .ref da.1, .int (nI (sLp S)), .int (nI (sPt S)), .int (nI (sWk S)), .int (nI (sDo S)), .int (nI (sAt S)), .int (sC2 S), .int (sC3 S), .int (sC4 S), .int (sC5 S)]))] ++ (wL cI aL x.1 S.1 x.2.1 ++ (wG cI pa S.2.1 ++ (wT cI ta x.2.2.1 x.2.2.2.1 ++ wT cI da x.2.2.2.2.1 x.2.2.2.2.2)))) H locs := hw
      refine W.eq (g2 := F0 m 53 ls [.int (nI (sBs S pj))]) rfl ?_
      refine lv_if_ne (tgt := 60) hx hb dX3_page_53 (by decide) (fun c_53 => ?_) (fun c_53 => ?_)
      · refine lv_aload_n hx hb dX3_page_60 rfl (lv_at hl 0 rfl) ?_
        refine ww_get hx hb hts hin3 hown hw 0 rfl rfl 2 (by decide) k26 rfl dX3_page_61 ?_
        refine lv_iload_n hx hb dX3_page_64 rfl (lv_at hl 1 rfl) ?_
        refine ww_callV ([(a, .inr (3, [.ref aL, .ref pa.1, .ref ta.1, .ref da.1, .int (nI (sLp S)), .int (nI (sPt S)), .int (nI (sWk S)), .int (nI (sDo S)), .int (nI (sAt S)), .int (sC2 S), .int (sC3 S), .int (sC4 S), .int (sC5 S)]))] ++ (wL cI aL x.1 S.1 x.2.1 ++ wG cI pa S.2.1)) (wT cI da x.2.2.2.2.1 x.2.2.2.2.2) (As := [.int (nI pj)]) (rest := []) ⟨hx, hb, hml, hown, hts⟩ (cT_baseOf l D cI ta.1 ta.2.1 ta.2.2.1 ta.2.2.2.1 ta.2.2.2.2.1 ta.2.2.2.2.2 x.2.2.1 x.2.2.2.1 pj hpj) gX3_page_X2_baseOf rfl hd_X2_baseOf ⟨Nat.le_of_ble_eq_true rfl, Nat.le_of_ble_eq_true rfl⟩ hw rfl rfl rfl rfl rfl hl.1 (Nat.le_of_ble_eq_true rfl) dX3_page_65 ⟨Nat.zero_le _, Nat.zero_le _⟩ (fun rv u H locs hq hw => ?_)
        obtain ⟨rr, rfl, hq⟩ := hq
        have hbl := (hrx.2.2.1 pj hpj).2
        rw [(hrx.2.2.1 pj hpj).1] at hq
        subst hq
        have hw : ww D cI _ _ s ([(a, .inr (3, [.ref aL, .ref pa.1, .ref ta.1, .ref da.1, .int (nI (sLp S)), .int (nI (sPt S)), .int (nI (sWk S)), .int (nI (sDo S)), .int (nI (sAt S)), .int (sC2 S), .int (sC3 S), .int (sC4 S), .int (sC5 S)]))] ++ (wL cI aL x.1 S.1 x.2.1 ++ (wG cI pa S.2.1 ++ (wT cI ta x.2.2.1 x.2.2.2.1 ++ wT cI da x.2.2.2.2.1 x.2.2.2.2.2)))) H locs := hw
        refine W.eq (g2 := F0 m 68 ls [.int (nI (sBs S pj))]) rfl ?_
        exact ww_iret (u := x) hx hb hr hlk hw (⟨by rw [oPage, if_pos hin, if_neg (fun q => c_11_0 (q.trans nI_0.symm)), if_pos c_11_1, hcp, if_neg (fun q => c_53 ((congrArg nI q).trans nI_0))], rfl⟩) (Nat.le_of_ble_eq_true rfl) (Nat.le_of_ble_eq_true rfl) dX3_page_68
      · refine lv_iconst (v := (-1)) hx hb dX3_page_56 (by decide +kernel) ?_
        refine lv_goto (tgt := 68) hx hb dX3_page_57 (by decide) ?_
        exact ww_iret (u := x) hx hb hr hlk hw (⟨by rw [oPage, if_pos hin, if_neg (fun q => c_11_0 (q.trans nI_0.symm)), if_pos c_11_1, hcp, if_pos (nI_q (by omega) (by omega) (c_53.trans nI_0.symm))], rfl⟩) (Nat.le_of_ble_eq_true rfl) (Nat.le_of_ble_eq_true rfl) dX3_page_68
    by_cases c_11_2 : y2 = nI 2
    · refine lv_tableIn (tgt := 69) (off := 58) hx hb dX3_page_11 (by rw [c_11_2]; decide +kernel) (by rw [c_11_2]; decide +kernel) (by rw [c_11_2]; decide +kernel) (by decide) ?_
      refine lv_aload_n hx hb dX3_page_69 rfl (lv_at hl 0 rfl) ?_
      refine ww_get hx hb hts hin3 hown hw 0 rfl rfl 1 (by decide) k19 rfl dX3_page_70 ?_
      refine lv_iload_n hx hb dX3_page_73 rfl (lv_at hl 1 rfl) ?_
      refine ww_callV ([(a, .inr (3, [.ref aL, .ref pa.1, .ref ta.1, .ref da.1, .int (nI (sLp S)), .int (nI (sPt S)), .int (nI (sWk S)), .int (nI (sDo S)), .int (nI (sAt S)), .int (sC2 S), .int (sC3 S), .int (sC4 S), .int (sC5 S)]))] ++ wL cI aL x.1 S.1 x.2.1) (wT cI ta x.2.2.1 x.2.2.2.1 ++ wT cI da x.2.2.2.2.1 x.2.2.2.2.2) (As := [.int (nI pj)]) (rest := []) ⟨hx, hb, hml, hown, hts⟩ (cP_mediumMarkOf l D cI pa.1 pa.2.1 pa.2.2.1 pa.2.2.2.1 pa.2.2.2.2 S.2.1.1 S.2.1.2.1 S.2.1.2.2.1 S.2.1.2.2.2 pj hpj) gX3_page_X1_mediumMarkOf rfl hd_X1_mediumMarkOf ⟨Nat.le_of_ble_eq_true rfl, Nat.le_of_ble_eq_true rfl⟩ hw rfl rfl rfl rfl rfl hl.1 (Nat.le_of_ble_eq_true rfl) dX3_page_74 ⟨Nat.zero_le _, Nat.zero_le _⟩ (fun rv u H locs hq hw => ?_)
      obtain ⟨rr, rfl, hq⟩ := hq
      subst hq
      have hw : ww D cI _ _ s ([(a, .inr (3, [.ref aL, .ref pa.1, .ref ta.1, .ref da.1, .int (nI (sLp S)), .int (nI (sPt S)), .int (nI (sWk S)), .int (nI (sDo S)), .int (nI (sAt S)), .int (sC2 S), .int (sC3 S), .int (sC4 S), .int (sC5 S)]))] ++ (wL cI aL x.1 S.1 x.2.1 ++ (wG cI pa S.2.1 ++ (wT cI ta x.2.2.1 x.2.2.2.1 ++ wT cI da x.2.2.2.2.1 x.2.2.2.2.2)))) H locs := hw
      refine W.eq (g2 := F0 m 77 ls [.int (S.2.1.2.2.2 pj)]) rfl ?_
      exact ww_iret (u := x) hx hb hr hlk hw (⟨by rw [oPage, if_pos hin, if_neg (fun q => c_11_0 (q.trans nI_0.symm)), if_neg c_11_1, if_pos c_11_2, hcp], rfl⟩) (Nat.le_of_ble_eq_true rfl) (Nat.le_of_ble_eq_true rfl) dX3_page_77
    refine lv_tableOut (tgt := 78) hx hb dX3_page_11 (swo3 c_11_0 c_11_1 c_11_2) (by decide) ?_
    refine lv_bipush (v := (-102)) hx hb dX3_page_78 (by decide +kernel) ?_
    exact ww_iret (u := x) hx hb hr hlk hw (⟨by rw [oPage, if_pos hin, if_neg (fun q => c_11_0 (q.trans nI_0.symm)), if_neg c_11_1, if_neg c_11_2], rfl⟩) (Nat.le_of_ble_eq_true rfl) (Nat.le_of_ble_eq_true rfl) dX3_page_80
  · have hin : ¬ inN y1 64 := fun q => hq ((inN_iff (by omega)).mp q)
    refine lv_if_ne (tgt := 10) hx hb dX3_page_4 (by decide) (fun c_4 => absurd c_4 (fun q => q rfl)) (fun c_4 => ?_)
    refine lv_bipush (v := (-102)) hx hb dX3_page_7 (by decide +kernel) ?_
    exact ww_iret (u := x) hx hb hr hlk hw (⟨by rw [oPage, if_neg hin], rfl⟩) (Nat.le_of_ble_eq_true rfl) (Nat.le_of_ble_eq_true rfl) dX3_page_9
set_option maxHeartbeats 1000000 in
set_option maxRecDepth 100000 in
theorem cF_table (l : Launch) (D : va_G) (cI : ClassId) (a aL : Nat) (pa : A5) (ta da : A6) (S : SS) (x : XG) (b : Nat) (hI0 : Inv b S) (h5 : E5 S) (hb4 : b ≤ 4000) (hrx : RX S x) (y1 y2 : Int32) : Kt l yX3_table wsX3_table 2 44 (0) (0) D cI [.ref a, .int y1, .int y2] ([(a, .inr (3, [.ref aL, .ref pa.1, .ref ta.1, .ref da.1, .int (nI (sLp S)), .int (nI (sPt S)), .int (nI (sWk S)), .int (nI (sDo S)), .int (nI (sAt S)), .int (sC2 S), .int (sC3 S), .int (sC4 S), .int (sC5 S)]))] ++ (wL cI aL x.1 S.1 x.2.1 ++ (wG cI pa S.2.1 ++ (wT cI ta x.2.2.1 x.2.2.2.1 ++ wT cI da x.2.2.2.2.1 x.2.2.2.2.2)))) (pI (fun (r : Int32) (u : XG) => r = oTable S y1 y2 ∧ u = x)) (fun (u : XG) => [(a, .inr (3, [.ref aL, .ref pa.1, .ref ta.1, .ref da.1, .int (nI (sLp S)), .int (nI (sPt S)), .int (nI (sWk S)), .int (nI (sDo S)), .int (nI (sAt S)), .int (sC2 S), .int (sC3 S), .int (sC4 S), .int (sC5 S)]))] ++ (wL cI aL u.1 S.1 u.2.1 ++ (wG cI pa S.2.1 ++ (wT cI ta u.2.2.1 u.2.2.2.1 ++ wT cI da u.2.2.2.2.1 u.2.2.2.2.2)))) := by
  refine kt_start (cc := cX3_table) (maxL := 4) (ret := (some .int)) (by decide +kernel) rfl (Nat.le_of_ble_eq_true rfl) ?_
  intro p e s m below meth c hx hb hml hr hlk hown hnm hts ls hl hw
  have hown : s.vm.findClass RX3 = some m.cls := hown
  have hl : lv_has ls 4 [(0, .ref a), (1, .int y1), (2, .int y2)] := hl
  have k26 := hts (.fieldLink RX3 26 "RestartBook" "tables" "LRestartBook$Tables;") (by decide +kernel)
  have hin3 : ∀ w ∈ u_ws RX3 TX3 13, w ∈ wsX3_table := in_X3_table
  have hI := hI0.1
  have hn4 := Inv0_n hI
  have hwk := hI.2.1.2.1
  have hdo4 : sDo S ≤ 4 := by rcases hI.2.2.2.2.2 with z | z | z <;> omega
  refine lv_aload_n hx hb dX3_table_0 rfl (lv_at hl 0 rfl) ?_
  refine ww_get hx hb hts hin3 hown hw 0 rfl rfl 2 (by decide) k26 rfl dX3_table_1 ?_
  refine lv_iload_n hx hb dX3_table_4 rfl (lv_at hl 1 rfl) ?_
  refine ww_callV ([(a, .inr (3, [.ref aL, .ref pa.1, .ref ta.1, .ref da.1, .int (nI (sLp S)), .int (nI (sPt S)), .int (nI (sWk S)), .int (nI (sDo S)), .int (nI (sAt S)), .int (sC2 S), .int (sC3 S), .int (sC4 S), .int (sC5 S)]))] ++ (wL cI aL x.1 S.1 x.2.1 ++ wG cI pa S.2.1)) (wT cI da x.2.2.2.2.1 x.2.2.2.2.2) (As := [.int y1]) (rest := []) ⟨hx, hb, hml, hown, hts⟩ (cT_workAt l D cI ta.1 ta.2.1 ta.2.2.1 ta.2.2.2.1 ta.2.2.2.2.1 ta.2.2.2.2.2 x.2.2.1 x.2.2.2.1 y1 (TR_le hrx.2.1)) gX3_table_X2_workAt rfl hd_X2_workAt ⟨Nat.le_of_ble_eq_true rfl, Nat.le_of_ble_eq_true rfl⟩ hw rfl rfl rfl rfl rfl hl.1 (Nat.le_of_ble_eq_true rfl) dX3_table_5 ⟨Nat.le_of_ble_eq_true rfl, Nat.le_of_ble_eq_true rfl⟩ (fun rv u H locs hq hw => ?_)
  obtain ⟨rr, rfl, hq⟩ := hq
  have hw : ww D cI _ _ s ([(a, .inr (3, [.ref aL, .ref pa.1, .ref ta.1, .ref da.1, .int (nI (sLp S)), .int (nI (sPt S)), .int (nI (sWk S)), .int (nI (sDo S)), .int (nI (sAt S)), .int (sC2 S), .int (sC3 S), .int (sC4 S), .int (sC5 S)]))] ++ (wL cI aL x.1 S.1 x.2.1 ++ (wG cI pa S.2.1 ++ (wT cI ta x.2.2.1 x.2.2.2.1 ++ wT cI da x.2.2.2.2.1 x.2.2.2.2.2)))) H locs := hw
  refine W.eq (g2 := F0 m 8 ls [.int (rr)]) rfl ?_
  rcases hq with ⟨i, hi, rfl, hq⟩ | ⟨hn, rfl⟩
  · have hi16 := TR_le hrx.2.1
    obtain ⟨hn1, hn2, hn3, hn4w⟩ := TR_nth hrx.2.1 hi
    have hci : cl (nI i) = i := cl_nI (by omega)
    obtain ⟨wn, hwn⟩ : ∃ wn, nthW (sT S) i 200 = wn := ⟨_, rfl⟩
    rw [hwn] at hn1 hn2 hn3 hn4w
    rw [hn1] at hq
    subst hq
    have hnz : ¬ (nI i < 0 ∨ nthW (sT S) (cl (nI i)) 200 = 0) := by rw [hci, hwn]; rintro (q | q); exact nI_pos (by omega) q; omega
    refine lv_istore_n (lv' := [(3, .int (nI wn)), (0, .ref a), (1, .int (nI i)), (2, .int y2)]) hx hb dX3_table_8 rfl hl (by decide) rfl (fun ls hl => ?_)
    refine lv_iload_n hx hb dX3_table_9 rfl (lv_at hl 0 rfl) ?_
    refine lv_if_ne (tgt := 15) hx hb dX3_table_10 (by decide) (fun c_10 => ?_) (fun c_10 => absurd c_10 (fun q => absurd (nI_q (by omega) (by omega) (q.trans nI_0.symm)) (by omega)))
    refine lv_iload_n hx hb dX3_table_15 rfl (lv_at hl 3 rfl) ?_
    by_cases c_16_0 : y2 = nI 0
    · refine lv_tableIn (tgt := 48) (off := 32) hx hb dX3_table_16 (by rw [c_16_0]; decide +kernel) (by rw [c_16_0]; decide +kernel) (by rw [c_16_0]; decide +kernel) (by decide) ?_
      refine lv_iload_n hx hb dX3_table_48 rfl (lv_at hl 0 rfl) ?_
      exact ww_iret (u := x) hx hb hr hlk hw (⟨by rw [oTable, if_neg hnz, if_pos (c_16_0.trans nI_0), hci, hwn], rfl⟩) (Nat.le_of_ble_eq_true rfl) (Nat.le_of_ble_eq_true rfl) dX3_table_49
    by_cases c_16_1 : y2 = nI 1
    · refine lv_tableIn (tgt := 50) (off := 34) hx hb dX3_table_16 (by rw [c_16_1]; decide +kernel) (by rw [c_16_1]; decide +kernel) (by rw [c_16_1]; decide +kernel) (by decide) ?_
      refine lv_aload_n hx hb dX3_table_50 rfl (lv_at hl 1 rfl) ?_
      refine ww_get hx hb hts hin3 hown hw 0 rfl rfl 2 (by decide) k26 rfl dX3_table_51 ?_
      refine lv_iload_n hx hb dX3_table_54 rfl (lv_at hl 0 rfl) ?_
      refine ww_callV ([(a, .inr (3, [.ref aL, .ref pa.1, .ref ta.1, .ref da.1, .int (nI (sLp S)), .int (nI (sPt S)), .int (nI (sWk S)), .int (nI (sDo S)), .int (nI (sAt S)), .int (sC2 S), .int (sC3 S), .int (sC4 S), .int (sC5 S)]))] ++ (wL cI aL x.1 S.1 x.2.1 ++ wG cI pa S.2.1)) (wT cI da x.2.2.2.2.1 x.2.2.2.2.2) (As := [.int (nI wn)]) (rest := []) ⟨hx, hb, hml, hown, hts⟩ (cT_stateOf l D cI ta.1 ta.2.1 ta.2.2.1 ta.2.2.2.1 ta.2.2.2.2.1 ta.2.2.2.2.2 x.2.2.1 x.2.2.2.1 (sT S) hrx.2.1 wn (by omega)) gX3_table_X2_stateOf rfl hd_X2_stateOf ⟨Nat.le_of_ble_eq_true rfl, Nat.le_of_ble_eq_true rfl⟩ hw rfl rfl rfl rfl rfl hl.1 (Nat.le_of_ble_eq_true rfl) dX3_table_55 ⟨Nat.le_of_ble_eq_true rfl, Nat.le_of_ble_eq_true rfl⟩ (fun rv u H locs hq hw => ?_)
      obtain ⟨rr, rfl, hq⟩ := hq
      subst hq
      have hw : ww D cI _ _ s ([(a, .inr (3, [.ref aL, .ref pa.1, .ref ta.1, .ref da.1, .int (nI (sLp S)), .int (nI (sPt S)), .int (nI (sWk S)), .int (nI (sDo S)), .int (nI (sAt S)), .int (sC2 S), .int (sC3 S), .int (sC4 S), .int (sC5 S)]))] ++ (wL cI aL x.1 S.1 x.2.1 ++ (wG cI pa S.2.1 ++ (wT cI ta x.2.2.1 x.2.2.2.1 ++ wT cI da x.2.2.2.2.1 x.2.2.2.2.2)))) H locs := hw
      refine W.eq (g2 := F0 m 58 ls [.int (nI (sT S wn).1)]) rfl ?_
      exact ww_iret (u := x) hx hb hr hlk hw (⟨by rw [oTable, if_neg hnz, if_neg (fun q => c_16_0 (q.trans nI_0.symm)), if_pos c_16_1, hci, hwn], rfl⟩) (Nat.le_of_ble_eq_true rfl) (Nat.le_of_ble_eq_true rfl) dX3_table_58
    by_cases c_16_2 : y2 = nI 2
    · refine lv_tableIn (tgt := 59) (off := 43) hx hb dX3_table_16 (by rw [c_16_2]; decide +kernel) (by rw [c_16_2]; decide +kernel) (by rw [c_16_2]; decide +kernel) (by decide) ?_
      refine lv_aload_n hx hb dX3_table_59 rfl (lv_at hl 1 rfl) ?_
      refine ww_get hx hb hts hin3 hown hw 0 rfl rfl 2 (by decide) k26 rfl dX3_table_60 ?_
      refine lv_iload_n hx hb dX3_table_63 rfl (lv_at hl 0 rfl) ?_
      refine ww_callV ([(a, .inr (3, [.ref aL, .ref pa.1, .ref ta.1, .ref da.1, .int (nI (sLp S)), .int (nI (sPt S)), .int (nI (sWk S)), .int (nI (sDo S)), .int (nI (sAt S)), .int (sC2 S), .int (sC3 S), .int (sC4 S), .int (sC5 S)]))] ++ (wL cI aL x.1 S.1 x.2.1 ++ wG cI pa S.2.1)) (wT cI da x.2.2.2.2.1 x.2.2.2.2.2) (As := [.int (nI wn)]) (rest := []) ⟨hx, hb, hml, hown, hts⟩ (cT_lastOf l D cI ta.1 ta.2.1 ta.2.2.1 ta.2.2.2.1 ta.2.2.2.2.1 ta.2.2.2.2.2 x.2.2.1 x.2.2.2.1 (sT S) hrx.2.1 wn (by omega) hn2) gX3_table_X2_lastOf rfl hd_X2_lastOf ⟨Nat.le_of_ble_eq_true rfl, Nat.le_of_ble_eq_true rfl⟩ hw rfl rfl rfl rfl rfl hl.1 (Nat.le_of_ble_eq_true rfl) dX3_table_64 ⟨Nat.le_of_ble_eq_true rfl, Nat.le_of_ble_eq_true rfl⟩ (fun rv u H locs hq hw => ?_)
      obtain ⟨rr, rfl, hq⟩ := hq
      subst hq
      have hw : ww D cI _ _ s ([(a, .inr (3, [.ref aL, .ref pa.1, .ref ta.1, .ref da.1, .int (nI (sLp S)), .int (nI (sPt S)), .int (nI (sWk S)), .int (nI (sDo S)), .int (nI (sAt S)), .int (sC2 S), .int (sC3 S), .int (sC4 S), .int (sC5 S)]))] ++ (wL cI aL x.1 S.1 x.2.1 ++ (wG cI pa S.2.1 ++ (wT cI ta x.2.2.1 x.2.2.2.1 ++ wT cI da x.2.2.2.2.1 x.2.2.2.2.2)))) H locs := hw
      refine W.eq (g2 := F0 m 67 ls [.int (nI (sT S wn).2.1)]) rfl ?_
      exact ww_iret (u := x) hx hb hr hlk hw (⟨by rw [oTable, if_neg hnz, if_neg (fun q => c_16_0 (q.trans nI_0.symm)), if_neg c_16_1, if_pos c_16_2, hci, hwn], rfl⟩) (Nat.le_of_ble_eq_true rfl) (Nat.le_of_ble_eq_true rfl) dX3_table_67
    by_cases c_16_3 : y2 = nI 3
    · refine lv_tableIn (tgt := 68) (off := 52) hx hb dX3_table_16 (by rw [c_16_3]; decide +kernel) (by rw [c_16_3]; decide +kernel) (by rw [c_16_3]; decide +kernel) (by decide) ?_
      refine lv_aload_n hx hb dX3_table_68 rfl (lv_at hl 1 rfl) ?_
      refine ww_get hx hb hts hin3 hown hw 0 rfl rfl 2 (by decide) k26 rfl dX3_table_69 ?_
      refine lv_iload_n hx hb dX3_table_72 rfl (lv_at hl 0 rfl) ?_
      refine ww_callV ([(a, .inr (3, [.ref aL, .ref pa.1, .ref ta.1, .ref da.1, .int (nI (sLp S)), .int (nI (sPt S)), .int (nI (sWk S)), .int (nI (sDo S)), .int (nI (sAt S)), .int (sC2 S), .int (sC3 S), .int (sC4 S), .int (sC5 S)]))] ++ (wL cI aL x.1 S.1 x.2.1 ++ wG cI pa S.2.1)) (wT cI da x.2.2.2.2.1 x.2.2.2.2.2) (As := [.int (nI wn)]) (rest := []) ⟨hx, hb, hml, hown, hts⟩ (cT_nextOf l D cI ta.1 ta.2.1 ta.2.2.1 ta.2.2.2.1 ta.2.2.2.2.1 ta.2.2.2.2.2 x.2.2.1 x.2.2.2.1 (sT S) hrx.2.1 wn (by omega) hn2) gX3_table_X2_nextOf rfl hd_X2_nextOf ⟨Nat.le_of_ble_eq_true rfl, Nat.le_of_ble_eq_true rfl⟩ hw rfl rfl rfl rfl rfl hl.1 (Nat.le_of_ble_eq_true rfl) dX3_table_73 ⟨Nat.le_of_ble_eq_true rfl, Nat.le_of_ble_eq_true rfl⟩ (fun rv u H locs hq hw => ?_)
      obtain ⟨rr, rfl, hq⟩ := hq
      subst hq
      have hw : ww D cI _ _ s ([(a, .inr (3, [.ref aL, .ref pa.1, .ref ta.1, .ref da.1, .int (nI (sLp S)), .int (nI (sPt S)), .int (nI (sWk S)), .int (nI (sDo S)), .int (nI (sAt S)), .int (sC2 S), .int (sC3 S), .int (sC4 S), .int (sC5 S)]))] ++ (wL cI aL x.1 S.1 x.2.1 ++ (wG cI pa S.2.1 ++ (wT cI ta x.2.2.1 x.2.2.2.1 ++ wT cI da x.2.2.2.2.1 x.2.2.2.2.2)))) H locs := hw
      refine W.eq (g2 := F0 m 76 ls [.int (nI (sT S wn).2.2)]) rfl ?_
      exact ww_iret (u := x) hx hb hr hlk hw (⟨by rw [oTable, if_neg hnz, if_neg (fun q => c_16_0 (q.trans nI_0.symm)), if_neg c_16_1, if_neg c_16_2, if_pos c_16_3, hci, hwn], rfl⟩) (Nat.le_of_ble_eq_true rfl) (Nat.le_of_ble_eq_true rfl) dX3_table_76
    refine lv_tableOut (tgt := 77) hx hb dX3_table_16 (swo4 c_16_0 c_16_1 c_16_2 c_16_3) (by decide) ?_
    refine lv_iconst (v := (-1)) hx hb dX3_table_77 (by decide +kernel) ?_
    exact ww_iret (u := x) hx hb hr hlk hw (⟨by rw [oTable, if_neg hnz, if_neg (fun q => c_16_0 (q.trans nI_0.symm)), if_neg c_16_1, if_neg c_16_2, if_neg c_16_3], rfl⟩) (Nat.le_of_ble_eq_true rfl) (Nat.le_of_ble_eq_true rfl) dX3_table_78
  · have hz : y1 < 0 ∨ nthW (sT S) (cl y1) 200 = 0 := by
      by_cases z : y1 < 0
      · exact Or.inl z
      · obtain ⟨i, hi, rfl⟩ := nI_of z
        refine Or.inr ?_
        rw [cl_nI hi]
        exact nthW_none 200 (by rw [← TR_card hrx.2.1]; by_cases q : i < x.2.2.1.1; exact absurd ⟨i, q, rfl⟩ hn; omega)
    refine lv_istore_n (lv' := [(3, .int (0)), (0, .ref a), (1, .int y1), (2, .int y2)]) hx hb dX3_table_8 rfl hl (by decide) rfl (fun ls hl => ?_)
    refine lv_iload_n hx hb dX3_table_9 rfl (lv_at hl 0 rfl) ?_
    refine lv_if_ne (tgt := 15) hx hb dX3_table_10 (by decide) (fun c_10 => absurd c_10 (fun q => q rfl)) (fun c_10 => ?_)
    refine lv_iconst (v := (-1)) hx hb dX3_table_13 (by decide +kernel) ?_
    exact ww_iret (u := x) hx hb hr hlk hw (⟨by rw [oTable, if_pos hz], rfl⟩) (Nat.le_of_ble_eq_true rfl) (Nat.le_of_ble_eq_true rfl) dX3_table_14
set_option maxHeartbeats 1000000 in
set_option maxRecDepth 100000 in
theorem cF_record (l : Launch) (D : va_G) (cI : ClassId) (a aL : Nat) (pa : A5) (ta da : A6) (S : SS) (x : XG) (b : Nat) (hI0 : Inv b S) (h5 : E5 S) (hb4 : b ≤ 4000) (hrx : RX S x) (y1 y2 : Int32) : Kt l yX3_record wsX3_record 2 43 (0) (0) D cI [.ref a, .int y1, .int y2] ([(a, .inr (3, [.ref aL, .ref pa.1, .ref ta.1, .ref da.1, .int (nI (sLp S)), .int (nI (sPt S)), .int (nI (sWk S)), .int (nI (sDo S)), .int (nI (sAt S)), .int (sC2 S), .int (sC3 S), .int (sC4 S), .int (sC5 S)]))] ++ (wL cI aL x.1 S.1 x.2.1 ++ (wG cI pa S.2.1 ++ (wT cI ta x.2.2.1 x.2.2.2.1 ++ wT cI da x.2.2.2.2.1 x.2.2.2.2.2)))) (pI (fun (r : Int32) (u : XG) => r = oRec S y1 y2 ∧ u = x)) (fun (u : XG) => [(a, .inr (3, [.ref aL, .ref pa.1, .ref ta.1, .ref da.1, .int (nI (sLp S)), .int (nI (sPt S)), .int (nI (sWk S)), .int (nI (sDo S)), .int (nI (sAt S)), .int (sC2 S), .int (sC3 S), .int (sC4 S), .int (sC5 S)]))] ++ (wL cI aL u.1 S.1 u.2.1 ++ (wG cI pa S.2.1 ++ (wT cI ta u.2.2.1 u.2.2.2.1 ++ wT cI da u.2.2.2.2.1 u.2.2.2.2.2)))) := by
  refine kt_start (cc := cX3_record) (maxL := 3) (ret := (some .int)) (by decide +kernel) rfl (Nat.le_of_ble_eq_true rfl) ?_
  intro p e s m below meth c hx hb hml hr hlk hown hnm hts ls hl hw
  have hown : s.vm.findClass RX3 = some m.cls := hown
  have hl : lv_has ls 3 [(0, .ref a), (1, .int y1), (2, .int y2)] := hl
  have k10 := hts (.fieldLink RX3 10 "RestartBook" "log" "LRestartBook$Log;") (by decide +kernel)
  have hin3 : ∀ w ∈ u_ws RX3 TX3 13, w ∈ wsX3_record := in_X3_record
  have hI := hI0.1
  have hn4 := Inv0_n hI
  have hwk := hI.2.1.2.1
  have hdo4 : sDo S ≤ 4 := by rcases hI.2.2.2.2.2 with z | z | z <;> omega
  refine lv_aload_n hx hb dX3_record_0 rfl (lv_at hl 0 rfl) ?_
  refine ww_get hx hb hts hin3 hown hw 0 rfl rfl 0 (by decide) k10 rfl dX3_record_1 ?_
  refine lv_iload_n hx hb dX3_record_4 rfl (lv_at hl 1 rfl) ?_
  refine ww_callV ([(a, .inr (3, [.ref aL, .ref pa.1, .ref ta.1, .ref da.1, .int (nI (sLp S)), .int (nI (sPt S)), .int (nI (sWk S)), .int (nI (sDo S)), .int (nI (sAt S)), .int (sC2 S), .int (sC3 S), .int (sC4 S), .int (sC5 S)]))]) (wG cI pa S.2.1 ++ (wT cI ta x.2.2.1 x.2.2.2.1 ++ wT cI da x.2.2.2.2.1 x.2.2.2.2.2)) (As := [.int y1]) (rest := []) ⟨hx, hb, hml, hown, hts⟩ (cL_holds l D cI aL x.1 S.1.2.2.2.1 S.1.1 S.1.2.1 S.1.2.2.1 x.2.1 y1 (by show sN S < 2 ^ 31; omega)) gX3_record_X0_holds rfl hd_X0_holds ⟨Nat.le_of_ble_eq_true rfl, Nat.le_of_ble_eq_true rfl⟩ hw rfl rfl rfl rfl rfl hl.1 (Nat.le_of_ble_eq_true rfl) dX3_record_5 ⟨Nat.le_of_ble_eq_true rfl, Nat.le_of_ble_eq_true rfl⟩ (fun rv u H locs hq hw => ?_)
  obtain ⟨rr, rfl, hq⟩ := hq
  have hw : ww D cI _ _ s ([(a, .inr (3, [.ref aL, .ref pa.1, .ref ta.1, .ref da.1, .int (nI (sLp S)), .int (nI (sPt S)), .int (nI (sWk S)), .int (nI (sDo S)), .int (nI (sAt S)), .int (sC2 S), .int (sC3 S), .int (sC4 S), .int (sC5 S)]))] ++ (wL cI aL x.1 S.1 x.2.1 ++ (wG cI pa S.2.1 ++ (wT cI ta x.2.2.1 x.2.2.2.1 ++ wT cI da x.2.2.2.2.1 x.2.2.2.2.2)))) H locs := hw
  refine W.eq (g2 := F0 m 8 ls [.int (rr)]) rfl ?_
  rcases hq with ⟨rfl, ⟨j, hj1, hj2, rfl⟩⟩ | ⟨rfl, hq⟩
  · have hj2 : j ≤ sN S := hj2
    refine lv_if_eq (tgt := 21) hx hb dX3_record_8 (by decide) (fun c_8 => absurd c_8 (by decide)) (fun c_8 => ?_)
    refine lv_iload_n hx hb dX3_record_11 rfl (lv_at hl 2 rfl) ?_
    refine lv_if_lt (tgt := 21) hx hb dX3_record_12 (by decide) (fun c_12 => ?_) (fun c_12 => ?_)
    · have ho : ¬ (1 ≤ (nI j).toInt ∧ (nI j).toInt ≤ (sN S : Int) ∧ inN y2 7) := fun q => by have q1 := q.2.2.1; have q2 := q.2.2.2; first | (rw [i_lt, z_0] at c_12; omega) | (simp (disch := omega) only [i_le, nI_toInt] at c_18; omega)
      refine lv_iconst (v := (-1)) hx hb dX3_record_21 (by decide +kernel) ?_
      exact ww_iret (u := x) hx hb hr hlk hw (⟨by rw [oRec, if_neg ho], rfl⟩) (Nat.le_of_ble_eq_true rfl) (Nat.le_of_ble_eq_true rfl) dX3_record_22
    · refine lv_iload_n hx hb dX3_record_15 rfl (lv_at hl 2 rfl) ?_
      refine lv_bipush (v := nI 6) hx hb dX3_record_16 (by decide +kernel) ?_
      refine lv_icmp_le (tgt := 23) hx hb dX3_record_18 (by decide) (fun c_18 => ?_) (fun c_18 => ?_)
      · obtain ⟨k, hk, rfl⟩ := nI_of c_12
        have hk6 : k ≤ 6 := by simp (disch := omega) only [i_le, nI_toInt] at c_18; omega
        have ho : 1 ≤ (nI j).toInt ∧ (nI j).toInt ≤ (sN S : Int) ∧ inN (nI k) 7 := by rw [nI_toInt (by omega)]; exact ⟨by omega, by omega, (inN_iff (by omega)).mpr ⟨k, by omega, rfl⟩⟩
        refine lv_aload_n hx hb dX3_record_23 rfl (lv_at hl 0 rfl) ?_
        refine ww_get hx hb hts hin3 hown hw 0 rfl rfl 0 (by decide) k10 rfl dX3_record_24 ?_
        refine lv_iload_n hx hb dX3_record_27 rfl (lv_at hl 1 rfl) ?_
        refine lv_iload_n hx hb dX3_record_28 rfl (lv_at hl 2 rfl) ?_
        refine ww_callV ([(a, .inr (3, [.ref aL, .ref pa.1, .ref ta.1, .ref da.1, .int (nI (sLp S)), .int (nI (sPt S)), .int (nI (sWk S)), .int (nI (sDo S)), .int (nI (sAt S)), .int (sC2 S), .int (sC3 S), .int (sC4 S), .int (sC5 S)]))]) (wG cI pa S.2.1 ++ (wT cI ta x.2.2.1 x.2.2.2.1 ++ wT cI da x.2.2.2.2.1 x.2.2.2.2.2)) (As := [.int (nI j), .int (nI k)]) (rest := []) ⟨hx, hb, hml, hown, hts⟩ (cL_read l D cI aL x.1 S.1.2.2.2.1 S.1.1 S.1.2.1 S.1.2.2.1 x.2.1 j k hrx.1.2.1 (Nat.lt_of_lt_of_le hrx.1.2.2.2.1 (by decide)) (by omega) hk6) gX3_record_X0_read rfl hd_X0_read ⟨Nat.le_of_ble_eq_true rfl, Nat.le_of_ble_eq_true rfl⟩ hw rfl rfl rfl rfl rfl hl.1 (Nat.le_of_ble_eq_true rfl) dX3_record_29 ⟨Nat.le_of_ble_eq_true rfl, Nat.le_of_ble_eq_true rfl⟩ (fun rv u H locs hq hw => ?_)
        obtain ⟨rr, rfl, hq⟩ := hq
        rw [LRep_rd hrx.1.1 hj1 hj2 hk6] at hq
        subst hq
        have hw : ww D cI _ _ s ([(a, .inr (3, [.ref aL, .ref pa.1, .ref ta.1, .ref da.1, .int (nI (sLp S)), .int (nI (sPt S)), .int (nI (sWk S)), .int (nI (sDo S)), .int (nI (sAt S)), .int (sC2 S), .int (sC3 S), .int (sC4 S), .int (sC5 S)]))] ++ (wL cI aL x.1 S.1 x.2.1 ++ (wG cI pa S.2.1 ++ (wT cI ta x.2.2.1 x.2.2.2.1 ++ wT cI da x.2.2.2.2.1 x.2.2.2.2.2)))) H locs := hw
        refine W.eq (g2 := F0 m 32 ls [.int (rcF (S.1.2.2.2.2 j) k)]) rfl ?_
        exact ww_iret (u := x) hx hb hr hlk hw (⟨by rw [oRec, if_pos ho, cl_nI (by omega), cl_nI hk], rfl⟩) (Nat.le_of_ble_eq_true rfl) (Nat.le_of_ble_eq_true rfl) dX3_record_32
      · have ho : ¬ (1 ≤ (nI j).toInt ∧ (nI j).toInt ≤ (sN S : Int) ∧ inN y2 7) := fun q => by have q1 := q.2.2.1; have q2 := q.2.2.2; first | (rw [i_lt, z_0] at c_12; omega) | (simp (disch := omega) only [i_le, nI_toInt] at c_18; omega)
        refine lv_iconst (v := (-1)) hx hb dX3_record_21 (by decide +kernel) ?_
        exact ww_iret (u := x) hx hb hr hlk hw (⟨by rw [oRec, if_neg ho], rfl⟩) (Nat.le_of_ble_eq_true rfl) (Nat.le_of_ble_eq_true rfl) dX3_record_22
  · have ho : ¬ (1 ≤ y1.toInt ∧ y1.toInt ≤ (sN S : Int) ∧ inN y2 7) := fun q => by
      obtain ⟨j, hj, rfl⟩ := i_nat (x := y1) (by omega)
      rw [nI_toInt hj] at q
      exact hq ⟨j, by omega, by show j ≤ sN S; omega, rfl⟩
    refine lv_if_eq (tgt := 21) hx hb dX3_record_8 (by decide) (fun c_8 => ?_) (fun c_8 => absurd (rfl) c_8)
    refine lv_iconst (v := (-1)) hx hb dX3_record_21 (by decide +kernel) ?_
    exact ww_iret (u := x) hx hb hr hlk hw (⟨by rw [oRec, if_neg ho], rfl⟩) (Nat.le_of_ble_eq_true rfl) (Nat.le_of_ble_eq_true rfl) dX3_record_22
set_option maxHeartbeats 1000000 in
set_option maxRecDepth 100000 in
theorem cF_count (l : Launch) (D : va_G) (cI : ClassId) (a aL : Nat) (pa : A5) (ta da : A6) (S : SS) (x : XG) (b : Nat) (hI0 : Inv b S) (h5 : E5 S) (hb4 : b ≤ 4000) (hrx : RX S x) (y1 : Int32) : Kt l yX3_count wsX3_count 1 20 (0) (0) D cI [.ref a, .int y1] ([(a, .inr (3, [.ref aL, .ref pa.1, .ref ta.1, .ref da.1, .int (nI (sLp S)), .int (nI (sPt S)), .int (nI (sWk S)), .int (nI (sDo S)), .int (nI (sAt S)), .int (sC2 S), .int (sC3 S), .int (sC4 S), .int (sC5 S)]))] ++ (wL cI aL x.1 S.1 x.2.1 ++ (wG cI pa S.2.1 ++ (wT cI ta x.2.2.1 x.2.2.2.1 ++ wT cI da x.2.2.2.2.1 x.2.2.2.2.2)))) (pI (fun (r : Int32) (u : XG) => r = oCount S y1 ∧ u = x)) (fun (u : XG) => [(a, .inr (3, [.ref aL, .ref pa.1, .ref ta.1, .ref da.1, .int (nI (sLp S)), .int (nI (sPt S)), .int (nI (sWk S)), .int (nI (sDo S)), .int (nI (sAt S)), .int (sC2 S), .int (sC3 S), .int (sC4 S), .int (sC5 S)]))] ++ (wL cI aL u.1 S.1 u.2.1 ++ (wG cI pa S.2.1 ++ (wT cI ta u.2.2.1 u.2.2.2.1 ++ wT cI da u.2.2.2.2.1 u.2.2.2.2.2)))) := by
  refine kt_start (cc := cX3_count) (maxL := 2) (ret := (some .int)) (by decide +kernel) rfl (Nat.le_of_ble_eq_true rfl) ?_
  intro p e s m below meth c hx hb hml hr hlk hown hnm hts ls hl hw
  have hown : s.vm.findClass RX3 = some m.cls := hown
  have hl : lv_has ls 2 [(0, .ref a), (1, .int y1)] := hl
  have k10 := hts (.fieldLink RX3 10 "RestartBook" "log" "LRestartBook$Log;") (by decide +kernel)
  have k49 := hts (.fieldLink RX3 49 "RestartBook" "lookedThrough" "I") (by decide +kernel)
  have k52 := hts (.fieldLink RX3 52 "RestartBook" "doneAgain" "I") (by decide +kernel)
  have k55 := hts (.fieldLink RX3 55 "RestartBook" "passedOver" "I") (by decide +kernel)
  have k58 := hts (.fieldLink RX3 58 "RestartBook" "undone" "I") (by decide +kernel)
  have hin3 : ∀ w ∈ u_ws RX3 TX3 13, w ∈ wsX3_count := in_X3_count
  have hI := hI0.1
  have hn4 := Inv0_n hI
  have hwk := hI.2.1.2.1
  have hdo4 : sDo S ≤ 4 := by rcases hI.2.2.2.2.2 with z | z | z <;> omega
  refine lv_iload_n hx hb dX3_count_0 rfl (lv_at hl 1 rfl) ?_
  by_cases c_1_0 : y1 = nI 0
  · refine lv_tableIn (tgt := 40) (off := 39) hx hb dX3_count_1 (by rw [c_1_0]; decide +kernel) (by rw [c_1_0]; decide +kernel) (by rw [c_1_0]; decide +kernel) (by decide) ?_
    refine lv_aload_n hx hb dX3_count_40 rfl (lv_at hl 0 rfl) ?_
    refine ww_get hx hb hts hin3 hown hw 0 rfl rfl 0 (by decide) k10 rfl dX3_count_41 ?_
    refine ww_callV ([(a, .inr (3, [.ref aL, .ref pa.1, .ref ta.1, .ref da.1, .int (nI (sLp S)), .int (nI (sPt S)), .int (nI (sWk S)), .int (nI (sDo S)), .int (nI (sAt S)), .int (sC2 S), .int (sC3 S), .int (sC4 S), .int (sC5 S)]))]) (wG cI pa S.2.1 ++ (wT cI ta x.2.2.1 x.2.2.2.1 ++ wT cI da x.2.2.2.2.1 x.2.2.2.2.2)) (As := []) (rest := []) ⟨hx, hb, hml, hown, hts⟩ (cL_recordsHeld l D cI aL x.1 S.1.2.2.2.1 S.1.1 S.1.2.1 S.1.2.2.1 x.2.1) gX3_count_X0_recordsHeld rfl hd_X0_recordsHeld ⟨Nat.le_of_ble_eq_true rfl, Nat.le_of_ble_eq_true rfl⟩ hw rfl rfl rfl rfl rfl hl.1 (Nat.le_of_ble_eq_true rfl) dX3_count_44 ⟨Nat.le_of_ble_eq_true rfl, Nat.le_of_ble_eq_true rfl⟩ (fun rv u H locs hq hw => ?_)
    obtain ⟨rr, rfl, hq⟩ := hq
    subst hq
    have hw : ww D cI _ _ s ([(a, .inr (3, [.ref aL, .ref pa.1, .ref ta.1, .ref da.1, .int (nI (sLp S)), .int (nI (sPt S)), .int (nI (sWk S)), .int (nI (sDo S)), .int (nI (sAt S)), .int (sC2 S), .int (sC3 S), .int (sC4 S), .int (sC5 S)]))] ++ (wL cI aL x.1 S.1 x.2.1 ++ (wG cI pa S.2.1 ++ (wT cI ta x.2.2.1 x.2.2.2.1 ++ wT cI da x.2.2.2.2.1 x.2.2.2.2.2)))) H locs := hw
    refine W.eq (g2 := F0 m 47 ls [.int (nI (sN S))]) rfl ?_
    exact ww_iret (u := x) hx hb hr hlk hw (⟨by rw [oCount, if_pos (c_1_0.trans nI_0)], rfl⟩) (Nat.le_of_ble_eq_true rfl) (Nat.le_of_ble_eq_true rfl) dX3_count_47
  by_cases c_1_1 : y1 = nI 1
  · refine lv_tableIn (tgt := 48) (off := 47) hx hb dX3_count_1 (by rw [c_1_1]; decide +kernel) (by rw [c_1_1]; decide +kernel) (by rw [c_1_1]; decide +kernel) (by decide) ?_
    refine lv_aload_n hx hb dX3_count_48 rfl (lv_at hl 0 rfl) ?_
    refine ww_get hx hb hts hin3 hown hw 0 rfl rfl 0 (by decide) k10 rfl dX3_count_49 ?_
    refine ww_callV ([(a, .inr (3, [.ref aL, .ref pa.1, .ref ta.1, .ref da.1, .int (nI (sLp S)), .int (nI (sPt S)), .int (nI (sWk S)), .int (nI (sDo S)), .int (nI (sAt S)), .int (sC2 S), .int (sC3 S), .int (sC4 S), .int (sC5 S)]))]) (wG cI pa S.2.1 ++ (wT cI ta x.2.2.1 x.2.2.2.1 ++ wT cI da x.2.2.2.2.1 x.2.2.2.2.2)) (As := []) (rest := []) ⟨hx, hb, hml, hown, hts⟩ (cL_forcedHeld l D cI aL x.1 S.1.2.2.2.1 S.1.1 S.1.2.1 S.1.2.2.1 x.2.1) gX3_count_X0_forcedHeld rfl hd_X0_forcedHeld ⟨Nat.le_of_ble_eq_true rfl, Nat.le_of_ble_eq_true rfl⟩ hw rfl rfl rfl rfl rfl hl.1 (Nat.le_of_ble_eq_true rfl) dX3_count_52 ⟨Nat.le_of_ble_eq_true rfl, Nat.le_of_ble_eq_true rfl⟩ (fun rv u H locs hq hw => ?_)
    obtain ⟨rr, rfl, hq⟩ := hq
    subst hq
    have hw : ww D cI _ _ s ([(a, .inr (3, [.ref aL, .ref pa.1, .ref ta.1, .ref da.1, .int (nI (sLp S)), .int (nI (sPt S)), .int (nI (sWk S)), .int (nI (sDo S)), .int (nI (sAt S)), .int (sC2 S), .int (sC3 S), .int (sC4 S), .int (sC5 S)]))] ++ (wL cI aL x.1 S.1 x.2.1 ++ (wG cI pa S.2.1 ++ (wT cI ta x.2.2.1 x.2.2.2.1 ++ wT cI da x.2.2.2.2.1 x.2.2.2.2.2)))) H locs := hw
    refine W.eq (g2 := F0 m 55 ls [.int (nI (sFo S))]) rfl ?_
    exact ww_iret (u := x) hx hb hr hlk hw (⟨by rw [oCount, if_neg (fun q => c_1_0 (q.trans nI_0.symm)), if_pos c_1_1], rfl⟩) (Nat.le_of_ble_eq_true rfl) (Nat.le_of_ble_eq_true rfl) dX3_count_55
  by_cases c_1_2 : y1 = nI 2
  · refine lv_tableIn (tgt := 56) (off := 55) hx hb dX3_count_1 (by rw [c_1_2]; decide +kernel) (by rw [c_1_2]; decide +kernel) (by rw [c_1_2]; decide +kernel) (by decide) ?_
    refine lv_aload_n hx hb dX3_count_56 rfl (lv_at hl 0 rfl) ?_
    refine ww_get hx hb hts hin3 hown hw 0 rfl rfl 9 (by decide) k49 rfl dX3_count_57 ?_
    exact ww_iret (u := x) hx hb hr hlk hw (⟨by rw [oCount, if_neg (fun q => c_1_0 (q.trans nI_0.symm)), if_neg c_1_1, if_pos c_1_2], rfl⟩) (Nat.le_of_ble_eq_true rfl) (Nat.le_of_ble_eq_true rfl) dX3_count_60
  by_cases c_1_3 : y1 = nI 3
  · refine lv_tableIn (tgt := 61) (off := 60) hx hb dX3_count_1 (by rw [c_1_3]; decide +kernel) (by rw [c_1_3]; decide +kernel) (by rw [c_1_3]; decide +kernel) (by decide) ?_
    refine lv_aload_n hx hb dX3_count_61 rfl (lv_at hl 0 rfl) ?_
    refine ww_get hx hb hts hin3 hown hw 0 rfl rfl 10 (by decide) k52 rfl dX3_count_62 ?_
    exact ww_iret (u := x) hx hb hr hlk hw (⟨by rw [oCount, if_neg (fun q => c_1_0 (q.trans nI_0.symm)), if_neg c_1_1, if_neg c_1_2, if_pos c_1_3], rfl⟩) (Nat.le_of_ble_eq_true rfl) (Nat.le_of_ble_eq_true rfl) dX3_count_65
  by_cases c_1_4 : y1 = nI 4
  · refine lv_tableIn (tgt := 66) (off := 65) hx hb dX3_count_1 (by rw [c_1_4]; decide +kernel) (by rw [c_1_4]; decide +kernel) (by rw [c_1_4]; decide +kernel) (by decide) ?_
    refine lv_aload_n hx hb dX3_count_66 rfl (lv_at hl 0 rfl) ?_
    refine ww_get hx hb hts hin3 hown hw 0 rfl rfl 11 (by decide) k55 rfl dX3_count_67 ?_
    exact ww_iret (u := x) hx hb hr hlk hw (⟨by rw [oCount, if_neg (fun q => c_1_0 (q.trans nI_0.symm)), if_neg c_1_1, if_neg c_1_2, if_neg c_1_3, if_pos c_1_4], rfl⟩) (Nat.le_of_ble_eq_true rfl) (Nat.le_of_ble_eq_true rfl) dX3_count_70
  by_cases c_1_5 : y1 = nI 5
  · refine lv_tableIn (tgt := 71) (off := 70) hx hb dX3_count_1 (by rw [c_1_5]; decide +kernel) (by rw [c_1_5]; decide +kernel) (by rw [c_1_5]; decide +kernel) (by decide) ?_
    refine lv_aload_n hx hb dX3_count_71 rfl (lv_at hl 0 rfl) ?_
    refine ww_get hx hb hts hin3 hown hw 0 rfl rfl 12 (by decide) k58 rfl dX3_count_72 ?_
    exact ww_iret (u := x) hx hb hr hlk hw (⟨by rw [oCount, if_neg (fun q => c_1_0 (q.trans nI_0.symm)), if_neg c_1_1, if_neg c_1_2, if_neg c_1_3, if_neg c_1_4, if_pos c_1_5], rfl⟩) (Nat.le_of_ble_eq_true rfl) (Nat.le_of_ble_eq_true rfl) dX3_count_75
  refine lv_tableOut (tgt := 76) hx hb dX3_count_1 (swo6 c_1_0 c_1_1 c_1_2 c_1_3 c_1_4 c_1_5) (by decide) ?_
  refine lv_bipush (v := (-102)) hx hb dX3_count_76 (by decide +kernel) ?_
  exact ww_iret (u := x) hx hb hr hlk hw (⟨by rw [oCount, if_neg (fun q => c_1_0 (q.trans nI_0.symm)), if_neg c_1_1, if_neg c_1_2, if_neg c_1_3, if_neg c_1_4, if_neg c_1_5], rfl⟩) (Nat.le_of_ble_eq_true rfl) (Nat.le_of_ble_eq_true rfl) dX3_count_78
set_option maxHeartbeats 1000000 in
set_option maxRecDepth 100000 in
theorem cF_force (l : Launch) (D : va_G) (cI : ClassId) (a aL : Nat) (pa : A5) (ta da : A6) (S : SS) (x : XG) (b : Nat) (hI0 : Inv b S) (h5 : E5 S) (hb4 : b ≤ 4000) (hrx : RX S x) (y1 : Int32) : Kt l yX3_force wsX3_force 2 37 (sCap (oForce S y1).2 - sCap S) (2 * (sCap (oForce S y1).2 - sCap S)) D cI [.ref a, .int y1] ([(a, .inr (3, [.ref aL, .ref pa.1, .ref ta.1, .ref da.1, .int (nI (sLp S)), .int (nI (sPt S)), .int (nI (sWk S)), .int (nI (sDo S)), .int (nI (sAt S)), .int (sC2 S), .int (sC3 S), .int (sC4 S), .int (sC5 S)]))] ++ (wL cI aL x.1 S.1 x.2.1 ++ (wG cI pa S.2.1 ++ (wT cI ta x.2.2.1 x.2.2.2.1 ++ wT cI da x.2.2.2.2.1 x.2.2.2.2.2)))) (pI (fun (r : Int32) (u : XG) => r = (oForce S y1).1 ∧ RX (oForce S y1).2 u)) (fun (u : XG) => [(a, .inr (3, [.ref aL, .ref pa.1, .ref ta.1, .ref da.1, .int (nI (sLp ((oForce S y1).2))), .int (nI (sPt ((oForce S y1).2))), .int (nI (sWk ((oForce S y1).2))), .int (nI (sDo ((oForce S y1).2))), .int (nI (sAt ((oForce S y1).2))), .int (sC2 ((oForce S y1).2)), .int (sC3 ((oForce S y1).2)), .int (sC4 ((oForce S y1).2)), .int (sC5 ((oForce S y1).2))]))] ++ (wL cI aL u.1 (((oForce S y1).2).1) u.2.1 ++ (wG cI pa (((oForce S y1).2).2.1) ++ (wT cI ta u.2.2.1 u.2.2.2.1 ++ wT cI da u.2.2.2.2.1 u.2.2.2.2.2)))) := by
  refine kt_start (cc := cX3_force) (maxL := 2) (ret := (some .int)) (by decide +kernel) rfl (Nat.le_of_ble_eq_true rfl) ?_
  intro p e s m below meth c hx hb hml hr hlk hown hnm hts ls hl hw
  have hown : s.vm.findClass RX3 = some m.cls := hown
  have hl : lv_has ls 2 [(0, .ref a), (1, .int y1)] := hl
  have k10 := hts (.fieldLink RX3 10 "RestartBook" "log" "LRestartBook$Log;") (by decide +kernel)
  have k43 := hts (.fieldLink RX3 43 "RestartBook" "doing" "I") (by decide +kernel)
  have hin3 : ∀ w ∈ u_ws RX3 TX3 13, w ∈ wsX3_force := in_X3_force
  have hI := hI0.1
  have hn4 := Inv0_n hI
  have hwk := hI.2.1.2.1
  have hdo4 : sDo S ≤ 4 := by rcases hI.2.2.2.2.2 with z | z | z <;> omega
  refine lv_aload_n hx hb dX3_force_0 rfl (lv_at hl 0 rfl) ?_
  refine ww_get hx hb hts hin3 hown hw 0 rfl rfl 7 (by decide) k43 rfl dX3_force_1 ?_
  refine lv_if_eq (tgt := 10) hx hb dX3_force_4 (by decide) (fun c_4 => ?_) (fun c_4 => ?_)
  · have hdo : sDo S = 0 := nI_q (by omega) (by omega) (c_4.trans nI_0.symm)
    refine lv_iload_n hx hb dX3_force_10 rfl (lv_at hl 1 rfl) ?_
    refine lv_if_ge (tgt := 17) hx hb dX3_force_11 (by decide) (fun c_11 => ?_) (fun c_11 => ?_)
    · refine lv_aload_n hx hb dX3_force_17 rfl (lv_at hl 0 rfl) ?_
      refine ww_get hx hb hts hin3 hown hw 0 rfl rfl 0 (by decide) k10 rfl dX3_force_18 ?_
      refine lv_iload_n hx hb dX3_force_21 rfl (lv_at hl 1 rfl) ?_
      have hz : ¬ y1 < 0 := by rw [i_lt, z_0]; rw [i_le, z_0] at c_11; omega
      refine ww_callV ([(a, .inr (3, [.ref aL, .ref pa.1, .ref ta.1, .ref da.1, .int (nI (sLp S)), .int (nI (sPt S)), .int (nI (sWk S)), .int (nI (sDo S)), .int (nI (sAt S)), .int (sC2 S), .int (sC3 S), .int (sC4 S), .int (sC5 S)]))]) (wG cI pa S.2.1 ++ (wT cI ta x.2.2.1 x.2.2.2.1 ++ wT cI da x.2.2.2.2.1 x.2.2.2.2.2)) (As := [.int y1]) (rest := []) ⟨hx, hb, hml, hown, hts⟩ (cL_forceUpTo l D cI aL x.1 S.1.2.2.2.1 S.1.1 S.1.2.1 S.1.2.2.1 x.2.1 y1 (by show sN S < 2 ^ 31; omega) (by have := hI.1.1; show sFo S < 2 ^ 31; omega)) gX3_force_X0_forceUpTo rfl hd_X0_forceUpTo ⟨Nat.le_of_ble_eq_true rfl, Nat.le_of_ble_eq_true rfl⟩ hw rfl rfl rfl rfl rfl hl.1 (Nat.le_of_ble_eq_true rfl) dX3_force_22 ⟨Nat.zero_le _, Nat.zero_le _⟩ (fun rv u H locs hq hw => ?_)
      obtain ⟨rfl, -⟩ := hq
      have hw : ww D cI _ _ s ([(a, .inr (3, [.ref aL, .ref pa.1, .ref ta.1, .ref da.1, .int (nI (sLp S)), .int (nI (sPt S)), .int (nI (sWk S)), .int (nI (sDo S)), .int (nI (sAt S)), .int (sC2 S), .int (sC3 S), .int (sC4 S), .int (sC5 S)]))] ++ (wL cI aL x.1 (frc S (cl y1)).1 x.2.1 ++ (wG cI pa S.2.1 ++ (wT cI ta x.2.2.1 x.2.2.2.1 ++ wT cI da x.2.2.2.2.1 x.2.2.2.2.2)))) H locs := hw
      refine W.eq (g2 := F0 m 25 ls []) rfl ?_
      have hw : ww D cI (va_A ([(a, .inr (3, [.ref aL, .ref pa.1, .ref ta.1, .ref da.1, .int (nI (sLp S)), .int (nI (sPt S)), .int (nI (sWk S)), .int (nI (sDo S)), .int (nI (sAt S)), .int (sC2 S), .int (sC3 S), .int (sC4 S), .int (sC5 S)]))] ++ (wL cI aL x.1 S.1 x.2.1 ++ (wG cI pa S.2.1 ++ (wT cI ta x.2.2.1 x.2.2.2.1 ++ wT cI da x.2.2.2.2.1 x.2.2.2.2.2)))) s.heap.size) s.heap s ([(a, .inr (3, [.ref aL, .ref pa.1, .ref ta.1, .ref da.1, .int (nI (sLp (frc S (cl y1)))), .int (nI (sPt (frc S (cl y1)))), .int (nI (sWk (frc S (cl y1)))), .int (nI (sDo (frc S (cl y1)))), .int (nI (sAt (frc S (cl y1)))), .int (sC2 (frc S (cl y1))), .int (sC3 (frc S (cl y1))), .int (sC4 (frc S (cl y1))), .int (sC5 (frc S (cl y1)))]))] ++ (wL cI aL x.1 ((frc S (cl y1)).1) x.2.1 ++ (wG cI pa ((frc S (cl y1)).2.1) ++ (wT cI ta x.2.2.1 x.2.2.2.1 ++ wT cI da x.2.2.2.2.1 x.2.2.2.2.2)))) H locs := hw
      refine lv_aload_n hx hb dX3_force_25 rfl (lv_at hl 0 rfl) ?_
      refine ww_get hx hb hts hin3 hown hw 0 rfl rfl 0 (by decide) k10 rfl dX3_force_26 ?_
      refine ww_callV ([(a, .inr (3, [.ref aL, .ref pa.1, .ref ta.1, .ref da.1, .int (nI (sLp (frc S (cl y1)))), .int (nI (sPt (frc S (cl y1)))), .int (nI (sWk (frc S (cl y1)))), .int (nI (sDo (frc S (cl y1)))), .int (nI (sAt (frc S (cl y1)))), .int (sC2 (frc S (cl y1))), .int (sC3 (frc S (cl y1))), .int (sC4 (frc S (cl y1))), .int (sC5 (frc S (cl y1)))]))]) (wG cI pa ((frc S (cl y1)).2.1) ++ (wT cI ta x.2.2.1 x.2.2.2.1 ++ wT cI da x.2.2.2.2.1 x.2.2.2.2.2)) (As := []) (rest := []) ⟨hx, hb, hml, hown, hts⟩ (cL_forcedHeld l D cI aL x.1 (frc S (cl y1)).1.2.2.2.1 (frc S (cl y1)).1.1 (frc S (cl y1)).1.2.1 (frc S (cl y1)).1.2.2.1 x.2.1) gX3_force_X0_forcedHeld rfl hd_X0_forcedHeld ⟨Nat.le_of_ble_eq_true rfl, Nat.le_of_ble_eq_true rfl⟩ hw rfl rfl rfl rfl rfl hl.1 (Nat.le_of_ble_eq_true rfl) dX3_force_29 ⟨Nat.zero_le _, Nat.zero_le _⟩ (fun rv u H locs hq hw => ?_)
      obtain ⟨rr, rfl, hq⟩ := hq
      subst hq
      have hw : ww D cI _ _ s ([(a, .inr (3, [.ref aL, .ref pa.1, .ref ta.1, .ref da.1, .int (nI (sLp (frc S (cl y1)))), .int (nI (sPt (frc S (cl y1)))), .int (nI (sWk (frc S (cl y1)))), .int (nI (sDo (frc S (cl y1)))), .int (nI (sAt (frc S (cl y1)))), .int (sC2 (frc S (cl y1))), .int (sC3 (frc S (cl y1))), .int (sC4 (frc S (cl y1))), .int (sC5 (frc S (cl y1)))]))] ++ (wL cI aL x.1 ((frc S (cl y1)).1) x.2.1 ++ (wG cI pa ((frc S (cl y1)).2.1) ++ (wT cI ta x.2.2.1 x.2.2.2.1 ++ wT cI da x.2.2.2.2.1 x.2.2.2.2.2)))) H locs := hw
      refine W.eq (g2 := F0 m 32 ls [.int (nI (sFo (frc S (cl y1))))]) rfl ?_
      have hE : oForce S y1 = (nI (sFo (frc S (cl y1))), (frc S (cl y1))) := by rw [oForce, if_neg (fun q => q hdo), if_neg hz]
      have hE2 : sCap (oForce S y1).2 = sCap (frc S (cl y1)) := by rw [hE]
      have hw : ww D cI (va_A ([(a, .inr (3, [.ref aL, .ref pa.1, .ref ta.1, .ref da.1, .int (nI (sLp S)), .int (nI (sPt S)), .int (nI (sWk S)), .int (nI (sDo S)), .int (nI (sAt S)), .int (sC2 S), .int (sC3 S), .int (sC4 S), .int (sC5 S)]))] ++ (wL cI aL x.1 S.1 x.2.1 ++ (wG cI pa S.2.1 ++ (wT cI ta x.2.2.1 x.2.2.2.1 ++ wT cI da x.2.2.2.2.1 x.2.2.2.2.2)))) s.heap.size) s.heap s ([(a, .inr (3, [.ref aL, .ref pa.1, .ref ta.1, .ref da.1, .int (nI (sLp ((oForce S y1).2))), .int (nI (sPt ((oForce S y1).2))), .int (nI (sWk ((oForce S y1).2))), .int (nI (sDo ((oForce S y1).2))), .int (nI (sAt ((oForce S y1).2))), .int (sC2 ((oForce S y1).2)), .int (sC3 ((oForce S y1).2)), .int (sC4 ((oForce S y1).2)), .int (sC5 ((oForce S y1).2))]))] ++ (wL cI aL x.1 (((oForce S y1).2).1) x.2.1 ++ (wG cI pa (((oForce S y1).2).2.1) ++ (wT cI ta x.2.2.1 x.2.2.2.1 ++ wT cI da x.2.2.2.2.1 x.2.2.2.2.2)))) H locs := by rw [hE]; exact hw
      exact ww_iret (u := x) hx hb hr hlk hw (by rw [hE]; exact ⟨rfl, RX_frc _ hrx⟩) (Nat.zero_le _) (Nat.zero_le _) dX3_force_32
    · have hz : y1 < 0 := by rw [i_lt, z_0]; rw [i_le, z_0] at c_11; omega
      have hE : oForce S y1 = (xOUT, S) := by rw [oForce, if_neg (fun q => q hdo), if_pos hz]
      have hE2 : sCap (oForce S y1).2 = sCap S := by rw [hE]
      have hw : ww D cI (va_A ([(a, .inr (3, [.ref aL, .ref pa.1, .ref ta.1, .ref da.1, .int (nI (sLp S)), .int (nI (sPt S)), .int (nI (sWk S)), .int (nI (sDo S)), .int (nI (sAt S)), .int (sC2 S), .int (sC3 S), .int (sC4 S), .int (sC5 S)]))] ++ (wL cI aL x.1 S.1 x.2.1 ++ (wG cI pa S.2.1 ++ (wT cI ta x.2.2.1 x.2.2.2.1 ++ wT cI da x.2.2.2.2.1 x.2.2.2.2.2)))) s.heap.size) s.heap s ([(a, .inr (3, [.ref aL, .ref pa.1, .ref ta.1, .ref da.1, .int (nI (sLp ((oForce S y1).2))), .int (nI (sPt ((oForce S y1).2))), .int (nI (sWk ((oForce S y1).2))), .int (nI (sDo ((oForce S y1).2))), .int (nI (sAt ((oForce S y1).2))), .int (sC2 ((oForce S y1).2)), .int (sC3 ((oForce S y1).2)), .int (sC4 ((oForce S y1).2)), .int (sC5 ((oForce S y1).2))]))] ++ (wL cI aL x.1 (((oForce S y1).2).1) x.2.1 ++ (wG cI pa (((oForce S y1).2).2.1) ++ (wT cI ta x.2.2.1 x.2.2.2.1 ++ wT cI da x.2.2.2.2.1 x.2.2.2.2.2)))) s.heap [] := by rw [hE]; exact hw
      refine lv_bipush (v := (-102)) hx hb dX3_force_14 (by decide +kernel) ?_
      exact ww_iret (u := x) hx hb hr hlk hw (by rw [hE]; exact ⟨rfl, hrx⟩) (Nat.zero_le _) (Nat.zero_le _) dX3_force_16
  · have hdo : sDo S ≠ 0 := fun q => c_4 ((congrArg nI q).trans nI_0)
    have hE : oForce S y1 = (xDOW, S) := by rw [oForce, if_pos hdo]
    have hE2 : sCap (oForce S y1).2 = sCap S := by rw [hE]
    have hw : ww D cI (va_A ([(a, .inr (3, [.ref aL, .ref pa.1, .ref ta.1, .ref da.1, .int (nI (sLp S)), .int (nI (sPt S)), .int (nI (sWk S)), .int (nI (sDo S)), .int (nI (sAt S)), .int (sC2 S), .int (sC3 S), .int (sC4 S), .int (sC5 S)]))] ++ (wL cI aL x.1 S.1 x.2.1 ++ (wG cI pa S.2.1 ++ (wT cI ta x.2.2.1 x.2.2.2.1 ++ wT cI da x.2.2.2.2.1 x.2.2.2.2.2)))) s.heap.size) s.heap s ([(a, .inr (3, [.ref aL, .ref pa.1, .ref ta.1, .ref da.1, .int (nI (sLp ((oForce S y1).2))), .int (nI (sPt ((oForce S y1).2))), .int (nI (sWk ((oForce S y1).2))), .int (nI (sDo ((oForce S y1).2))), .int (nI (sAt ((oForce S y1).2))), .int (sC2 ((oForce S y1).2)), .int (sC3 ((oForce S y1).2)), .int (sC4 ((oForce S y1).2)), .int (sC5 ((oForce S y1).2))]))] ++ (wL cI aL x.1 (((oForce S y1).2).1) x.2.1 ++ (wG cI pa (((oForce S y1).2).2.1) ++ (wT cI ta x.2.2.1 x.2.2.2.1 ++ wT cI da x.2.2.2.2.1 x.2.2.2.2.2)))) s.heap [] := by rw [hE]; exact hw
    refine lv_bipush (v := (-105)) hx hb dX3_force_7 (by decide +kernel) ?_
    exact ww_iret (u := x) hx hb hr hlk hw (by rw [hE]; exact ⟨rfl, hrx⟩) (Nat.zero_le _) (Nat.zero_le _) dX3_force_9
theorem BR_clean {fb : Nat → Int32} {B : Nat → Nat} (h : BR fb B) (p : Nat) : BR (upd fb p (nI 0)) (va_up B p 0) := by
  intro q hq
  by_cases e : q = p
  · simp only [upd, va_up, if_pos e]; exact ⟨trivial, by omega⟩
  · simp only [upd, va_up, if_neg e]; exact h q hq
set_option maxHeartbeats 1000000 in
set_option maxRecDepth 100000 in
theorem cF_write (l : Launch) (D : va_G) (cI : ClassId) (a aL : Nat) (pa : A5) (ta da : A6) (S : SS) (x : XG) (b : Nat) (hI0 : Inv b S) (h5 : E5 S) (hb4 : b ≤ 4000) (hrx : RX S x) (y1 : Int32) : Kt l yX3_write wsX3_write 2 41 (sCap (oWrite S y1).2 - sCap S) (2 * (sCap (oWrite S y1).2 - sCap S)) D cI [.ref a, .int y1] ([(a, .inr (3, [.ref aL, .ref pa.1, .ref ta.1, .ref da.1, .int (nI (sLp S)), .int (nI (sPt S)), .int (nI (sWk S)), .int (nI (sDo S)), .int (nI (sAt S)), .int (sC2 S), .int (sC3 S), .int (sC4 S), .int (sC5 S)]))] ++ (wL cI aL x.1 S.1 x.2.1 ++ (wG cI pa S.2.1 ++ (wT cI ta x.2.2.1 x.2.2.2.1 ++ wT cI da x.2.2.2.2.1 x.2.2.2.2.2)))) (pI (fun (r : Int32) (u : XG) => r = (oWrite S y1).1 ∧ RX (oWrite S y1).2 u)) (fun (u : XG) => [(a, .inr (3, [.ref aL, .ref pa.1, .ref ta.1, .ref da.1, .int (nI (sLp ((oWrite S y1).2))), .int (nI (sPt ((oWrite S y1).2))), .int (nI (sWk ((oWrite S y1).2))), .int (nI (sDo ((oWrite S y1).2))), .int (nI (sAt ((oWrite S y1).2))), .int (sC2 ((oWrite S y1).2)), .int (sC3 ((oWrite S y1).2)), .int (sC4 ((oWrite S y1).2)), .int (sC5 ((oWrite S y1).2))]))] ++ (wL cI aL u.1 (((oWrite S y1).2).1) u.2.1 ++ (wG cI pa (((oWrite S y1).2).2.1) ++ (wT cI ta u.2.2.1 u.2.2.2.1 ++ wT cI da u.2.2.2.2.1 u.2.2.2.2.2)))) := by
  refine kt_start (cc := cX3_write) (maxL := 2) (ret := (some .int)) (by decide +kernel) rfl (Nat.le_of_ble_eq_true rfl) ?_
  intro p e s m below meth c hx hb hml hr hlk hown hnm hts ls hl hw
  have hown : s.vm.findClass RX3 = some m.cls := hown
  have hl : lv_has ls 2 [(0, .ref a), (1, .int y1)] := hl
  have k10 := hts (.fieldLink RX3 10 "RestartBook" "log" "LRestartBook$Log;") (by decide +kernel)
  have k19 := hts (.fieldLink RX3 19 "RestartBook" "pages" "LRestartBook$Pages;") (by decide +kernel)
  have k26 := hts (.fieldLink RX3 26 "RestartBook" "tables" "LRestartBook$Tables;") (by decide +kernel)
  have k43 := hts (.fieldLink RX3 43 "RestartBook" "doing" "I") (by decide +kernel)
  have hin3 : ∀ w ∈ u_ws RX3 TX3 13, w ∈ wsX3_write := in_X3_write
  have hI := hI0.1
  have hn4 := Inv0_n hI
  have hwk := hI.2.1.2.1
  have hdo4 : sDo S ≤ 4 := by rcases hI.2.2.2.2.2 with z | z | z <;> omega
  refine lv_aload_n hx hb dX3_write_0 rfl (lv_at hl 0 rfl) ?_
  refine ww_get hx hb hts hin3 hown hw 0 rfl rfl 7 (by decide) k43 rfl dX3_write_1 ?_
  refine lv_if_eq (tgt := 10) hx hb dX3_write_4 (by decide) (fun c_4 => ?_) (fun c_4 => ?_)
  · have hdo : sDo S = 0 := nI_q (by omega) (by omega) (c_4.trans nI_0.symm)
    refine lv_iload_n hx hb dX3_write_10 rfl (lv_at hl 1 rfl) ?_
    refine ww_callS ([]) ([(a, .inr (3, [.ref aL, .ref pa.1, .ref ta.1, .ref da.1, .int (nI (sLp S)), .int (nI (sPt S)), .int (nI (sWk S)), .int (nI (sDo S)), .int (nI (sAt S)), .int (sC2 S), .int (sC3 S), .int (sC4 S), .int (sC5 S)]))] ++ (wL cI aL x.1 S.1 x.2.1 ++ (wG cI pa S.2.1 ++ (wT cI ta x.2.2.1 x.2.2.2.1 ++ wT cI da x.2.2.2.2.1 x.2.2.2.2.2)))) (As := [.int y1]) (rest := []) ⟨hx, hb, hml, hown, hts⟩ (cP_hasPage l D cI y1) gX3_write_X1_hasPage rfl hd_X1_hasPage ⟨Nat.le_of_ble_eq_true rfl, Nat.le_of_ble_eq_true rfl⟩ hw rfl rfl rfl hl.1 (Nat.le_of_ble_eq_true rfl) dX3_write_11 ⟨Nat.zero_le _, Nat.zero_le _⟩ (fun rv u H locs hq hw => ?_)
    obtain ⟨rr, rfl, hq⟩ := hq
    have hw : ww D cI _ _ s ([(a, .inr (3, [.ref aL, .ref pa.1, .ref ta.1, .ref da.1, .int (nI (sLp S)), .int (nI (sPt S)), .int (nI (sWk S)), .int (nI (sDo S)), .int (nI (sAt S)), .int (sC2 S), .int (sC3 S), .int (sC4 S), .int (sC5 S)]))] ++ (wL cI aL x.1 S.1 x.2.1 ++ (wG cI pa S.2.1 ++ (wT cI ta x.2.2.1 x.2.2.2.1 ++ wT cI da x.2.2.2.2.1 x.2.2.2.2.2)))) H locs := hw
    refine W.eq (g2 := F0 m 14 ls [.int (rr)]) rfl ?_
    rcases hq with ⟨rfl, ⟨pj, hpj, rfl⟩⟩ | ⟨rfl, hq⟩
    · have hin : inN (nI pj) 64 := (inN_iff (by omega)).mpr ⟨pj, hpj, rfl⟩
      have hcp : cl (nI pj) = pj := cl_nI (by omega)
      refine lv_if_ne (tgt := 20) hx hb dX3_write_14 (by decide) (fun c_14 => ?_) (fun c_14 => absurd c_14 (by decide))
      refine lv_aload_n hx hb dX3_write_20 rfl (lv_at hl 0 rfl) ?_
      refine ww_get hx hb hts hin3 hown hw 0 rfl rfl 2 (by decide) k26 rfl dX3_write_21 ?_
      refine lv_iload_n hx hb dX3_write_24 rfl (lv_at hl 1 rfl) ?_
      refine ww_callV ([(a, .inr (3, [.ref aL, .ref pa.1, .ref ta.1, .ref da.1, .int (nI (sLp S)), .int (nI (sPt S)), .int (nI (sWk S)), .int (nI (sDo S)), .int (nI (sAt S)), .int (sC2 S), .int (sC3 S), .int (sC4 S), .int (sC5 S)]))] ++ (wL cI aL x.1 S.1 x.2.1 ++ wG cI pa S.2.1)) (wT cI da x.2.2.2.2.1 x.2.2.2.2.2) (As := [.int (nI pj)]) (rest := []) ⟨hx, hb, hml, hown, hts⟩ (cT_baseOf l D cI ta.1 ta.2.1 ta.2.2.1 ta.2.2.2.1 ta.2.2.2.2.1 ta.2.2.2.2.2 x.2.2.1 x.2.2.2.1 pj hpj) gX3_write_X2_baseOf rfl hd_X2_baseOf ⟨Nat.le_of_ble_eq_true rfl, Nat.le_of_ble_eq_true rfl⟩ hw rfl rfl rfl rfl rfl hl.1 (Nat.le_of_ble_eq_true rfl) dX3_write_25 ⟨Nat.zero_le _, Nat.zero_le _⟩ (fun rv u H locs hq hw => ?_)
      obtain ⟨rr, rfl, hq⟩ := hq
      have hbl := (hrx.2.2.1 pj hpj).2
      rw [(hrx.2.2.1 pj hpj).1] at hq
      subst hq
      have hw : ww D cI _ _ s ([(a, .inr (3, [.ref aL, .ref pa.1, .ref ta.1, .ref da.1, .int (nI (sLp S)), .int (nI (sPt S)), .int (nI (sWk S)), .int (nI (sDo S)), .int (nI (sAt S)), .int (sC2 S), .int (sC3 S), .int (sC4 S), .int (sC5 S)]))] ++ (wL cI aL x.1 S.1 x.2.1 ++ (wG cI pa S.2.1 ++ (wT cI ta x.2.2.1 x.2.2.2.1 ++ wT cI da x.2.2.2.2.1 x.2.2.2.2.2)))) H locs := hw
      refine W.eq (g2 := F0 m 28 ls [.int (nI (sBs S pj))]) rfl ?_
      refine lv_if_ne (tgt := 33) hx hb dX3_write_28 (by decide) (fun c_28 => ?_) (fun c_28 => ?_)
      · refine lv_aload_n hx hb dX3_write_33 rfl (lv_at hl 0 rfl) ?_
        refine ww_get hx hb hts hin3 hown hw 0 rfl rfl 0 (by decide) k10 rfl dX3_write_34 ?_
        refine lv_aload_n hx hb dX3_write_37 rfl (lv_at hl 0 rfl) ?_
        refine ww_get hx hb hts hin3 hown hw 0 rfl rfl 1 (by decide) k19 rfl dX3_write_38 ?_
        refine lv_iload_n hx hb dX3_write_41 rfl (lv_at hl 1 rfl) ?_
        refine ww_callV ([(a, .inr (3, [.ref aL, .ref pa.1, .ref ta.1, .ref da.1, .int (nI (sLp S)), .int (nI (sPt S)), .int (nI (sWk S)), .int (nI (sDo S)), .int (nI (sAt S)), .int (sC2 S), .int (sC3 S), .int (sC4 S), .int (sC5 S)]))] ++ wL cI aL x.1 S.1 x.2.1) (wT cI ta x.2.2.1 x.2.2.2.1 ++ wT cI da x.2.2.2.2.1 x.2.2.2.2.2) (As := [.int (nI pj)]) (rest := [.ref aL]) ⟨hx, hb, hml, hown, hts⟩ (cP_markOf l D cI pa.1 pa.2.1 pa.2.2.1 pa.2.2.2.1 pa.2.2.2.2 S.2.1.1 S.2.1.2.1 S.2.1.2.2.1 S.2.1.2.2.2 pj hpj) gX3_write_X1_markOf rfl hd_X1_markOf ⟨Nat.le_of_ble_eq_true rfl, Nat.le_of_ble_eq_true rfl⟩ hw rfl rfl rfl rfl rfl hl.1 (Nat.le_of_ble_eq_true rfl) dX3_write_42 ⟨Nat.zero_le _, Nat.zero_le _⟩ (fun rv u H locs hq hw => ?_)
        obtain ⟨rr, rfl, hq⟩ := hq
        subst hq
        have hw : ww D cI _ _ s ([(a, .inr (3, [.ref aL, .ref pa.1, .ref ta.1, .ref da.1, .int (nI (sLp S)), .int (nI (sPt S)), .int (nI (sWk S)), .int (nI (sDo S)), .int (nI (sAt S)), .int (sC2 S), .int (sC3 S), .int (sC4 S), .int (sC5 S)]))] ++ (wL cI aL x.1 S.1 x.2.1 ++ (wG cI pa S.2.1 ++ (wT cI ta x.2.2.1 x.2.2.2.1 ++ wT cI da x.2.2.2.2.1 x.2.2.2.2.2)))) H locs := hw
        refine W.eq (g2 := F0 m 45 ls [.int (S.2.1.2.1 pj), .ref aL]) rfl ?_
        refine ww_callV ([(a, .inr (3, [.ref aL, .ref pa.1, .ref ta.1, .ref da.1, .int (nI (sLp S)), .int (nI (sPt S)), .int (nI (sWk S)), .int (nI (sDo S)), .int (nI (sAt S)), .int (sC2 S), .int (sC3 S), .int (sC4 S), .int (sC5 S)]))]) (wG cI pa S.2.1 ++ (wT cI ta x.2.2.1 x.2.2.2.1 ++ wT cI da x.2.2.2.2.1 x.2.2.2.2.2)) (As := [.int (S.2.1.2.1 pj)]) (rest := []) ⟨hx, hb, hml, hown, hts⟩ (cL_forceUpTo l D cI aL x.1 S.1.2.2.2.1 S.1.1 S.1.2.1 S.1.2.2.1 x.2.1 (S.2.1.2.1 pj) (by show sN S < 2 ^ 31; omega) (by have := hI.1.1; show sFo S < 2 ^ 31; omega)) gX3_write_X0_forceUpTo rfl hd_X0_forceUpTo ⟨Nat.le_of_ble_eq_true rfl, Nat.le_of_ble_eq_true rfl⟩ hw rfl rfl rfl rfl rfl hl.1 (Nat.le_of_ble_eq_true rfl) dX3_write_45 ⟨Nat.zero_le _, Nat.zero_le _⟩ (fun rv u H locs hq hw => ?_)
        obtain ⟨rfl, -⟩ := hq
        have hw : ww D cI _ _ s ([(a, .inr (3, [.ref aL, .ref pa.1, .ref ta.1, .ref da.1, .int (nI (sLp S)), .int (nI (sPt S)), .int (nI (sWk S)), .int (nI (sDo S)), .int (nI (sAt S)), .int (sC2 S), .int (sC3 S), .int (sC4 S), .int (sC5 S)]))] ++ (wL cI aL x.1 (sN S, max (sFo S) (min (cl ((sPg S).2.1 pj)) (sN S)), S.1.2.2) x.2.1 ++ (wG cI pa S.2.1 ++ (wT cI ta x.2.2.1 x.2.2.2.1 ++ wT cI da x.2.2.2.2.1 x.2.2.2.2.2)))) H locs := hw
        refine W.eq (g2 := F0 m 48 ls []) rfl ?_
        refine lv_aload_n hx hb dX3_write_48 rfl (lv_at hl 0 rfl) ?_
        refine ww_get hx hb hts hin3 hown hw 0 rfl rfl 1 (by decide) k19 rfl dX3_write_49 ?_
        refine lv_iload_n hx hb dX3_write_52 rfl (lv_at hl 1 rfl) ?_
        refine ww_callV ([(a, .inr (3, [.ref aL, .ref pa.1, .ref ta.1, .ref da.1, .int (nI (sLp S)), .int (nI (sPt S)), .int (nI (sWk S)), .int (nI (sDo S)), .int (nI (sAt S)), .int (sC2 S), .int (sC3 S), .int (sC4 S), .int (sC5 S)]))] ++ wL cI aL x.1 (sN S, max (sFo S) (min (cl ((sPg S).2.1 pj)) (sN S)), S.1.2.2) x.2.1) (wT cI ta x.2.2.1 x.2.2.2.1 ++ wT cI da x.2.2.2.2.1 x.2.2.2.2.2) (As := [.int (nI pj)]) (rest := []) ⟨hx, hb, hml, hown, hts⟩ (cP_copyToMedium l D cI pa.1 pa.2.1 pa.2.2.1 pa.2.2.2.1 pa.2.2.2.2 S.2.1.1 S.2.1.2.1 S.2.1.2.2.1 S.2.1.2.2.2 pj hpj) gX3_write_X1_copyToMedium rfl hd_X1_copyToMedium ⟨Nat.le_of_ble_eq_true rfl, Nat.le_of_ble_eq_true rfl⟩ hw rfl rfl rfl rfl rfl hl.1 (Nat.le_of_ble_eq_true rfl) dX3_write_53 ⟨Nat.zero_le _, Nat.zero_le _⟩ (fun rv u H locs hq hw => ?_)
        obtain ⟨rfl, -⟩ := hq
        have hw : ww D cI _ _ s ([(a, .inr (3, [.ref aL, .ref pa.1, .ref ta.1, .ref da.1, .int (nI (sLp S)), .int (nI (sPt S)), .int (nI (sWk S)), .int (nI (sDo S)), .int (nI (sAt S)), .int (sC2 S), .int (sC3 S), .int (sC4 S), .int (sC5 S)]))] ++ (wL cI aL x.1 (sN S, max (sFo S) (min (cl ((sPg S).2.1 pj)) (sN S)), S.1.2.2) x.2.1 ++ (wG cI pa ((sPg S).1, (sPg S).2.1, va_cpy (sPg S).1 (sPg S).2.2.1 (pj * 8) (pj * 8) 8, upd (sPg S).2.2.2 pj ((sPg S).2.1 pj)) ++ (wT cI ta x.2.2.1 x.2.2.2.1 ++ wT cI da x.2.2.2.2.1 x.2.2.2.2.2)))) H locs := hw
        refine W.eq (g2 := F0 m 56 ls []) rfl ?_
        refine lv_aload_n hx hb dX3_write_56 rfl (lv_at hl 0 rfl) ?_
        refine ww_get hx hb hts hin3 hown hw 0 rfl rfl 2 (by decide) k26 rfl dX3_write_57 ?_
        refine lv_iload_n hx hb dX3_write_60 rfl (lv_at hl 1 rfl) ?_
        refine ww_callV ([(a, .inr (3, [.ref aL, .ref pa.1, .ref ta.1, .ref da.1, .int (nI (sLp S)), .int (nI (sPt S)), .int (nI (sWk S)), .int (nI (sDo S)), .int (nI (sAt S)), .int (sC2 S), .int (sC3 S), .int (sC4 S), .int (sC5 S)]))] ++ (wL cI aL x.1 (sN S, max (sFo S) (min (cl ((sPg S).2.1 pj)) (sN S)), S.1.2.2) x.2.1 ++ wG cI pa ((sPg S).1, (sPg S).2.1, va_cpy (sPg S).1 (sPg S).2.2.1 (pj * 8) (pj * 8) 8, upd (sPg S).2.2.2 pj ((sPg S).2.1 pj)))) (wT cI da x.2.2.2.2.1 x.2.2.2.2.2) (As := [.int (nI pj)]) (rest := []) ⟨hx, hb, hml, hown, hts⟩ (cT_makeClean l D cI ta.1 ta.2.1 ta.2.2.1 ta.2.2.2.1 ta.2.2.2.2.1 ta.2.2.2.2.2 x.2.2.1 x.2.2.2.1 pj hpj) gX3_write_X2_makeClean rfl hd_X2_makeClean ⟨Nat.le_of_ble_eq_true rfl, Nat.le_of_ble_eq_true rfl⟩ hw rfl rfl rfl rfl rfl hl.1 (Nat.le_of_ble_eq_true rfl) dX3_write_61 ⟨Nat.zero_le _, Nat.zero_le _⟩ (fun rv u H locs hq hw => ?_)
        obtain ⟨rfl, -⟩ := hq
        have hw : ww D cI _ _ s ([(a, .inr (3, [.ref aL, .ref pa.1, .ref ta.1, .ref da.1, .int (nI (sLp S)), .int (nI (sPt S)), .int (nI (sWk S)), .int (nI (sDo S)), .int (nI (sAt S)), .int (sC2 S), .int (sC3 S), .int (sC4 S), .int (sC5 S)]))] ++ (wL cI aL x.1 (sN S, max (sFo S) (min (cl ((sPg S).2.1 pj)) (sN S)), S.1.2.2) x.2.1 ++ (wG cI pa ((sPg S).1, (sPg S).2.1, va_cpy (sPg S).1 (sPg S).2.2.1 (pj * 8) (pj * 8) 8, upd (sPg S).2.2.2 pj ((sPg S).2.1 pj)) ++ (wT cI ta x.2.2.1 (upd x.2.2.2.1 pj (nI 0)) ++ wT cI da x.2.2.2.2.1 x.2.2.2.2.2)))) H locs := hw
        refine W.eq (g2 := F0 m 64 ls []) rfl ?_
        have hbz : sBs S pj ≠ 0 := fun q => c_28 ((congrArg nI q).trans nI_0)
        have hE : oWrite S (nI pj) = (1, ((sN S, max (sFo S) (min (cl ((sPg S).2.1 pj)) (sN S)), S.1.2.2), ((sPg S).1, (sPg S).2.1, va_cpy (sPg S).1 (sPg S).2.2.1 (pj * 8) (pj * 8) 8, upd (sPg S).2.2.2 pj ((sPg S).2.1 pj)), (sT S, va_up (sBs S) pj 0), S.2.2.2)) := by rw [oWrite, if_neg (fun q => q hdo), if_pos hin, hcp, if_neg hbz]
        have hE2 : sCap (oWrite S (nI pj)).2 = sCap ((sN S, max (sFo S) (min (cl ((sPg S).2.1 pj)) (sN S)), S.1.2.2), ((sPg S).1, (sPg S).2.1, va_cpy (sPg S).1 (sPg S).2.2.1 (pj * 8) (pj * 8) 8, upd (sPg S).2.2.2 pj ((sPg S).2.1 pj)), (sT S, va_up (sBs S) pj 0), S.2.2.2) := by rw [hE]
        have hw : ww D cI (va_A ([(a, .inr (3, [.ref aL, .ref pa.1, .ref ta.1, .ref da.1, .int (nI (sLp S)), .int (nI (sPt S)), .int (nI (sWk S)), .int (nI (sDo S)), .int (nI (sAt S)), .int (sC2 S), .int (sC3 S), .int (sC4 S), .int (sC5 S)]))] ++ (wL cI aL x.1 S.1 x.2.1 ++ (wG cI pa S.2.1 ++ (wT cI ta x.2.2.1 x.2.2.2.1 ++ wT cI da x.2.2.2.2.1 x.2.2.2.2.2)))) s.heap.size) s.heap s ([(a, .inr (3, [.ref aL, .ref pa.1, .ref ta.1, .ref da.1, .int (nI (sLp ((oWrite S (nI pj)).2))), .int (nI (sPt ((oWrite S (nI pj)).2))), .int (nI (sWk ((oWrite S (nI pj)).2))), .int (nI (sDo ((oWrite S (nI pj)).2))), .int (nI (sAt ((oWrite S (nI pj)).2))), .int (sC2 ((oWrite S (nI pj)).2)), .int (sC3 ((oWrite S (nI pj)).2)), .int (sC4 ((oWrite S (nI pj)).2)), .int (sC5 ((oWrite S (nI pj)).2))]))] ++ (wL cI aL ((x.1, x.2.1, x.2.2.1, upd x.2.2.2.1 pj (nI 0), x.2.2.2.2).1) (((oWrite S (nI pj)).2).1) ((x.1, x.2.1, x.2.2.1, upd x.2.2.2.1 pj (nI 0), x.2.2.2.2).2.1) ++ (wG cI pa (((oWrite S (nI pj)).2).2.1) ++ (wT cI ta ((x.1, x.2.1, x.2.2.1, upd x.2.2.2.1 pj (nI 0), x.2.2.2.2).2.2.1) ((x.1, x.2.1, x.2.2.1, upd x.2.2.2.1 pj (nI 0), x.2.2.2.2).2.2.2.1) ++ wT cI da ((x.1, x.2.1, x.2.2.1, upd x.2.2.2.1 pj (nI 0), x.2.2.2.2).2.2.2.2.1) ((x.1, x.2.1, x.2.2.1, upd x.2.2.2.1 pj (nI 0), x.2.2.2.2).2.2.2.2.2))))) H locs := by rw [hE]; exact hw
        refine W.eq (g2 := F0 m 64 ls []) rfl ?_
        refine lv_iconst (v := nI 1) hx hb dX3_write_64 (by decide +kernel) ?_
        exact ww_iret (u := (x.1, x.2.1, x.2.2.1, upd x.2.2.2.1 pj (nI 0), x.2.2.2.2)) hx hb hr hlk hw (by rw [hE]; exact ⟨show nI 1 = 1 by decide, ⟨hrx.1.1, hrx.1.2.1, hrx.1.2.2.1, hrx.1.2.2.2.1, by show max (sFo S) (min _ (sN S)) ≤ sN S; have := hI.1.1; omega⟩, hrx.2.1, BR_clean hrx.2.2.1 pj, hrx.2.2.2⟩) (Nat.zero_le _) (Nat.zero_le _) dX3_write_65
      · have hbz : sBs S pj = 0 := nI_q (by omega) (by omega) (c_28.trans nI_0.symm)
        have hE : oWrite S (nI pj) = (0, S) := by rw [oWrite, if_neg (fun q => q hdo), if_pos hin, hcp, if_pos hbz]
        have hE2 : sCap (oWrite S (nI pj)).2 = sCap S := by rw [hE]
        have hw : ww D cI (va_A ([(a, .inr (3, [.ref aL, .ref pa.1, .ref ta.1, .ref da.1, .int (nI (sLp S)), .int (nI (sPt S)), .int (nI (sWk S)), .int (nI (sDo S)), .int (nI (sAt S)), .int (sC2 S), .int (sC3 S), .int (sC4 S), .int (sC5 S)]))] ++ (wL cI aL x.1 S.1 x.2.1 ++ (wG cI pa S.2.1 ++ (wT cI ta x.2.2.1 x.2.2.2.1 ++ wT cI da x.2.2.2.2.1 x.2.2.2.2.2)))) s.heap.size) s.heap s ([(a, .inr (3, [.ref aL, .ref pa.1, .ref ta.1, .ref da.1, .int (nI (sLp ((oWrite S (nI pj)).2))), .int (nI (sPt ((oWrite S (nI pj)).2))), .int (nI (sWk ((oWrite S (nI pj)).2))), .int (nI (sDo ((oWrite S (nI pj)).2))), .int (nI (sAt ((oWrite S (nI pj)).2))), .int (sC2 ((oWrite S (nI pj)).2)), .int (sC3 ((oWrite S (nI pj)).2)), .int (sC4 ((oWrite S (nI pj)).2)), .int (sC5 ((oWrite S (nI pj)).2))]))] ++ (wL cI aL x.1 (((oWrite S (nI pj)).2).1) x.2.1 ++ (wG cI pa (((oWrite S (nI pj)).2).2.1) ++ (wT cI ta x.2.2.1 x.2.2.2.1 ++ wT cI da x.2.2.2.2.1 x.2.2.2.2.2)))) H locs := by rw [hE]; exact hw
        refine lv_iconst (v := nI 0) hx hb dX3_write_31 (by decide +kernel) ?_
        exact ww_iret (u := x) hx hb hr hlk hw (by rw [hE]; exact ⟨nI_0, hrx⟩) (Nat.zero_le _) (Nat.zero_le _) dX3_write_32
    · have hin : ¬ inN y1 64 := fun q => hq ((inN_iff (by omega)).mp q)
      refine lv_if_ne (tgt := 20) hx hb dX3_write_14 (by decide) (fun c_14 => absurd c_14 (fun q => q rfl)) (fun c_14 => ?_)
      have hE : oWrite S y1 = (xOUT, S) := by rw [oWrite, if_neg (fun q => q hdo), if_neg hin]
      have hE2 : sCap (oWrite S y1).2 = sCap S := by rw [hE]
      have hw : ww D cI (va_A ([(a, .inr (3, [.ref aL, .ref pa.1, .ref ta.1, .ref da.1, .int (nI (sLp S)), .int (nI (sPt S)), .int (nI (sWk S)), .int (nI (sDo S)), .int (nI (sAt S)), .int (sC2 S), .int (sC3 S), .int (sC4 S), .int (sC5 S)]))] ++ (wL cI aL x.1 S.1 x.2.1 ++ (wG cI pa S.2.1 ++ (wT cI ta x.2.2.1 x.2.2.2.1 ++ wT cI da x.2.2.2.2.1 x.2.2.2.2.2)))) s.heap.size) s.heap s ([(a, .inr (3, [.ref aL, .ref pa.1, .ref ta.1, .ref da.1, .int (nI (sLp ((oWrite S y1).2))), .int (nI (sPt ((oWrite S y1).2))), .int (nI (sWk ((oWrite S y1).2))), .int (nI (sDo ((oWrite S y1).2))), .int (nI (sAt ((oWrite S y1).2))), .int (sC2 ((oWrite S y1).2)), .int (sC3 ((oWrite S y1).2)), .int (sC4 ((oWrite S y1).2)), .int (sC5 ((oWrite S y1).2))]))] ++ (wL cI aL x.1 (((oWrite S y1).2).1) x.2.1 ++ (wG cI pa (((oWrite S y1).2).2.1) ++ (wT cI ta x.2.2.1 x.2.2.2.1 ++ wT cI da x.2.2.2.2.1 x.2.2.2.2.2)))) H locs := by rw [hE]; exact hw
      refine lv_bipush (v := (-102)) hx hb dX3_write_17 (by decide +kernel) ?_
      exact ww_iret (u := x) hx hb hr hlk hw (by rw [hE]; exact ⟨rfl, hrx⟩) (Nat.zero_le _) (Nat.zero_le _) dX3_write_19
  · have hdo : sDo S ≠ 0 := fun q => c_4 ((congrArg nI q).trans nI_0)
    have hE : oWrite S y1 = (xDOW, S) := by rw [oWrite, if_pos hdo]
    have hE2 : sCap (oWrite S y1).2 = sCap S := by rw [hE]
    have hw : ww D cI (va_A ([(a, .inr (3, [.ref aL, .ref pa.1, .ref ta.1, .ref da.1, .int (nI (sLp S)), .int (nI (sPt S)), .int (nI (sWk S)), .int (nI (sDo S)), .int (nI (sAt S)), .int (sC2 S), .int (sC3 S), .int (sC4 S), .int (sC5 S)]))] ++ (wL cI aL x.1 S.1 x.2.1 ++ (wG cI pa S.2.1 ++ (wT cI ta x.2.2.1 x.2.2.2.1 ++ wT cI da x.2.2.2.2.1 x.2.2.2.2.2)))) s.heap.size) s.heap s ([(a, .inr (3, [.ref aL, .ref pa.1, .ref ta.1, .ref da.1, .int (nI (sLp ((oWrite S y1).2))), .int (nI (sPt ((oWrite S y1).2))), .int (nI (sWk ((oWrite S y1).2))), .int (nI (sDo ((oWrite S y1).2))), .int (nI (sAt ((oWrite S y1).2))), .int (sC2 ((oWrite S y1).2)), .int (sC3 ((oWrite S y1).2)), .int (sC4 ((oWrite S y1).2)), .int (sC5 ((oWrite S y1).2))]))] ++ (wL cI aL x.1 (((oWrite S y1).2).1) x.2.1 ++ (wG cI pa (((oWrite S y1).2).2.1) ++ (wT cI ta x.2.2.1 x.2.2.2.1 ++ wT cI da x.2.2.2.2.1 x.2.2.2.2.2)))) s.heap [] := by rw [hE]; exact hw
    refine lv_bipush (v := (-105)) hx hb dX3_write_7 (by decide +kernel) ?_
    exact ww_iret (u := x) hx hb hr hlk hw (by rw [hE]; exact ⟨rfl, hrx⟩) (Nat.zero_le _) (Nat.zero_le _) dX3_write_9
