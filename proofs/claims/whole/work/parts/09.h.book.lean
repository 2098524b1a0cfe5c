/-! RestartBook: the calls of its face (4): add, point, loss, restart -/
set_option maxRecDepth 20000 in
theorem in_X3_point : ∀ w ∈ u_ws RX3 TX3 13, w ∈ wsX3_point := by
  intro w h
  show w ∈ wsX3_point
  simp only [wsX3_point, List.mem_cons, List.mem_append]
  simp only [h, true_or, or_true]
set_option maxRecDepth 20000 in
theorem in_X3_loss : ∀ w ∈ u_ws RX3 TX3 13, w ∈ wsX3_loss := by
  intro w h
  show w ∈ wsX3_loss
  simp only [wsX3_loss, List.mem_cons, List.mem_append]
  simp only [h, true_or, or_true]
set_option maxRecDepth 20000 in
theorem in_X3_restart : ∀ w ∈ u_ws RX3 TX3 13, w ∈ wsX3_restart := by
  intro w h
  show w ∈ wsX3_restart
  simp only [wsX3_restart, List.mem_cons, List.mem_append]
  simp only [h, true_or, or_true]
theorem hd_X3_point : yX3_point.cls = RX3 ∧ yX3_point.cls ≠ "java/lang/invoke/MethodHandle" ∧ yX3_point.cls ≠ "java/lang/invoke/VarHandle" ∧ (parseMethodDescriptor yX3_point.desc).map (fun d => d.parameters.length) = some 0 := by decide +kernel
theorem hd_X3_loss : yX3_loss.cls = RX3 ∧ yX3_loss.cls ≠ "java/lang/invoke/MethodHandle" ∧ yX3_loss.cls ≠ "java/lang/invoke/VarHandle" ∧ (parseMethodDescriptor yX3_loss.desc).map (fun d => d.parameters.length) = some 1 := by decide +kernel
theorem hd_X3_restart : yX3_restart.cls = RX3 ∧ yX3_restart.cls ≠ "java/lang/invoke/MethodHandle" ∧ yX3_restart.cls ≠ "java/lang/invoke/VarHandle" ∧ (parseMethodDescriptor yX3_restart.desc).map (fun d => d.parameters.length) = some 1 := by decide +kernel
set_option maxHeartbeats 1000000 in
set_option maxRecDepth 100000 in
theorem cF_add (l : Launch) (D : va_G) (cI : ClassId) (a aL : Nat) (pa : A5) (ta da : A6) (S : SS) (x : XG) (b : Nat) (hI0 : Inv b S) (h5 : E5 S) (hb4 : b ≤ 4000) (hrx : RX S x) (y1 y2 y3 y4 : Int32) : Kt l yX3_add wsX3_add 3 68 (sCap (oAdd S y1 y2 y3 y4).2 - sCap S) (2 * (sCap (oAdd S y1 y2 y3 y4).2 - sCap S)) D cI [.ref a, .int y1, .int y2, .int y3, .int y4] ([(a, .inr (3, [.ref aL, .ref pa.1, .ref ta.1, .ref da.1, .int (nI (sLp S)), .int (nI (sPt S)), .int (nI (sWk S)), .int (nI (sDo S)), .int (nI (sAt S)), .int (sC2 S), .int (sC3 S), .int (sC4 S), .int (sC5 S)]))] ++ (wL cI aL x.1 S.1 x.2.1 ++ (wG cI pa S.2.1 ++ (wT cI ta x.2.2.1 x.2.2.2.1 ++ wT cI da x.2.2.2.2.1 x.2.2.2.2.2)))) (pI (fun (r : Int32) (u : XG) => r = (oAdd S y1 y2 y3 y4).1 ∧ RX (oAdd S y1 y2 y3 y4).2 u)) (fun (u : XG) => [(a, .inr (3, [.ref aL, .ref pa.1, .ref ta.1, .ref da.1, .int (nI (sLp ((oAdd S y1 y2 y3 y4).2))), .int (nI (sPt ((oAdd S y1 y2 y3 y4).2))), .int (nI (sWk ((oAdd S y1 y2 y3 y4).2))), .int (nI (sDo ((oAdd S y1 y2 y3 y4).2))), .int (nI (sAt ((oAdd S y1 y2 y3 y4).2))), .int (sC2 ((oAdd S y1 y2 y3 y4).2)), .int (sC3 ((oAdd S y1 y2 y3 y4).2)), .int (sC4 ((oAdd S y1 y2 y3 y4).2)), .int (sC5 ((oAdd S y1 y2 y3 y4).2))]))] ++ (wL cI aL u.1 (((oAdd S y1 y2 y3 y4).2).1) u.2.1 ++ (wG cI pa (((oAdd S y1 y2 y3 y4).2).2.1) ++ (wT cI ta u.2.2.1 u.2.2.2.1 ++ wT cI da u.2.2.2.2.1 u.2.2.2.2.2)))) := by
  refine kt_start (cc := cX3_add) (maxL := 7) (ret := (some .int)) (by decide +kernel) rfl (Nat.le_of_ble_eq_true rfl) ?_
  intro p e s m below meth c hx hb hml hr hlk hown hnm hts ls hl hw
  have hown : s.vm.findClass RX3 = some m.cls := hown
  have hl : lv_has ls 7 [(0, .ref a), (1, .int y1), (2, .int y2), (3, .int y3), (4, .int y4)] := hl
  have k10 := hts (.fieldLink RX3 10 "RestartBook" "log" "LRestartBook$Log;") (by decide +kernel)
  have k26 := hts (.fieldLink RX3 26 "RestartBook" "tables" "LRestartBook$Tables;") (by decide +kernel)
  have hin3 : ∀ w ∈ u_ws RX3 TX3 13, w ∈ wsX3_add := in_X3_add
  have hI := hI0.1
  have hn4 := Inv0_n hI
  have hwk := hI.2.1.2.1
  have hdo4 : sDo S ≤ 4 := by rcases hI.2.2.2.2.2 with z | z | z <;> omega
  refine lv_aload_n hx hb dX3_add_0 rfl (lv_at hl 0 rfl) ?_
  refine lv_iload_n hx hb dX3_add_1 rfl (lv_at hl 1 rfl) ?_
  refine ww_callA (As := [.int y1]) (rest := []) ⟨hx, hb, hml, hown, hts⟩ (cB_refusalFor l D cI a aL x.1 pa ta da S.2.2.2.2 S.1 x.2.1 S.2.1 x.2.2.1 x.2.2.2.2.1 x.2.2.2.1 x.2.2.2.2.2 (sT S) hrx.2.1 y1 (by show sDo S < 2 ^ 31; omega)) gX3_add_X3_refusalFor rfl hd_X3_refusalFor ⟨Nat.le_of_ble_eq_true rfl, Nat.le_of_ble_eq_true rfl⟩ hw rfl rfl rfl rfl hl.1 (Nat.le_of_ble_eq_true rfl) dX3_add_2 ⟨Nat.zero_le _, Nat.zero_le _⟩ (fun rv u H locs hq hw => ?_)
  obtain ⟨rr, rfl, hq⟩ := hq
  have hw : ww D cI _ _ s ([(a, .inr (3, [.ref aL, .ref pa.1, .ref ta.1, .ref da.1, .int (nI (sLp S)), .int (nI (sPt S)), .int (nI (sWk S)), .int (nI (sDo S)), .int (nI (sAt S)), .int (sC2 S), .int (sC3 S), .int (sC4 S), .int (sC5 S)]))] ++ (wL cI aL x.1 S.1 x.2.1 ++ (wG cI pa S.2.1 ++ (wT cI ta x.2.2.1 x.2.2.2.1 ++ wT cI da x.2.2.2.2.1 x.2.2.2.2.2)))) H locs := hw
  refine W.eq (g2 := F0 m 5 ls [.int (rr)]) rfl ?_
  by_cases hdo : sDo S ≠ 0
  · rw [if_pos (show S.2.2.2.2.2.2.2.1 ≠ 0 from hdo)] at hq
    subst hq
    refine lv_istore (lv' := [(5, .int (xDOW)), (0, .ref a), (1, .int y1), (2, .int y2), (3, .int y3), (4, .int y4)]) hx hb dX3_add_5 hl (by decide) rfl (fun ls hl => ?_)
    refine lv_iload hx hb dX3_add_7 (lv_at hl 0 rfl) ?_
    refine lv_if_eq (tgt := 15) hx hb dX3_add_9 (by decide) (fun c_9 => absurd c_9 (by decide)) (fun c_9 => ?_)
    have hE : oAdd S y1 y2 y3 y4 = (xDOW, S) := by rw [oAdd, if_pos hdo]
    have hE2 : sCap (oAdd S y1 y2 y3 y4).2 = sCap S := by rw [hE]
    have hw : ww D cI (va_A ([(a, .inr (3, [.ref aL, .ref pa.1, .ref ta.1, .ref da.1, .int (nI (sLp S)), .int (nI (sPt S)), .int (nI (sWk S)), .int (nI (sDo S)), .int (nI (sAt S)), .int (sC2 S), .int (sC3 S), .int (sC4 S), .int (sC5 S)]))] ++ (wL cI aL x.1 S.1 x.2.1 ++ (wG cI pa S.2.1 ++ (wT cI ta x.2.2.1 x.2.2.2.1 ++ wT cI da x.2.2.2.2.1 x.2.2.2.2.2)))) s.heap.size) s.heap s ([(a, .inr (3, [.ref aL, .ref pa.1, .ref ta.1, .ref da.1, .int (nI (sLp ((oAdd S y1 y2 y3 y4).2))), .int (nI (sPt ((oAdd S y1 y2 y3 y4).2))), .int (nI (sWk ((oAdd S y1 y2 y3 y4).2))), .int (nI (sDo ((oAdd S y1 y2 y3 y4).2))), .int (nI (sAt ((oAdd S y1 y2 y3 y4).2))), .int (sC2 ((oAdd S y1 y2 y3 y4).2)), .int (sC3 ((oAdd S y1 y2 y3 y4).2)), .int (sC4 ((oAdd S y1 y2 y3 y4).2)), .int (sC5 ((oAdd S y1 y2 y3 y4).2))]))] ++ (wL cI aL x.1 (((oAdd S y1 y2 y3 y4).2).1) x.2.1 ++ (wG cI pa (((oAdd S y1 y2 y3 y4).2).2.1) ++ (wT cI ta x.2.2.1 x.2.2.2.1 ++ wT cI da x.2.2.2.2.1 x.2.2.2.2.2)))) H locs := by rw [hE]; exact hw
    refine lv_iload hx hb dX3_add_12 (lv_at hl 0 rfl) ?_
    exact ww_iret (u := x) hx hb hr hlk hw (by rw [hE]; exact ⟨rfl, hrx⟩) (by first | exact Nat.zero_le _ | (rw [hE2]; show _ ≤ (apL S.1 (rcC S j pj dj y4)).2.2.2.1 - S.1.2.2.2.1; omega)) (by first | exact Nat.zero_le _ | (rw [hE2]; show _ ≤ 2 * ((apL S.1 (rcC S j pj dj y4)).2.2.2.1 - S.1.2.2.2.1); omega)) dX3_add_14
  rw [if_neg (show ¬ S.2.2.2.2.2.2.2.1 ≠ 0 from hdo)] at hq
  by_cases hk : (sT S (cl y1)).1 = 0
  · rw [if_pos hk] at hq
    subst hq
    refine lv_istore (lv' := [(5, .int (xUNK)), (0, .ref a), (1, .int y1), (2, .int y2), (3, .int y3), (4, .int y4)]) hx hb dX3_add_5 hl (by decide) rfl (fun ls hl => ?_)
    refine lv_iload hx hb dX3_add_7 (lv_at hl 0 rfl) ?_
    refine lv_if_eq (tgt := 15) hx hb dX3_add_9 (by decide) (fun c_9 => absurd c_9 (by decide)) (fun c_9 => ?_)
    have hE : oAdd S y1 y2 y3 y4 = (xUNK, S) := by rw [oAdd, if_neg hdo, if_pos hk]
    have hE2 : sCap (oAdd S y1 y2 y3 y4).2 = sCap S := by rw [hE]
    have hw : ww D cI (va_A ([(a, .inr (3, [.ref aL, .ref pa.1, .ref ta.1, .ref da.1, .int (nI (sLp S)), .int (nI (sPt S)), .int (nI (sWk S)), .int (nI (sDo S)), .int (nI (sAt S)), .int (sC2 S), .int (sC3 S), .int (sC4 S), .int (sC5 S)]))] ++ (wL cI aL x.1 S.1 x.2.1 ++ (wG cI pa S.2.1 ++ (wT cI ta x.2.2.1 x.2.2.2.1 ++ wT cI da x.2.2.2.2.1 x.2.2.2.2.2)))) s.heap.size) s.heap s ([(a, .inr (3, [.ref aL, .ref pa.1, .ref ta.1, .ref da.1, .int (nI (sLp ((oAdd S y1 y2 y3 y4).2))), .int (nI (sPt ((oAdd S y1 y2 y3 y4).2))), .int (nI (sWk ((oAdd S y1 y2 y3 y4).2))), .int (nI (sDo ((oAdd S y1 y2 y3 y4).2))), .int (nI (sAt ((oAdd S y1 y2 y3 y4).2))), .int (sC2 ((oAdd S y1 y2 y3 y4).2)), .int (sC3 ((oAdd S y1 y2 y3 y4).2)), .int (sC4 ((oAdd S y1 y2 y3 y4).2)), .int (sC5 ((oAdd S y1 y2 y3 y4).2))]))] ++ (wL cI aL x.1 (((oAdd S y1 y2 y3 y4).2).1) x.2.1 ++ (wG cI pa (((oAdd S y1 y2 y3 y4).2).2.1) ++ (wT cI ta x.2.2.1 x.2.2.2.1 ++ wT cI da x.2.2.2.2.1 x.2.2.2.2.2)))) H locs := by rw [hE]; exact hw
    refine lv_iload hx hb dX3_add_12 (lv_at hl 0 rfl) ?_
    exact ww_iret (u := x) hx hb hr hlk hw (by rw [hE]; exact ⟨rfl, hrx⟩) (by first | exact Nat.zero_le _ | (rw [hE2]; show _ ≤ (apL S.1 (rcC S j pj dj y4)).2.2.2.1 - S.1.2.2.2.1; omega)) (by first | exact Nat.zero_le _ | (rw [hE2]; show _ ≤ 2 * ((apL S.1 (rcC S j pj dj y4)).2.2.2.1 - S.1.2.2.2.1); omega)) dX3_add_14
  rw [if_neg hk] at hq
  subst hq
  obtain ⟨j, hj2, rfl, hcj, hp⟩ := in_work hrx hk
  have hdo0 : sDo S = 0 := Decidable.not_not.mp hdo
  refine lv_istore (lv' := [(5, .int (0)), (0, .ref a), (1, .int (nI j)), (2, .int y2), (3, .int y3), (4, .int y4)]) hx hb dX3_add_5 hl (by decide) rfl (fun ls hl => ?_)
  refine lv_iload hx hb dX3_add_7 (lv_at hl 0 rfl) ?_
  refine lv_if_eq (tgt := 15) hx hb dX3_add_9 (by decide) (fun c_9 => ?_) (fun c_9 => absurd (by decide) c_9)
  refine lv_iload_n hx hb dX3_add_15 rfl (lv_at hl 3 rfl) ?_
  refine lv_iload_n hx hb dX3_add_16 rfl (lv_at hl 4 rfl) ?_
  refine ww_callS ([]) ([(a, .inr (3, [.ref aL, .ref pa.1, .ref ta.1, .ref da.1, .int (nI (sLp S)), .int (nI (sPt S)), .int (nI (sWk S)), .int (nI (sDo S)), .int (nI (sAt S)), .int (sC2 S), .int (sC3 S), .int (sC4 S), .int (sC5 S)]))] ++ (wL cI aL x.1 S.1 x.2.1 ++ (wG cI pa S.2.1 ++ (wT cI ta x.2.2.1 x.2.2.2.1 ++ wT cI da x.2.2.2.2.1 x.2.2.2.2.2)))) (As := [.int y2, .int y3]) (rest := []) ⟨hx, hb, hml, hown, hts⟩ (cP_hasPlace l D cI y2 y3) gX3_add_X1_hasPlace rfl hd_X1_hasPlace ⟨Nat.le_of_ble_eq_true rfl, Nat.le_of_ble_eq_true rfl⟩ hw rfl rfl rfl hl.1 (Nat.le_of_ble_eq_true rfl) dX3_add_17 ⟨Nat.zero_le _, Nat.zero_le _⟩ (fun rv u H locs hq hw => ?_)
  obtain ⟨rr, rfl, hq⟩ := hq
  have hw : ww D cI _ _ s ([(a, .inr (3, [.ref aL, .ref pa.1, .ref ta.1, .ref da.1, .int (nI (sLp S)), .int (nI (sPt S)), .int (nI (sWk S)), .int (nI (sDo S)), .int (nI (sAt S)), .int (sC2 S), .int (sC3 S), .int (sC4 S), .int (sC5 S)]))] ++ (wL cI aL x.1 S.1 x.2.1 ++ (wG cI pa S.2.1 ++ (wT cI ta x.2.2.1 x.2.2.2.1 ++ wT cI da x.2.2.2.2.1 x.2.2.2.2.2)))) H locs := hw
  refine W.eq (g2 := F0 m 20 ls [.int (rr)]) rfl ?_
  rcases hq with ⟨rfl, ⟨pj, hpj, rfl⟩, ⟨dj, hdj, rfl⟩⟩ | ⟨rfl, hq⟩
  · have hin : inN (nI pj) 64 ∧ inN (nI dj) 8 := ⟨(inN_iff (by omega)).mpr ⟨pj, hpj, rfl⟩, (inN_iff (by omega)).mpr ⟨dj, hdj, rfl⟩⟩
    have hcp : cl (nI pj) = pj := cl_nI (by omega)
    have hcd : cl (nI dj) = dj := cl_nI (by omega)
    refine lv_if_ne (tgt := 26) hx hb dX3_add_20 (by decide) (fun c_20 => ?_) (fun c_20 => absurd c_20 (by decide))
    refine lv_aload_n hx hb dX3_add_26 rfl (lv_at hl 1 rfl) ?_
    refine ww_get hx hb hts hin3 hown hw 0 rfl rfl 2 (by decide) k26 rfl dX3_add_27 ?_
    refine lv_iload_n hx hb dX3_add_30 rfl (lv_at hl 2 rfl) ?_
    refine ww_callV ([(a, .inr (3, [.ref aL, .ref pa.1, .ref ta.1, .ref da.1, .int (nI (sLp S)), .int (nI (sPt S)), .int (nI (sWk S)), .int (nI (sDo S)), .int (nI (sAt S)), .int (sC2 S), .int (sC3 S), .int (sC4 S), .int (sC5 S)]))] ++ (wL cI aL x.1 S.1 x.2.1 ++ wG cI pa S.2.1)) (wT cI da x.2.2.2.2.1 x.2.2.2.2.2) (As := [.int (nI j)]) (rest := []) ⟨hx, hb, hml, hown, hts⟩ (cT_stateOf l D cI ta.1 ta.2.1 ta.2.2.1 ta.2.2.2.1 ta.2.2.2.2.1 ta.2.2.2.2.2 x.2.2.1 x.2.2.2.1 (sT S) hrx.2.1 j (by omega)) gX3_add_X2_stateOf rfl hd_X2_stateOf ⟨Nat.le_of_ble_eq_true rfl, Nat.le_of_ble_eq_true rfl⟩ hw rfl rfl rfl rfl rfl hl.1 (Nat.le_of_ble_eq_true rfl) dX3_add_31 ⟨Nat.zero_le _, Nat.zero_le _⟩ (fun rv u H locs hq hw => ?_)
    obtain ⟨rr, rfl, hq⟩ := hq
    subst hq
    have hw : ww D cI _ _ s ([(a, .inr (3, [.ref aL, .ref pa.1, .ref ta.1, .ref da.1, .int (nI (sLp S)), .int (nI (sPt S)), .int (nI (sWk S)), .int (nI (sDo S)), .int (nI (sAt S)), .int (sC2 S), .int (sC3 S), .int (sC4 S), .int (sC5 S)]))] ++ (wL cI aL x.1 S.1 x.2.1 ++ (wG cI pa S.2.1 ++ (wT cI ta x.2.2.1 x.2.2.2.1 ++ wT cI da x.2.2.2.2.1 x.2.2.2.2.2)))) H locs := hw
    refine W.eq (g2 := F0 m 34 ls [.int (nI (sT S j).1)]) rfl ?_
    refine lv_iconst (v := nI 1) hx hb dX3_add_34 (by decide +kernel) ?_
    refine lv_icmp_eq (tgt := 41) hx hb dX3_add_35 (by decide) (fun c_35 => ?_) (fun c_35 => ?_)
    · have hs : ¬ (sT S (cl (nI j))).1 ≠ 1 := by rw [hcj]; exact fun q => q (nI_q (by have := (Inv0_TB hI hb4 j).1; omega) (by omega) c_35)
      have hc20 : sCh S ≤ 2000 := hI.1.2.2.1
      refine lv_aload_n hx hb dX3_add_41 rfl (lv_at hl 1 rfl) ?_
      refine ww_get hx hb hts hin3 hown hw 0 rfl rfl 0 (by decide) k10 rfl dX3_add_42 ?_
      refine ww_callV ([(a, .inr (3, [.ref aL, .ref pa.1, .ref ta.1, .ref da.1, .int (nI (sLp S)), .int (nI (sPt S)), .int (nI (sWk S)), .int (nI (sDo S)), .int (nI (sAt S)), .int (sC2 S), .int (sC3 S), .int (sC4 S), .int (sC5 S)]))]) (wG cI pa S.2.1 ++ (wT cI ta x.2.2.1 x.2.2.2.1 ++ wT cI da x.2.2.2.2.1 x.2.2.2.2.2)) (As := []) (rest := []) ⟨hx, hb, hml, hown, hts⟩ (cL_changesHeld l D cI aL x.1 S.1.2.2.2.1 S.1.1 S.1.2.1 S.1.2.2.1 x.2.1) gX3_add_X0_changesHeld rfl hd_X0_changesHeld ⟨Nat.le_of_ble_eq_true rfl, Nat.le_of_ble_eq_true rfl⟩ hw rfl rfl rfl rfl rfl hl.1 (Nat.le_of_ble_eq_true rfl) dX3_add_45 ⟨Nat.zero_le _, Nat.zero_le _⟩ (fun rv u H locs hq hw => ?_)
      obtain ⟨rr, rfl, hq⟩ := hq
      subst hq
      have hw : ww D cI _ _ s ([(a, .inr (3, [.ref aL, .ref pa.1, .ref ta.1, .ref da.1, .int (nI (sLp S)), .int (nI (sPt S)), .int (nI (sWk S)), .int (nI (sDo S)), .int (nI (sAt S)), .int (sC2 S), .int (sC3 S), .int (sC4 S), .int (sC5 S)]))] ++ (wL cI aL x.1 S.1 x.2.1 ++ (wG cI pa S.2.1 ++ (wT cI ta x.2.2.1 x.2.2.2.1 ++ wT cI da x.2.2.2.2.1 x.2.2.2.2.2)))) H locs := hw
      refine W.eq (g2 := F0 m 48 ls [.int (nI (sCh S))]) rfl ?_
      refine lv_sipush (v := nI 2000) hx hb dX3_add_48 (by decide +kernel) ?_
      refine lv_icmp_lt (tgt := 57) hx hb dX3_add_51 (by decide) (fun c_51 => ?_) (fun c_51 => ?_)
      · have hr2 : ¬ 2000 ≤ sCh S := by simp (disch := omega) only [i_lt, nI_toInt] at c_51; omega
        have hE : oAdd S (nI j) (nI pj) (nI dj) y4 = (nI (sN S + 1), emP S (rcC S j pj dj y4)) := by rw [oAdd, if_neg hdo, if_neg hk, if_pos hin, if_neg hs, if_neg hr2, hcj, hcp, hcd]
        have hE2 : sCap (oAdd S (nI j) (nI pj) (nI dj) y4).2 = (apL S.1 (rcC S j pj dj y4)).2.2.2.1 := by rw [hE]; rfl
        have hgc := gr_c (L := S.1) (x := (rcC S j pj dj y4)) hrx.1.2.2.1
        have hgs := gr_s (L := S.1) (x := (rcC S j pj dj y4))
        have hw200 := (TR_some hrx.2.1 hp).2.1
        refine lv_aload_n hx hb dX3_add_57 rfl (lv_at hl 1 rfl) ?_
        refine ww_get hx hb hts hin3 hown hw 0 rfl rfl 0 (by decide) k10 rfl dX3_add_58 ?_
        refine lv_iconst (v := nI 1) hx hb dX3_add_61 (by decide +kernel) ?_
        refine lv_iload_n hx hb dX3_add_62 rfl (lv_at hl 2 rfl) ?_
        refine lv_aload_n hx hb dX3_add_63 rfl (lv_at hl 1 rfl) ?_
        refine ww_get hx hb hts hin3 hown hw 0 rfl rfl 2 (by decide) k26 rfl dX3_add_64 ?_
        refine lv_iload_n hx hb dX3_add_67 rfl (lv_at hl 2 rfl) ?_
        refine ww_callV ([(a, .inr (3, [.ref aL, .ref pa.1, .ref ta.1, .ref da.1, .int (nI (sLp S)), .int (nI (sPt S)), .int (nI (sWk S)), .int (nI (sDo S)), .int (nI (sAt S)), .int (sC2 S), .int (sC3 S), .int (sC4 S), .int (sC5 S)]))] ++ (wL cI aL x.1 S.1 x.2.1 ++ wG cI pa S.2.1)) (wT cI da x.2.2.2.2.1 x.2.2.2.2.2) (As := [.int (nI j)]) (rest := [.int (nI j), .int (nI 1), .ref aL]) ⟨hx, hb, hml, hown, hts⟩ (cT_lastOf l D cI ta.1 ta.2.1 ta.2.2.1 ta.2.2.2.1 ta.2.2.2.2.1 ta.2.2.2.2.2 x.2.2.1 x.2.2.2.1 (sT S) hrx.2.1 j (by omega) hp) gX3_add_X2_lastOf rfl hd_X2_lastOf ⟨Nat.le_of_ble_eq_true rfl, Nat.le_of_ble_eq_true rfl⟩ hw rfl rfl rfl rfl rfl hl.1 (Nat.le_of_ble_eq_true rfl) dX3_add_68 ⟨Nat.zero_le _, Nat.zero_le _⟩ (fun rv u H locs hq hw => ?_)
        obtain ⟨rr, rfl, hq⟩ := hq
        subst hq
        have hw : ww D cI _ _ s ([(a, .inr (3, [.ref aL, .ref pa.1, .ref ta.1, .ref da.1, .int (nI (sLp S)), .int (nI (sPt S)), .int (nI (sWk S)), .int (nI (sDo S)), .int (nI (sAt S)), .int (sC2 S), .int (sC3 S), .int (sC4 S), .int (sC5 S)]))] ++ (wL cI aL x.1 S.1 x.2.1 ++ (wG cI pa S.2.1 ++ (wT cI ta x.2.2.1 x.2.2.2.1 ++ wT cI da x.2.2.2.2.1 x.2.2.2.2.2)))) H locs := hw
        refine W.eq (g2 := F0 m 71 ls [.int (nI (sT S j).2.1), .int (nI j), .int (nI 1), .ref aL]) rfl ?_
        refine lv_iload_n hx hb dX3_add_71 rfl (lv_at hl 3 rfl) ?_
        refine lv_iload_n hx hb dX3_add_72 rfl (lv_at hl 4 rfl) ?_
        refine lv_iload hx hb dX3_add_73 (lv_at hl 5 rfl) ?_
        refine lv_iconst (v := nI 0) hx hb dX3_add_75 (by decide +kernel) ?_
        refine ww_callV ([(a, .inr (3, [.ref aL, .ref pa.1, .ref ta.1, .ref da.1, .int (nI (sLp S)), .int (nI (sPt S)), .int (nI (sWk S)), .int (nI (sDo S)), .int (nI (sAt S)), .int (sC2 S), .int (sC3 S), .int (sC4 S), .int (sC5 S)]))]) (wG cI pa S.2.1 ++ (wT cI ta x.2.2.1 x.2.2.2.1 ++ wT cI da x.2.2.2.2.1 x.2.2.2.2.2)) (As := [.int (nI 1), .int (nI j), .int (nI (sT S j).2.1), .int (nI pj), .int (nI dj), .int y4, .int (nI 0)]) (rest := []) ⟨hx, hb, hml, hown, hts⟩ (cL_append l D cI aL x.1 S.1.2.2.2.1 S.1.1 S.1.2.1 S.1.2.2.1 x.2.1 1 (nI j) (nI (sT S j).2.1) (nI pj) (nI dj) y4 (nI 0) hrx.1.2.1 hrx.1.2.2.1 (by have := hrx.1.2.2.2.1; omega) (by omega)) gX3_add_X0_append rfl hd_X0_append ⟨Nat.le_of_ble_eq_true rfl, Nat.le_of_ble_eq_true rfl⟩ hw rfl rfl rfl rfl rfl hl.1 (Nat.le_of_ble_eq_true rfl) dX3_add_76 ⟨by show _ ≤ sCap (oAdd S (nI j) (nI pj) (nI dj) y4).2 - sCap S; rw [hE2]; show _ ≤ (apL S.1 (rcC S j pj dj y4)).2.2.2.1 - S.1.2.2.2.1; omega, by show _ ≤ 2 * (sCap (oAdd S (nI j) (nI pj) (nI dj) y4).2 - sCap S); rw [hE2]; show _ ≤ 2 * ((apL S.1 (rcC S j pj dj y4)).2.2.2.1 - S.1.2.2.2.1); omega⟩ (fun rv u H locs hq hw => ?_)
        obtain ⟨ch2, b2, cap2, f2⟩ := u
        obtain ⟨rr, rfl, hq⟩ := hq
        dsimp only at hq
        obtain ⟨rfl, rfl, rfl, hq⟩ := hq
        have hw : ww D cI _ _ s ([(a, .inr (3, [.ref aL, .ref pa.1, .ref ta.1, .ref da.1, .int (nI (sLp S)), .int (nI (sPt S)), .int (nI (sWk S)), .int (nI (sDo S)), .int (nI (sAt S)), .int (sC2 S), .int (sC3 S), .int (sC4 S), .int (sC5 S)]))] ++ (wL cI aL b2 (apL S.1 (rcC S j pj dj y4)) f2 ++ (wG cI pa S.2.1 ++ (wT cI ta x.2.2.1 x.2.2.2.1 ++ wT cI da x.2.2.2.2.1 x.2.2.2.2.2)))) H locs := hw
        refine W.eq (g2 := F0 m 79 ls [.int (nI (S.1.1 + 1))]) rfl ?_
        have hL2 : LOk (apL S.1 (rcC S j pj dj y4)) f2 := LOk_add hrx.1 (by show sN S < 2 ^ 20; omega) ⟨hq.1, hq.2.1, hq.2.2.1, hq.2.2.2.1, hq.2.2.2.2.1, hq.2.2.2.2.2.1, hq.2.2.2.2.2.2.1, hq.2.2.2.2.2.2.2⟩
        have hxr : (apL S.1 (rcC S j pj dj y4)).2.2.2.2 (S.1.1 + 1) = (rcC S j pj dj y4) := by simp [apL, va_up]
        refine W.eq (g2 := F0 m 79 ls [.int (nI (S.1.1 + 1))]) rfl ?_
        refine lv_istore (lv' := [(6, .int (nI (S.1.1 + 1))), (5, .int (0)), (0, .ref a), (1, .int (nI j)), (2, .int (nI pj)), (3, .int (nI dj)), (4, .int y4)]) hx hb dX3_add_79 hl (by decide) rfl (fun ls hl => ?_)
        refine lv_aload_n hx hb dX3_add_81 rfl (lv_at hl 2 rfl) ?_
        refine lv_iload hx hb dX3_add_82 (lv_at hl 0 rfl) ?_
        refine ww_callA (As := [.int (nI (S.1.1 + 1))]) (rest := []) ⟨hx, hb, hml, hown, hts⟩ (cB_takeIntoTables l D cI a aL b2 pa ta da S.2.2.2.2 (apL S.1 (rcC S j pj dj y4)) f2 S.2.1 x.2.2.1 x.2.2.2.2.1 x.2.2.2.1 x.2.2.2.2.2 (S.1.1 + 1) (rcC S j pj dj y4) (sT S) (sBs S) hL2 (by omega) (Nat.le_refl _) hxr hrx.2.1 hrx.2.2.1 (by show 1 ≤ 1; omega) (by show 1 ≤ 8; omega) hw200 (Or.inr (Or.inl hp)) hpj (by show 0 < 2 ^ 31; omega)) gX3_add_X3_takeIntoTables rfl hd_X3_takeIntoTables ⟨Nat.le_of_ble_eq_true rfl, Nat.le_of_ble_eq_true rfl⟩ hw rfl rfl rfl rfl hl.1 (Nat.le_of_ble_eq_true rfl) dX3_add_84 ⟨by show _ ≤ sCap (oAdd S (nI j) (nI pj) (nI dj) y4).2 - sCap S; rw [hE2]; show _ ≤ (apL S.1 (rcC S j pj dj y4)).2.2.2.1 - S.1.2.2.2.1; omega, by show _ ≤ 2 * (sCap (oAdd S (nI j) (nI pj) (nI dj) y4).2 - sCap S); rw [hE2]; show _ ≤ 2 * ((apL S.1 (rcC S j pj dj y4)).2.2.2.1 - S.1.2.2.2.1); omega⟩ (fun rv u H locs hq hw => ?_)
        obtain ⟨rfl, hT3, hB3⟩ := hq
        have hw : ww D cI _ _ s ([(a, .inr (3, [.ref aL, .ref pa.1, .ref ta.1, .ref da.1, .int (nI S.2.2.2.2.1), .int (nI S.2.2.2.2.2.1), .int (nI S.2.2.2.2.2.2.1), .int (nI S.2.2.2.2.2.2.2.1), .int (nI S.2.2.2.2.2.2.2.2.1), .int S.2.2.2.2.2.2.2.2.2.1, .int S.2.2.2.2.2.2.2.2.2.2.1, .int S.2.2.2.2.2.2.2.2.2.2.2.1, .int S.2.2.2.2.2.2.2.2.2.2.2.2]))] ++ (wL cI aL b2 (apL S.1 (rcC S j pj dj y4)) f2 ++ (wG cI pa S.2.1 ++ (wT cI ta u.1 u.2 ++ wT cI da x.2.2.2.2.1 x.2.2.2.2.2)))) H locs := hw
        refine W.eq (g2 := F0 m 87 ls []) rfl ?_
        refine lv_aload_n hx hb dX3_add_87 rfl (lv_at hl 2 rfl) ?_
        refine lv_iload hx hb dX3_add_88 (lv_at hl 0 rfl) ?_
        refine ww_callA (As := [.int (nI (S.1.1 + 1))]) (rest := []) ⟨hx, hb, hml, hown, hts⟩ (cB_carryOut l D cI a aL b2 pa ta da S.2.2.2.2 (apL S.1 (rcC S j pj dj y4)) f2 S.2.1 u.1 x.2.2.2.2.1 u.2 x.2.2.2.2.2 (S.1.1 + 1) (rcC S j pj dj y4) hL2 (by omega) (Nat.le_refl _) hxr hpj hdj) gX3_add_X3_carryOut rfl hd_X3_carryOut ⟨Nat.le_of_ble_eq_true rfl, Nat.le_of_ble_eq_true rfl⟩ hw rfl rfl rfl rfl hl.1 (Nat.le_of_ble_eq_true rfl) dX3_add_90 ⟨by show _ ≤ sCap (oAdd S (nI j) (nI pj) (nI dj) y4).2 - sCap S; rw [hE2]; show _ ≤ (apL S.1 (rcC S j pj dj y4)).2.2.2.1 - S.1.2.2.2.1; omega, by show _ ≤ 2 * (sCap (oAdd S (nI j) (nI pj) (nI dj) y4).2 - sCap S); rw [hE2]; show _ ≤ 2 * ((apL S.1 (rcC S j pj dj y4)).2.2.2.1 - S.1.2.2.2.1); omega⟩ (fun rv u9 H locs hq hw => ?_)
        obtain ⟨rfl, -⟩ := hq
        have hw : ww D cI _ _ s ([(a, .inr (3, [.ref aL, .ref pa.1, .ref ta.1, .ref da.1, .int (nI S.2.2.2.2.1), .int (nI S.2.2.2.2.2.1), .int (nI S.2.2.2.2.2.2.1), .int (nI S.2.2.2.2.2.2.2.1), .int (nI S.2.2.2.2.2.2.2.2.1), .int S.2.2.2.2.2.2.2.2.2.1, .int S.2.2.2.2.2.2.2.2.2.2.1, .int S.2.2.2.2.2.2.2.2.2.2.2.1, .int S.2.2.2.2.2.2.2.2.2.2.2.2]))] ++ (wL cI aL b2 (apL S.1 (rcC S j pj dj y4)) f2 ++ (wG cI pa (apP S.2.1 (S.1.1 + 1) (rcC S j pj dj y4)) ++ (wT cI ta u.1 u.2 ++ wT cI da x.2.2.2.2.1 x.2.2.2.2.2)))) H locs := hw
        refine W.eq (g2 := F0 m 93 ls []) rfl ?_
        have hw : ww D cI (va_A ([(a, .inr (3, [.ref aL, .ref pa.1, .ref ta.1, .ref da.1, .int (nI (sLp S)), .int (nI (sPt S)), .int (nI (sWk S)), .int (nI (sDo S)), .int (nI (sAt S)), .int (sC2 S), .int (sC3 S), .int (sC4 S), .int (sC5 S)]))] ++ (wL cI aL x.1 S.1 x.2.1 ++ (wG cI pa S.2.1 ++ (wT cI ta x.2.2.1 x.2.2.2.1 ++ wT cI da x.2.2.2.2.1 x.2.2.2.2.2)))) s.heap.size) s.heap s ([(a, .inr (3, [.ref aL, .ref pa.1, .ref ta.1, .ref da.1, .int (nI (sLp ((oAdd S (nI j) (nI pj) (nI dj) y4).2))), .int (nI (sPt ((oAdd S (nI j) (nI pj) (nI dj) y4).2))), .int (nI (sWk ((oAdd S (nI j) (nI pj) (nI dj) y4).2))), .int (nI (sDo ((oAdd S (nI j) (nI pj) (nI dj) y4).2))), .int (nI (sAt ((oAdd S (nI j) (nI pj) (nI dj) y4).2))), .int (sC2 ((oAdd S (nI j) (nI pj) (nI dj) y4).2)), .int (sC3 ((oAdd S (nI j) (nI pj) (nI dj) y4).2)), .int (sC4 ((oAdd S (nI j) (nI pj) (nI dj) y4).2)), .int (sC5 ((oAdd S (nI j) (nI pj) (nI dj) y4).2))]))] ++ (wL cI aL ((b2, f2, u.1, u.2, x.2.2.2.2).1) (((oAdd S (nI j) (nI pj) (nI dj) y4).2).1) ((b2, f2, u.1, u.2, x.2.2.2.2).2.1) ++ (wG cI pa (((oAdd S (nI j) (nI pj) (nI dj) y4).2).2.1) ++ (wT cI ta ((b2, f2, u.1, u.2, x.2.2.2.2).2.2.1) ((b2, f2, u.1, u.2, x.2.2.2.2).2.2.2.1) ++ wT cI da ((b2, f2, u.1, u.2, x.2.2.2.2).2.2.2.2.1) ((b2, f2, u.1, u.2, x.2.2.2.2).2.2.2.2.2))))) H locs := by rw [hE]; exact hw
        refine lv_iload hx hb dX3_add_93 (lv_at hl 0 rfl) ?_
        exact ww_iret (u := (b2, f2, u.1, u.2, x.2.2.2.2)) hx hb hr hlk hw (by rw [hE]; exact ⟨rfl, hL2, hT3, hB3, hrx.2.2.2⟩) (by first | exact Nat.zero_le _ | (rw [hE2]; show _ ≤ (apL S.1 (rcC S j pj dj y4)).2.2.2.1 - S.1.2.2.2.1; omega)) (by first | exact Nat.zero_le _ | (rw [hE2]; show _ ≤ 2 * ((apL S.1 (rcC S j pj dj y4)).2.2.2.1 - S.1.2.2.2.1); omega)) dX3_add_95
      · have hr2 : 2000 ≤ sCh S := by simp (disch := omega) only [i_lt, nI_toInt] at c_51; omega
        have hE : oAdd S (nI j) (nI pj) (nI dj) y4 = (xROO, S) := by rw [oAdd, if_neg hdo, if_neg hk, if_pos hin, if_neg hs, if_pos hr2]
        have hE2 : sCap (oAdd S (nI j) (nI pj) (nI dj) y4).2 = sCap S := by rw [hE]
        have hw : ww D cI (va_A ([(a, .inr (3, [.ref aL, .ref pa.1, .ref ta.1, .ref da.1, .int (nI (sLp S)), .int (nI (sPt S)), .int (nI (sWk S)), .int (nI (sDo S)), .int (nI (sAt S)), .int (sC2 S), .int (sC3 S), .int (sC4 S), .int (sC5 S)]))] ++ (wL cI aL x.1 S.1 x.2.1 ++ (wG cI pa S.2.1 ++ (wT cI ta x.2.2.1 x.2.2.2.1 ++ wT cI da x.2.2.2.2.1 x.2.2.2.2.2)))) s.heap.size) s.heap s ([(a, .inr (3, [.ref aL, .ref pa.1, .ref ta.1, .ref da.1, .int (nI (sLp ((oAdd S (nI j) (nI pj) (nI dj) y4).2))), .int (nI (sPt ((oAdd S (nI j) (nI pj) (nI dj) y4).2))), .int (nI (sWk ((oAdd S (nI j) (nI pj) (nI dj) y4).2))), .int (nI (sDo ((oAdd S (nI j) (nI pj) (nI dj) y4).2))), .int (nI (sAt ((oAdd S (nI j) (nI pj) (nI dj) y4).2))), .int (sC2 ((oAdd S (nI j) (nI pj) (nI dj) y4).2)), .int (sC3 ((oAdd S (nI j) (nI pj) (nI dj) y4).2)), .int (sC4 ((oAdd S (nI j) (nI pj) (nI dj) y4).2)), .int (sC5 ((oAdd S (nI j) (nI pj) (nI dj) y4).2))]))] ++ (wL cI aL x.1 (((oAdd S (nI j) (nI pj) (nI dj) y4).2).1) x.2.1 ++ (wG cI pa (((oAdd S (nI j) (nI pj) (nI dj) y4).2).2.1) ++ (wT cI ta x.2.2.1 x.2.2.2.1 ++ wT cI da x.2.2.2.2.1 x.2.2.2.2.2)))) H locs := by rw [hE]; exact hw
        refine lv_bipush (v := (-104)) hx hb dX3_add_54 (by decide +kernel) ?_
        exact ww_iret (u := x) hx hb hr hlk hw (by rw [hE]; exact ⟨rfl, hrx⟩) (by first | exact Nat.zero_le _ | (rw [hE2]; show _ ≤ (apL S.1 (rcC S j pj dj y4)).2.2.2.1 - S.1.2.2.2.1; omega)) (by first | exact Nat.zero_le _ | (rw [hE2]; show _ ≤ 2 * ((apL S.1 (rcC S j pj dj y4)).2.2.2.1 - S.1.2.2.2.1); omega)) dX3_add_56
    · have hs : (sT S (cl (nI j))).1 ≠ 1 := by rw [hcj]; exact nI_ne (by have := (Inv0_TB hI hb4 j).1; omega) (by omega) c_35
      have hE : oAdd S (nI j) (nI pj) (nI dj) y4 = (xSTA, S) := by rw [oAdd, if_neg hdo, if_neg hk, if_pos hin, if_pos hs]
      have hE2 : sCap (oAdd S (nI j) (nI pj) (nI dj) y4).2 = sCap S := by rw [hE]
      have hw : ww D cI (va_A ([(a, .inr (3, [.ref aL, .ref pa.1, .ref ta.1, .ref da.1, .int (nI (sLp S)), .int (nI (sPt S)), .int (nI (sWk S)), .int (nI (sDo S)), .int (nI (sAt S)), .int (sC2 S), .int (sC3 S), .int (sC4 S), .int (sC5 S)]))] ++ (wL cI aL x.1 S.1 x.2.1 ++ (wG cI pa S.2.1 ++ (wT cI ta x.2.2.1 x.2.2.2.1 ++ wT cI da x.2.2.2.2.1 x.2.2.2.2.2)))) s.heap.size) s.heap s ([(a, .inr (3, [.ref aL, .ref pa.1, .ref ta.1, .ref da.1, .int (nI (sLp ((oAdd S (nI j) (nI pj) (nI dj) y4).2))), .int (nI (sPt ((oAdd S (nI j) (nI pj) (nI dj) y4).2))), .int (nI (sWk ((oAdd S (nI j) (nI pj) (nI dj) y4).2))), .int (nI (sDo ((oAdd S (nI j) (nI pj) (nI dj) y4).2))), .int (nI (sAt ((oAdd S (nI j) (nI pj) (nI dj) y4).2))), .int (sC2 ((oAdd S (nI j) (nI pj) (nI dj) y4).2)), .int (sC3 ((oAdd S (nI j) (nI pj) (nI dj) y4).2)), .int (sC4 ((oAdd S (nI j) (nI pj) (nI dj) y4).2)), .int (sC5 ((oAdd S (nI j) (nI pj) (nI dj) y4).2))]))] ++ (wL cI aL x.1 (((oAdd S (nI j) (nI pj) (nI dj) y4).2).1) x.2.1 ++ (wG cI pa (((oAdd S (nI j) (nI pj) (nI dj) y4).2).2.1) ++ (wT cI ta x.2.2.1 x.2.2.2.1 ++ wT cI da x.2.2.2.2.1 x.2.2.2.2.2)))) H locs := by rw [hE]; exact hw
      refine lv_bipush (v := (-103)) hx hb dX3_add_38 (by decide +kernel) ?_
      exact ww_iret (u := x) hx hb hr hlk hw (by rw [hE]; exact ⟨rfl, hrx⟩) (by first | exact Nat.zero_le _ | (rw [hE2]; show _ ≤ (apL S.1 (rcC S j pj dj y4)).2.2.2.1 - S.1.2.2.2.1; omega)) (by first | exact Nat.zero_le _ | (rw [hE2]; show _ ≤ 2 * ((apL S.1 (rcC S j pj dj y4)).2.2.2.1 - S.1.2.2.2.1); omega)) dX3_add_40
  · have hin : ¬ (inN y2 64 ∧ inN y3 8) := fun q => hq ⟨(inN_iff (by omega)).mp q.1, (inN_iff (by omega)).mp q.2⟩
    refine lv_if_ne (tgt := 26) hx hb dX3_add_20 (by decide) (fun c_20 => absurd c_20 (fun q => q rfl)) (fun c_20 => ?_)
    have hE : oAdd S (nI j) y2 y3 y4 = (xOUT, S) := by rw [oAdd, if_neg hdo, if_neg hk, if_neg hin]
    have hE2 : sCap (oAdd S (nI j) y2 y3 y4).2 = sCap S := by rw [hE]
    have hw : ww D cI (va_A ([(a, .inr (3, [.ref aL, .ref pa.1, .ref ta.1, .ref da.1, .int (nI (sLp S)), .int (nI (sPt S)), .int (nI (sWk S)), .int (nI (sDo S)), .int (nI (sAt S)), .int (sC2 S), .int (sC3 S), .int (sC4 S), .int (sC5 S)]))] ++ (wL cI aL x.1 S.1 x.2.1 ++ (wG cI pa S.2.1 ++ (wT cI ta x.2.2.1 x.2.2.2.1 ++ wT cI da x.2.2.2.2.1 x.2.2.2.2.2)))) s.heap.size) s.heap s ([(a, .inr (3, [.ref aL, .ref pa.1, .ref ta.1, .ref da.1, .int (nI (sLp ((oAdd S (nI j) y2 y3 y4).2))), .int (nI (sPt ((oAdd S (nI j) y2 y3 y4).2))), .int (nI (sWk ((oAdd S (nI j) y2 y3 y4).2))), .int (nI (sDo ((oAdd S (nI j) y2 y3 y4).2))), .int (nI (sAt ((oAdd S (nI j) y2 y3 y4).2))), .int (sC2 ((oAdd S (nI j) y2 y3 y4).2)), .int (sC3 ((oAdd S (nI j) y2 y3 y4).2)), .int (sC4 ((oAdd S (nI j) y2 y3 y4).2)), .int (sC5 ((oAdd S (nI j) y2 y3 y4).2))]))] ++ (wL cI aL x.1 (((oAdd S (nI j) y2 y3 y4).2).1) x.2.1 ++ (wG cI pa (((oAdd S (nI j) y2 y3 y4).2).2.1) ++ (wT cI ta x.2.2.1 x.2.2.2.1 ++ wT cI da x.2.2.2.2.1 x.2.2.2.2.2)))) H locs := by rw [hE]; exact hw
    refine lv_bipush (v := (-102)) hx hb dX3_add_23 (by decide +kernel) ?_
    exact ww_iret (u := x) hx hb hr hlk hw (by rw [hE]; exact ⟨rfl, hrx⟩) (by first | exact Nat.zero_le _ | (rw [hE2]; show _ ≤ (apL S.1 (rcC S j pj dj y4)).2.2.2.1 - S.1.2.2.2.1; omega)) (by first | exact Nat.zero_le _ | (rw [hE2]; show _ ≤ 2 * ((apL S.1 (rcC S j pj dj y4)).2.2.2.1 - S.1.2.2.2.1); omega)) dX3_add_25
set_option maxHeartbeats 1000000 in
set_option maxRecDepth 100000 in
theorem cF_point (l : Launch) (D : va_G) (cI : ClassId) (a aL : Nat) (pa : A5) (ta da : A6) (S : SS) (x : XG) (b : Nat) (hI0 : Inv b S) (h5 : E5 S) (hb4 : b ≤ 4000) (hrx : RX S x) : Kt l yX3_point wsX3_point 4 89 (sCap (oPoint S).2 - sCap S) (2 * (sCap (oPoint S).2 - sCap S)) D cI [.ref a] ([(a, .inr (3, [.ref aL, .ref pa.1, .ref ta.1, .ref da.1, .int (nI (sLp S)), .int (nI (sPt S)), .int (nI (sWk S)), .int (nI (sDo S)), .int (nI (sAt S)), .int (sC2 S), .int (sC3 S), .int (sC4 S), .int (sC5 S)]))] ++ (wL cI aL x.1 S.1 x.2.1 ++ (wG cI pa S.2.1 ++ (wT cI ta x.2.2.1 x.2.2.2.1 ++ wT cI da x.2.2.2.2.1 x.2.2.2.2.2)))) (pI (fun (r : Int32) (u : XG) => r = (oPoint S).1 ∧ RX (oPoint S).2 u)) (fun (u : XG) => [(a, .inr (3, [.ref aL, .ref pa.1, .ref ta.1, .ref da.1, .int (nI (sLp ((oPoint S).2))), .int (nI (sPt ((oPoint S).2))), .int (nI (sWk ((oPoint S).2))), .int (nI (sDo ((oPoint S).2))), .int (nI (sAt ((oPoint S).2))), .int (sC2 ((oPoint S).2)), .int (sC3 ((oPoint S).2)), .int (sC4 ((oPoint S).2)), .int (sC5 ((oPoint S).2))]))] ++ (wL cI aL u.1 (((oPoint S).2).1) u.2.1 ++ (wG cI pa (((oPoint S).2).2.1) ++ (wT cI ta u.2.2.1 u.2.2.2.1 ++ wT cI da u.2.2.2.2.1 u.2.2.2.2.2)))) := by
  refine kt_start (cc := cX3_point) (maxL := 1) (ret := (some .int)) (by decide +kernel) rfl (Nat.le_of_ble_eq_true rfl) ?_
  intro p e s m below meth c hx hb hml hr hlk hown hnm hts ls hl hw
  have hown : s.vm.findClass RX3 = some m.cls := hown
  have hl : lv_has ls 1 [(0, .ref a)] := hl
  have k10 := hts (.fieldLink RX3 10 "RestartBook" "log" "LRestartBook$Log;") (by decide +kernel)
  have k26 := hts (.fieldLink RX3 26 "RestartBook" "tables" "LRestartBook$Tables;") (by decide +kernel)
  have k30 := hts (.fieldLink RX3 30 "RestartBook" "toldByPoint" "LRestartBook$Tables;") (by decide +kernel)
  have k33 := hts (.fieldLink RX3 33 "RestartBook" "latestPoint" "I") (by decide +kernel)
  have k37 := hts (.fieldLink RX3 37 "RestartBook" "pointsMade" "I") (by decide +kernel)
  have k43 := hts (.fieldLink RX3 43 "RestartBook" "doing" "I") (by decide +kernel)
  have hin3 : ∀ w ∈ u_ws RX3 TX3 13, w ∈ wsX3_point := in_X3_point
  have hI := hI0.1
  have hn4 := Inv0_n hI
  have hwk := hI.2.1.2.1
  have hdo4 : sDo S ≤ 4 := by rcases hI.2.2.2.2.2 with z | z | z <;> omega
  refine lv_aload_n hx hb dX3_point_0 rfl (lv_at hl 0 rfl) ?_
  refine ww_get hx hb hts hin3 hown hw 0 rfl rfl 7 (by decide) k43 rfl dX3_point_1 ?_
  refine lv_if_eq (tgt := 10) hx hb dX3_point_4 (by decide) (fun c_4 => ?_) (fun c_4 => ?_)
  · have hdo : sDo S = 0 := nI_q (by omega) (by omega) (c_4.trans nI_0.symm)
    have hpt : sPt S ≤ 100 := hI.2.1.2.2.1
    refine lv_aload_n hx hb dX3_point_10 rfl (lv_at hl 0 rfl) ?_
    refine ww_get hx hb hts hin3 hown hw 0 rfl rfl 5 (by decide) k37 rfl dX3_point_11 ?_
    refine lv_bipush (v := nI 100) hx hb dX3_point_14 (by decide +kernel) ?_
    refine lv_icmp_lt (tgt := 22) hx hb dX3_point_16 (by decide) (fun c_16 => ?_) (fun c_16 => ?_)
    · have hp1 : ¬ 100 ≤ sPt S := by simp (disch := omega) only [i_lt, nI_toInt] at c_16; omega
      have hE : oPoint S = (nI (sN S + 1), (frc ((apL (apL S.1 (rc0 7)) (rc0 8)), S.2.1, S.2.2.1, S.2.2.1, (sN S + 1, sPt S + 1, S.2.2.2.2.2.2)) (sN S + 2))) := by rw [oPoint, if_neg (fun q => q hdo), if_neg hp1]
      have hE2 : sCap (oPoint S).2 = (apL (apL S.1 (rc0 7)) (rc0 8)).2.2.2.1 := by rw [hE]; rfl
      have hgc := gr_c (L := S.1) (x := rc0 7) hrx.1.2.2.1
      have hgs := gr_s (L := S.1) (x := rc0 7)
      have hm1 := cap_mono S.1 (rc0 7)
      have hm2 := cap_mono (apL S.1 (rc0 7)) (rc0 8)
      have hgs2 := gr_s (L := (apL S.1 (rc0 7))) (x := rc0 8)
      refine lv_aload_n hx hb dX3_point_22 rfl (lv_at hl 0 rfl) ?_
      refine lv_dup hx hb dX3_point_23 rfl ?_
      refine ww_get hx hb hts hin3 hown hw 0 rfl rfl 5 (by decide) k37 rfl dX3_point_24 ?_
      refine lv_iconst (v := nI 1) hx hb dX3_point_27 (by decide +kernel) ?_
      refine lv_iadd hx hb dX3_point_28 ?_
      refine lv_eqi (show _ = nI ((sPt S) + 1) from nI_add _ _) ?_
      refine ww_put (ws' := [(a, .inr (3, [.ref aL, .ref pa.1, .ref ta.1, .ref da.1, .int (nI (sLp S)), .int (nI ((sPt S) + 1)), .int (nI (sWk S)), .int (nI (sDo S)), .int (nI (sAt S)), .int (sC2 S), .int (sC3 S), .int (sC4 S), .int (sC5 S)]))] ++ (wL cI aL x.1 S.1 x.2.1 ++ (wG cI pa S.2.1 ++ (wT cI ta x.2.2.1 x.2.2.2.1 ++ wT cI da x.2.2.2.2.1 x.2.2.2.2.2)))) hx hb hts hin3 tyX3 tyX3_ok nmX3 hown hw 0 rfl rfl 5 (by decide) k37 rfl rfl rfl (Nat.le_of_ble_eq_true rfl) rfl dX3_point_29 (fun H locs hw => ?_)
      refine lv_aload_n hx hb dX3_point_32 rfl (lv_at hl 0 rfl) ?_
      refine lv_aload_n hx hb dX3_point_33 rfl (lv_at hl 0 rfl) ?_
      refine ww_get hx hb hts hin3 hown hw 0 rfl rfl 0 (by decide) k10 rfl dX3_point_34 ?_
      refine lv_bipush (v := nI 7) hx hb dX3_point_37 (by decide +kernel) ?_
      refine lv_iconst (v := nI 0) hx hb dX3_point_39 (by decide +kernel) ?_
      refine W.eq (g2 := F0 m 40 ls [.int (nI 0), .int (nI 7), .ref aL, .ref a]) rfl ?_
      refine lv_iconst (v := nI 0) hx hb dX3_point_40 (by decide +kernel) ?_
      refine lv_iconst (v := nI 0) hx hb dX3_point_41 (by decide +kernel) ?_
      refine lv_iconst (v := nI 0) hx hb dX3_point_42 (by decide +kernel) ?_
      refine lv_iconst (v := nI 0) hx hb dX3_point_43 (by decide +kernel) ?_
      refine lv_iconst (v := nI 0) hx hb dX3_point_44 (by decide +kernel) ?_
      refine ww_callV ([(a, .inr (3, [.ref aL, .ref pa.1, .ref ta.1, .ref da.1, .int (nI (sLp S)), .int (nI ((sPt S) + 1)), .int (nI (sWk S)), .int (nI (sDo S)), .int (nI (sAt S)), .int (sC2 S), .int (sC3 S), .int (sC4 S), .int (sC5 S)]))]) (wG cI pa S.2.1 ++ (wT cI ta x.2.2.1 x.2.2.2.1 ++ wT cI da x.2.2.2.2.1 x.2.2.2.2.2)) (As := [.int (nI 7), .int (nI 0), .int (nI 0), .int (nI 0), .int (nI 0), .int (nI 0), .int (nI 0)]) (rest := [.ref a]) ⟨hx, hb, hml, hown, hts⟩ (cL_append l D cI aL x.1 S.1.2.2.2.1 S.1.1 S.1.2.1 S.1.2.2.1 x.2.1 7 (nI 0) (nI 0) (nI 0) (nI 0) (nI 0) (nI 0) hrx.1.2.1 hrx.1.2.2.1 (by have := hrx.1.2.2.2.1; omega) (by omega)) gX3_point_X0_append rfl hd_X0_append ⟨Nat.le_of_ble_eq_true rfl, Nat.le_of_ble_eq_true rfl⟩ hw rfl rfl rfl rfl rfl hl.1 (Nat.le_of_ble_eq_true rfl) dX3_point_45 ⟨by show _ ≤ sCap (oPoint S).2 - sCap S; rw [hE2]; show _ ≤ (apL (apL S.1 (rc0 7)) (rc0 8)).2.2.2.1 - S.1.2.2.2.1; omega, by show _ ≤ 2 * (sCap (oPoint S).2 - sCap S); rw [hE2]; show _ ≤ 2 * ((apL (apL S.1 (rc0 7)) (rc0 8)).2.2.2.1 - S.1.2.2.2.1); omega⟩ (fun rv u H locs hq hw => ?_)
      obtain ⟨ch2, b2, cap2, f2⟩ := u
      obtain ⟨rr, rfl, hq⟩ := hq
      dsimp only at hq
      obtain ⟨rfl, rfl, rfl, hq⟩ := hq
      have hw : ww D cI _ _ s ([(a, .inr (3, [.ref aL, .ref pa.1, .ref ta.1, .ref da.1, .int (nI (sLp S)), .int (nI ((sPt S) + 1)), .int (nI (sWk S)), .int (nI (sDo S)), .int (nI (sAt S)), .int (sC2 S), .int (sC3 S), .int (sC4 S), .int (sC5 S)]))] ++ (wL cI aL b2 (apL S.1 (rc0 7)) f2 ++ (wG cI pa S.2.1 ++ (wT cI ta x.2.2.1 x.2.2.2.1 ++ wT cI da x.2.2.2.2.1 x.2.2.2.2.2)))) H locs := hw
      refine W.eq (g2 := F0 m 48 ls [.int (nI (S.1.1 + 1)), .ref a]) rfl ?_
      have hL2 : LOk (apL S.1 (rc0 7)) f2 := LOk_add hrx.1 (by show sN S < 2 ^ 20; omega) ⟨hq.1, hq.2.1, hq.2.2.1, hq.2.2.2.1, hq.2.2.2.2.1, hq.2.2.2.2.2.1, hq.2.2.2.2.2.2.1.trans nI_0, hq.2.2.2.2.2.2.2⟩
      have hxr : (apL S.1 (rc0 7)).2.2.2.2 (S.1.1 + 1) = (rc0 7) := by simp [apL, va_up]
      refine ww_put (ws' := [(a, .inr (3, [.ref aL, .ref pa.1, .ref ta.1, .ref da.1, .int (nI (S.1.1 + 1)), .int (nI ((sPt S) + 1)), .int (nI (sWk S)), .int (nI (sDo S)), .int (nI (sAt S)), .int (sC2 S), .int (sC3 S), .int (sC4 S), .int (sC5 S)]))] ++ (wL cI aL b2 (apL S.1 (rc0 7)) f2 ++ (wG cI pa S.2.1 ++ (wT cI ta x.2.2.1 x.2.2.2.1 ++ wT cI da x.2.2.2.2.1 x.2.2.2.2.2)))) hx hb hts hin3 tyX3 tyX3_ok nmX3 hown hw 0 rfl rfl 4 (by decide) k33 rfl rfl rfl (Nat.le_of_ble_eq_true rfl) rfl dX3_point_48 (fun H locs hw => ?_)
      refine lv_aload_n hx hb dX3_point_51 rfl (lv_at hl 0 rfl) ?_
      refine ww_get hx hb hts hin3 hown hw 0 rfl rfl 3 (by decide) k30 rfl dX3_point_52 ?_
      refine lv_aload_n hx hb dX3_point_55 rfl (lv_at hl 0 rfl) ?_
      refine ww_get hx hb hts hin3 hown hw 0 rfl rfl 2 (by decide) k26 rfl dX3_point_56 ?_
      have hgc2 := gr_c (L := (apL S.1 (rc0 7))) (x := rc0 8) hL2.2.2.1
      have hw : ww D cI (va_A ([(a, .inr (3, [.ref aL, .ref pa.1, .ref ta.1, .ref da.1, .int (nI (sLp S)), .int (nI (sPt S)), .int (nI (sWk S)), .int (nI (sDo S)), .int (nI (sAt S)), .int (sC2 S), .int (sC3 S), .int (sC4 S), .int (sC5 S)]))] ++ (wL cI aL x.1 S.1 x.2.1 ++ (wG cI pa S.2.1 ++ (wT cI ta x.2.2.1 x.2.2.2.1 ++ wT cI da x.2.2.2.2.1 x.2.2.2.2.2)))) s.heap.size) s.heap s ([(a, .inr (3, [.ref aL, .ref pa.1, .ref ta.1, .ref da.1, .int (nI (S.1.1 + 1)), .int (nI ((sPt S) + 1)), .int (nI (sWk S)), .int (nI (sDo S)), .int (nI (sAt S)), .int (sC2 S), .int (sC3 S), .int (sC4 S), .int (sC5 S)]))] ++ (wL cI aL b2 (apL S.1 (rc0 7)) f2 ++ (wG cI pa S.2.1 ++ (wT cI da x.2.2.2.2.1 x.2.2.2.2.2 ++ wT cI ta x.2.2.1 x.2.2.2.1)))) H locs := ww_perm hw (List.Perm.append_left _ (List.Perm.append_left _ (List.Perm.append_left _ List.perm_append_comm)))
      refine ww_callV ([(a, .inr (3, [.ref aL, .ref pa.1, .ref ta.1, .ref da.1, .int (nI (S.1.1 + 1)), .int (nI ((sPt S) + 1)), .int (nI (sWk S)), .int (nI (sDo S)), .int (nI (sAt S)), .int (sC2 S), .int (sC3 S), .int (sC4 S), .int (sC5 S)]))] ++ (wL cI aL b2 (apL S.1 (rc0 7)) f2 ++ wG cI pa S.2.1)) ([]) (As := [.ref ta.1]) (rest := []) ⟨hx, hb, hml, hown, hts⟩ (cT_becomeLike l D cI da.1 da.2.1 da.2.2.1 da.2.2.2.1 da.2.2.2.2.1 da.2.2.2.2.2 ta.1 ta.2.1 ta.2.2.1 ta.2.2.2.1 ta.2.2.2.2.1 ta.2.2.2.2.2 x.2.2.2.2.1 x.2.2.1 x.2.2.2.2.2 x.2.2.2.1 (sT S) hrx.2.1 (Inv0_TB hI hb4)) gX3_point_X2_becomeLike rfl hd_X2_becomeLike ⟨Nat.le_of_ble_eq_true rfl, Nat.le_of_ble_eq_true rfl⟩ hw rfl rfl rfl rfl rfl hl.1 (Nat.le_of_ble_eq_true rfl) dX3_point_59 ⟨by show _ ≤ sCap (oPoint S).2 - sCap S; rw [hE2]; show _ ≤ (apL (apL S.1 (rc0 7)) (rc0 8)).2.2.2.1 - S.1.2.2.2.1; omega, by show _ ≤ 2 * (sCap (oPoint S).2 - sCap S); rw [hE2]; show _ ≤ 2 * ((apL (apL S.1 (rc0 7)) (rc0 8)).2.2.2.1 - S.1.2.2.2.1); omega⟩ (fun rv u H locs hq hw => ?_)
      obtain ⟨v3, fb3⟩ := u
      obtain ⟨rfl, hT3, hB3⟩ := hq
      have hw : ww D cI _ _ s ([(a, .inr (3, [.ref aL, .ref pa.1, .ref ta.1, .ref da.1, .int (nI (S.1.1 + 1)), .int (nI ((sPt S) + 1)), .int (nI (sWk S)), .int (nI (sDo S)), .int (nI (sAt S)), .int (sC2 S), .int (sC3 S), .int (sC4 S), .int (sC5 S)]))] ++ (wL cI aL b2 (apL S.1 (rc0 7)) f2 ++ (wG cI pa S.2.1 ++ (wT cI da v3 fb3 ++ wT cI ta x.2.2.1 x.2.2.2.1)))) H locs := hw
      refine W.eq (g2 := F0 m 62 ls []) rfl ?_
      have hw : ww D cI (va_A ([(a, .inr (3, [.ref aL, .ref pa.1, .ref ta.1, .ref da.1, .int (nI (sLp S)), .int (nI (sPt S)), .int (nI (sWk S)), .int (nI (sDo S)), .int (nI (sAt S)), .int (sC2 S), .int (sC3 S), .int (sC4 S), .int (sC5 S)]))] ++ (wL cI aL x.1 S.1 x.2.1 ++ (wG cI pa S.2.1 ++ (wT cI ta x.2.2.1 x.2.2.2.1 ++ wT cI da x.2.2.2.2.1 x.2.2.2.2.2)))) s.heap.size) s.heap s ([(a, .inr (3, [.ref aL, .ref pa.1, .ref ta.1, .ref da.1, .int (nI (S.1.1 + 1)), .int (nI ((sPt S) + 1)), .int (nI (sWk S)), .int (nI (sDo S)), .int (nI (sAt S)), .int (sC2 S), .int (sC3 S), .int (sC4 S), .int (sC5 S)]))] ++ (wL cI aL b2 (apL S.1 (rc0 7)) f2 ++ (wG cI pa S.2.1 ++ (wT cI ta x.2.2.1 x.2.2.2.1 ++ wT cI da v3 fb3)))) H locs := ww_perm hw (List.Perm.append_left _ (List.Perm.append_left _ (List.Perm.append_left _ List.perm_append_comm)))
      refine lv_aload_n hx hb dX3_point_62 rfl (lv_at hl 0 rfl) ?_
      refine ww_get hx hb hts hin3 hown hw 0 rfl rfl 0 (by decide) k10 rfl dX3_point_63 ?_
      refine W.eq (g2 := F0 m 66 ls [.ref aL]) rfl ?_
      refine lv_aload_n hx hb dX3_point_66 rfl (lv_at hl 0 rfl) ?_
      refine ww_get hx hb hts hin3 hown hw 0 rfl rfl 0 (by decide) k10 rfl dX3_point_67 ?_
      refine lv_bipush (v := nI 8) hx hb dX3_point_70 (by decide +kernel) ?_
      refine lv_iconst (v := nI 0) hx hb dX3_point_72 (by decide +kernel) ?_
      refine lv_iconst (v := nI 0) hx hb dX3_point_73 (by decide +kernel) ?_
      refine lv_iconst (v := nI 0) hx hb dX3_point_74 (by decide +kernel) ?_
      refine lv_iconst (v := nI 0) hx hb dX3_point_75 (by decide +kernel) ?_
      refine lv_iconst (v := nI 0) hx hb dX3_point_76 (by decide +kernel) ?_
      refine lv_iconst (v := nI 0) hx hb dX3_point_77 (by decide +kernel) ?_
      refine ww_callV ([(a, .inr (3, [.ref aL, .ref pa.1, .ref ta.1, .ref da.1, .int (nI (S.1.1 + 1)), .int (nI ((sPt S) + 1)), .int (nI (sWk S)), .int (nI (sDo S)), .int (nI (sAt S)), .int (sC2 S), .int (sC3 S), .int (sC4 S), .int (sC5 S)]))]) (wG cI pa S.2.1 ++ (wT cI ta x.2.2.1 x.2.2.2.1 ++ wT cI da v3 fb3)) (As := [.int (nI 8), .int (nI 0), .int (nI 0), .int (nI 0), .int (nI 0), .int (nI 0), .int (nI 0)]) (rest := [.ref aL]) ⟨hx, hb, hml, hown, hts⟩ (cL_append l D cI aL b2 (apL S.1 (rc0 7)).2.2.2.1 (apL S.1 (rc0 7)).1 (apL S.1 (rc0 7)).2.1 (apL S.1 (rc0 7)).2.2.1 f2 8 (nI 0) (nI 0) (nI 0) (nI 0) (nI 0) (nI 0) hL2.2.1 hL2.2.2.1 (by have := hL2.2.2.2.1; omega) (by omega)) gX3_point_X0_append rfl hd_X0_append ⟨Nat.le_of_ble_eq_true rfl, Nat.le_of_ble_eq_true rfl⟩ hw rfl rfl rfl rfl rfl hl.1 (Nat.le_of_ble_eq_true rfl) dX3_point_78 ⟨by show _ ≤ sCap (oPoint S).2 - sCap S; rw [hE2]; show _ ≤ (apL (apL S.1 (rc0 7)) (rc0 8)).2.2.2.1 - S.1.2.2.2.1; omega, by show _ ≤ 2 * (sCap (oPoint S).2 - sCap S); rw [hE2]; show _ ≤ 2 * ((apL (apL S.1 (rc0 7)) (rc0 8)).2.2.2.1 - S.1.2.2.2.1); omega⟩ (fun rv u H locs hq hw => ?_)
      obtain ⟨ch2, b3, cap2, f3⟩ := u
      obtain ⟨rr, rfl, hq⟩ := hq
      dsimp only at hq
      obtain ⟨rfl, rfl, rfl, hq⟩ := hq
      have hw : ww D cI _ _ s ([(a, .inr (3, [.ref aL, .ref pa.1, .ref ta.1, .ref da.1, .int (nI (S.1.1 + 1)), .int (nI ((sPt S) + 1)), .int (nI (sWk S)), .int (nI (sDo S)), .int (nI (sAt S)), .int (sC2 S), .int (sC3 S), .int (sC4 S), .int (sC5 S)]))] ++ (wL cI aL b3 (apL (apL S.1 (rc0 7)) (rc0 8)) f3 ++ (wG cI pa S.2.1 ++ (wT cI ta x.2.2.1 x.2.2.2.1 ++ wT cI da v3 fb3)))) H locs := hw
      refine W.eq (g2 := F0 m 81 ls [.int (nI ((apL S.1 (rc0 7)).1 + 1)), .ref aL]) rfl ?_
      have hL3 : LOk (apL (apL S.1 (rc0 7)) (rc0 8)) f3 := LOk_add hL2 (by show sN S + 1 < 2 ^ 20; omega) ⟨hq.1, hq.2.1, hq.2.2.1, hq.2.2.2.1, hq.2.2.2.2.1, hq.2.2.2.2.2.1, hq.2.2.2.2.2.2.1.trans nI_0, hq.2.2.2.2.2.2.2⟩
      have hxr3 : (apL (apL S.1 (rc0 7)) (rc0 8)).2.2.2.2 ((apL S.1 (rc0 7)).1 + 1) = (rc0 8) := by simp [apL, va_up]
      refine ww_callV ([(a, .inr (3, [.ref aL, .ref pa.1, .ref ta.1, .ref da.1, .int (nI (S.1.1 + 1)), .int (nI ((sPt S) + 1)), .int (nI (sWk S)), .int (nI (sDo S)), .int (nI (sAt S)), .int (sC2 S), .int (sC3 S), .int (sC4 S), .int (sC5 S)]))]) (wG cI pa S.2.1 ++ (wT cI ta x.2.2.1 x.2.2.2.1 ++ wT cI da v3 fb3)) (As := [.int (nI ((apL S.1 (rc0 7)).1 + 1))]) (rest := []) ⟨hx, hb, hml, hown, hts⟩ (cL_forceUpTo l D cI aL b3 (apL (apL S.1 (rc0 7)) (rc0 8)).2.2.2.1 (apL (apL S.1 (rc0 7)) (rc0 8)).1 (apL (apL S.1 (rc0 7)) (rc0 8)).2.1 (apL (apL S.1 (rc0 7)) (rc0 8)).2.2.1 f3 (nI ((apL S.1 (rc0 7)).1 + 1)) (by show sN S + 1 + 1 < 2 ^ 31; omega) (by have := hI.1.1; show sFo S < 2 ^ 31; omega)) gX3_point_X0_forceUpTo rfl hd_X0_forceUpTo ⟨Nat.le_of_ble_eq_true rfl, Nat.le_of_ble_eq_true rfl⟩ hw rfl rfl rfl rfl rfl hl.1 (Nat.le_of_ble_eq_true rfl) dX3_point_81 ⟨by show _ ≤ sCap (oPoint S).2 - sCap S; rw [hE2]; show _ ≤ (apL (apL S.1 (rc0 7)) (rc0 8)).2.2.2.1 - S.1.2.2.2.1; omega, by show _ ≤ 2 * (sCap (oPoint S).2 - sCap S); rw [hE2]; show _ ≤ 2 * ((apL (apL S.1 (rc0 7)) (rc0 8)).2.2.2.1 - S.1.2.2.2.1); omega⟩ (fun rv u9 H locs hq2 hw => ?_)
      obtain ⟨rfl, -⟩ := hq2
      have hw : ww D cI _ _ s ([(a, .inr (3, [.ref aL, .ref pa.1, .ref ta.1, .ref da.1, .int (nI (S.1.1 + 1)), .int (nI ((sPt S) + 1)), .int (nI (sWk S)), .int (nI (sDo S)), .int (nI (sAt S)), .int (sC2 S), .int (sC3 S), .int (sC4 S), .int (sC5 S)]))] ++ (wL cI aL b3 (frc ((apL (apL S.1 (rc0 7)) (rc0 8)), S.2.1, S.2.2.1, S.2.2.1, (sN S + 1, sPt S + 1, S.2.2.2.2.2.2)) (cl (nI ((apL S.1 (rc0 7)).1 + 1)))).1 f3 ++ (wG cI pa S.2.1 ++ (wT cI ta x.2.2.1 x.2.2.2.1 ++ wT cI da v3 fb3)))) H locs := hw
      refine W.eq (g2 := F0 m 84 ls []) rfl ?_
      rw [cl_nI (show (apL S.1 (rc0 7)).1 + 1 < 2 ^ 31 by show sN S + 1 + 1 < 2 ^ 31; omega)] at hw
      refine lv_aload_n hx hb dX3_point_84 rfl (lv_at hl 0 rfl) ?_
      refine ww_get hx hb hts hin3 hown hw 0 rfl rfl 4 (by decide) k33 rfl dX3_point_85 ?_
      have hw : ww D cI (va_A ([(a, .inr (3, [.ref aL, .ref pa.1, .ref ta.1, .ref da.1, .int (nI (sLp S)), .int (nI (sPt S)), .int (nI (sWk S)), .int (nI (sDo S)), .int (nI (sAt S)), .int (sC2 S), .int (sC3 S), .int (sC4 S), .int (sC5 S)]))] ++ (wL cI aL x.1 S.1 x.2.1 ++ (wG cI pa S.2.1 ++ (wT cI ta x.2.2.1 x.2.2.2.1 ++ wT cI da x.2.2.2.2.1 x.2.2.2.2.2)))) s.heap.size) s.heap s ([(a, .inr (3, [.ref aL, .ref pa.1, .ref ta.1, .ref da.1, .int (nI (sLp ((oPoint S).2))), .int (nI (sPt ((oPoint S).2))), .int (nI (sWk ((oPoint S).2))), .int (nI (sDo ((oPoint S).2))), .int (nI (sAt ((oPoint S).2))), .int (sC2 ((oPoint S).2)), .int (sC3 ((oPoint S).2)), .int (sC4 ((oPoint S).2)), .int (sC5 ((oPoint S).2))]))] ++ (wL cI aL ((b3, f3, x.2.2.1, x.2.2.2.1, v3, fb3).1) (((oPoint S).2).1) ((b3, f3, x.2.2.1, x.2.2.2.1, v3, fb3).2.1) ++ (wG cI pa (((oPoint S).2).2.1) ++ (wT cI ta ((b3, f3, x.2.2.1, x.2.2.2.1, v3, fb3).2.2.1) ((b3, f3, x.2.2.1, x.2.2.2.1, v3, fb3).2.2.2.1) ++ wT cI da ((b3, f3, x.2.2.1, x.2.2.2.1, v3, fb3).2.2.2.2.1) ((b3, f3, x.2.2.1, x.2.2.2.1, v3, fb3).2.2.2.2.2))))) H locs := by rw [hE]; exact hw
      exact ww_iret (u := (b3, f3, x.2.2.1, x.2.2.2.1, v3, fb3)) hx hb hr hlk hw (by rw [hE]; exact ⟨rfl, ⟨hL3.1, hL3.2.1, hL3.2.2.1, hL3.2.2.2.1, by show max (sFo S) (min (sN S + 2) (sN S + 1 + 1)) ≤ sN S + 1 + 1; have := hI.1.1; omega⟩, hrx.2.1, hrx.2.2.1, hT3, fun p hp => ⟨(hB3 p hp).trans (hrx.2.2.1 p hp).1, (hrx.2.2.1 p hp).2⟩⟩) (by first | exact Nat.zero_le _ | (rw [hE2]; show _ ≤ (apL (apL S.1 (rc0 7)) (rc0 8)).2.2.2.1 - S.1.2.2.2.1; omega)) (by first | exact Nat.zero_le _ | (rw [hE2]; show _ ≤ 2 * ((apL (apL S.1 (rc0 7)) (rc0 8)).2.2.2.1 - S.1.2.2.2.1); omega)) dX3_point_88
    · have hp1 : 100 ≤ sPt S := by simp (disch := omega) only [i_lt, nI_toInt] at c_16; omega
      have hE : oPoint S = (xROO, S) := by rw [oPoint, if_neg (fun q => q hdo), if_pos hp1]
      have hE2 : sCap (oPoint S).2 = sCap S := by rw [hE]
      have hw : ww D cI (va_A ([(a, .inr (3, [.ref aL, .ref pa.1, .ref ta.1, .ref da.1, .int (nI (sLp S)), .int (nI (sPt S)), .int (nI (sWk S)), .int (nI (sDo S)), .int (nI (sAt S)), .int (sC2 S), .int (sC3 S), .int (sC4 S), .int (sC5 S)]))] ++ (wL cI aL x.1 S.1 x.2.1 ++ (wG cI pa S.2.1 ++ (wT cI ta x.2.2.1 x.2.2.2.1 ++ wT cI da x.2.2.2.2.1 x.2.2.2.2.2)))) s.heap.size) s.heap s ([(a, .inr (3, [.ref aL, .ref pa.1, .ref ta.1, .ref da.1, .int (nI (sLp ((oPoint S).2))), .int (nI (sPt ((oPoint S).2))), .int (nI (sWk ((oPoint S).2))), .int (nI (sDo ((oPoint S).2))), .int (nI (sAt ((oPoint S).2))), .int (sC2 ((oPoint S).2)), .int (sC3 ((oPoint S).2)), .int (sC4 ((oPoint S).2)), .int (sC5 ((oPoint S).2))]))] ++ (wL cI aL x.1 (((oPoint S).2).1) x.2.1 ++ (wG cI pa (((oPoint S).2).2.1) ++ (wT cI ta x.2.2.1 x.2.2.2.1 ++ wT cI da x.2.2.2.2.1 x.2.2.2.2.2)))) s.heap [] := by rw [hE]; exact hw
      refine lv_bipush (v := (-104)) hx hb dX3_point_19 (by decide +kernel) ?_
      exact ww_iret (u := x) hx hb hr hlk hw (by rw [hE]; exact ⟨rfl, hrx⟩) (by first | exact Nat.zero_le _ | (rw [hE2]; show _ ≤ (apL (apL S.1 (rc0 7)) (rc0 8)).2.2.2.1 - S.1.2.2.2.1; omega)) (by first | exact Nat.zero_le _ | (rw [hE2]; show _ ≤ 2 * ((apL (apL S.1 (rc0 7)) (rc0 8)).2.2.2.1 - S.1.2.2.2.1); omega)) dX3_point_21
  · have hdo : sDo S ≠ 0 := fun q => c_4 ((congrArg nI q).trans nI_0)
    have hE : oPoint S = (xDOW, S) := by rw [oPoint, if_pos hdo]
    have hE2 : sCap (oPoint S).2 = sCap S := by rw [hE]
    have hw : ww D cI (va_A ([(a, .inr (3, [.ref aL, .ref pa.1, .ref ta.1, .ref da.1, .int (nI (sLp S)), .int (nI (sPt S)), .int (nI (sWk S)), .int (nI (sDo S)), .int (nI (sAt S)), .int (sC2 S), .int (sC3 S), .int (sC4 S), .int (sC5 S)]))] ++ (wL cI aL x.1 S.1 x.2.1 ++ (wG cI pa S.2.1 ++ (wT cI ta x.2.2.1 x.2.2.2.1 ++ wT cI da x.2.2.2.2.1 x.2.2.2.2.2)))) s.heap.size) s.heap s ([(a, .inr (3, [.ref aL, .ref pa.1, .ref ta.1, .ref da.1, .int (nI (sLp ((oPoint S).2))), .int (nI (sPt ((oPoint S).2))), .int (nI (sWk ((oPoint S).2))), .int (nI (sDo ((oPoint S).2))), .int (nI (sAt ((oPoint S).2))), .int (sC2 ((oPoint S).2)), .int (sC3 ((oPoint S).2)), .int (sC4 ((oPoint S).2)), .int (sC5 ((oPoint S).2))]))] ++ (wL cI aL x.1 (((oPoint S).2).1) x.2.1 ++ (wG cI pa (((oPoint S).2).2.1) ++ (wT cI ta x.2.2.1 x.2.2.2.1 ++ wT cI da x.2.2.2.2.1 x.2.2.2.2.2)))) s.heap [] := by rw [hE]; exact hw
    refine lv_bipush (v := (-105)) hx hb dX3_point_7 (by decide +kernel) ?_
    exact ww_iret (u := x) hx hb hr hlk hw (by rw [hE]; exact ⟨rfl, hrx⟩) (by first | exact Nat.zero_le _ | (rw [hE2]; show _ ≤ (apL (apL S.1 (rc0 7)) (rc0 8)).2.2.2.1 - S.1.2.2.2.1; omega)) (by first | exact Nat.zero_le _ | (rw [hE2]; show _ ≤ 2 * ((apL (apL S.1 (rc0 7)) (rc0 8)).2.2.2.1 - S.1.2.2.2.1); omega)) dX3_point_9
set_option maxHeartbeats 1000000 in
set_option maxRecDepth 100000 in
theorem cF_loss (l : Launch) (D : va_G) (cI : ClassId) (a aL : Nat) (pa : A5) (ta da : A6) (S : SS) (x : XG) (b : Nat) (hI0 : Inv b S) (h5 : E5 S) (hb4 : b ≤ 4000) (hrx : RX S x) (y1 : Int32) : Kt l yX3_loss wsX3_loss 3 66 (sCap (oLoss S y1).2 - sCap S) (2 * (sCap (oLoss S y1).2 - sCap S)) D cI [.ref a, .int y1] ([(a, .inr (3, [.ref aL, .ref pa.1, .ref ta.1, .ref da.1, .int (nI (sLp S)), .int (nI (sPt S)), .int (nI (sWk S)), .int (nI (sDo S)), .int (nI (sAt S)), .int (sC2 S), .int (sC3 S), .int (sC4 S), .int (sC5 S)]))] ++ (wL cI aL x.1 S.1 x.2.1 ++ (wG cI pa S.2.1 ++ (wT cI ta x.2.2.1 x.2.2.2.1 ++ wT cI da x.2.2.2.2.1 x.2.2.2.2.2)))) (pI (fun (r : Int32) (u : XG) => r = (oLoss S y1).1 ∧ RX (oLoss S y1).2 u)) (fun (u : XG) => [(a, .inr (3, [.ref aL, .ref pa.1, .ref ta.1, .ref da.1, .int (nI (sLp ((oLoss S y1).2))), .int (nI (sPt ((oLoss S y1).2))), .int (nI (sWk ((oLoss S y1).2))), .int (nI (sDo ((oLoss S y1).2))), .int (nI (sAt ((oLoss S y1).2))), .int (sC2 ((oLoss S y1).2)), .int (sC3 ((oLoss S y1).2)), .int (sC4 ((oLoss S y1).2)), .int (sC5 ((oLoss S y1).2))]))] ++ (wL cI aL u.1 (((oLoss S y1).2).1) u.2.1 ++ (wG cI pa (((oLoss S y1).2).2.1) ++ (wT cI ta u.2.2.1 u.2.2.2.1 ++ wT cI da u.2.2.2.2.1 u.2.2.2.2.2)))) := by
  refine kt_start (cc := cX3_loss) (maxL := 2) (ret := (some .int)) (by decide +kernel) rfl (Nat.le_of_ble_eq_true rfl) ?_
  intro p e s m below meth c hx hb hml hr hlk hown hnm hts ls hl hw
  have hown : s.vm.findClass RX3 = some m.cls := hown
  have hl : lv_has ls 2 [(0, .ref a), (1, .int y1)] := hl
  have k10 := hts (.fieldLink RX3 10 "RestartBook" "log" "LRestartBook$Log;") (by decide +kernel)
  have k19 := hts (.fieldLink RX3 19 "RestartBook" "pages" "LRestartBook$Pages;") (by decide +kernel)
  have k26 := hts (.fieldLink RX3 26 "RestartBook" "tables" "LRestartBook$Tables;") (by decide +kernel)
  have k33 := hts (.fieldLink RX3 33 "RestartBook" "latestPoint" "I") (by decide +kernel)
  have k43 := hts (.fieldLink RX3 43 "RestartBook" "doing" "I") (by decide +kernel)
  have k46 := hts (.fieldLink RX3 46 "RestartBook" "nextStep" "I") (by decide +kernel)
  have hin3 : ∀ w ∈ u_ws RX3 TX3 13, w ∈ wsX3_loss := in_X3_loss
  have hI := hI0.1
  have hn4 := Inv0_n hI
  have hwk := hI.2.1.2.1
  have hdo4 : sDo S ≤ 4 := by rcases hI.2.2.2.2.2 with z | z | z <;> omega
  refine lv_iload_n hx hb dX3_loss_0 rfl (lv_at hl 1 rfl) ?_
  refine lv_if_ge (tgt := 7) hx hb dX3_loss_1 (by decide) (fun c_1 => ?_) (fun c_1 => ?_)
  · have hz : ¬ y1 < 0 := by rw [i_lt, z_0]; rw [i_le, z_0] at c_1; omega
    obtain ⟨k, hk, rfl⟩ := nI_of hz
    have hck : cl (nI k) = k := cl_nI hk
    have hE : oLoss S (nI k) = (nI (kept S k), pas (los S k)) := by rw [oLoss, if_neg hz, hck]
    have hkn : kept S k ≤ sN S := by have := hI.1.1; show sFo S + min k (sN S - sFo S) ≤ sN S; omega
    have hK8 : ∀ r, 1 ≤ r → r ≤ sN S → rK (sR S r) ≤ 8 := fun r r1 r2 => (hI.2.1.1 r r1 r2).1.2
    have hIl := Inv0_los k hI
    refine lv_aload_n hx hb dX3_loss_7 rfl (lv_at hl 0 rfl) ?_
    refine ww_get hx hb hts hin3 hown hw 0 rfl rfl 0 (by decide) k10 rfl dX3_loss_8 ?_
    refine lv_iload_n hx hb dX3_loss_11 rfl (lv_at hl 1 rfl) ?_
    refine ww_callV ([(a, .inr (3, [.ref aL, .ref pa.1, .ref ta.1, .ref da.1, .int (nI (sLp S)), .int (nI (sPt S)), .int (nI (sWk S)), .int (nI (sDo S)), .int (nI (sAt S)), .int (sC2 S), .int (sC3 S), .int (sC4 S), .int (sC5 S)]))]) (wG cI pa S.2.1 ++ (wT cI ta x.2.2.1 x.2.2.2.1 ++ wT cI da x.2.2.2.2.1 x.2.2.2.2.2)) (As := [.int (nI k)]) (rest := []) ⟨hx, hb, hml, hown, hts⟩ (cL_loseBehind l D cI aL x.1 S.1.2.2.2.1 S.1.1 S.1.2.1 S.1.2.2.1 x.2.1 k hrx.1.2.1 (Nat.lt_of_lt_of_le hrx.1.2.2.2.1 (by decide)) hk hrx.1.2.2.2.2 (by rw [cnt_eq hrx.1.1 hK8 (sN S) (Nat.le_refl _)]; exact hI.1.2.1)) gX3_loss_X0_loseBehind rfl hd_X0_loseBehind ⟨Nat.le_of_ble_eq_true rfl, Nat.le_of_ble_eq_true rfl⟩ hw rfl rfl rfl rfl rfl hl.1 (Nat.le_of_ble_eq_true rfl) dX3_loss_12 ⟨Nat.zero_le _, Nat.zero_le _⟩ (fun rv u H locs hq hw => ?_)
    obtain ⟨rfl, -⟩ := hq
    have hw : ww D cI _ _ s ([(a, .inr (3, [.ref aL, .ref pa.1, .ref ta.1, .ref da.1, .int (nI (sLp S)), .int (nI (sPt S)), .int (nI (sWk S)), .int (nI (sDo S)), .int (nI (sAt S)), .int (sC2 S), .int (sC3 S), .int (sC4 S), .int (sC5 S)]))] ++ (wL cI aL x.1 (kept S k, kept S k, cntC x.2.1 (kept S k), S.1.2.2.2) x.2.1 ++ (wG cI pa S.2.1 ++ (wT cI ta x.2.2.1 x.2.2.2.1 ++ wT cI da x.2.2.2.2.1 x.2.2.2.2.2)))) H locs := hw
    refine W.eq (g2 := F0 m 15 ls []) rfl ?_
    rw [cnt_eq hrx.1.1 hK8 (kept S k) hkn] at hw
    have hw : ww D cI (va_A ([(a, .inr (3, [.ref aL, .ref pa.1, .ref ta.1, .ref da.1, .int (nI (sLp S)), .int (nI (sPt S)), .int (nI (sWk S)), .int (nI (sDo S)), .int (nI (sAt S)), .int (sC2 S), .int (sC3 S), .int (sC4 S), .int (sC5 S)]))] ++ (wL cI aL x.1 S.1 x.2.1 ++ (wG cI pa S.2.1 ++ (wT cI ta x.2.2.1 x.2.2.2.1 ++ wT cI da x.2.2.2.2.1 x.2.2.2.2.2)))) s.heap.size) s.heap s ([(a, .inr (3, [.ref aL, .ref pa.1, .ref ta.1, .ref da.1, .int (nI (sLp S)), .int (nI (sPt S)), .int (nI (sWk S)), .int (nI (sDo S)), .int (nI (sAt S)), .int (sC2 S), .int (sC3 S), .int (sC4 S), .int (sC5 S)]))] ++ (wL cI aL x.1 (los S k).1 x.2.1 ++ (wG cI pa S.2.1 ++ (wT cI ta x.2.2.1 x.2.2.2.1 ++ wT cI da x.2.2.2.2.1 x.2.2.2.2.2)))) H locs := hw
    refine lv_aload_n hx hb dX3_loss_15 rfl (lv_at hl 0 rfl) ?_
    refine ww_get hx hb hts hin3 hown hw 0 rfl rfl 1 (by decide) k19 rfl dX3_loss_16 ?_
    refine ww_callV ([(a, .inr (3, [.ref aL, .ref pa.1, .ref ta.1, .ref da.1, .int (nI (sLp S)), .int (nI (sPt S)), .int (nI (sWk S)), .int (nI (sDo S)), .int (nI (sAt S)), .int (sC2 S), .int (sC3 S), .int (sC4 S), .int (sC5 S)]))] ++ wL cI aL x.1 (los S k).1 x.2.1) (wT cI ta x.2.2.1 x.2.2.2.1 ++ wT cI da x.2.2.2.2.1 x.2.2.2.2.2) (As := []) (rest := []) ⟨hx, hb, hml, hown, hts⟩ (cP_readAll l D cI pa.1 pa.2.1 pa.2.2.1 pa.2.2.2.1 pa.2.2.2.2 S.2.1.1 S.2.1.2.1 S.2.1.2.2.1 S.2.1.2.2.2) gX3_loss_X1_readAllFromMedium rfl hd_X1_readAllFromMedium ⟨Nat.le_of_ble_eq_true rfl, Nat.le_of_ble_eq_true rfl⟩ hw rfl rfl rfl rfl rfl hl.1 (Nat.le_of_ble_eq_true rfl) dX3_loss_19 ⟨Nat.zero_le _, Nat.zero_le _⟩ (fun rv u H locs hq hw => ?_)
    obtain ⟨rfl, -⟩ := hq
    have hw : ww D cI _ _ s ([(a, .inr (3, [.ref aL, .ref pa.1, .ref ta.1, .ref da.1, .int (nI (sLp S)), .int (nI (sPt S)), .int (nI (sWk S)), .int (nI (sDo S)), .int (nI (sAt S)), .int (sC2 S), .int (sC3 S), .int (sC4 S), .int (sC5 S)]))] ++ (wL cI aL x.1 (los S k).1 x.2.1 ++ (wG cI pa (los S k).2.1 ++ (wT cI ta x.2.2.1 x.2.2.2.1 ++ wT cI da x.2.2.2.2.1 x.2.2.2.2.2)))) H locs := hw
    refine W.eq (g2 := F0 m 22 ls []) rfl ?_
    refine lv_aload_n hx hb dX3_loss_22 rfl (lv_at hl 0 rfl) ?_
    refine ww_get hx hb hts hin3 hown hw 0 rfl rfl 2 (by decide) k26 rfl dX3_loss_23 ?_
    refine ww_callV ([(a, .inr (3, [.ref aL, .ref pa.1, .ref ta.1, .ref da.1, .int (nI (sLp S)), .int (nI (sPt S)), .int (nI (sWk S)), .int (nI (sDo S)), .int (nI (sAt S)), .int (sC2 S), .int (sC3 S), .int (sC4 S), .int (sC5 S)]))] ++ (wL cI aL x.1 (los S k).1 x.2.1 ++ wG cI pa (los S k).2.1)) (wT cI da x.2.2.2.2.1 x.2.2.2.2.2) (As := []) (rest := []) ⟨hx, hb, hml, hown, hts⟩ (cT_makeEmpty l D cI ta.1 ta.2.1 ta.2.2.1 ta.2.2.2.1 ta.2.2.2.2.1 ta.2.2.2.2.2 x.2.2.1 x.2.2.2.1) gX3_loss_X2_makeEmpty rfl hd_X2_makeEmpty ⟨Nat.le_of_ble_eq_true rfl, Nat.le_of_ble_eq_true rfl⟩ hw rfl rfl rfl rfl rfl hl.1 (Nat.le_of_ble_eq_true rfl) dX3_loss_26 ⟨Nat.zero_le _, Nat.zero_le _⟩ (fun rv u H locs hq hw => ?_)
    obtain ⟨u5, rfl⟩ : ∃ q, q = u := ⟨_, rfl⟩
    obtain ⟨rfl, hu5⟩ := hq
    have hw : ww D cI _ _ s ([(a, .inr (3, [.ref aL, .ref pa.1, .ref ta.1, .ref da.1, .int (nI (sLp S)), .int (nI (sPt S)), .int (nI (sWk S)), .int (nI (sDo S)), .int (nI (sAt S)), .int (sC2 S), .int (sC3 S), .int (sC4 S), .int (sC5 S)]))] ++ (wL cI aL x.1 (los S k).1 x.2.1 ++ (wG cI pa (los S k).2.1 ++ (wT cI ta (0, x.2.2.1.2.1, x.2.2.1.2.2.1, x.2.2.1.2.2.2.1, x.2.2.1.2.2.2.2) u5 ++ wT cI da x.2.2.2.2.1 x.2.2.2.2.2)))) H locs := hw
    refine W.eq (g2 := F0 m 29 ls []) rfl ?_
    refine lv_aload_n hx hb dX3_loss_29 rfl (lv_at hl 0 rfl) ?_
    refine lv_iconst (v := nI 1) hx hb dX3_loss_30 (by decide +kernel) ?_
    refine ww_put (ws' := [(a, .inr (3, [.ref aL, .ref pa.1, .ref ta.1, .ref da.1, .int (nI (sLp S)), .int (nI (sPt S)), .int (nI (sWk S)), .int (nI 1), .int (nI (sAt S)), .int (sC2 S), .int (sC3 S), .int (sC4 S), .int (sC5 S)]))] ++ (wL cI aL x.1 (los S k).1 x.2.1 ++ (wG cI pa (los S k).2.1 ++ (wT cI ta (0, x.2.2.1.2.1, x.2.2.1.2.2.1, x.2.2.1.2.2.2.1, x.2.2.1.2.2.2.2) u5 ++ wT cI da x.2.2.2.2.1 x.2.2.2.2.2)))) hx hb hts hin3 tyX3 tyX3_ok nmX3 hown hw 0 rfl rfl 7 (by decide) k43 rfl rfl rfl (Nat.le_of_ble_eq_true rfl) rfl dX3_loss_31 (fun H locs hw => ?_)
    refine lv_aload_n hx hb dX3_loss_34 rfl (lv_at hl 0 rfl) ?_
    refine W.eq (g2 := F0 m 35 ls [.ref a]) rfl ?_
    refine lv_aload_n hx hb dX3_loss_35 rfl (lv_at hl 0 rfl) ?_
    refine ww_get hx hb hts hin3 hown hw 0 rfl rfl 4 (by decide) k33 rfl dX3_loss_36 ?_
    refine lv_iconst (v := nI 1) hx hb dX3_loss_39 (by decide +kernel) ?_
    refine va_mmax hx hb (hml.trans hl.1.symm) hown (hts (.methodLink RX3 139 Lib.Math.max.name) (by decide +kernel)) (hts (.static Lib.Math.max.name) (by decide +kernel)) (hts (.initialized "java/lang/Math") (by decide +kernel)) (hts _ (List.mem_of_getElem? (l := wsX3_loss) (i := 9) rfl)) (Nat.le_of_ble_eq_true rfl) (Nat.le_of_ble_eq_true rfl) (Nat.zero_le _) (Nat.zero_le _) dX3_loss_40 ?_
    refine lv_eqi (show _ = nI (max (sLp S) 1) from nI_max (by have := Inv0_lp hI; omega) (by omega)) ?_
    refine ww_put (ws' := [(a, .inr (3, [.ref aL, .ref pa.1, .ref ta.1, .ref da.1, .int (nI (sLp S)), .int (nI (sPt S)), .int (nI (sWk S)), .int (nI 1), .int (nI (max (sLp S) 1)), .int (sC2 S), .int (sC3 S), .int (sC4 S), .int (sC5 S)]))] ++ (wL cI aL x.1 (los S k).1 x.2.1 ++ (wG cI pa (los S k).2.1 ++ (wT cI ta (0, x.2.2.1.2.1, x.2.2.1.2.2.1, x.2.2.1.2.2.2.1, x.2.2.1.2.2.2.2) u5 ++ wT cI da x.2.2.2.2.1 x.2.2.2.2.2)))) hx hb hts hin3 tyX3 tyX3_ok nmX3 hown hw 0 rfl rfl 8 (by decide) k46 rfl rfl rfl (Nat.le_of_ble_eq_true rfl) rfl dX3_loss_43 (fun H locs hw => ?_)
    have hw : ww D cI (va_A ([(a, .inr (3, [.ref aL, .ref pa.1, .ref ta.1, .ref da.1, .int (nI (sLp S)), .int (nI (sPt S)), .int (nI (sWk S)), .int (nI (sDo S)), .int (nI (sAt S)), .int (sC2 S), .int (sC3 S), .int (sC4 S), .int (sC5 S)]))] ++ (wL cI aL x.1 S.1 x.2.1 ++ (wG cI pa S.2.1 ++ (wT cI ta x.2.2.1 x.2.2.2.1 ++ wT cI da x.2.2.2.2.1 x.2.2.2.2.2)))) s.heap.size) s.heap s ([(a, .inr (3, [.ref aL, .ref pa.1, .ref ta.1, .ref da.1, .int (nI (sLp (los S k))), .int (nI (sPt (los S k))), .int (nI (sWk (los S k))), .int (nI (sDo (los S k))), .int (nI (sAt (los S k))), .int (sC2 (los S k)), .int (sC3 (los S k)), .int (sC4 (los S k)), .int (sC5 (los S k))]))] ++ (wL cI aL ((x.1, x.2.1, (0, x.2.2.1.2.1, x.2.2.1.2.2.1, x.2.2.1.2.2.2.1, x.2.2.1.2.2.2.2), u5, x.2.2.2.2).1) ((los S k).1) ((x.1, x.2.1, (0, x.2.2.1.2.1, x.2.2.1.2.2.1, x.2.2.1.2.2.2.1, x.2.2.1.2.2.2.2), u5, x.2.2.2.2).2.1) ++ (wG cI pa ((los S k).2.1) ++ (wT cI ta ((x.1, x.2.1, (0, x.2.2.1.2.1, x.2.2.1.2.2.1, x.2.2.1.2.2.2.1, x.2.2.1.2.2.2.2), u5, x.2.2.2.2).2.2.1) ((x.1, x.2.1, (0, x.2.2.1.2.1, x.2.2.1.2.2.1, x.2.2.1.2.2.2.1, x.2.2.1.2.2.2.2), u5, x.2.2.2.2).2.2.2.1) ++ wT cI da ((x.1, x.2.1, (0, x.2.2.1.2.1, x.2.2.1.2.2.1, x.2.2.1.2.2.2.1, x.2.2.1.2.2.2.2), u5, x.2.2.2.2).2.2.2.2.1) ((x.1, x.2.1, (0, x.2.2.1.2.1, x.2.2.1.2.2.1, x.2.2.1.2.2.2.1, x.2.2.1.2.2.2.2), u5, x.2.2.2.2).2.2.2.2.2))))) H locs := hw
    have hrl : RX (los S k) (x.1, x.2.1, (0, x.2.2.1.2.1, x.2.2.1.2.2.1, x.2.2.1.2.2.2.1, x.2.2.1.2.2.2.2), u5, x.2.2.2.2) := ⟨⟨fun r r1 r2 => hrx.1.1 r r1 (Nat.le_trans r2 hkn), by have := hrx.1.2.1; have hkn : kept S k ≤ S.1.1 := hkn; show kept S k * 7 ≤ S.1.2.2.2.1; omega, hrx.1.2.2.1, hrx.1.2.2.2.1, Nat.le_refl _⟩, TR_0 rfl, fun p hp => ⟨hu5 p hp, by show 0 < 2 ^ 31; omega⟩, hrx.2.2.2⟩
    have hlpn := Inv0_lp hI
    refine lv_aload_n hx hb dX3_loss_46 rfl (lv_at hl 0 rfl) ?_
    refine ww_callA (As := []) (rest := []) ⟨hx, hb, hml, hown, hts⟩ (cS_pas l D cI a aL pa ta da (los S k) (x.1, x.2.1, (0, x.2.2.1.2.1, x.2.2.1.2.2.1, x.2.2.1.2.2.2.1, x.2.2.1.2.2.2.2), u5, x.2.2.2.2) b hIl hb4 hrl (by show max (sLp S) 1 < 2 ^ 31; omega)) gX3_loss_X3_passOverPartsWithoutSteps rfl hd_X3_passOverPartsWithoutSteps ⟨Nat.le_of_ble_eq_true rfl, Nat.le_of_ble_eq_true rfl⟩ hw rfl rfl rfl rfl hl.1 (Nat.le_of_ble_eq_true rfl) dX3_loss_47 ⟨Nat.zero_le _, Nat.zero_le _⟩ (fun rv u H locs hq hw => ?_)
    obtain ⟨rfl, hq⟩ := hq
    have hw : ww D cI _ _ s ([(a, .inr (3, [.ref aL, .ref pa.1, .ref ta.1, .ref da.1, .int (nI (sLp (pas (los S k)))), .int (nI (sPt (pas (los S k)))), .int (nI (sWk (pas (los S k)))), .int (nI (sDo (pas (los S k)))), .int (nI (sAt (pas (los S k)))), .int (sC2 (pas (los S k))), .int (sC3 (pas (los S k))), .int (sC4 (pas (los S k))), .int (sC5 (pas (los S k)))]))] ++ (wL cI aL u.1 ((pas (los S k)).1) u.2.1 ++ (wG cI pa ((pas (los S k)).2.1) ++ (wT cI ta u.2.2.1 u.2.2.2.1 ++ wT cI da u.2.2.2.2.1 u.2.2.2.2.2)))) H locs := hw
    refine W.eq (g2 := F0 m 50 ls []) rfl ?_
    have hpn : sN (pas (los S k)) = kept S k := (pas_n (los S k)).1
    obtain ⟨Sf, hSf⟩ : ∃ Sf, pas (los S k) = Sf := ⟨_, rfl⟩
    rw [hSf] at hw hq hE hpn
    refine lv_aload_n hx hb dX3_loss_50 rfl (lv_at hl 0 rfl) ?_
    refine ww_get hx hb hts hin3 hown hw 0 rfl rfl 0 (by decide) k10 rfl dX3_loss_51 ?_
    refine ww_callV ([(a, .inr (3, [.ref aL, .ref pa.1, .ref ta.1, .ref da.1, .int (nI (sLp Sf)), .int (nI (sPt Sf)), .int (nI (sWk Sf)), .int (nI (sDo Sf)), .int (nI (sAt Sf)), .int (sC2 Sf), .int (sC3 Sf), .int (sC4 Sf), .int (sC5 Sf)]))]) (wG cI pa Sf.2.1 ++ (wT cI ta u.2.2.1 u.2.2.2.1 ++ wT cI da u.2.2.2.2.1 u.2.2.2.2.2)) (As := []) (rest := []) ⟨hx, hb, hml, hown, hts⟩ (cL_recordsHeld l D cI aL u.1 Sf.1.2.2.2.1 Sf.1.1 Sf.1.2.1 Sf.1.2.2.1 u.2.1) gX3_loss_X0_recordsHeld rfl hd_X0_recordsHeld ⟨Nat.le_of_ble_eq_true rfl, Nat.le_of_ble_eq_true rfl⟩ hw rfl rfl rfl rfl rfl hl.1 (Nat.le_of_ble_eq_true rfl) dX3_loss_54 ⟨Nat.zero_le _, Nat.zero_le _⟩ (fun rv u9 H locs hq2 hw => ?_)
    obtain ⟨rr, rfl, hq2⟩ := hq2
    rw [show Sf.1.1 = kept S k from hpn] at hq2
    subst hq2
    have hw : ww D cI _ _ s ([(a, .inr (3, [.ref aL, .ref pa.1, .ref ta.1, .ref da.1, .int (nI (sLp Sf)), .int (nI (sPt Sf)), .int (nI (sWk Sf)), .int (nI (sDo Sf)), .int (nI (sAt Sf)), .int (sC2 Sf), .int (sC3 Sf), .int (sC4 Sf), .int (sC5 Sf)]))] ++ (wL cI aL u.1 Sf.1 u.2.1 ++ (wG cI pa Sf.2.1 ++ (wT cI ta u.2.2.1 u.2.2.2.1 ++ wT cI da u.2.2.2.2.1 u.2.2.2.2.2)))) H locs := hw
    refine W.eq (g2 := F0 m 57 ls [.int (nI (kept S k))]) rfl ?_
    have hw : ww D cI (va_A ([(a, .inr (3, [.ref aL, .ref pa.1, .ref ta.1, .ref da.1, .int (nI (sLp S)), .int (nI (sPt S)), .int (nI (sWk S)), .int (nI (sDo S)), .int (nI (sAt S)), .int (sC2 S), .int (sC3 S), .int (sC4 S), .int (sC5 S)]))] ++ (wL cI aL x.1 S.1 x.2.1 ++ (wG cI pa S.2.1 ++ (wT cI ta x.2.2.1 x.2.2.2.1 ++ wT cI da x.2.2.2.2.1 x.2.2.2.2.2)))) s.heap.size) s.heap s ([(a, .inr (3, [.ref aL, .ref pa.1, .ref ta.1, .ref da.1, .int (nI (sLp ((oLoss S (nI k)).2))), .int (nI (sPt ((oLoss S (nI k)).2))), .int (nI (sWk ((oLoss S (nI k)).2))), .int (nI (sDo ((oLoss S (nI k)).2))), .int (nI (sAt ((oLoss S (nI k)).2))), .int (sC2 ((oLoss S (nI k)).2)), .int (sC3 ((oLoss S (nI k)).2)), .int (sC4 ((oLoss S (nI k)).2)), .int (sC5 ((oLoss S (nI k)).2))]))] ++ (wL cI aL u.1 (((oLoss S (nI k)).2).1) u.2.1 ++ (wG cI pa (((oLoss S (nI k)).2).2.1) ++ (wT cI ta u.2.2.1 u.2.2.2.1 ++ wT cI da u.2.2.2.2.1 u.2.2.2.2.2)))) H locs := by rw [hE]; exact hw
    exact ww_iret (u := u) hx hb hr hlk hw (by rw [hE]; exact ⟨rfl, hq⟩) (Nat.zero_le _) (Nat.zero_le _) dX3_loss_57
  · have hz : y1 < 0 := by rw [i_lt, z_0]; rw [i_le, z_0] at c_1; omega
    have hE : oLoss S y1 = (xOUT, S) := by rw [oLoss, if_pos hz]
    have hE2 : sCap (oLoss S y1).2 = sCap S := by rw [hE]
    have hw : ww D cI (va_A ([(a, .inr (3, [.ref aL, .ref pa.1, .ref ta.1, .ref da.1, .int (nI (sLp S)), .int (nI (sPt S)), .int (nI (sWk S)), .int (nI (sDo S)), .int (nI (sAt S)), .int (sC2 S), .int (sC3 S), .int (sC4 S), .int (sC5 S)]))] ++ (wL cI aL x.1 S.1 x.2.1 ++ (wG cI pa S.2.1 ++ (wT cI ta x.2.2.1 x.2.2.2.1 ++ wT cI da x.2.2.2.2.1 x.2.2.2.2.2)))) s.heap.size) s.heap s ([(a, .inr (3, [.ref aL, .ref pa.1, .ref ta.1, .ref da.1, .int (nI (sLp ((oLoss S y1).2))), .int (nI (sPt ((oLoss S y1).2))), .int (nI (sWk ((oLoss S y1).2))), .int (nI (sDo ((oLoss S y1).2))), .int (nI (sAt ((oLoss S y1).2))), .int (sC2 ((oLoss S y1).2)), .int (sC3 ((oLoss S y1).2)), .int (sC4 ((oLoss S y1).2)), .int (sC5 ((oLoss S y1).2))]))] ++ (wL cI aL x.1 (((oLoss S y1).2).1) x.2.1 ++ (wG cI pa (((oLoss S y1).2).2.1) ++ (wT cI ta x.2.2.1 x.2.2.2.1 ++ wT cI da x.2.2.2.2.1 x.2.2.2.2.2)))) s.heap [] := by rw [hE]; exact hw
    refine lv_bipush (v := (-102)) hx hb dX3_loss_4 (by decide +kernel) ?_
    exact ww_iret (u := x) hx hb hr hlk hw (by rw [hE]; exact ⟨rfl, hrx⟩) (Nat.zero_le _) (Nat.zero_le _) dX3_loss_6
set_option maxHeartbeats 1000000 in
set_option maxRecDepth 100000 in
theorem cF_restart (l : Launch) (D : va_G) (cI : ClassId) (a aL : Nat) (pa : A5) (ta da : A6) (S : SS) (x : XG) (b : Nat) (hI0 : Inv b S) (h5 : E5 S) (hb4 : b ≤ 4000) (hrx : RX S x) (hat1 : sAt S ≤ b + 1) (y1 : Int32) : Kt l yX3_restart wsX3_restart 6 132 (sCap (oRest S y1).2 - sCap S) (2 * (sCap (oRest S y1).2 - sCap S)) D cI [.ref a, .int y1] ([(a, .inr (3, [.ref aL, .ref pa.1, .ref ta.1, .ref da.1, .int (nI (sLp S)), .int (nI (sPt S)), .int (nI (sWk S)), .int (nI (sDo S)), .int (nI (sAt S)), .int (sC2 S), .int (sC3 S), .int (sC4 S), .int (sC5 S)]))] ++ (wL cI aL x.1 S.1 x.2.1 ++ (wG cI pa S.2.1 ++ (wT cI ta x.2.2.1 x.2.2.2.1 ++ wT cI da x.2.2.2.2.1 x.2.2.2.2.2)))) (pI (fun (r : Int32) (u : XG) => r = (oRest S y1).1 ∧ RX (oRest S y1).2 u)) (fun (u : XG) => [(a, .inr (3, [.ref aL, .ref pa.1, .ref ta.1, .ref da.1, .int (nI (sLp ((oRest S y1).2))), .int (nI (sPt ((oRest S y1).2))), .int (nI (sWk ((oRest S y1).2))), .int (nI (sDo ((oRest S y1).2))), .int (nI (sAt ((oRest S y1).2))), .int (sC2 ((oRest S y1).2)), .int (sC3 ((oRest S y1).2)), .int (sC4 ((oRest S y1).2)), .int (sC5 ((oRest S y1).2))]))] ++ (wL cI aL u.1 (((oRest S y1).2).1) u.2.1 ++ (wG cI pa (((oRest S y1).2).2.1) ++ (wT cI ta u.2.2.1 u.2.2.2.1 ++ wT cI da u.2.2.2.2.1 u.2.2.2.2.2)))) := by
  refine kt_start (cc := cX3_restart) (maxL := 3) (ret := (some .int)) (by decide +kernel) rfl (Nat.le_of_ble_eq_true rfl) ?_
  intro p e s m below meth c hx hb hml hr hlk hown hnm hts ls hl hw
  have hown : s.vm.findClass RX3 = some m.cls := hown
  have hl : lv_has ls 3 [(0, .ref a), (1, .int y1)] := hl
  have k43 := hts (.fieldLink RX3 43 "RestartBook" "doing" "I") (by decide +kernel)
  have hin3 : ∀ w ∈ u_ws RX3 TX3 13, w ∈ wsX3_restart := in_X3_restart
  have hI := hI0.1
  have hn4 := Inv0_n hI
  have hwk := hI.2.1.2.1
  have hdo4 : sDo S ≤ 4 := by rcases hI.2.2.2.2.2 with z | z | z <;> omega
  refine lv_iload_n hx hb dX3_restart_0 rfl (lv_at hl 1 rfl) ?_
  refine lv_if_ge (tgt := 7) hx hb dX3_restart_1 (by decide) (fun c_1 => ?_) (fun c_1 => ?_)
  · have hz : ¬ y1 < 0 := by rw [i_lt, z_0]; rw [i_le, z_0] at c_1; omega
    obtain ⟨k, hk, rfl⟩ := nI_of hz
    have hck : cl (nI k) = k := cl_nI hk
    have hE : oRest S (nI k) = (nI (stpL k S).1, (stpL k S).2) := by rw [oRest, if_neg hz, hck]
    have hE3 : sCap (oRest S (nI k)).2 = sCap (stpL k S).2 := by rw [hE]
    refine lv_iconst (v := nI 0) hx hb dX3_restart_7 (by decide +kernel) ?_
    refine lv_istore_n (lv' := [(2, .int (nI 0)), (0, .ref a), (1, .int (nI k))]) hx hb dX3_restart_8 rfl hl (by decide) rfl (fun ls hl => ?_)
    have lp : ∀ (t : Nat) (i : Nat) (Sc : SS) (xc : XG) (H : Heap) (locs : List Loc) (ls : Array Slot), k - i < t → (i ≤ k) → (InvF b Sc) → (RX Sc xc) → (sCap S ≤ sCap Sc) → ((stpL k S) = ((stpL (k - i) Sc).1 + i, (stpL (k - i) Sc).2)) → ww D cI (va_A ([(a, .inr (3, [.ref aL, .ref pa.1, .ref ta.1, .ref da.1, .int (nI (sLp S)), .int (nI (sPt S)), .int (nI (sWk S)), .int (nI (sDo S)), .int (nI (sAt S)), .int (sC2 S), .int (sC3 S), .int (sC4 S), .int (sC5 S)]))] ++ (wL cI aL x.1 S.1 x.2.1 ++ (wG cI pa S.2.1 ++ (wT cI ta x.2.2.1 x.2.2.2.1 ++ wT cI da x.2.2.2.2.1 x.2.2.2.2.2)))) s.heap.size) s.heap s ([(a, .inr (3, [.ref aL, .ref pa.1, .ref ta.1, .ref da.1, .int (nI (sLp Sc)), .int (nI (sPt Sc)), .int (nI (sWk Sc)), .int (nI (sDo Sc)), .int (nI (sAt Sc)), .int (sC2 Sc), .int (sC3 Sc), .int (sC4 Sc), .int (sC5 Sc)]))] ++ (wL cI aL xc.1 Sc.1 xc.2.1 ++ (wG cI pa Sc.2.1 ++ (wT cI ta xc.2.2.1 xc.2.2.2.1 ++ wT cI da xc.2.2.2.2.1 xc.2.2.2.2.2)))) H locs → lv_has ls 3 [(2, .int (nI i)), (0, .ref a), (1, .int (nI k))] → W p l e { frames := 6, cells := sCap (oRest S (nI k)).2 - sCap S, slots := 2 * (sCap (oRest S (nI k)).2 - sCap S), locals := 132 } s m [.ref a, .int (nI k)].toArray below meth c H locs (sCap Sc - sCap S) (2 * (sCap Sc - sCap S)) (MQ below (kQ D cI ([(a, .inr (3, [.ref aL, .ref pa.1, .ref ta.1, .ref da.1, .int (nI (sLp S)), .int (nI (sPt S)), .int (nI (sWk S)), .int (nI (sDo S)), .int (nI (sAt S)), .int (sC2 S), .int (sC3 S), .int (sC4 S), .int (sC5 S)]))] ++ (wL cI aL x.1 S.1 x.2.1 ++ (wG cI pa S.2.1 ++ (wT cI ta x.2.2.1 x.2.2.2.1 ++ wT cI da x.2.2.2.2.1 x.2.2.2.2.2)))) s.heap.size (pI (fun (r : Int32) (u : XG) => r = (oRest S (nI k)).1 ∧ RX (oRest S (nI k)).2 u)) (fun (u : XG) => [(a, .inr (3, [.ref aL, .ref pa.1, .ref ta.1, .ref da.1, .int (nI (sLp ((oRest S (nI k)).2))), .int (nI (sPt ((oRest S (nI k)).2))), .int (nI (sWk ((oRest S (nI k)).2))), .int (nI (sDo ((oRest S (nI k)).2))), .int (nI (sAt ((oRest S (nI k)).2))), .int (sC2 ((oRest S (nI k)).2)), .int (sC3 ((oRest S (nI k)).2)), .int (sC4 ((oRest S (nI k)).2)), .int (sC5 ((oRest S (nI k)).2))]))] ++ (wL cI aL u.1 (((oRest S (nI k)).2).1) u.2.1 ++ (wG cI pa (((oRest S (nI k)).2).2.1) ++ (wT cI ta u.2.2.1 u.2.2.2.1 ++ wT cI da u.2.2.2.2.1 u.2.2.2.2.2))))) [.ref a, .int (nI k)].toArray s (sCap (oRest S (nI k)).2 - sCap S) (2 * (sCap (oRest S (nI k)).2 - sCap S)) (va_A ([(a, .inr (3, [.ref aL, .ref pa.1, .ref ta.1, .ref da.1, .int (nI (sLp S)), .int (nI (sPt S)), .int (nI (sWk S)), .int (nI (sDo S)), .int (nI (sAt S)), .int (sC2 S), .int (sC3 S), .int (sC4 S), .int (sC5 S)]))] ++ (wL cI aL x.1 S.1 x.2.1 ++ (wG cI pa S.2.1 ++ (wT cI ta x.2.2.1 x.2.2.2.1 ++ wT cI da x.2.2.2.2.1 x.2.2.2.2.2)))) s.heap.size)) (F0 m 9 ls []) := by
      intro t
      induction t with
      | zero => intro i Sc xc H locs ls ht; exact absurd ht (Nat.not_lt_zero _)
      | succ t ih_9 =>
        intro i Sc xc H locs ls ht hi0 hF2 hr2 hcm he hw hl
        refine lv_iload_n hx hb dX3_restart_9 rfl (lv_at hl 0 rfl) ?_
        refine lv_iload_n hx hb dX3_restart_10 rfl (lv_at hl 2 rfl) ?_
        refine lv_icmp_ge (tgt := 31) hx hb dX3_restart_11 (by decide) (fun c_11 => ?_) (fun c_11 => ?_)
        · have hdc : sDo Sc ≤ 4 := by rcases hF2.1.1.2.2.2.2.2 with z | z | z <;> omega
          have hEs : (stpL k S) = (i, Sc) := by
            rw [he]
            first
            | (rw [stpL_stop (nI_q (by omega) (by omega) (c_18.trans nI_0.symm))]; exact Prod.ext (Nat.zero_add _) rfl)
            | (rw [show k - i = 0 by simp (disch := omega) only [i_le, nI_toInt] at c_11; omega]; exact Prod.ext (Nat.zero_add _) rfl)
          have hE2 : sCap (oRest S (nI k)).2 = sCap Sc := by rw [hE3, hEs]
          have hw : ww D cI (va_A ([(a, .inr (3, [.ref aL, .ref pa.1, .ref ta.1, .ref da.1, .int (nI (sLp S)), .int (nI (sPt S)), .int (nI (sWk S)), .int (nI (sDo S)), .int (nI (sAt S)), .int (sC2 S), .int (sC3 S), .int (sC4 S), .int (sC5 S)]))] ++ (wL cI aL x.1 S.1 x.2.1 ++ (wG cI pa S.2.1 ++ (wT cI ta x.2.2.1 x.2.2.2.1 ++ wT cI da x.2.2.2.2.1 x.2.2.2.2.2)))) s.heap.size) s.heap s ([(a, .inr (3, [.ref aL, .ref pa.1, .ref ta.1, .ref da.1, .int (nI (sLp ((oRest S (nI k)).2))), .int (nI (sPt ((oRest S (nI k)).2))), .int (nI (sWk ((oRest S (nI k)).2))), .int (nI (sDo ((oRest S (nI k)).2))), .int (nI (sAt ((oRest S (nI k)).2))), .int (sC2 ((oRest S (nI k)).2)), .int (sC3 ((oRest S (nI k)).2)), .int (sC4 ((oRest S (nI k)).2)), .int (sC5 ((oRest S (nI k)).2))]))] ++ (wL cI aL xc.1 (((oRest S (nI k)).2).1) xc.2.1 ++ (wG cI pa (((oRest S (nI k)).2).2.1) ++ (wT cI ta xc.2.2.1 xc.2.2.2.1 ++ wT cI da xc.2.2.2.2.1 xc.2.2.2.2.2)))) H locs := by rw [hE, hEs]; exact hw
          refine lv_iload_n hx hb dX3_restart_31 rfl (lv_at hl 0 rfl) ?_
          exact ww_iret (u := xc) hx hb hr hlk hw (by rw [hE, hEs]; exact ⟨rfl, hr2⟩) (by rw [hE2]; omega) (by rw [hE2]; omega) dX3_restart_32
        · refine lv_aload_n hx hb dX3_restart_14 rfl (lv_at hl 1 rfl) ?_
          refine ww_get hx hb hts hin3 hown hw 0 rfl rfl 7 (by decide) k43 rfl dX3_restart_15 ?_
          refine lv_if_eq (tgt := 31) hx hb dX3_restart_18 (by decide) (fun c_18 => ?_) (fun c_18 => ?_)
          · have hdc : sDo Sc ≤ 4 := by rcases hF2.1.1.2.2.2.2.2 with z | z | z <;> omega
            have hEs : (stpL k S) = (i, Sc) := by
              rw [he]
              first
              | (rw [stpL_stop (nI_q (by omega) (by omega) (c_18.trans nI_0.symm))]; exact Prod.ext (Nat.zero_add _) rfl)
              | (rw [show k - i = 0 by simp (disch := omega) only [i_le, nI_toInt] at c_11; omega]; exact Prod.ext (Nat.zero_add _) rfl)
            have hE2 : sCap (oRest S (nI k)).2 = sCap Sc := by rw [hE3, hEs]
            have hw : ww D cI (va_A ([(a, .inr (3, [.ref aL, .ref pa.1, .ref ta.1, .ref da.1, .int (nI (sLp S)), .int (nI (sPt S)), .int (nI (sWk S)), .int (nI (sDo S)), .int (nI (sAt S)), .int (sC2 S), .int (sC3 S), .int (sC4 S), .int (sC5 S)]))] ++ (wL cI aL x.1 S.1 x.2.1 ++ (wG cI pa S.2.1 ++ (wT cI ta x.2.2.1 x.2.2.2.1 ++ wT cI da x.2.2.2.2.1 x.2.2.2.2.2)))) s.heap.size) s.heap s ([(a, .inr (3, [.ref aL, .ref pa.1, .ref ta.1, .ref da.1, .int (nI (sLp ((oRest S (nI k)).2))), .int (nI (sPt ((oRest S (nI k)).2))), .int (nI (sWk ((oRest S (nI k)).2))), .int (nI (sDo ((oRest S (nI k)).2))), .int (nI (sAt ((oRest S (nI k)).2))), .int (sC2 ((oRest S (nI k)).2)), .int (sC3 ((oRest S (nI k)).2)), .int (sC4 ((oRest S (nI k)).2)), .int (sC5 ((oRest S (nI k)).2))]))] ++ (wL cI aL xc.1 (((oRest S (nI k)).2).1) xc.2.1 ++ (wG cI pa (((oRest S (nI k)).2).2.1) ++ (wT cI ta xc.2.2.1 xc.2.2.2.1 ++ wT cI da xc.2.2.2.2.1 xc.2.2.2.2.2)))) H locs := by rw [hE, hEs]; exact hw
            refine lv_iload_n hx hb dX3_restart_31 rfl (lv_at hl 0 rfl) ?_
            exact ww_iret (u := xc) hx hb hr hlk hw (by rw [hE, hEs]; exact ⟨rfl, hr2⟩) (by rw [hE2]; omega) (by rw [hE2]; omega) dX3_restart_32
          · have hi : i < k := by simp (disch := omega) only [i_le, nI_toInt] at c_11; omega
            have hdc : sDo Sc ≤ 4 := by rcases hF2.1.1.2.2.2.2.2 with z | z | z <;> omega
            have hd0 : ¬ sDo Sc = 0 := fun q => c_18 ((congrArg nI q).trans nI_0)
            have hF3 := InvF_stp hF2
            have hcs := hF3.2
            have hfin : sCap (stp Sc) ≤ sCap (oRest S (nI k)).2 := by rw [hE3, he, stpL_go (by omega) hd0]; exact (InvF_stpL (k - i - 1) hF3.1).2.1
            refine lv_aload_n hx hb dX3_restart_21 rfl (lv_at hl 1 rfl) ?_
            refine ww_callA (As := []) (rest := []) ⟨hx, hb, hml, hown, hts⟩ (cS_makeStep l D cI a aL pa ta da Sc xc b hF2.1 hF2.2.1 hb4 hr2 (by omega) (by have := hF2.2.2; omega)) gX3_restart_X3_makeStep rfl hd_X3_makeStep ⟨Nat.le_of_ble_eq_true rfl, Nat.le_of_ble_eq_true rfl⟩ hw rfl rfl rfl rfl hl.1 (Nat.le_of_ble_eq_true rfl) dX3_restart_22 ⟨by show _ ≤ sCap (oRest S (nI k)).2 - sCap S; omega, by show _ ≤ 2 * (sCap (oRest S (nI k)).2 - sCap S); omega⟩ (fun rv u H locs hq hw => ?_)
            obtain ⟨rfl, hq⟩ := hq
            have hw : ww D cI _ _ s ([(a, .inr (3, [.ref aL, .ref pa.1, .ref ta.1, .ref da.1, .int (nI (sLp (stp Sc))), .int (nI (sPt (stp Sc))), .int (nI (sWk (stp Sc))), .int (nI (sDo (stp Sc))), .int (nI (sAt (stp Sc))), .int (sC2 (stp Sc)), .int (sC3 (stp Sc)), .int (sC4 (stp Sc)), .int (sC5 (stp Sc))]))] ++ (wL cI aL u.1 ((stp Sc).1) u.2.1 ++ (wG cI pa ((stp Sc).2.1) ++ (wT cI ta u.2.2.1 u.2.2.2.1 ++ wT cI da u.2.2.2.2.1 u.2.2.2.2.2)))) H locs := hw
            refine W.eq (g2 := F0 m 25 ls []) rfl ?_
            refine lv_iinc (v := nI (i + 1)) (lv' := [(2, .int (nI (i + 1))), (0, .ref a), (1, .int (nI k))]) hx hb dX3_restart_25 hl (k := 0) rfl (nI_add _ _) (by decide) rfl (fun ls hl => ?_)
            refine lv_goto (tgt := 9) hx hb dX3_restart_28 (by decide) ?_
            refine W.widen (k := sCap (stp Sc) - sCap S) (n := 2 * (sCap (stp Sc) - sCap S)) (by omega) (by omega) ?_
            exact ih_9 (i + 1) (stp Sc) u _ _ _ (by omega) (by omega) hF3.1 hq (by omega) (by rw [he, stpL_go (by omega) hd0]; rw [show k - i - 1 = k - (i + 1) by omega]; exact Prod.ext (by show _ + 1 + i = _ + (i + 1); omega) rfl) hw (lv_sub hl [0, 1, 2] rfl)
    refine W.widen (k := sCap S - sCap S) (n := 2 * (sCap S - sCap S)) (by omega) (by omega) ?_
    exact lp ((k - (0)) + 1) 0 S x _ _ _ (Nat.lt_succ_self _) (Nat.zero_le _) (⟨hI0, h5, hat1⟩) hrx (Nat.le_refl _) rfl hw (lv_sub hl [0, 1, 2] rfl)
  · have hz : y1 < 0 := by rw [i_lt, z_0]; rw [i_le, z_0] at c_1; omega
    have hE : oRest S y1 = (xOUT, S) := by rw [oRest, if_pos hz]
    have hE2 : sCap (oRest S y1).2 = sCap S := by rw [hE]
    have hw : ww D cI (va_A ([(a, .inr (3, [.ref aL, .ref pa.1, .ref ta.1, .ref da.1, .int (nI (sLp S)), .int (nI (sPt S)), .int (nI (sWk S)), .int (nI (sDo S)), .int (nI (sAt S)), .int (sC2 S), .int (sC3 S), .int (sC4 S), .int (sC5 S)]))] ++ (wL cI aL x.1 S.1 x.2.1 ++ (wG cI pa S.2.1 ++ (wT cI ta x.2.2.1 x.2.2.2.1 ++ wT cI da x.2.2.2.2.1 x.2.2.2.2.2)))) s.heap.size) s.heap s ([(a, .inr (3, [.ref aL, .ref pa.1, .ref ta.1, .ref da.1, .int (nI (sLp ((oRest S y1).2))), .int (nI (sPt ((oRest S y1).2))), .int (nI (sWk ((oRest S y1).2))), .int (nI (sDo ((oRest S y1).2))), .int (nI (sAt ((oRest S y1).2))), .int (sC2 ((oRest S y1).2)), .int (sC3 ((oRest S y1).2)), .int (sC4 ((oRest S y1).2)), .int (sC5 ((oRest S y1).2))]))] ++ (wL cI aL x.1 (((oRest S y1).2).1) x.2.1 ++ (wG cI pa (((oRest S y1).2).2.1) ++ (wT cI ta x.2.2.1 x.2.2.2.1 ++ wT cI da x.2.2.2.2.1 x.2.2.2.2.2)))) s.heap [] := by rw [hE]; exact hw
    refine lv_bipush (v := (-102)) hx hb dX3_restart_4 (by decide +kernel) ?_
    exact ww_iret (u := x) hx hb hr hlk hw (by rw [hE]; exact ⟨rfl, hrx⟩) (by rw [hE2]; omega) (by rw [hE2]; omega) dX3_restart_6
