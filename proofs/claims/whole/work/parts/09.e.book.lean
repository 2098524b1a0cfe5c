/-! RestartBook: the calls of its face (2): add, back, prepare, commit, abort -/
theorem RX_frc {S : SS} {x : XG} (n : Nat) (h : RX S x) : RX (frc S n) x := ⟨⟨h.1.1, h.1.2.1, h.1.2.2.1, h.1.2.2.2.1, by show max S.1.2.1 (min n S.1.1) ≤ S.1.1; have := h.1.2.2.2.2; omega⟩, h.2⟩
set_option maxHeartbeats 1000000 in
set_option maxRecDepth 100000 in
theorem cF_prepare (l : Launch) (D : va_G) (cI : ClassId) (a aL : Nat) (pa : A5) (ta da : A6) (S : SS) (x : XG) (b : Nat) (hI0 : Inv b S) (h5 : E5 S) (hb4 : b ≤ 4000) (hrx : RX S x) (y1 : Int32) : Kt l yX3_prepare wsX3_prepare 4 91 (sCap (oPrep S y1).2 - sCap S) (2 * (sCap (oPrep S y1).2 - sCap S)) D cI [.ref a, .int y1] ([(a, .inr (3, [.ref aL, .ref pa.1, .ref ta.1, .ref da.1, .int (nI (sLp S)), .int (nI (sPt S)), .int (nI (sWk S)), .int (nI (sDo S)), .int (nI (sAt S)), .int (sC2 S), .int (sC3 S), .int (sC4 S), .int (sC5 S)]))] ++ (wL cI aL x.1 S.1 x.2.1 ++ (wG cI pa S.2.1 ++ (wT cI ta x.2.2.1 x.2.2.2.1 ++ wT cI da x.2.2.2.2.1 x.2.2.2.2.2)))) (pI (fun (r : Int32) (u : XG) => r = (oPrep S y1).1 ∧ RX (oPrep S y1).2 u)) (fun (u : XG) => [(a, .inr (3, [.ref aL, .ref pa.1, .ref ta.1, .ref da.1, .int (nI (sLp ((oPrep S y1).2))), .int (nI (sPt ((oPrep S y1).2))), .int (nI (sWk ((oPrep S y1).2))), .int (nI (sDo ((oPrep S y1).2))), .int (nI (sAt ((oPrep S y1).2))), .int (sC2 ((oPrep S y1).2)), .int (sC3 ((oPrep S y1).2)), .int (sC4 ((oPrep S y1).2)), .int (sC5 ((oPrep S y1).2))]))] ++ (wL cI aL u.1 (((oPrep S y1).2).1) u.2.1 ++ (wG cI pa (((oPrep S y1).2).2.1) ++ (wT cI ta u.2.2.1 u.2.2.2.1 ++ wT cI da u.2.2.2.2.1 u.2.2.2.2.2)))) := by
  refine kt_start (cc := cX3_prepare) (maxL := 4) (ret := (some .int)) (by decide +kernel) rfl (Nat.le_of_ble_eq_true rfl) ?_
  intro p e s m below meth c hx hb hml hr hlk hown hnm hts ls hl hw
  have hown : s.vm.findClass RX3 = some m.cls := hown
  have hl : lv_has ls 4 [(0, .ref a), (1, .int y1)] := hl
  have k10 := hts (.fieldLink RX3 10 "RestartBook" "log" "LRestartBook$Log;") (by decide +kernel)
  have k26 := hts (.fieldLink RX3 26 "RestartBook" "tables" "LRestartBook$Tables;") (by decide +kernel)
  have hin3 : ∀ w ∈ u_ws RX3 TX3 13, w ∈ wsX3_prepare := in_X3_prepare
  have hI := hI0.1
  have hn4 := Inv0_n hI
  have hwk := hI.2.1.2.1
  have hdo4 : sDo S ≤ 4 := by rcases hI.2.2.2.2.2 with z | z | z <;> omega
  refine lv_aload_n hx hb dX3_prepare_0 rfl (lv_at hl 0 rfl) ?_
  refine lv_iload_n hx hb dX3_prepare_1 rfl (lv_at hl 1 rfl) ?_
  refine ww_callA (As := [.int y1]) (rest := []) ⟨hx, hb, hml, hown, hts⟩ (cB_refusalFor l D cI a aL x.1 pa ta da S.2.2.2.2 S.1 x.2.1 S.2.1 x.2.2.1 x.2.2.2.2.1 x.2.2.2.1 x.2.2.2.2.2 (sT S) hrx.2.1 y1 (by show sDo S < 2 ^ 31; omega)) gX3_prepare_X3_refusalFor rfl hd_X3_refusalFor ⟨Nat.le_of_ble_eq_true rfl, Nat.le_of_ble_eq_true rfl⟩ hw rfl rfl rfl rfl hl.1 (Nat.le_of_ble_eq_true rfl) dX3_prepare_2 ⟨Nat.zero_le _, Nat.zero_le _⟩ (fun rv u H locs hq hw => ?_)
  obtain ⟨rr, rfl, hq⟩ := hq
  have hw : ww D cI _ _ s ([(a, .inr (3, [.ref aL, .ref pa.1, .ref ta.1, .ref da.1, .int (nI (sLp S)), .int (nI (sPt S)), .int (nI (sWk S)), .int (nI (sDo S)), .int (nI (sAt S)), .int (sC2 S), .int (sC3 S), .int (sC4 S), .int (sC5 S)]))] ++ (wL cI aL x.1 S.1 x.2.1 ++ (wG cI pa S.2.1 ++ (wT cI ta x.2.2.1 x.2.2.2.1 ++ wT cI da x.2.2.2.2.1 x.2.2.2.2.2)))) H locs := hw
  refine W.eq (g2 := F0 m 5 ls [.int (rr)]) rfl ?_
  by_cases hdo : sDo S ≠ 0
  · rw [if_pos (show S.2.2.2.2.2.2.2.1 ≠ 0 from hdo)] at hq
    subst hq
    refine lv_istore_n (lv' := [(2, .int (xDOW)), (0, .ref a), (1, .int y1)]) hx hb dX3_prepare_5 rfl hl (by decide) rfl (fun ls hl => ?_)
    refine lv_iload_n hx hb dX3_prepare_6 rfl (lv_at hl 0 rfl) ?_
    refine lv_if_eq (tgt := 12) hx hb dX3_prepare_7 (by decide) (fun c_7 => absurd c_7 (by decide)) (fun c_7 => ?_)
    have hE : oPrep S y1 = (xDOW, S) := by rw [oPrep, if_pos hdo]
    have hE2 : sCap (oPrep S y1).2 = sCap S := by rw [hE]
    have hw : ww D cI (va_A ([(a, .inr (3, [.ref aL, .ref pa.1, .ref ta.1, .ref da.1, .int (nI (sLp S)), .int (nI (sPt S)), .int (nI (sWk S)), .int (nI (sDo S)), .int (nI (sAt S)), .int (sC2 S), .int (sC3 S), .int (sC4 S), .int (sC5 S)]))] ++ (wL cI aL x.1 S.1 x.2.1 ++ (wG cI pa S.2.1 ++ (wT cI ta x.2.2.1 x.2.2.2.1 ++ wT cI da x.2.2.2.2.1 x.2.2.2.2.2)))) s.heap.size) s.heap s ([(a, .inr (3, [.ref aL, .ref pa.1, .ref ta.1, .ref da.1, .int (nI (sLp ((oPrep S y1).2))), .int (nI (sPt ((oPrep S y1).2))), .int (nI (sWk ((oPrep S y1).2))), .int (nI (sDo ((oPrep S y1).2))), .int (nI (sAt ((oPrep S y1).2))), .int (sC2 ((oPrep S y1).2)), .int (sC3 ((oPrep S y1).2)), .int (sC4 ((oPrep S y1).2)), .int (sC5 ((oPrep S y1).2))]))] ++ (wL cI aL x.1 (((oPrep S y1).2).1) x.2.1 ++ (wG cI pa (((oPrep S y1).2).2.1) ++ (wT cI ta x.2.2.1 x.2.2.2.1 ++ wT cI da x.2.2.2.2.1 x.2.2.2.2.2)))) H locs := by rw [hE]; exact hw
    refine lv_iload_n hx hb dX3_prepare_10 rfl (lv_at hl 0 rfl) ?_
    exact ww_iret (u := x) hx hb hr hlk hw (by rw [hE]; exact ⟨rfl, hrx⟩) (by rw [hE2]; omega) (by rw [hE2]; omega) dX3_prepare_11
  rw [if_neg (show ¬ S.2.2.2.2.2.2.2.1 ≠ 0 from hdo)] at hq
  by_cases hk : (sT S (cl y1)).1 = 0
  · rw [if_pos hk] at hq
    subst hq
    refine lv_istore_n (lv' := [(2, .int (xUNK)), (0, .ref a), (1, .int y1)]) hx hb dX3_prepare_5 rfl hl (by decide) rfl (fun ls hl => ?_)
    refine lv_iload_n hx hb dX3_prepare_6 rfl (lv_at hl 0 rfl) ?_
    refine lv_if_eq (tgt := 12) hx hb dX3_prepare_7 (by decide) (fun c_7 => absurd c_7 (by decide)) (fun c_7 => ?_)
    have hE : oPrep S y1 = (xUNK, S) := by rw [oPrep, if_neg hdo, if_pos hk]
    have hE2 : sCap (oPrep S y1).2 = sCap S := by rw [hE]
    have hw : ww D cI (va_A ([(a, .inr (3, [.ref aL, .ref pa.1, .ref ta.1, .ref da.1, .int (nI (sLp S)), .int (nI (sPt S)), .int (nI (sWk S)), .int (nI (sDo S)), .int (nI (sAt S)), .int (sC2 S), .int (sC3 S), .int (sC4 S), .int (sC5 S)]))] ++ (wL cI aL x.1 S.1 x.2.1 ++ (wG cI pa S.2.1 ++ (wT cI ta x.2.2.1 x.2.2.2.1 ++ wT cI da x.2.2.2.2.1 x.2.2.2.2.2)))) s.heap.size) s.heap s ([(a, .inr (3, [.ref aL, .ref pa.1, .ref ta.1, .ref da.1, .int (nI (sLp ((oPrep S y1).2))), .int (nI (sPt ((oPrep S y1).2))), .int (nI (sWk ((oPrep S y1).2))), .int (nI (sDo ((oPrep S y1).2))), .int (nI (sAt ((oPrep S y1).2))), .int (sC2 ((oPrep S y1).2)), .int (sC3 ((oPrep S y1).2)), .int (sC4 ((oPrep S y1).2)), .int (sC5 ((oPrep S y1).2))]))] ++ (wL cI aL x.1 (((oPrep S y1).2).1) x.2.1 ++ (wG cI pa (((oPrep S y1).2).2.1) ++ (wT cI ta x.2.2.1 x.2.2.2.1 ++ wT cI da x.2.2.2.2.1 x.2.2.2.2.2)))) H locs := by rw [hE]; exact hw
    refine lv_iload_n hx hb dX3_prepare_10 rfl (lv_at hl 0 rfl) ?_
    exact ww_iret (u := x) hx hb hr hlk hw (by rw [hE]; exact ⟨rfl, hrx⟩) (by rw [hE2]; omega) (by rw [hE2]; omega) dX3_prepare_11
  rw [if_neg hk] at hq
  subst hq
  obtain ⟨j, hj2, rfl, hcj, hp⟩ := in_work hrx hk
  have hdo0 : sDo S = 0 := Decidable.not_not.mp hdo
  refine lv_istore_n (lv' := [(2, .int (0)), (0, .ref a), (1, .int (nI j))]) hx hb dX3_prepare_5 rfl hl (by decide) rfl (fun ls hl => ?_)
  refine lv_iload_n hx hb dX3_prepare_6 rfl (lv_at hl 0 rfl) ?_
  refine lv_if_eq (tgt := 12) hx hb dX3_prepare_7 (by decide) (fun c_7 => ?_) (fun c_7 => absurd (by decide) c_7)
  refine lv_aload_n hx hb dX3_prepare_12 rfl (lv_at hl 1 rfl) ?_
  refine ww_get hx hb hts hin3 hown hw 0 rfl rfl 2 (by decide) k26 rfl dX3_prepare_13 ?_
  refine lv_iload_n hx hb dX3_prepare_16 rfl (lv_at hl 2 rfl) ?_
  refine ww_callV ([(a, .inr (3, [.ref aL, .ref pa.1, .ref ta.1, .ref da.1, .int (nI (sLp S)), .int (nI (sPt S)), .int (nI (sWk S)), .int (nI (sDo S)), .int (nI (sAt S)), .int (sC2 S), .int (sC3 S), .int (sC4 S), .int (sC5 S)]))] ++ (wL cI aL x.1 S.1 x.2.1 ++ wG cI pa S.2.1)) (wT cI da x.2.2.2.2.1 x.2.2.2.2.2) (As := [.int (nI j)]) (rest := []) ⟨hx, hb, hml, hown, hts⟩ (cT_stateOf l D cI ta.1 ta.2.1 ta.2.2.1 ta.2.2.2.1 ta.2.2.2.2.1 ta.2.2.2.2.2 x.2.2.1 x.2.2.2.1 (sT S) hrx.2.1 j (by omega)) gX3_prepare_X2_stateOf rfl hd_X2_stateOf ⟨Nat.le_of_ble_eq_true rfl, Nat.le_of_ble_eq_true rfl⟩ hw rfl rfl rfl rfl rfl hl.1 (Nat.le_of_ble_eq_true rfl) dX3_prepare_17 ⟨Nat.zero_le _, Nat.zero_le _⟩ (fun rv u H locs hq hw => ?_)
  obtain ⟨rr, rfl, hq⟩ := hq
  subst hq
  have hw : ww D cI _ _ s ([(a, .inr (3, [.ref aL, .ref pa.1, .ref ta.1, .ref da.1, .int (nI (sLp S)), .int (nI (sPt S)), .int (nI (sWk S)), .int (nI (sDo S)), .int (nI (sAt S)), .int (sC2 S), .int (sC3 S), .int (sC4 S), .int (sC5 S)]))] ++ (wL cI aL x.1 S.1 x.2.1 ++ (wG cI pa S.2.1 ++ (wT cI ta x.2.2.1 x.2.2.2.1 ++ wT cI da x.2.2.2.2.1 x.2.2.2.2.2)))) H locs := hw
  refine W.eq (g2 := F0 m 20 ls [.int (nI (sT S j).1)]) rfl ?_
  refine lv_iconst (v := nI 1) hx hb dX3_prepare_20 (by decide +kernel) ?_
  refine lv_icmp_eq (tgt := 27) hx hb dX3_prepare_21 (by decide) (fun c_21 => ?_) (fun c_21 => ?_)
  · have hs : ¬ (sT S (cl (nI j))).1 ≠ 1 := by rw [hcj]; exact fun q => q (nI_q (by have := (Inv0_TB hI hb4 j).1; omega) (by omega) c_21)
    have hE : oPrep S (nI j) = (nI (sN S + 1), (frc (emT S (rcW S 6 j)) (sN S + 1))) := by rw [oPrep, if_neg hdo, if_neg hk, if_neg hs, hcj]
    have hE2 : sCap (oPrep S (nI j)).2 = sCap (emT S (rcW S 6 j)) := by rw [hE]; rfl
    have hcm := cap_emT S (rcW S 6 j)
    refine lv_aload_n hx hb dX3_prepare_27 rfl (lv_at hl 1 rfl) ?_
    refine lv_bipush (v := nI 6) hx hb dX3_prepare_28 (by decide +kernel) ?_
    refine lv_iload_n hx hb dX3_prepare_30 rfl (lv_at hl 2 rfl) ?_
    refine ww_callA (As := [.int (nI 6), .int (nI j)]) (rest := []) ⟨hx, hb, hml, hown, hts⟩ (cS_app l D cI a aL pa ta da S x b 6 j hI hb4 hrx hp (by omega) (by omega)) gX3_prepare_X3_appendOfWork rfl hd_X3_appendOfWork ⟨Nat.le_of_ble_eq_true rfl, Nat.le_of_ble_eq_true rfl⟩ hw rfl rfl rfl rfl hl.1 (Nat.le_of_ble_eq_true rfl) dX3_prepare_31 ⟨by show _ ≤ sCap (oPrep S (nI j)).2 - sCap S; omega, by show _ ≤ 2 * (sCap (oPrep S (nI j)).2 - sCap S); omega⟩ (fun rv u H locs hq hw => ?_)
    obtain ⟨rr, rfl, rfl, hq⟩ := hq
    have hw : ww D cI _ _ s ([(a, .inr (3, [.ref aL, .ref pa.1, .ref ta.1, .ref da.1, .int (nI (sLp (emT S (rcW S 6 j)))), .int (nI (sPt (emT S (rcW S 6 j)))), .int (nI (sWk (emT S (rcW S 6 j)))), .int (nI (sDo (emT S (rcW S 6 j)))), .int (nI (sAt (emT S (rcW S 6 j)))), .int (sC2 (emT S (rcW S 6 j))), .int (sC3 (emT S (rcW S 6 j))), .int (sC4 (emT S (rcW S 6 j))), .int (sC5 (emT S (rcW S 6 j)))]))] ++ (wL cI aL u.1 ((emT S (rcW S 6 j)).1) u.2.1 ++ (wG cI pa ((emT S (rcW S 6 j)).2.1) ++ (wT cI ta u.2.2.1 u.2.2.2.1 ++ wT cI da u.2.2.2.2.1 u.2.2.2.2.2)))) H locs := hw
    refine W.eq (g2 := F0 m 34 ls [.int (nI (sN S + 1))]) rfl ?_
    refine lv_istore_n (lv' := [(3, .int (nI (sN S + 1))), (2, .int (0)), (0, .ref a), (1, .int (nI j))]) hx hb dX3_prepare_34 rfl hl (by decide) rfl (fun ls hl => ?_)
    refine lv_aload_n hx hb dX3_prepare_35 rfl (lv_at hl 2 rfl) ?_
    refine ww_get hx hb hts hin3 hown hw 0 rfl rfl 0 (by decide) k10 rfl dX3_prepare_36 ?_
    refine lv_iload_n hx hb dX3_prepare_39 rfl (lv_at hl 0 rfl) ?_
    refine ww_callV ([(a, .inr (3, [.ref aL, .ref pa.1, .ref ta.1, .ref da.1, .int (nI (sLp (emT S (rcW S 6 j)))), .int (nI (sPt (emT S (rcW S 6 j)))), .int (nI (sWk (emT S (rcW S 6 j)))), .int (nI (sDo (emT S (rcW S 6 j)))), .int (nI (sAt (emT S (rcW S 6 j)))), .int (sC2 (emT S (rcW S 6 j))), .int (sC3 (emT S (rcW S 6 j))), .int (sC4 (emT S (rcW S 6 j))), .int (sC5 (emT S (rcW S 6 j)))]))]) (wG cI pa ((emT S (rcW S 6 j)).2.1) ++ (wT cI ta u.2.2.1 u.2.2.2.1 ++ wT cI da u.2.2.2.2.1 u.2.2.2.2.2)) (As := [.int (nI (sN S + 1))]) (rest := []) ⟨hx, hb, hml, hown, hts⟩ (cL_forceUpTo l D cI aL u.1 (emT S (rcW S 6 j)).1.2.2.2.1 (emT S (rcW S 6 j)).1.1 (emT S (rcW S 6 j)).1.2.1 (emT S (rcW S 6 j)).1.2.2.1 u.2.1 (nI (sN S + 1)) (by have := hq.1.2.1; have := hq.1.2.2.2.1; omega) (by have := hq.1.2.1; have := hq.1.2.2.2.1; have := hq.1.2.2.2.2; omega)) gX3_prepare_X0_forceUpTo rfl hd_X0_forceUpTo ⟨Nat.le_of_ble_eq_true rfl, Nat.le_of_ble_eq_true rfl⟩ hw rfl rfl rfl rfl rfl hl.1 (Nat.le_of_ble_eq_true rfl) dX3_prepare_40 ⟨by show _ ≤ sCap (oPrep S (nI j)).2 - sCap S; omega, by show _ ≤ 2 * (sCap (oPrep S (nI j)).2 - sCap S); omega⟩ (fun rv u9 H locs hq2 hw => ?_)
    obtain ⟨rfl, -⟩ := hq2
    have hw : ww D cI _ _ s ([(a, .inr (3, [.ref aL, .ref pa.1, .ref ta.1, .ref da.1, .int (nI (sLp (emT S (rcW S 6 j)))), .int (nI (sPt (emT S (rcW S 6 j)))), .int (nI (sWk (emT S (rcW S 6 j)))), .int (nI (sDo (emT S (rcW S 6 j)))), .int (nI (sAt (emT S (rcW S 6 j)))), .int (sC2 (emT S (rcW S 6 j))), .int (sC3 (emT S (rcW S 6 j))), .int (sC4 (emT S (rcW S 6 j))), .int (sC5 (emT S (rcW S 6 j)))]))] ++ (wL cI aL u.1 (frc (emT S (rcW S 6 j)) (cl (nI (sN S + 1)))).1 u.2.1 ++ (wG cI pa ((emT S (rcW S 6 j)).2.1) ++ (wT cI ta u.2.2.1 u.2.2.2.1 ++ wT cI da u.2.2.2.2.1 u.2.2.2.2.2)))) H locs := hw
    refine W.eq (g2 := F0 m 43 ls []) rfl ?_
    rw [cl_nI (show sN S + 1 < 2 ^ 31 by omega)] at hw
    have hw : ww D cI (va_A ([(a, .inr (3, [.ref aL, .ref pa.1, .ref ta.1, .ref da.1, .int (nI (sLp S)), .int (nI (sPt S)), .int (nI (sWk S)), .int (nI (sDo S)), .int (nI (sAt S)), .int (sC2 S), .int (sC3 S), .int (sC4 S), .int (sC5 S)]))] ++ (wL cI aL x.1 S.1 x.2.1 ++ (wG cI pa S.2.1 ++ (wT cI ta x.2.2.1 x.2.2.2.1 ++ wT cI da x.2.2.2.2.1 x.2.2.2.2.2)))) s.heap.size) s.heap s ([(a, .inr (3, [.ref aL, .ref pa.1, .ref ta.1, .ref da.1, .int (nI (sLp (frc (emT S (rcW S 6 j)) (sN S + 1)))), .int (nI (sPt (frc (emT S (rcW S 6 j)) (sN S + 1)))), .int (nI (sWk (frc (emT S (rcW S 6 j)) (sN S + 1)))), .int (nI (sDo (frc (emT S (rcW S 6 j)) (sN S + 1)))), .int (nI (sAt (frc (emT S (rcW S 6 j)) (sN S + 1)))), .int (sC2 (frc (emT S (rcW S 6 j)) (sN S + 1))), .int (sC3 (frc (emT S (rcW S 6 j)) (sN S + 1))), .int (sC4 (frc (emT S (rcW S 6 j)) (sN S + 1))), .int (sC5 (frc (emT S (rcW S 6 j)) (sN S + 1)))]))] ++ (wL cI aL u.1 ((frc (emT S (rcW S 6 j)) (sN S + 1)).1) u.2.1 ++ (wG cI pa ((frc (emT S (rcW S 6 j)) (sN S + 1)).2.1) ++ (wT cI ta u.2.2.1 u.2.2.2.1 ++ wT cI da u.2.2.2.2.1 u.2.2.2.2.2)))) H locs := hw
    have hw : ww D cI (va_A ([(a, .inr (3, [.ref aL, .ref pa.1, .ref ta.1, .ref da.1, .int (nI (sLp S)), .int (nI (sPt S)), .int (nI (sWk S)), .int (nI (sDo S)), .int (nI (sAt S)), .int (sC2 S), .int (sC3 S), .int (sC4 S), .int (sC5 S)]))] ++ (wL cI aL x.1 S.1 x.2.1 ++ (wG cI pa S.2.1 ++ (wT cI ta x.2.2.1 x.2.2.2.1 ++ wT cI da x.2.2.2.2.1 x.2.2.2.2.2)))) s.heap.size) s.heap s ([(a, .inr (3, [.ref aL, .ref pa.1, .ref ta.1, .ref da.1, .int (nI (sLp ((oPrep S (nI j)).2))), .int (nI (sPt ((oPrep S (nI j)).2))), .int (nI (sWk ((oPrep S (nI j)).2))), .int (nI (sDo ((oPrep S (nI j)).2))), .int (nI (sAt ((oPrep S (nI j)).2))), .int (sC2 ((oPrep S (nI j)).2)), .int (sC3 ((oPrep S (nI j)).2)), .int (sC4 ((oPrep S (nI j)).2)), .int (sC5 ((oPrep S (nI j)).2))]))] ++ (wL cI aL u.1 (((oPrep S (nI j)).2).1) u.2.1 ++ (wG cI pa (((oPrep S (nI j)).2).2.1) ++ (wT cI ta u.2.2.1 u.2.2.2.1 ++ wT cI da u.2.2.2.2.1 u.2.2.2.2.2)))) H locs := by rw [hE]; exact hw
    refine lv_iload_n hx hb dX3_prepare_43 rfl (lv_at hl 0 rfl) ?_
    exact ww_iret (u := u) hx hb hr hlk hw (by rw [hE]; exact ⟨rfl, RX_frc _ hq⟩) (by rw [hE2]; omega) (by rw [hE2]; omega) dX3_prepare_44
  · have hs : (sT S (cl (nI j))).1 ≠ 1 := by rw [hcj]; exact nI_ne (by have := (Inv0_TB hI hb4 j).1; omega) (by omega) c_21
    have hE : oPrep S (nI j) = (xSTA, S) := by rw [oPrep, if_neg hdo, if_neg hk, if_pos hs]
    have hE2 : sCap (oPrep S (nI j)).2 = sCap S := by rw [hE]
    have hw : ww D cI (va_A ([(a, .inr (3, [.ref aL, .ref pa.1, .ref ta.1, .ref da.1, .int (nI (sLp S)), .int (nI (sPt S)), .int (nI (sWk S)), .int (nI (sDo S)), .int (nI (sAt S)), .int (sC2 S), .int (sC3 S), .int (sC4 S), .int (sC5 S)]))] ++ (wL cI aL x.1 S.1 x.2.1 ++ (wG cI pa S.2.1 ++ (wT cI ta x.2.2.1 x.2.2.2.1 ++ wT cI da x.2.2.2.2.1 x.2.2.2.2.2)))) s.heap.size) s.heap s ([(a, .inr (3, [.ref aL, .ref pa.1, .ref ta.1, .ref da.1, .int (nI (sLp ((oPrep S (nI j)).2))), .int (nI (sPt ((oPrep S (nI j)).2))), .int (nI (sWk ((oPrep S (nI j)).2))), .int (nI (sDo ((oPrep S (nI j)).2))), .int (nI (sAt ((oPrep S (nI j)).2))), .int (sC2 ((oPrep S (nI j)).2)), .int (sC3 ((oPrep S (nI j)).2)), .int (sC4 ((oPrep S (nI j)).2)), .int (sC5 ((oPrep S (nI j)).2))]))] ++ (wL cI aL x.1 (((oPrep S (nI j)).2).1) x.2.1 ++ (wG cI pa (((oPrep S (nI j)).2).2.1) ++ (wT cI ta x.2.2.1 x.2.2.2.1 ++ wT cI da x.2.2.2.2.1 x.2.2.2.2.2)))) H locs := by rw [hE]; exact hw
    refine lv_bipush (v := (-103)) hx hb dX3_prepare_24 (by decide +kernel) ?_
    exact ww_iret (u := x) hx hb hr hlk hw (by rw [hE]; exact ⟨rfl, hrx⟩) (by rw [hE2]; omega) (by rw [hE2]; omega) dX3_prepare_26
set_option maxHeartbeats 1000000 in
set_option maxRecDepth 100000 in
theorem cF_commit (l : Launch) (D : va_G) (cI : ClassId) (a aL : Nat) (pa : A5) (ta da : A6) (S : SS) (x : XG) (b : Nat) (hI0 : Inv b S) (h5 : E5 S) (hb5 : b + 1 ≤ 4000) (hrx : RX S x) (y1 : Int32) : Kt l yX3_commit wsX3_commit 4 91 (sCap (oComm S y1).2 - sCap S) (2 * (sCap (oComm S y1).2 - sCap S)) D cI [.ref a, .int y1] ([(a, .inr (3, [.ref aL, .ref pa.1, .ref ta.1, .ref da.1, .int (nI (sLp S)), .int (nI (sPt S)), .int (nI (sWk S)), .int (nI (sDo S)), .int (nI (sAt S)), .int (sC2 S), .int (sC3 S), .int (sC4 S), .int (sC5 S)]))] ++ (wL cI aL x.1 S.1 x.2.1 ++ (wG cI pa S.2.1 ++ (wT cI ta x.2.2.1 x.2.2.2.1 ++ wT cI da x.2.2.2.2.1 x.2.2.2.2.2)))) (pI (fun (r : Int32) (u : XG) => r = (oComm S y1).1 ∧ RX (oComm S y1).2 u)) (fun (u : XG) => [(a, .inr (3, [.ref aL, .ref pa.1, .ref ta.1, .ref da.1, .int (nI (sLp ((oComm S y1).2))), .int (nI (sPt ((oComm S y1).2))), .int (nI (sWk ((oComm S y1).2))), .int (nI (sDo ((oComm S y1).2))), .int (nI (sAt ((oComm S y1).2))), .int (sC2 ((oComm S y1).2)), .int (sC3 ((oComm S y1).2)), .int (sC4 ((oComm S y1).2)), .int (sC5 ((oComm S y1).2))]))] ++ (wL cI aL u.1 (((oComm S y1).2).1) u.2.1 ++ (wG cI pa (((oComm S y1).2).2.1) ++ (wT cI ta u.2.2.1 u.2.2.2.1 ++ wT cI da u.2.2.2.2.1 u.2.2.2.2.2)))) := by
  refine kt_start (cc := cX3_commit) (maxL := 4) (ret := (some .int)) (by decide +kernel) rfl (Nat.le_of_ble_eq_true rfl) ?_
  intro p e s m below meth c hx hb hml hr hlk hown hnm hts ls hl hw
  have hown : s.vm.findClass RX3 = some m.cls := hown
  have hl : lv_has ls 4 [(0, .ref a), (1, .int y1)] := hl
  have k10 := hts (.fieldLink RX3 10 "RestartBook" "log" "LRestartBook$Log;") (by decide +kernel)
  have hin3 : ∀ w ∈ u_ws RX3 TX3 13, w ∈ wsX3_commit := in_X3_commit
  have hb4 : b ≤ 4000 := by omega
  have hI := hI0.1
  have hn4 := Inv0_n hI
  have hwk := hI.2.1.2.1
  have hdo4 : sDo S ≤ 4 := by rcases hI.2.2.2.2.2 with z | z | z <;> omega
  refine lv_aload_n hx hb dX3_commit_0 rfl (lv_at hl 0 rfl) ?_
  refine lv_iload_n hx hb dX3_commit_1 rfl (lv_at hl 1 rfl) ?_
  refine ww_callA (As := [.int y1]) (rest := []) ⟨hx, hb, hml, hown, hts⟩ (cB_refusalFor l D cI a aL x.1 pa ta da S.2.2.2.2 S.1 x.2.1 S.2.1 x.2.2.1 x.2.2.2.2.1 x.2.2.2.1 x.2.2.2.2.2 (sT S) hrx.2.1 y1 (by show sDo S < 2 ^ 31; omega)) gX3_commit_X3_refusalFor rfl hd_X3_refusalFor ⟨Nat.le_of_ble_eq_true rfl, Nat.le_of_ble_eq_true rfl⟩ hw rfl rfl rfl rfl hl.1 (Nat.le_of_ble_eq_true rfl) dX3_commit_2 ⟨Nat.zero_le _, Nat.zero_le _⟩ (fun rv u H locs hq hw => ?_)
  obtain ⟨rr, rfl, hq⟩ := hq
  have hw : ww D cI _ _ s ([(a, .inr (3, [.ref aL, .ref pa.1, .ref ta.1, .ref da.1, .int (nI (sLp S)), .int (nI (sPt S)), .int (nI (sWk S)), .int (nI (sDo S)), .int (nI (sAt S)), .int (sC2 S), .int (sC3 S), .int (sC4 S), .int (sC5 S)]))] ++ (wL cI aL x.1 S.1 x.2.1 ++ (wG cI pa S.2.1 ++ (wT cI ta x.2.2.1 x.2.2.2.1 ++ wT cI da x.2.2.2.2.1 x.2.2.2.2.2)))) H locs := hw
  refine W.eq (g2 := F0 m 5 ls [.int (rr)]) rfl ?_
  by_cases hdo : sDo S ≠ 0
  · rw [if_pos (show S.2.2.2.2.2.2.2.1 ≠ 0 from hdo)] at hq
    subst hq
    refine lv_istore_n (lv' := [(2, .int (xDOW)), (0, .ref a), (1, .int y1)]) hx hb dX3_commit_5 rfl hl (by decide) rfl (fun ls hl => ?_)
    refine lv_iload_n hx hb dX3_commit_6 rfl (lv_at hl 0 rfl) ?_
    refine lv_if_eq (tgt := 12) hx hb dX3_commit_7 (by decide) (fun c_7 => absurd c_7 (by decide)) (fun c_7 => ?_)
    have hE : oComm S y1 = (xDOW, S) := by rw [oComm, if_pos hdo]
    have hE2 : sCap (oComm S y1).2 = sCap S := by rw [hE]
    have hw : ww D cI (va_A ([(a, .inr (3, [.ref aL, .ref pa.1, .ref ta.1, .ref da.1, .int (nI (sLp S)), .int (nI (sPt S)), .int (nI (sWk S)), .int (nI (sDo S)), .int (nI (sAt S)), .int (sC2 S), .int (sC3 S), .int (sC4 S), .int (sC5 S)]))] ++ (wL cI aL x.1 S.1 x.2.1 ++ (wG cI pa S.2.1 ++ (wT cI ta x.2.2.1 x.2.2.2.1 ++ wT cI da x.2.2.2.2.1 x.2.2.2.2.2)))) s.heap.size) s.heap s ([(a, .inr (3, [.ref aL, .ref pa.1, .ref ta.1, .ref da.1, .int (nI (sLp ((oComm S y1).2))), .int (nI (sPt ((oComm S y1).2))), .int (nI (sWk ((oComm S y1).2))), .int (nI (sDo ((oComm S y1).2))), .int (nI (sAt ((oComm S y1).2))), .int (sC2 ((oComm S y1).2)), .int (sC3 ((oComm S y1).2)), .int (sC4 ((oComm S y1).2)), .int (sC5 ((oComm S y1).2))]))] ++ (wL cI aL x.1 (((oComm S y1).2).1) x.2.1 ++ (wG cI pa (((oComm S y1).2).2.1) ++ (wT cI ta x.2.2.1 x.2.2.2.1 ++ wT cI da x.2.2.2.2.1 x.2.2.2.2.2)))) H locs := by rw [hE]; exact hw
    refine lv_iload_n hx hb dX3_commit_10 rfl (lv_at hl 0 rfl) ?_
    exact ww_iret (u := x) hx hb hr hlk hw (by rw [hE]; exact ⟨rfl, hrx⟩) (by rw [hE2]; first | omega | (have : sCap (frc (emT S (rcW S 3 j)) (sN S + 1)) = sCap (emT S (rcW S 3 j)) := rfl; omega)) (by rw [hE2]; first | omega | (have : sCap (frc (emT S (rcW S 3 j)) (sN S + 1)) = sCap (emT S (rcW S 3 j)) := rfl; omega)) dX3_commit_11
  rw [if_neg (show ¬ S.2.2.2.2.2.2.2.1 ≠ 0 from hdo)] at hq
  by_cases hk : (sT S (cl y1)).1 = 0
  · rw [if_pos hk] at hq
    subst hq
    refine lv_istore_n (lv' := [(2, .int (xUNK)), (0, .ref a), (1, .int y1)]) hx hb dX3_commit_5 rfl hl (by decide) rfl (fun ls hl => ?_)
    refine lv_iload_n hx hb dX3_commit_6 rfl (lv_at hl 0 rfl) ?_
    refine lv_if_eq (tgt := 12) hx hb dX3_commit_7 (by decide) (fun c_7 => absurd c_7 (by decide)) (fun c_7 => ?_)
    have hE : oComm S y1 = (xUNK, S) := by rw [oComm, if_neg hdo, if_pos hk]
    have hE2 : sCap (oComm S y1).2 = sCap S := by rw [hE]
    have hw : ww D cI (va_A ([(a, .inr (3, [.ref aL, .ref pa.1, .ref ta.1, .ref da.1, .int (nI (sLp S)), .int (nI (sPt S)), .int (nI (sWk S)), .int (nI (sDo S)), .int (nI (sAt S)), .int (sC2 S), .int (sC3 S), .int (sC4 S), .int (sC5 S)]))] ++ (wL cI aL x.1 S.1 x.2.1 ++ (wG cI pa S.2.1 ++ (wT cI ta x.2.2.1 x.2.2.2.1 ++ wT cI da x.2.2.2.2.1 x.2.2.2.2.2)))) s.heap.size) s.heap s ([(a, .inr (3, [.ref aL, .ref pa.1, .ref ta.1, .ref da.1, .int (nI (sLp ((oComm S y1).2))), .int (nI (sPt ((oComm S y1).2))), .int (nI (sWk ((oComm S y1).2))), .int (nI (sDo ((oComm S y1).2))), .int (nI (sAt ((oComm S y1).2))), .int (sC2 ((oComm S y1).2)), .int (sC3 ((oComm S y1).2)), .int (sC4 ((oComm S y1).2)), .int (sC5 ((oComm S y1).2))]))] ++ (wL cI aL x.1 (((oComm S y1).2).1) x.2.1 ++ (wG cI pa (((oComm S y1).2).2.1) ++ (wT cI ta x.2.2.1 x.2.2.2.1 ++ wT cI da x.2.2.2.2.1 x.2.2.2.2.2)))) H locs := by rw [hE]; exact hw
    refine lv_iload_n hx hb dX3_commit_10 rfl (lv_at hl 0 rfl) ?_
    exact ww_iret (u := x) hx hb hr hlk hw (by rw [hE]; exact ⟨rfl, hrx⟩) (by rw [hE2]; first | omega | (have : sCap (frc (emT S (rcW S 3 j)) (sN S + 1)) = sCap (emT S (rcW S 3 j)) := rfl; omega)) (by rw [hE2]; first | omega | (have : sCap (frc (emT S (rcW S 3 j)) (sN S + 1)) = sCap (emT S (rcW S 3 j)) := rfl; omega)) dX3_commit_11
  rw [if_neg hk] at hq
  subst hq
  obtain ⟨j, hj2, rfl, hcj, hp⟩ := in_work hrx hk
  have hdo0 : sDo S = 0 := Decidable.not_not.mp hdo
  refine lv_istore_n (lv' := [(2, .int (0)), (0, .ref a), (1, .int (nI j))]) hx hb dX3_commit_5 rfl hl (by decide) rfl (fun ls hl => ?_)
  refine lv_iload_n hx hb dX3_commit_6 rfl (lv_at hl 0 rfl) ?_
  refine lv_if_eq (tgt := 12) hx hb dX3_commit_7 (by decide) (fun c_7 => ?_) (fun c_7 => absurd (by decide) c_7)
  have hE : oComm S (nI j) = (nI (sN S + 1), (emT (frc (emT S (rcW S 3 j)) (sN S + 1)) (rcW (frc (emT S (rcW S 3 j)) (sN S + 1)) 5 j))) := by rw [oComm, if_neg hdo, if_neg hk, hcj]
  have hE2 : sCap (oComm S (nI j)).2 = sCap (emT (frc (emT S (rcW S 3 j)) (sN S + 1)) (rcW (frc (emT S (rcW S 3 j)) (sN S + 1)) 5 j)) := by rw [hE]
  have hcm := cap_emT S (rcW S 3 j)
  have hcm2 : sCap (emT S (rcW S 3 j)) ≤ sCap (emT (frc (emT S (rcW S 3 j)) (sN S + 1)) (rcW (frc (emT S (rcW S 3 j)) (sN S + 1)) 5 j)) := cap_emT (frc (emT S (rcW S 3 j)) (sN S + 1)) _
  have hI3 := Inv0_k (k := 3) hI hdo0 hp (Or.inl rfl)
  have hj1 : j ≠ 0 := by have := (((Inv0_T hI).1 j).2 hp).1; omega
  have hI4 : Inv0 (b + 1) (frc (emT S (rcW S 3 j)) (sN S + 1)) := Inv0_frc _ hI3
  have hp3 : (sT (frc (emT S (rcW S 3 j)) (sN S + 1)) j).1 ≠ 0 := by show (sT (emT S (rcW S 3 j)) j).1 ≠ 0; rw [emT_T hp hj1]; show (4 : Nat) ≠ 0; decide
  refine lv_aload_n hx hb dX3_commit_12 rfl (lv_at hl 1 rfl) ?_
  refine lv_iconst (v := nI 3) hx hb dX3_commit_13 (by decide +kernel) ?_
  refine lv_iload_n hx hb dX3_commit_14 rfl (lv_at hl 2 rfl) ?_
  refine ww_callA (As := [.int (nI 3), .int (nI j)]) (rest := []) ⟨hx, hb, hml, hown, hts⟩ (cS_app l D cI a aL pa ta da S x b 3 j hI hb4 hrx hp (by omega) (by omega)) gX3_commit_X3_appendOfWork rfl hd_X3_appendOfWork ⟨Nat.le_of_ble_eq_true rfl, Nat.le_of_ble_eq_true rfl⟩ hw rfl rfl rfl rfl hl.1 (Nat.le_of_ble_eq_true rfl) dX3_commit_15 ⟨by show _ ≤ sCap (oComm S (nI j)).2 - sCap S; omega, by show _ ≤ 2 * (sCap (oComm S (nI j)).2 - sCap S); omega⟩ (fun rv u H locs hq hw => ?_)
  obtain ⟨rr, rfl, rfl, hq⟩ := hq
  have hw : ww D cI _ _ s ([(a, .inr (3, [.ref aL, .ref pa.1, .ref ta.1, .ref da.1, .int (nI (sLp (emT S (rcW S 3 j)))), .int (nI (sPt (emT S (rcW S 3 j)))), .int (nI (sWk (emT S (rcW S 3 j)))), .int (nI (sDo (emT S (rcW S 3 j)))), .int (nI (sAt (emT S (rcW S 3 j)))), .int (sC2 (emT S (rcW S 3 j))), .int (sC3 (emT S (rcW S 3 j))), .int (sC4 (emT S (rcW S 3 j))), .int (sC5 (emT S (rcW S 3 j)))]))] ++ (wL cI aL u.1 ((emT S (rcW S 3 j)).1) u.2.1 ++ (wG cI pa ((emT S (rcW S 3 j)).2.1) ++ (wT cI ta u.2.2.1 u.2.2.2.1 ++ wT cI da u.2.2.2.2.1 u.2.2.2.2.2)))) H locs := hw
  refine W.eq (g2 := F0 m 18 ls [.int (nI (sN S + 1))]) rfl ?_
  refine lv_istore_n (lv' := [(3, .int (nI (sN S + 1))), (2, .int (0)), (0, .ref a), (1, .int (nI j))]) hx hb dX3_commit_18 rfl hl (by decide) rfl (fun ls hl => ?_)
  refine lv_aload_n hx hb dX3_commit_19 rfl (lv_at hl 2 rfl) ?_
  refine ww_get hx hb hts hin3 hown hw 0 rfl rfl 0 (by decide) k10 rfl dX3_commit_20 ?_
  refine lv_iload_n hx hb dX3_commit_23 rfl (lv_at hl 0 rfl) ?_
  refine ww_callV ([(a, .inr (3, [.ref aL, .ref pa.1, .ref ta.1, .ref da.1, .int (nI (sLp (emT S (rcW S 3 j)))), .int (nI (sPt (emT S (rcW S 3 j)))), .int (nI (sWk (emT S (rcW S 3 j)))), .int (nI (sDo (emT S (rcW S 3 j)))), .int (nI (sAt (emT S (rcW S 3 j)))), .int (sC2 (emT S (rcW S 3 j))), .int (sC3 (emT S (rcW S 3 j))), .int (sC4 (emT S (rcW S 3 j))), .int (sC5 (emT S (rcW S 3 j)))]))]) (wG cI pa ((emT S (rcW S 3 j)).2.1) ++ (wT cI ta u.2.2.1 u.2.2.2.1 ++ wT cI da u.2.2.2.2.1 u.2.2.2.2.2)) (As := [.int (nI (sN S + 1))]) (rest := []) ⟨hx, hb, hml, hown, hts⟩ (cL_forceUpTo l D cI aL u.1 (emT S (rcW S 3 j)).1.2.2.2.1 (emT S (rcW S 3 j)).1.1 (emT S (rcW S 3 j)).1.2.1 (emT S (rcW S 3 j)).1.2.2.1 u.2.1 (nI (sN S + 1)) (by have := hq.1.2.1; have := hq.1.2.2.2.1; omega) (by have := hq.1.2.1; have := hq.1.2.2.2.1; have := hq.1.2.2.2.2; omega)) gX3_commit_X0_forceUpTo rfl hd_X0_forceUpTo ⟨Nat.le_of_ble_eq_true rfl, Nat.le_of_ble_eq_true rfl⟩ hw rfl rfl rfl rfl rfl hl.1 (Nat.le_of_ble_eq_true rfl) dX3_commit_24 ⟨by show _ ≤ sCap (oComm S (nI j)).2 - sCap S; omega, by show _ ≤ 2 * (sCap (oComm S (nI j)).2 - sCap S); omega⟩ (fun rv u9 H locs hq2 hw => ?_)
  obtain ⟨rfl, -⟩ := hq2
  have hw : ww D cI _ _ s ([(a, .inr (3, [.ref aL, .ref pa.1, .ref ta.1, .ref da.1, .int (nI (sLp (emT S (rcW S 3 j)))), .int (nI (sPt (emT S (rcW S 3 j)))), .int (nI (sWk (emT S (rcW S 3 j)))), .int (nI (sDo (emT S (rcW S 3 j)))), .int (nI (sAt (emT S (rcW S 3 j)))), .int (sC2 (emT S (rcW S 3 j))), .int (sC3 (emT S (rcW S 3 j))), .int (sC4 (emT S (rcW S 3 j))), .int (sC5 (emT S (rcW S 3 j)))]))] ++ (wL cI aL u.1 (frc (emT S (rcW S 3 j)) (cl (nI (sN S + 1)))).1 u.2.1 ++ (wG cI pa ((emT S (rcW S 3 j)).2.1) ++ (wT cI ta u.2.2.1 u.2.2.2.1 ++ wT cI da u.2.2.2.2.1 u.2.2.2.2.2)))) H locs := hw
  refine W.eq (g2 := F0 m 27 ls []) rfl ?_
  rw [cl_nI (show sN S + 1 < 2 ^ 31 by omega)] at hw
  have hw : ww D cI (va_A ([(a, .inr (3, [.ref aL, .ref pa.1, .ref ta.1, .ref da.1, .int (nI (sLp S)), .int (nI (sPt S)), .int (nI (sWk S)), .int (nI (sDo S)), .int (nI (sAt S)), .int (sC2 S), .int (sC3 S), .int (sC4 S), .int (sC5 S)]))] ++ (wL cI aL x.1 S.1 x.2.1 ++ (wG cI pa S.2.1 ++ (wT cI ta x.2.2.1 x.2.2.2.1 ++ wT cI da x.2.2.2.2.1 x.2.2.2.2.2)))) s.heap.size) s.heap s ([(a, .inr (3, [.ref aL, .ref pa.1, .ref ta.1, .ref da.1, .int (nI (sLp (frc (emT S (rcW S 3 j)) (sN S + 1)))), .int (nI (sPt (frc (emT S (rcW S 3 j)) (sN S + 1)))), .int (nI (sWk (frc (emT S (rcW S 3 j)) (sN S + 1)))), .int (nI (sDo (frc (emT S (rcW S 3 j)) (sN S + 1)))), .int (nI (sAt (frc (emT S (rcW S 3 j)) (sN S + 1)))), .int (sC2 (frc (emT S (rcW S 3 j)) (sN S + 1))), .int (sC3 (frc (emT S (rcW S 3 j)) (sN S + 1))), .int (sC4 (frc (emT S (rcW S 3 j)) (sN S + 1))), .int (sC5 (frc (emT S (rcW S 3 j)) (sN S + 1)))]))] ++ (wL cI aL u.1 ((frc (emT S (rcW S 3 j)) (sN S + 1)).1) u.2.1 ++ (wG cI pa ((frc (emT S (rcW S 3 j)) (sN S + 1)).2.1) ++ (wT cI ta u.2.2.1 u.2.2.2.1 ++ wT cI da u.2.2.2.2.1 u.2.2.2.2.2)))) H locs := hw
  refine lv_aload_n hx hb dX3_commit_27 rfl (lv_at hl 2 rfl) ?_
  refine W.eq (g2 := F0 m 28 ls [.ref a]) rfl ?_
  refine lv_iconst (v := nI 5) hx hb dX3_commit_28 (by decide +kernel) ?_
  refine lv_iload_n hx hb dX3_commit_29 rfl (lv_at hl 3 rfl) ?_
  refine ww_callA (As := [.int (nI 5), .int (nI j)]) (rest := []) ⟨hx, hb, hml, hown, hts⟩ (cS_app l D cI a aL pa ta da (frc (emT S (rcW S 3 j)) (sN S + 1)) u (b + 1) 5 j hI4 (by omega) (RX_frc _ hq) hp3 (by omega) (by omega)) gX3_commit_X3_appendOfWork rfl hd_X3_appendOfWork ⟨Nat.le_of_ble_eq_true rfl, Nat.le_of_ble_eq_true rfl⟩ hw rfl rfl rfl rfl hl.1 (Nat.le_of_ble_eq_true rfl) dX3_commit_30 ⟨by show _ ≤ sCap (oComm S (nI j)).2 - sCap S; have : sCap (frc (emT S (rcW S 3 j)) (sN S + 1)) = sCap (emT S (rcW S 3 j)) := rfl; omega, by show _ ≤ 2 * (sCap (oComm S (nI j)).2 - sCap S); have : sCap (frc (emT S (rcW S 3 j)) (sN S + 1)) = sCap (emT S (rcW S 3 j)) := rfl; omega⟩ (fun rv u H locs hq hw => ?_)
  obtain ⟨rr, rfl, -, hq⟩ := hq
  have hw : ww D cI _ _ s ([(a, .inr (3, [.ref aL, .ref pa.1, .ref ta.1, .ref da.1, .int (nI (sLp (emT (frc (emT S (rcW S 3 j)) (sN S + 1)) (rcW (frc (emT S (rcW S 3 j)) (sN S + 1)) 5 j)))), .int (nI (sPt (emT (frc (emT S (rcW S 3 j)) (sN S + 1)) (rcW (frc (emT S (rcW S 3 j)) (sN S + 1)) 5 j)))), .int (nI (sWk (emT (frc (emT S (rcW S 3 j)) (sN S + 1)) (rcW (frc (emT S (rcW S 3 j)) (sN S + 1)) 5 j)))), .int (nI (sDo (emT (frc (emT S (rcW S 3 j)) (sN S + 1)) (rcW (frc (emT S (rcW S 3 j)) (sN S + 1)) 5 j)))), .int (nI (sAt (emT (frc (emT S (rcW S 3 j)) (sN S + 1)) (rcW (frc (emT S (rcW S 3 j)) (sN S + 1)) 5 j)))), .int (sC2 (emT (frc (emT S (rcW S 3 j)) (sN S + 1)) (rcW (frc (emT S (rcW S 3 j)) (sN S + 1)) 5 j))), .int (sC3 (emT (frc (emT S (rcW S 3 j)) (sN S + 1)) (rcW (frc (emT S (rcW S 3 j)) (sN S + 1)) 5 j))), .int (sC4 (emT (frc (emT S (rcW S 3 j)) (sN S + 1)) (rcW (frc (emT S (rcW S 3 j)) (sN S + 1)) 5 j))), .int (sC5 (emT (frc (emT S (rcW S 3 j)) (sN S + 1)) (rcW (frc (emT S (rcW S 3 j)) (sN S + 1)) 5 j)))]))] ++ (wL cI aL u.1 ((emT (frc (emT S (rcW S 3 j)) (sN S + 1)) (rcW (frc (emT S (rcW S 3 j)) (sN S + 1)) 5 j)).1) u.2.1 ++ (wG cI pa ((emT (frc (emT S (rcW S 3 j)) (sN S + 1)) (rcW (frc (emT S (rcW S 3 j)) (sN S + 1)) 5 j)).2.1) ++ (wT cI ta u.2.2.1 u.2.2.2.1 ++ wT cI da u.2.2.2.2.1 u.2.2.2.2.2)))) H locs := hw
  refine W.eq (g2 := F0 m 33 ls [.int (rr)]) rfl ?_
  refine lv_pop hx hb dX3_commit_33 rfl ?_
  have hw : ww D cI (va_A ([(a, .inr (3, [.ref aL, .ref pa.1, .ref ta.1, .ref da.1, .int (nI (sLp S)), .int (nI (sPt S)), .int (nI (sWk S)), .int (nI (sDo S)), .int (nI (sAt S)), .int (sC2 S), .int (sC3 S), .int (sC4 S), .int (sC5 S)]))] ++ (wL cI aL x.1 S.1 x.2.1 ++ (wG cI pa S.2.1 ++ (wT cI ta x.2.2.1 x.2.2.2.1 ++ wT cI da x.2.2.2.2.1 x.2.2.2.2.2)))) s.heap.size) s.heap s ([(a, .inr (3, [.ref aL, .ref pa.1, .ref ta.1, .ref da.1, .int (nI (sLp ((oComm S (nI j)).2))), .int (nI (sPt ((oComm S (nI j)).2))), .int (nI (sWk ((oComm S (nI j)).2))), .int (nI (sDo ((oComm S (nI j)).2))), .int (nI (sAt ((oComm S (nI j)).2))), .int (sC2 ((oComm S (nI j)).2)), .int (sC3 ((oComm S (nI j)).2)), .int (sC4 ((oComm S (nI j)).2)), .int (sC5 ((oComm S (nI j)).2))]))] ++ (wL cI aL u.1 (((oComm S (nI j)).2).1) u.2.1 ++ (wG cI pa (((oComm S (nI j)).2).2.1) ++ (wT cI ta u.2.2.1 u.2.2.2.1 ++ wT cI da u.2.2.2.2.1 u.2.2.2.2.2)))) H locs := by rw [hE]; exact hw
  refine lv_iload_n hx hb dX3_commit_34 rfl (lv_at hl 0 rfl) ?_
  exact ww_iret (u := u) hx hb hr hlk hw (by rw [hE]; exact ⟨rfl, hq⟩) (by rw [hE2]; first | omega | (have : sCap (frc (emT S (rcW S 3 j)) (sN S + 1)) = sCap (emT S (rcW S 3 j)) := rfl; omega)) (by rw [hE2]; first | omega | (have : sCap (frc (emT S (rcW S 3 j)) (sN S + 1)) = sCap (emT S (rcW S 3 j)) := rfl; omega)) dX3_commit_35
set_option maxHeartbeats 1000000 in
set_option maxRecDepth 100000 in
theorem cF_abort (l : Launch) (D : va_G) (cI : ClassId) (a aL : Nat) (pa : A5) (ta da : A6) (S : SS) (x : XG) (b : Nat) (hI0 : Inv b S) (h5 : E5 S) (hb5 : b + 1 ≤ 4000) (hrx : RX S x) (y1 : Int32) : Kt l yX3_abort wsX3_abort 5 115 (sCap (oAbor S y1).2 - sCap S) (2 * (sCap (oAbor S y1).2 - sCap S)) D cI [.ref a, .int y1] ([(a, .inr (3, [.ref aL, .ref pa.1, .ref ta.1, .ref da.1, .int (nI (sLp S)), .int (nI (sPt S)), .int (nI (sWk S)), .int (nI (sDo S)), .int (nI (sAt S)), .int (sC2 S), .int (sC3 S), .int (sC4 S), .int (sC5 S)]))] ++ (wL cI aL x.1 S.1 x.2.1 ++ (wG cI pa S.2.1 ++ (wT cI ta x.2.2.1 x.2.2.2.1 ++ wT cI da x.2.2.2.2.1 x.2.2.2.2.2)))) (pI (fun (r : Int32) (u : XG) => r = (oAbor S y1).1 ∧ RX (oAbor S y1).2 u)) (fun (u : XG) => [(a, .inr (3, [.ref aL, .ref pa.1, .ref ta.1, .ref da.1, .int (nI (sLp ((oAbor S y1).2))), .int (nI (sPt ((oAbor S y1).2))), .int (nI (sWk ((oAbor S y1).2))), .int (nI (sDo ((oAbor S y1).2))), .int (nI (sAt ((oAbor S y1).2))), .int (sC2 ((oAbor S y1).2)), .int (sC3 ((oAbor S y1).2)), .int (sC4 ((oAbor S y1).2)), .int (sC5 ((oAbor S y1).2))]))] ++ (wL cI aL u.1 (((oAbor S y1).2).1) u.2.1 ++ (wG cI pa (((oAbor S y1).2).2.1) ++ (wT cI ta u.2.2.1 u.2.2.2.1 ++ wT cI da u.2.2.2.2.1 u.2.2.2.2.2)))) := by
  refine kt_start (cc := cX3_abort) (maxL := 4) (ret := (some .int)) (by decide +kernel) rfl (Nat.le_of_ble_eq_true rfl) ?_
  intro p e s m below meth c hx hb hml hr hlk hown hnm hts ls hl hw
  have hown : s.vm.findClass RX3 = some m.cls := hown
  have hl : lv_has ls 4 [(0, .ref a), (1, .int y1)] := hl
  have hb4 : b ≤ 4000 := by omega
  have hI := hI0.1
  have hn4 := Inv0_n hI
  have hwk := hI.2.1.2.1
  have hdo4 : sDo S ≤ 4 := by rcases hI.2.2.2.2.2 with z | z | z <;> omega
  refine lv_aload_n hx hb dX3_abort_0 rfl (lv_at hl 0 rfl) ?_
  refine lv_iload_n hx hb dX3_abort_1 rfl (lv_at hl 1 rfl) ?_
  refine ww_callA (As := [.int y1]) (rest := []) ⟨hx, hb, hml, hown, hts⟩ (cB_refusalFor l D cI a aL x.1 pa ta da S.2.2.2.2 S.1 x.2.1 S.2.1 x.2.2.1 x.2.2.2.2.1 x.2.2.2.1 x.2.2.2.2.2 (sT S) hrx.2.1 y1 (by show sDo S < 2 ^ 31; omega)) gX3_abort_X3_refusalFor rfl hd_X3_refusalFor ⟨Nat.le_of_ble_eq_true rfl, Nat.le_of_ble_eq_true rfl⟩ hw rfl rfl rfl rfl hl.1 (Nat.le_of_ble_eq_true rfl) dX3_abort_2 ⟨Nat.zero_le _, Nat.zero_le _⟩ (fun rv u H locs hq hw => ?_)
  obtain ⟨rr, rfl, hq⟩ := hq
  have hw : ww D cI _ _ s ([(a, .inr (3, [.ref aL, .ref pa.1, .ref ta.1, .ref da.1, .int (nI (sLp S)), .int (nI (sPt S)), .int (nI (sWk S)), .int (nI (sDo S)), .int (nI (sAt S)), .int (sC2 S), .int (sC3 S), .int (sC4 S), .int (sC5 S)]))] ++ (wL cI aL x.1 S.1 x.2.1 ++ (wG cI pa S.2.1 ++ (wT cI ta x.2.2.1 x.2.2.2.1 ++ wT cI da x.2.2.2.2.1 x.2.2.2.2.2)))) H locs := hw
  refine W.eq (g2 := F0 m 5 ls [.int (rr)]) rfl ?_
  by_cases hdo : sDo S ≠ 0
  · rw [if_pos (show S.2.2.2.2.2.2.2.1 ≠ 0 from hdo)] at hq
    subst hq
    refine lv_istore_n (lv' := [(2, .int (xDOW)), (0, .ref a), (1, .int y1)]) hx hb dX3_abort_5 rfl hl (by decide) rfl (fun ls hl => ?_)
    refine lv_iload_n hx hb dX3_abort_6 rfl (lv_at hl 0 rfl) ?_
    refine lv_if_eq (tgt := 12) hx hb dX3_abort_7 (by decide) (fun c_7 => absurd c_7 (by decide)) (fun c_7 => ?_)
    have hE : oAbor S y1 = (xDOW, S) := by rw [oAbor, if_pos hdo]
    have hE2 : sCap (oAbor S y1).2 = sCap S := by rw [hE]
    have hw : ww D cI (va_A ([(a, .inr (3, [.ref aL, .ref pa.1, .ref ta.1, .ref da.1, .int (nI (sLp S)), .int (nI (sPt S)), .int (nI (sWk S)), .int (nI (sDo S)), .int (nI (sAt S)), .int (sC2 S), .int (sC3 S), .int (sC4 S), .int (sC5 S)]))] ++ (wL cI aL x.1 S.1 x.2.1 ++ (wG cI pa S.2.1 ++ (wT cI ta x.2.2.1 x.2.2.2.1 ++ wT cI da x.2.2.2.2.1 x.2.2.2.2.2)))) s.heap.size) s.heap s ([(a, .inr (3, [.ref aL, .ref pa.1, .ref ta.1, .ref da.1, .int (nI (sLp ((oAbor S y1).2))), .int (nI (sPt ((oAbor S y1).2))), .int (nI (sWk ((oAbor S y1).2))), .int (nI (sDo ((oAbor S y1).2))), .int (nI (sAt ((oAbor S y1).2))), .int (sC2 ((oAbor S y1).2)), .int (sC3 ((oAbor S y1).2)), .int (sC4 ((oAbor S y1).2)), .int (sC5 ((oAbor S y1).2))]))] ++ (wL cI aL x.1 (((oAbor S y1).2).1) x.2.1 ++ (wG cI pa (((oAbor S y1).2).2.1) ++ (wT cI ta x.2.2.1 x.2.2.2.1 ++ wT cI da x.2.2.2.2.1 x.2.2.2.2.2)))) H locs := by rw [hE]; exact hw
    refine lv_iload_n hx hb dX3_abort_10 rfl (lv_at hl 0 rfl) ?_
    exact ww_iret (u := x) hx hb hr hlk hw (by rw [hE]; exact ⟨rfl, hrx⟩) (by rw [hE2]; omega) (by rw [hE2]; omega) dX3_abort_11
  rw [if_neg (show ¬ S.2.2.2.2.2.2.2.1 ≠ 0 from hdo)] at hq
  by_cases hk : (sT S (cl y1)).1 = 0
  · rw [if_pos hk] at hq
    subst hq
    refine lv_istore_n (lv' := [(2, .int (xUNK)), (0, .ref a), (1, .int y1)]) hx hb dX3_abort_5 rfl hl (by decide) rfl (fun ls hl => ?_)
    refine lv_iload_n hx hb dX3_abort_6 rfl (lv_at hl 0 rfl) ?_
    refine lv_if_eq (tgt := 12) hx hb dX3_abort_7 (by decide) (fun c_7 => absurd c_7 (by decide)) (fun c_7 => ?_)
    have hE : oAbor S y1 = (xUNK, S) := by rw [oAbor, if_neg hdo, if_pos hk]
    have hE2 : sCap (oAbor S y1).2 = sCap S := by rw [hE]
    have hw : ww D cI (va_A ([(a, .inr (3, [.ref aL, .ref pa.1, .ref ta.1, .ref da.1, .int (nI (sLp S)), .int (nI (sPt S)), .int (nI (sWk S)), .int (nI (sDo S)), .int (nI (sAt S)), .int (sC2 S), .int (sC3 S), .int (sC4 S), .int (sC5 S)]))] ++ (wL cI aL x.1 S.1 x.2.1 ++ (wG cI pa S.2.1 ++ (wT cI ta x.2.2.1 x.2.2.2.1 ++ wT cI da x.2.2.2.2.1 x.2.2.2.2.2)))) s.heap.size) s.heap s ([(a, .inr (3, [.ref aL, .ref pa.1, .ref ta.1, .ref da.1, .int (nI (sLp ((oAbor S y1).2))), .int (nI (sPt ((oAbor S y1).2))), .int (nI (sWk ((oAbor S y1).2))), .int (nI (sDo ((oAbor S y1).2))), .int (nI (sAt ((oAbor S y1).2))), .int (sC2 ((oAbor S y1).2)), .int (sC3 ((oAbor S y1).2)), .int (sC4 ((oAbor S y1).2)), .int (sC5 ((oAbor S y1).2))]))] ++ (wL cI aL x.1 (((oAbor S y1).2).1) x.2.1 ++ (wG cI pa (((oAbor S y1).2).2.1) ++ (wT cI ta x.2.2.1 x.2.2.2.1 ++ wT cI da x.2.2.2.2.1 x.2.2.2.2.2)))) H locs := by rw [hE]; exact hw
    refine lv_iload_n hx hb dX3_abort_10 rfl (lv_at hl 0 rfl) ?_
    exact ww_iret (u := x) hx hb hr hlk hw (by rw [hE]; exact ⟨rfl, hrx⟩) (by rw [hE2]; omega) (by rw [hE2]; omega) dX3_abort_11
  rw [if_neg hk] at hq
  subst hq
  obtain ⟨j, hj2, rfl, hcj, hp⟩ := in_work hrx hk
  have hdo0 : sDo S = 0 := Decidable.not_not.mp hdo
  refine lv_istore_n (lv' := [(2, .int (0)), (0, .ref a), (1, .int (nI j))]) hx hb dX3_abort_5 rfl hl (by decide) rfl (fun ls hl => ?_)
  refine lv_iload_n hx hb dX3_abort_6 rfl (lv_at hl 0 rfl) ?_
  refine lv_if_eq (tgt := 12) hx hb dX3_abort_7 (by decide) (fun c_7 => ?_) (fun c_7 => absurd (by decide) c_7)
  have hE : oAbor S (nI j) = (nI (undL (sN (emT S (rcW S 4 j))) (emT S (rcW S 4 j)) j 0).1, (emT (undL (sN (emT S (rcW S 4 j))) (emT S (rcW S 4 j)) j 0).2 (rcW (undL (sN (emT S (rcW S 4 j))) (emT S (rcW S 4 j)) j 0).2 5 j))) := by rw [oAbor, if_neg hdo, if_neg hk, hcj]; rfl
  have hE2 : sCap (oAbor S (nI j)).2 = sCap (emT (undL (sN (emT S (rcW S 4 j))) (emT S (rcW S 4 j)) j 0).2 (rcW (undL (sN (emT S (rcW S 4 j))) (emT S (rcW S 4 j)) j 0).2 5 j)) := by rw [hE]
  have hcm := cap_emT S (rcW S 4 j)
  have hI3 := Inv0_k (k := 4) hI hdo0 hp (Or.inr (Or.inl rfl))
  have hj1 : j ≠ 0 := by have := (((Inv0_T hI).1 j).2 hp).1; omega
  have hp3 : (sT (emT S (rcW S 4 j)) j).1 ≠ 0 := by rw [emT_T hp hj1]; show (2 : Nat) ≠ 0; decide
  have hd3 : sDo (emT S (rcW S 4 j)) = 0 := hdo0
  have hU := undL_ok (to := 0) (sN (emT S (rcW S 4 j))) hI3 hd3 hp3
  have hcm2 : sCap (emT S (rcW S 4 j)) ≤ sCap (undL (sN (emT S (rcW S 4 j))) (emT S (rcW S 4 j)) j 0).2 := hU.2.2.2.2.1
  have hcm3 : sCap (undL (sN (emT S (rcW S 4 j))) (emT S (rcW S 4 j)) j 0).2 ≤ sCap (emT (undL (sN (emT S (rcW S 4 j))) (emT S (rcW S 4 j)) j 0).2 (rcW (undL (sN (emT S (rcW S 4 j))) (emT S (rcW S 4 j)) j 0).2 5 j)) := cap_emT (undL (sN (emT S (rcW S 4 j))) (emT S (rcW S 4 j)) j 0).2 _
  refine lv_aload_n hx hb dX3_abort_12 rfl (lv_at hl 1 rfl) ?_
  refine lv_iconst (v := nI 4) hx hb dX3_abort_13 (by decide +kernel) ?_
  refine lv_iload_n hx hb dX3_abort_14 rfl (lv_at hl 2 rfl) ?_
  refine ww_callA (As := [.int (nI 4), .int (nI j)]) (rest := []) ⟨hx, hb, hml, hown, hts⟩ (cS_app l D cI a aL pa ta da S x b 4 j hI hb4 hrx hp (by omega) (by omega)) gX3_abort_X3_appendOfWork rfl hd_X3_appendOfWork ⟨Nat.le_of_ble_eq_true rfl, Nat.le_of_ble_eq_true rfl⟩ hw rfl rfl rfl rfl hl.1 (Nat.le_of_ble_eq_true rfl) dX3_abort_15 ⟨by show _ ≤ sCap (oAbor S (nI j)).2 - sCap S; omega, by show _ ≤ 2 * (sCap (oAbor S (nI j)).2 - sCap S); omega⟩ (fun rv u H locs hq hw => ?_)
  obtain ⟨rr, rfl, rfl, hq⟩ := hq
  have hw : ww D cI _ _ s ([(a, .inr (3, [.ref aL, .ref pa.1, .ref ta.1, .ref da.1, .int (nI (sLp (emT S (rcW S 4 j)))), .int (nI (sPt (emT S (rcW S 4 j)))), .int (nI (sWk (emT S (rcW S 4 j)))), .int (nI (sDo (emT S (rcW S 4 j)))), .int (nI (sAt (emT S (rcW S 4 j)))), .int (sC2 (emT S (rcW S 4 j))), .int (sC3 (emT S (rcW S 4 j))), .int (sC4 (emT S (rcW S 4 j))), .int (sC5 (emT S (rcW S 4 j)))]))] ++ (wL cI aL u.1 ((emT S (rcW S 4 j)).1) u.2.1 ++ (wG cI pa ((emT S (rcW S 4 j)).2.1) ++ (wT cI ta u.2.2.1 u.2.2.2.1 ++ wT cI da u.2.2.2.2.1 u.2.2.2.2.2)))) H locs := hw
  refine W.eq (g2 := F0 m 18 ls [.int (nI (sN S + 1))]) rfl ?_
  refine lv_pop hx hb dX3_abort_18 rfl ?_
  refine lv_aload_n hx hb dX3_abort_19 rfl (lv_at hl 1 rfl) ?_
  refine lv_iload_n hx hb dX3_abort_20 rfl (lv_at hl 2 rfl) ?_
  refine lv_iconst (v := nI 0) hx hb dX3_abort_21 (by decide +kernel) ?_
  refine ww_callA (As := [.int (nI j), .int (nI 0)]) (rest := []) ⟨hx, hb, hml, hown, hts⟩ (cS_undoDownTo l D cI a aL pa ta da (emT S (rcW S 4 j)) u (b + 1) hI3 hb5 hq j 0 (by omega) hd3 hp3) gX3_abort_X3_undoDownTo rfl hd_X3_undoDownTo ⟨Nat.le_of_ble_eq_true rfl, Nat.le_of_ble_eq_true rfl⟩ hw rfl rfl rfl rfl hl.1 (Nat.le_of_ble_eq_true rfl) dX3_abort_22 ⟨by show _ ≤ sCap (oAbor S (nI j)).2 - sCap S; omega, by show _ ≤ 2 * (sCap (oAbor S (nI j)).2 - sCap S); omega⟩ (fun rv u H locs hq hw => ?_)
  obtain ⟨rr, rfl, rfl, hq⟩ := hq
  have hw : ww D cI _ _ s ([(a, .inr (3, [.ref aL, .ref pa.1, .ref ta.1, .ref da.1, .int (nI (sLp ((undL (sN (emT S (rcW S 4 j))) (emT S (rcW S 4 j)) j 0).2))), .int (nI (sPt ((undL (sN (emT S (rcW S 4 j))) (emT S (rcW S 4 j)) j 0).2))), .int (nI (sWk ((undL (sN (emT S (rcW S 4 j))) (emT S (rcW S 4 j)) j 0).2))), .int (nI (sDo ((undL (sN (emT S (rcW S 4 j))) (emT S (rcW S 4 j)) j 0).2))), .int (nI (sAt ((undL (sN (emT S (rcW S 4 j))) (emT S (rcW S 4 j)) j 0).2))), .int (sC2 ((undL (sN (emT S (rcW S 4 j))) (emT S (rcW S 4 j)) j 0).2)), .int (sC3 ((undL (sN (emT S (rcW S 4 j))) (emT S (rcW S 4 j)) j 0).2)), .int (sC4 ((undL (sN (emT S (rcW S 4 j))) (emT S (rcW S 4 j)) j 0).2)), .int (sC5 ((undL (sN (emT S (rcW S 4 j))) (emT S (rcW S 4 j)) j 0).2))]))] ++ (wL cI aL u.1 (((undL (sN (emT S (rcW S 4 j))) (emT S (rcW S 4 j)) j 0).2).1) u.2.1 ++ (wG cI pa (((undL (sN (emT S (rcW S 4 j))) (emT S (rcW S 4 j)) j 0).2).2.1) ++ (wT cI ta u.2.2.1 u.2.2.2.1 ++ wT cI da u.2.2.2.2.1 u.2.2.2.2.2)))) H locs := hw
  refine W.eq (g2 := F0 m 25 ls [.int (nI (undL (sN (emT S (rcW S 4 j))) (emT S (rcW S 4 j)) j 0).1)]) rfl ?_
  refine lv_istore_n (lv' := [(3, .int (nI (undL (sN (emT S (rcW S 4 j))) (emT S (rcW S 4 j)) j 0).1)), (2, .int (0)), (0, .ref a), (1, .int (nI j))]) hx hb dX3_abort_25 rfl hl (by decide) rfl (fun ls hl => ?_)
  refine W.eq (g2 := F0 m 26 ls []) rfl ?_
  refine lv_aload_n hx hb dX3_abort_26 rfl (lv_at hl 2 rfl) ?_
  refine lv_iconst (v := nI 5) hx hb dX3_abort_27 (by decide +kernel) ?_
  refine lv_iload_n hx hb dX3_abort_28 rfl (lv_at hl 3 rfl) ?_
  refine ww_callA (As := [.int (nI 5), .int (nI j)]) (rest := []) ⟨hx, hb, hml, hown, hts⟩ (cS_app l D cI a aL pa ta da (undL (sN (emT S (rcW S 4 j))) (emT S (rcW S 4 j)) j 0).2 u (b + 1) 5 j hU.1 hb5 hq hU.2.2.1 (by omega) (by omega)) gX3_abort_X3_appendOfWork rfl hd_X3_appendOfWork ⟨Nat.le_of_ble_eq_true rfl, Nat.le_of_ble_eq_true rfl⟩ hw rfl rfl rfl rfl hl.1 (Nat.le_of_ble_eq_true rfl) dX3_abort_29 ⟨by show _ ≤ sCap (oAbor S (nI j)).2 - sCap S; omega, by show _ ≤ 2 * (sCap (oAbor S (nI j)).2 - sCap S); omega⟩ (fun rv u H locs hq hw => ?_)
  obtain ⟨rr, rfl, -, hq⟩ := hq
  have hw : ww D cI _ _ s ([(a, .inr (3, [.ref aL, .ref pa.1, .ref ta.1, .ref da.1, .int (nI (sLp (emT (undL (sN (emT S (rcW S 4 j))) (emT S (rcW S 4 j)) j 0).2 (rcW (undL (sN (emT S (rcW S 4 j))) (emT S (rcW S 4 j)) j 0).2 5 j)))), .int (nI (sPt (emT (undL (sN (emT S (rcW S 4 j))) (emT S (rcW S 4 j)) j 0).2 (rcW (undL (sN (emT S (rcW S 4 j))) (emT S (rcW S 4 j)) j 0).2 5 j)))), .int (nI (sWk (emT (undL (sN (emT S (rcW S 4 j))) (emT S (rcW S 4 j)) j 0).2 (rcW (undL (sN (emT S (rcW S 4 j))) (emT S (rcW S 4 j)) j 0).2 5 j)))), .int (nI (sDo (emT (undL (sN (emT S (rcW S 4 j))) (emT S (rcW S 4 j)) j 0).2 (rcW (undL (sN (emT S (rcW S 4 j))) (emT S (rcW S 4 j)) j 0).2 5 j)))), .int (nI (sAt (emT (undL (sN (emT S (rcW S 4 j))) (emT S (rcW S 4 j)) j 0).2 (rcW (undL (sN (emT S (rcW S 4 j))) (emT S (rcW S 4 j)) j 0).2 5 j)))), .int (sC2 (emT (undL (sN (emT S (rcW S 4 j))) (emT S (rcW S 4 j)) j 0).2 (rcW (undL (sN (emT S (rcW S 4 j))) (emT S (rcW S 4 j)) j 0).2 5 j))), .int (sC3 (emT (undL (sN (emT S (rcW S 4 j))) (emT S (rcW S 4 j)) j 0).2 (rcW (undL (sN (emT S (rcW S 4 j))) (emT S (rcW S 4 j)) j 0).2 5 j))), .int (sC4 (emT (undL (sN (emT S (rcW S 4 j))) (emT S (rcW S 4 j)) j 0).2 (rcW (undL (sN (emT S (rcW S 4 j))) (emT S (rcW S 4 j)) j 0).2 5 j))), .int (sC5 (emT (undL (sN (emT S (rcW S 4 j))) (emT S (rcW S 4 j)) j 0).2 (rcW (undL (sN (emT S (rcW S 4 j))) (emT S (rcW S 4 j)) j 0).2 5 j)))]))] ++ (wL cI aL u.1 ((emT (undL (sN (emT S (rcW S 4 j))) (emT S (rcW S 4 j)) j 0).2 (rcW (undL (sN (emT S (rcW S 4 j))) (emT S (rcW S 4 j)) j 0).2 5 j)).1) u.2.1 ++ (wG cI pa ((emT (undL (sN (emT S (rcW S 4 j))) (emT S (rcW S 4 j)) j 0).2 (rcW (undL (sN (emT S (rcW S 4 j))) (emT S (rcW S 4 j)) j 0).2 5 j)).2.1) ++ (wT cI ta u.2.2.1 u.2.2.2.1 ++ wT cI da u.2.2.2.2.1 u.2.2.2.2.2)))) H locs := hw
  refine W.eq (g2 := F0 m 32 ls [.int (rr)]) rfl ?_
  refine lv_pop hx hb dX3_abort_32 rfl ?_
  have hw : ww D cI (va_A ([(a, .inr (3, [.ref aL, .ref pa.1, .ref ta.1, .ref da.1, .int (nI (sLp S)), .int (nI (sPt S)), .int (nI (sWk S)), .int (nI (sDo S)), .int (nI (sAt S)), .int (sC2 S), .int (sC3 S), .int (sC4 S), .int (sC5 S)]))] ++ (wL cI aL x.1 S.1 x.2.1 ++ (wG cI pa S.2.1 ++ (wT cI ta x.2.2.1 x.2.2.2.1 ++ wT cI da x.2.2.2.2.1 x.2.2.2.2.2)))) s.heap.size) s.heap s ([(a, .inr (3, [.ref aL, .ref pa.1, .ref ta.1, .ref da.1, .int (nI (sLp ((oAbor S (nI j)).2))), .int (nI (sPt ((oAbor S (nI j)).2))), .int (nI (sWk ((oAbor S (nI j)).2))), .int (nI (sDo ((oAbor S (nI j)).2))), .int (nI (sAt ((oAbor S (nI j)).2))), .int (sC2 ((oAbor S (nI j)).2)), .int (sC3 ((oAbor S (nI j)).2)), .int (sC4 ((oAbor S (nI j)).2)), .int (sC5 ((oAbor S (nI j)).2))]))] ++ (wL cI aL u.1 (((oAbor S (nI j)).2).1) u.2.1 ++ (wG cI pa (((oAbor S (nI j)).2).2.1) ++ (wT cI ta u.2.2.1 u.2.2.2.1 ++ wT cI da u.2.2.2.2.1 u.2.2.2.2.2)))) H locs := by rw [hE]; exact hw
  refine lv_iload_n hx hb dX3_abort_33 rfl (lv_at hl 0 rfl) ?_
  exact ww_iret (u := u) hx hb hr hlk hw (by rw [hE]; exact ⟨rfl, hq⟩) (by rw [hE2]; omega) (by rw [hE2]; omega) dX3_abort_34
set_option maxHeartbeats 1000000 in
set_option maxRecDepth 100000 in
theorem cF_back (l : Launch) (D : va_G) (cI : ClassId) (a aL : Nat) (pa : A5) (ta da : A6) (S : SS) (x : XG) (b : Nat) (hI0 : Inv b S) (h5 : E5 S) (hb4 : b ≤ 4000) (hrx : RX S x) (y1 y2 : Int32) : Kt l yX3_back wsX3_back 5 115 (sCap (oBack S y1 y2).2 - sCap S) (2 * (sCap (oBack S y1 y2).2 - sCap S)) D cI [.ref a, .int y1, .int y2] ([(a, .inr (3, [.ref aL, .ref pa.1, .ref ta.1, .ref da.1, .int (nI (sLp S)), .int (nI (sPt S)), .int (nI (sWk S)), .int (nI (sDo S)), .int (nI (sAt S)), .int (sC2 S), .int (sC3 S), .int (sC4 S), .int (sC5 S)]))] ++ (wL cI aL x.1 S.1 x.2.1 ++ (wG cI pa S.2.1 ++ (wT cI ta x.2.2.1 x.2.2.2.1 ++ wT cI da x.2.2.2.2.1 x.2.2.2.2.2)))) (pI (fun (r : Int32) (u : XG) => r = (oBack S y1 y2).1 ∧ RX (oBack S y1 y2).2 u)) (fun (u : XG) => [(a, .inr (3, [.ref aL, .ref pa.1, .ref ta.1, .ref da.1, .int (nI (sLp ((oBack S y1 y2).2))), .int (nI (sPt ((oBack S y1 y2).2))), .int (nI (sWk ((oBack S y1 y2).2))), .int (nI (sDo ((oBack S y1 y2).2))), .int (nI (sAt ((oBack S y1 y2).2))), .int (sC2 ((oBack S y1 y2).2)), .int (sC3 ((oBack S y1 y2).2)), .int (sC4 ((oBack S y1 y2).2)), .int (sC5 ((oBack S y1 y2).2))]))] ++ (wL cI aL u.1 (((oBack S y1 y2).2).1) u.2.1 ++ (wG cI pa (((oBack S y1 y2).2).2.1) ++ (wT cI ta u.2.2.1 u.2.2.2.1 ++ wT cI da u.2.2.2.2.1 u.2.2.2.2.2)))) := by
  refine kt_start (cc := cX3_back) (maxL := 4) (ret := (some .int)) (by decide +kernel) rfl (Nat.le_of_ble_eq_true rfl) ?_
  intro p e s m below meth c hx hb hml hr hlk hown hnm hts ls hl hw
  have hown : s.vm.findClass RX3 = some m.cls := hown
  have hl : lv_has ls 4 [(0, .ref a), (1, .int y1), (2, .int y2)] := hl
  have k26 := hts (.fieldLink RX3 26 "RestartBook" "tables" "LRestartBook$Tables;") (by decide +kernel)
  have hin3 : ∀ w ∈ u_ws RX3 TX3 13, w ∈ wsX3_back := in_X3_back
  have hI := hI0.1
  have hn4 := Inv0_n hI
  have hwk := hI.2.1.2.1
  have hdo4 : sDo S ≤ 4 := by rcases hI.2.2.2.2.2 with z | z | z <;> omega
  refine lv_aload_n hx hb dX3_back_0 rfl (lv_at hl 0 rfl) ?_
  refine lv_iload_n hx hb dX3_back_1 rfl (lv_at hl 1 rfl) ?_
  refine ww_callA (As := [.int y1]) (rest := []) ⟨hx, hb, hml, hown, hts⟩ (cB_refusalFor l D cI a aL x.1 pa ta da S.2.2.2.2 S.1 x.2.1 S.2.1 x.2.2.1 x.2.2.2.2.1 x.2.2.2.1 x.2.2.2.2.2 (sT S) hrx.2.1 y1 (by show sDo S < 2 ^ 31; omega)) gX3_back_X3_refusalFor rfl hd_X3_refusalFor ⟨Nat.le_of_ble_eq_true rfl, Nat.le_of_ble_eq_true rfl⟩ hw rfl rfl rfl rfl hl.1 (Nat.le_of_ble_eq_true rfl) dX3_back_2 ⟨Nat.zero_le _, Nat.zero_le _⟩ (fun rv u H locs hq hw => ?_)
  obtain ⟨rr, rfl, hq⟩ := hq
  have hw : ww D cI _ _ s ([(a, .inr (3, [.ref aL, .ref pa.1, .ref ta.1, .ref da.1, .int (nI (sLp S)), .int (nI (sPt S)), .int (nI (sWk S)), .int (nI (sDo S)), .int (nI (sAt S)), .int (sC2 S), .int (sC3 S), .int (sC4 S), .int (sC5 S)]))] ++ (wL cI aL x.1 S.1 x.2.1 ++ (wG cI pa S.2.1 ++ (wT cI ta x.2.2.1 x.2.2.2.1 ++ wT cI da x.2.2.2.2.1 x.2.2.2.2.2)))) H locs := hw
  refine W.eq (g2 := F0 m 5 ls [.int (rr)]) rfl ?_
  by_cases hdo : sDo S ≠ 0
  · rw [if_pos (show S.2.2.2.2.2.2.2.1 ≠ 0 from hdo)] at hq
    subst hq
    refine lv_istore_n (lv' := [(3, .int (xDOW)), (0, .ref a), (1, .int y1), (2, .int y2)]) hx hb dX3_back_5 rfl hl (by decide) rfl (fun ls hl => ?_)
    refine lv_iload_n hx hb dX3_back_6 rfl (lv_at hl 0 rfl) ?_
    refine lv_if_eq (tgt := 12) hx hb dX3_back_7 (by decide) (fun c_7 => absurd c_7 (by decide)) (fun c_7 => ?_)
    have hE : oBack S y1 y2 = (xDOW, S) := by rw [oBack, if_pos hdo]
    have hE2 : sCap (oBack S y1 y2).2 = sCap S := by rw [hE]
    have hw : ww D cI (va_A ([(a, .inr (3, [.ref aL, .ref pa.1, .ref ta.1, .ref da.1, .int (nI (sLp S)), .int (nI (sPt S)), .int (nI (sWk S)), .int (nI (sDo S)), .int (nI (sAt S)), .int (sC2 S), .int (sC3 S), .int (sC4 S), .int (sC5 S)]))] ++ (wL cI aL x.1 S.1 x.2.1 ++ (wG cI pa S.2.1 ++ (wT cI ta x.2.2.1 x.2.2.2.1 ++ wT cI da x.2.2.2.2.1 x.2.2.2.2.2)))) s.heap.size) s.heap s ([(a, .inr (3, [.ref aL, .ref pa.1, .ref ta.1, .ref da.1, .int (nI (sLp ((oBack S y1 y2).2))), .int (nI (sPt ((oBack S y1 y2).2))), .int (nI (sWk ((oBack S y1 y2).2))), .int (nI (sDo ((oBack S y1 y2).2))), .int (nI (sAt ((oBack S y1 y2).2))), .int (sC2 ((oBack S y1 y2).2)), .int (sC3 ((oBack S y1 y2).2)), .int (sC4 ((oBack S y1 y2).2)), .int (sC5 ((oBack S y1 y2).2))]))] ++ (wL cI aL x.1 (((oBack S y1 y2).2).1) x.2.1 ++ (wG cI pa (((oBack S y1 y2).2).2.1) ++ (wT cI ta x.2.2.1 x.2.2.2.1 ++ wT cI da x.2.2.2.2.1 x.2.2.2.2.2)))) H locs := by rw [hE]; exact hw
    refine lv_iload_n hx hb dX3_back_10 rfl (lv_at hl 0 rfl) ?_
    exact ww_iret (u := x) hx hb hr hlk hw (by rw [hE]; exact ⟨rfl, hrx⟩) (by rw [hE2]; omega) (by rw [hE2]; omega) dX3_back_11
  rw [if_neg (show ¬ S.2.2.2.2.2.2.2.1 ≠ 0 from hdo)] at hq
  by_cases hk : (sT S (cl y1)).1 = 0
  · rw [if_pos hk] at hq
    subst hq
    refine lv_istore_n (lv' := [(3, .int (xUNK)), (0, .ref a), (1, .int y1), (2, .int y2)]) hx hb dX3_back_5 rfl hl (by decide) rfl (fun ls hl => ?_)
    refine lv_iload_n hx hb dX3_back_6 rfl (lv_at hl 0 rfl) ?_
    refine lv_if_eq (tgt := 12) hx hb dX3_back_7 (by decide) (fun c_7 => absurd c_7 (by decide)) (fun c_7 => ?_)
    have hE : oBack S y1 y2 = (xUNK, S) := by rw [oBack, if_neg hdo, if_pos hk]
    have hE2 : sCap (oBack S y1 y2).2 = sCap S := by rw [hE]
    have hw : ww D cI (va_A ([(a, .inr (3, [.ref aL, .ref pa.1, .ref ta.1, .ref da.1, .int (nI (sLp S)), .int (nI (sPt S)), .int (nI (sWk S)), .int (nI (sDo S)), .int (nI (sAt S)), .int (sC2 S), .int (sC3 S), .int (sC4 S), .int (sC5 S)]))] ++ (wL cI aL x.1 S.1 x.2.1 ++ (wG cI pa S.2.1 ++ (wT cI ta x.2.2.1 x.2.2.2.1 ++ wT cI da x.2.2.2.2.1 x.2.2.2.2.2)))) s.heap.size) s.heap s ([(a, .inr (3, [.ref aL, .ref pa.1, .ref ta.1, .ref da.1, .int (nI (sLp ((oBack S y1 y2).2))), .int (nI (sPt ((oBack S y1 y2).2))), .int (nI (sWk ((oBack S y1 y2).2))), .int (nI (sDo ((oBack S y1 y2).2))), .int (nI (sAt ((oBack S y1 y2).2))), .int (sC2 ((oBack S y1 y2).2)), .int (sC3 ((oBack S y1 y2).2)), .int (sC4 ((oBack S y1 y2).2)), .int (sC5 ((oBack S y1 y2).2))]))] ++ (wL cI aL x.1 (((oBack S y1 y2).2).1) x.2.1 ++ (wG cI pa (((oBack S y1 y2).2).2.1) ++ (wT cI ta x.2.2.1 x.2.2.2.1 ++ wT cI da x.2.2.2.2.1 x.2.2.2.2.2)))) H locs := by rw [hE]; exact hw
    refine lv_iload_n hx hb dX3_back_10 rfl (lv_at hl 0 rfl) ?_
    exact ww_iret (u := x) hx hb hr hlk hw (by rw [hE]; exact ⟨rfl, hrx⟩) (by rw [hE2]; omega) (by rw [hE2]; omega) dX3_back_11
  rw [if_neg hk] at hq
  subst hq
  obtain ⟨j, hj2, rfl, hcj, hp⟩ := in_work hrx hk
  have hdo0 : sDo S = 0 := Decidable.not_not.mp hdo
  refine lv_istore_n (lv' := [(3, .int (0)), (0, .ref a), (1, .int (nI j)), (2, .int y2)]) hx hb dX3_back_5 rfl hl (by decide) rfl (fun ls hl => ?_)
  refine lv_iload_n hx hb dX3_back_6 rfl (lv_at hl 0 rfl) ?_
  refine lv_if_eq (tgt := 12) hx hb dX3_back_7 (by decide) (fun c_7 => ?_) (fun c_7 => absurd (by decide) c_7)
  refine lv_iload_n hx hb dX3_back_12 rfl (lv_at hl 3 rfl) ?_
  refine lv_if_lt (tgt := 28) hx hb dX3_back_13 (by decide) (fun c_13 => ?_) (fun c_13 => ?_)
  · have ho : ¬ inN y2 ((sT S (cl (nI j))).2.1 + 1) := by rw [hcj]; intro q; have := (Inv0_TB hI hb4 j).2.1; first | (have := q.1; rw [i_lt, z_0] at c_13; omega) | (have := q.2; simp (disch := omega) only [i_le, nI_toInt] at c_25; omega)
    have hE : oBack S (nI j) y2 = (xOUT, S) := by rw [oBack, if_neg hdo, if_neg hk, if_neg ho]
    have hE2 : sCap (oBack S (nI j) y2).2 = sCap S := by rw [hE]
    have hw : ww D cI (va_A ([(a, .inr (3, [.ref aL, .ref pa.1, .ref ta.1, .ref da.1, .int (nI (sLp S)), .int (nI (sPt S)), .int (nI (sWk S)), .int (nI (sDo S)), .int (nI (sAt S)), .int (sC2 S), .int (sC3 S), .int (sC4 S), .int (sC5 S)]))] ++ (wL cI aL x.1 S.1 x.2.1 ++ (wG cI pa S.2.1 ++ (wT cI ta x.2.2.1 x.2.2.2.1 ++ wT cI da x.2.2.2.2.1 x.2.2.2.2.2)))) s.heap.size) s.heap s ([(a, .inr (3, [.ref aL, .ref pa.1, .ref ta.1, .ref da.1, .int (nI (sLp ((oBack S (nI j) y2).2))), .int (nI (sPt ((oBack S (nI j) y2).2))), .int (nI (sWk ((oBack S (nI j) y2).2))), .int (nI (sDo ((oBack S (nI j) y2).2))), .int (nI (sAt ((oBack S (nI j) y2).2))), .int (sC2 ((oBack S (nI j) y2).2)), .int (sC3 ((oBack S (nI j) y2).2)), .int (sC4 ((oBack S (nI j) y2).2)), .int (sC5 ((oBack S (nI j) y2).2))]))] ++ (wL cI aL x.1 (((oBack S (nI j) y2).2).1) x.2.1 ++ (wG cI pa (((oBack S (nI j) y2).2).2.1) ++ (wT cI ta x.2.2.1 x.2.2.2.1 ++ wT cI da x.2.2.2.2.1 x.2.2.2.2.2)))) H locs := by rw [hE]; exact hw
    refine lv_bipush (v := (-102)) hx hb dX3_back_28 (by decide +kernel) ?_
    exact ww_iret (u := x) hx hb hr hlk hw (by rw [hE]; exact ⟨rfl, hrx⟩) (by rw [hE2]; omega) (by rw [hE2]; omega) dX3_back_30
  · refine lv_iload_n hx hb dX3_back_16 rfl (lv_at hl 3 rfl) ?_
    refine lv_aload_n hx hb dX3_back_17 rfl (lv_at hl 1 rfl) ?_
    refine ww_get hx hb hts hin3 hown hw 0 rfl rfl 2 (by decide) k26 rfl dX3_back_18 ?_
    refine lv_iload_n hx hb dX3_back_21 rfl (lv_at hl 2 rfl) ?_
    refine ww_callV ([(a, .inr (3, [.ref aL, .ref pa.1, .ref ta.1, .ref da.1, .int (nI (sLp S)), .int (nI (sPt S)), .int (nI (sWk S)), .int (nI (sDo S)), .int (nI (sAt S)), .int (sC2 S), .int (sC3 S), .int (sC4 S), .int (sC5 S)]))] ++ (wL cI aL x.1 S.1 x.2.1 ++ wG cI pa S.2.1)) (wT cI da x.2.2.2.2.1 x.2.2.2.2.2) (As := [.int (nI j)]) (rest := [.int y2]) ⟨hx, hb, hml, hown, hts⟩ (cT_lastOf l D cI ta.1 ta.2.1 ta.2.2.1 ta.2.2.2.1 ta.2.2.2.2.1 ta.2.2.2.2.2 x.2.2.1 x.2.2.2.1 (sT S) hrx.2.1 j (by omega) hp) gX3_back_X2_lastOf rfl hd_X2_lastOf ⟨Nat.le_of_ble_eq_true rfl, Nat.le_of_ble_eq_true rfl⟩ hw rfl rfl rfl rfl rfl hl.1 (Nat.le_of_ble_eq_true rfl) dX3_back_22 ⟨Nat.zero_le _, Nat.zero_le _⟩ (fun rv u H locs hq hw => ?_)
    obtain ⟨rr, rfl, hq⟩ := hq
    subst hq
    have hw : ww D cI _ _ s ([(a, .inr (3, [.ref aL, .ref pa.1, .ref ta.1, .ref da.1, .int (nI (sLp S)), .int (nI (sPt S)), .int (nI (sWk S)), .int (nI (sDo S)), .int (nI (sAt S)), .int (sC2 S), .int (sC3 S), .int (sC4 S), .int (sC5 S)]))] ++ (wL cI aL x.1 S.1 x.2.1 ++ (wG cI pa S.2.1 ++ (wT cI ta x.2.2.1 x.2.2.2.1 ++ wT cI da x.2.2.2.2.1 x.2.2.2.2.2)))) H locs := hw
    refine W.eq (g2 := F0 m 25 ls [.int (nI (sT S j).2.1), .int y2]) rfl ?_
    refine lv_icmp_le (tgt := 31) hx hb dX3_back_25 (by decide) (fun c_25 => ?_) (fun c_25 => ?_)
    · have ho : inN y2 ((sT S (cl (nI j))).2.1 + 1) := by rw [hcj]; have := (Inv0_TB hI hb4 j).2.1; exact ⟨by rw [i_lt, z_0] at c_13; omega, by simp (disch := omega) only [i_le, nI_toInt] at c_25; omega⟩
      obtain ⟨tj, htj, rfl⟩ := nI_of c_13
      have hct : cl (nI tj) = tj := cl_nI htj
      refine lv_aload_n hx hb dX3_back_31 rfl (lv_at hl 1 rfl) ?_
      refine ww_get hx hb hts hin3 hown hw 0 rfl rfl 2 (by decide) k26 rfl dX3_back_32 ?_
      refine lv_iload_n hx hb dX3_back_35 rfl (lv_at hl 2 rfl) ?_
      refine ww_callV ([(a, .inr (3, [.ref aL, .ref pa.1, .ref ta.1, .ref da.1, .int (nI (sLp S)), .int (nI (sPt S)), .int (nI (sWk S)), .int (nI (sDo S)), .int (nI (sAt S)), .int (sC2 S), .int (sC3 S), .int (sC4 S), .int (sC5 S)]))] ++ (wL cI aL x.1 S.1 x.2.1 ++ wG cI pa S.2.1)) (wT cI da x.2.2.2.2.1 x.2.2.2.2.2) (As := [.int (nI j)]) (rest := []) ⟨hx, hb, hml, hown, hts⟩ (cT_stateOf l D cI ta.1 ta.2.1 ta.2.2.1 ta.2.2.2.1 ta.2.2.2.2.1 ta.2.2.2.2.2 x.2.2.1 x.2.2.2.1 (sT S) hrx.2.1 j (by omega)) gX3_back_X2_stateOf rfl hd_X2_stateOf ⟨Nat.le_of_ble_eq_true rfl, Nat.le_of_ble_eq_true rfl⟩ hw rfl rfl rfl rfl rfl hl.1 (Nat.le_of_ble_eq_true rfl) dX3_back_36 ⟨Nat.zero_le _, Nat.zero_le _⟩ (fun rv u H locs hq hw => ?_)
      obtain ⟨rr, rfl, hq⟩ := hq
      subst hq
      have hw : ww D cI _ _ s ([(a, .inr (3, [.ref aL, .ref pa.1, .ref ta.1, .ref da.1, .int (nI (sLp S)), .int (nI (sPt S)), .int (nI (sWk S)), .int (nI (sDo S)), .int (nI (sAt S)), .int (sC2 S), .int (sC3 S), .int (sC4 S), .int (sC5 S)]))] ++ (wL cI aL x.1 S.1 x.2.1 ++ (wG cI pa S.2.1 ++ (wT cI ta x.2.2.1 x.2.2.2.1 ++ wT cI da x.2.2.2.2.1 x.2.2.2.2.2)))) H locs := hw
      refine W.eq (g2 := F0 m 39 ls [.int (nI (sT S j).1)]) rfl ?_
      refine lv_iconst (v := nI 1) hx hb dX3_back_39 (by decide +kernel) ?_
      refine lv_icmp_eq (tgt := 46) hx hb dX3_back_40 (by decide) (fun c_40 => ?_) (fun c_40 => ?_)
      · have hs : ¬ (sT S (cl (nI j))).1 ≠ 1 := by rw [hcj]; exact fun q => q (nI_q (by have := (Inv0_TB hI hb4 j).1; omega) (by omega) c_40)
        have hE : oBack S (nI j) (nI tj) = (nI (undL (sN S) S j tj).1, (undL (sN S) S j tj).2) := by rw [oBack, if_neg hdo, if_neg hk, if_pos ho, if_neg hs, hcj, hct]
        have hE2 : sCap (oBack S (nI j) (nI tj)).2 = sCap (undL (sN S) S j tj).2 := by rw [hE]
        refine lv_aload_n hx hb dX3_back_46 rfl (lv_at hl 1 rfl) ?_
        refine lv_iload_n hx hb dX3_back_47 rfl (lv_at hl 2 rfl) ?_
        refine lv_iload_n hx hb dX3_back_48 rfl (lv_at hl 3 rfl) ?_
        refine ww_callA (As := [.int (nI j), .int (nI tj)]) (rest := []) ⟨hx, hb, hml, hown, hts⟩ (cS_undoDownTo l D cI a aL pa ta da S x b hI hb4 hrx j tj htj hdo0 hp) gX3_back_X3_undoDownTo rfl hd_X3_undoDownTo ⟨Nat.le_of_ble_eq_true rfl, Nat.le_of_ble_eq_true rfl⟩ hw rfl rfl rfl rfl hl.1 (Nat.le_of_ble_eq_true rfl) dX3_back_49 ⟨by show _ ≤ sCap (oBack S (nI j) (nI tj)).2 - sCap S; omega, by show _ ≤ 2 * (sCap (oBack S (nI j) (nI tj)).2 - sCap S); omega⟩ (fun rv u H locs hq hw => ?_)
        obtain ⟨rr, rfl, rfl, hq⟩ := hq
        have hw : ww D cI _ _ s ([(a, .inr (3, [.ref aL, .ref pa.1, .ref ta.1, .ref da.1, .int (nI (sLp ((undL (sN S) S j tj).2))), .int (nI (sPt ((undL (sN S) S j tj).2))), .int (nI (sWk ((undL (sN S) S j tj).2))), .int (nI (sDo ((undL (sN S) S j tj).2))), .int (nI (sAt ((undL (sN S) S j tj).2))), .int (sC2 ((undL (sN S) S j tj).2)), .int (sC3 ((undL (sN S) S j tj).2)), .int (sC4 ((undL (sN S) S j tj).2)), .int (sC5 ((undL (sN S) S j tj).2))]))] ++ (wL cI aL u.1 (((undL (sN S) S j tj).2).1) u.2.1 ++ (wG cI pa (((undL (sN S) S j tj).2).2.1) ++ (wT cI ta u.2.2.1 u.2.2.2.1 ++ wT cI da u.2.2.2.2.1 u.2.2.2.2.2)))) H locs := hw
        refine W.eq (g2 := F0 m 52 ls [.int (nI (undL (sN S) S j tj).1)]) rfl ?_
        have hw : ww D cI (va_A ([(a, .inr (3, [.ref aL, .ref pa.1, .ref ta.1, .ref da.1, .int (nI (sLp S)), .int (nI (sPt S)), .int (nI (sWk S)), .int (nI (sDo S)), .int (nI (sAt S)), .int (sC2 S), .int (sC3 S), .int (sC4 S), .int (sC5 S)]))] ++ (wL cI aL x.1 S.1 x.2.1 ++ (wG cI pa S.2.1 ++ (wT cI ta x.2.2.1 x.2.2.2.1 ++ wT cI da x.2.2.2.2.1 x.2.2.2.2.2)))) s.heap.size) s.heap s ([(a, .inr (3, [.ref aL, .ref pa.1, .ref ta.1, .ref da.1, .int (nI (sLp ((oBack S (nI j) (nI tj)).2))), .int (nI (sPt ((oBack S (nI j) (nI tj)).2))), .int (nI (sWk ((oBack S (nI j) (nI tj)).2))), .int (nI (sDo ((oBack S (nI j) (nI tj)).2))), .int (nI (sAt ((oBack S (nI j) (nI tj)).2))), .int (sC2 ((oBack S (nI j) (nI tj)).2)), .int (sC3 ((oBack S (nI j) (nI tj)).2)), .int (sC4 ((oBack S (nI j) (nI tj)).2)), .int (sC5 ((oBack S (nI j) (nI tj)).2))]))] ++ (wL cI aL u.1 (((oBack S (nI j) (nI tj)).2).1) u.2.1 ++ (wG cI pa (((oBack S (nI j) (nI tj)).2).2.1) ++ (wT cI ta u.2.2.1 u.2.2.2.1 ++ wT cI da u.2.2.2.2.1 u.2.2.2.2.2)))) H locs := by rw [hE]; exact hw
        exact ww_iret (u := u) hx hb hr hlk hw (by rw [hE]; exact ⟨rfl, hq⟩) (by rw [hE2]; omega) (by rw [hE2]; omega) dX3_back_52
      · have hs : (sT S (cl (nI j))).1 ≠ 1 := by rw [hcj]; exact nI_ne (by have := (Inv0_TB hI hb4 j).1; omega) (by omega) c_40
        have hE : oBack S (nI j) (nI tj) = (xSTA, S) := by rw [oBack, if_neg hdo, if_neg hk, if_pos ho, if_pos hs]
        have hE2 : sCap (oBack S (nI j) (nI tj)).2 = sCap S := by rw [hE]
        have hw : ww D cI (va_A ([(a, .inr (3, [.ref aL, .ref pa.1, .ref ta.1, .ref da.1, .int (nI (sLp S)), .int (nI (sPt S)), .int (nI (sWk S)), .int (nI (sDo S)), .int (nI (sAt S)), .int (sC2 S), .int (sC3 S), .int (sC4 S), .int (sC5 S)]))] ++ (wL cI aL x.1 S.1 x.2.1 ++ (wG cI pa S.2.1 ++ (wT cI ta x.2.2.1 x.2.2.2.1 ++ wT cI da x.2.2.2.2.1 x.2.2.2.2.2)))) s.heap.size) s.heap s ([(a, .inr (3, [.ref aL, .ref pa.1, .ref ta.1, .ref da.1, .int (nI (sLp ((oBack S (nI j) (nI tj)).2))), .int (nI (sPt ((oBack S (nI j) (nI tj)).2))), .int (nI (sWk ((oBack S (nI j) (nI tj)).2))), .int (nI (sDo ((oBack S (nI j) (nI tj)).2))), .int (nI (sAt ((oBack S (nI j) (nI tj)).2))), .int (sC2 ((oBack S (nI j) (nI tj)).2)), .int (sC3 ((oBack S (nI j) (nI tj)).2)), .int (sC4 ((oBack S (nI j) (nI tj)).2)), .int (sC5 ((oBack S (nI j) (nI tj)).2))]))] ++ (wL cI aL x.1 (((oBack S (nI j) (nI tj)).2).1) x.2.1 ++ (wG cI pa (((oBack S (nI j) (nI tj)).2).2.1) ++ (wT cI ta x.2.2.1 x.2.2.2.1 ++ wT cI da x.2.2.2.2.1 x.2.2.2.2.2)))) H locs := by rw [hE]; exact hw
        refine lv_bipush (v := (-103)) hx hb dX3_back_43 (by decide +kernel) ?_
        exact ww_iret (u := x) hx hb hr hlk hw (by rw [hE]; exact ⟨rfl, hrx⟩) (by rw [hE2]; omega) (by rw [hE2]; omega) dX3_back_45
    · have ho : ¬ inN y2 ((sT S (cl (nI j))).2.1 + 1) := by rw [hcj]; intro q; have := (Inv0_TB hI hb4 j).2.1; first | (have := q.1; rw [i_lt, z_0] at c_13; omega) | (have := q.2; simp (disch := omega) only [i_le, nI_toInt] at c_25; omega)
      have hE : oBack S (nI j) y2 = (xOUT, S) := by rw [oBack, if_neg hdo, if_neg hk, if_neg ho]
      have hE2 : sCap (oBack S (nI j) y2).2 = sCap S := by rw [hE]
      have hw : ww D cI (va_A ([(a, .inr (3, [.ref aL, .ref pa.1, .ref ta.1, .ref da.1, .int (nI (sLp S)), .int (nI (sPt S)), .int (nI (sWk S)), .int (nI (sDo S)), .int (nI (sAt S)), .int (sC2 S), .int (sC3 S), .int (sC4 S), .int (sC5 S)]))] ++ (wL cI aL x.1 S.1 x.2.1 ++ (wG cI pa S.2.1 ++ (wT cI ta x.2.2.1 x.2.2.2.1 ++ wT cI da x.2.2.2.2.1 x.2.2.2.2.2)))) s.heap.size) s.heap s ([(a, .inr (3, [.ref aL, .ref pa.1, .ref ta.1, .ref da.1, .int (nI (sLp ((oBack S (nI j) y2).2))), .int (nI (sPt ((oBack S (nI j) y2).2))), .int (nI (sWk ((oBack S (nI j) y2).2))), .int (nI (sDo ((oBack S (nI j) y2).2))), .int (nI (sAt ((oBack S (nI j) y2).2))), .int (sC2 ((oBack S (nI j) y2).2)), .int (sC3 ((oBack S (nI j) y2).2)), .int (sC4 ((oBack S (nI j) y2).2)), .int (sC5 ((oBack S (nI j) y2).2))]))] ++ (wL cI aL x.1 (((oBack S (nI j) y2).2).1) x.2.1 ++ (wG cI pa (((oBack S (nI j) y2).2).2.1) ++ (wT cI ta x.2.2.1 x.2.2.2.1 ++ wT cI da x.2.2.2.2.1 x.2.2.2.2.2)))) H locs := by rw [hE]; exact hw
      refine lv_bipush (v := (-102)) hx hb dX3_back_28 (by decide +kernel) ?_
      exact ww_iret (u := x) hx hb hr hlk hw (by rw [hE]; exact ⟨rfl, hrx⟩) (by rw [hE2]; omega) (by rw [hE2]; omega) dX3_back_30
