/-! RestartBook: undoing, the steps of a restart -/
set_option maxRecDepth 20000 in
theorem in_X3_lookThrough : ∀ w ∈ u_ws RX3 TX3 13, w ∈ wsX3_lookThrough := by
  intro w h
  show w ∈ wsX3_lookThrough
  simp only [wsX3_lookThrough, List.mem_cons, List.mem_append]
  simp only [h, true_or, or_true]
set_option maxRecDepth 20000 in
theorem in_X3_doAgainOrPassOver : ∀ w ∈ u_ws RX3 TX3 13, w ∈ wsX3_doAgainOrPassOver := by
  intro w h
  show w ∈ wsX3_doAgainOrPassOver
  simp only [wsX3_doAgainOrPassOver, List.mem_cons, List.mem_append]
  simp only [h, true_or, or_true]
set_option maxRecDepth 20000 in
theorem in_X3_undoOrEnd : ∀ w ∈ u_ws RX3 TX3 13, w ∈ wsX3_undoOrEnd := by
  intro w h
  show w ∈ wsX3_undoOrEnd
  simp only [wsX3_undoOrEnd, List.mem_cons, List.mem_append]
  simp only [h, true_or, or_true]
set_option maxRecDepth 20000 in
theorem in_X3_passOverPartsWithoutSteps : ∀ w ∈ u_ws RX3 TX3 13, w ∈ wsX3_passOverPartsWithoutSteps := by
  intro w h
  show w ∈ wsX3_passOverPartsWithoutSteps
  simp only [wsX3_passOverPartsWithoutSteps, List.mem_cons, List.mem_append]
  simp only [h, true_or, or_true]
set_option maxRecDepth 20000 in
theorem in_X3_makeStep : ∀ w ∈ u_ws RX3 TX3 13, w ∈ wsX3_makeStep := by
  intro w h
  show w ∈ wsX3_makeStep
  simp only [wsX3_makeStep, List.mem_cons, List.mem_append]
  simp only [h, true_or, or_true]
theorem hd_X3_lookThrough : yX3_lookThrough.cls = RX3 ∧ yX3_lookThrough.cls ≠ "java/lang/invoke/MethodHandle" ∧ yX3_lookThrough.cls ≠ "java/lang/invoke/VarHandle" ∧ (parseMethodDescriptor yX3_lookThrough.desc).map (fun d => d.parameters.length) = some 1 := by decide +kernel
theorem hd_X3_doAgainOrPassOver : yX3_doAgainOrPassOver.cls = RX3 ∧ yX3_doAgainOrPassOver.cls ≠ "java/lang/invoke/MethodHandle" ∧ yX3_doAgainOrPassOver.cls ≠ "java/lang/invoke/VarHandle" ∧ (parseMethodDescriptor yX3_doAgainOrPassOver.desc).map (fun d => d.parameters.length) = some 1 := by decide +kernel
theorem hd_X3_undoOrEnd : yX3_undoOrEnd.cls = RX3 ∧ yX3_undoOrEnd.cls ≠ "java/lang/invoke/MethodHandle" ∧ yX3_undoOrEnd.cls ≠ "java/lang/invoke/VarHandle" ∧ (parseMethodDescriptor yX3_undoOrEnd.desc).map (fun d => d.parameters.length) = some 1 := by decide +kernel
theorem hd_X3_passOverPartsWithoutSteps : yX3_passOverPartsWithoutSteps.cls = RX3 ∧ yX3_passOverPartsWithoutSteps.cls ≠ "java/lang/invoke/MethodHandle" ∧ yX3_passOverPartsWithoutSteps.cls ≠ "java/lang/invoke/VarHandle" ∧ (parseMethodDescriptor yX3_passOverPartsWithoutSteps.desc).map (fun d => d.parameters.length) = some 0 := by decide +kernel
theorem hd_X3_makeStep : yX3_makeStep.cls = RX3 ∧ yX3_makeStep.cls ≠ "java/lang/invoke/MethodHandle" ∧ yX3_makeStep.cls ≠ "java/lang/invoke/VarHandle" ∧ (parseMethodDescriptor yX3_makeStep.desc).map (fun d => d.parameters.length) = some 0 := by decide +kernel
theorem undL_stop {k w to : Nat} {S : SS} (h : ¬ to < (sT S w).2.2) : undL k S w to = (0, S) := by
  cases k with
  | zero => rfl
  | succ k => rw [undL, if_neg h]
theorem undL_go {k w to : Nat} {S : SS} (hk : 1 ≤ k) (h : to < (sT S w).2.2) : undL k S w to = ((undL (k - 1) (und S w) w to).1 + 1, (undL (k - 1) (und S w) w to).2) := by
  obtain ⟨j, rfl⟩ : ∃ j, k = j + 1 := ⟨k - 1, by omega⟩
  rw [undL, if_pos h, Nat.add_sub_cancel]
theorem cap_und (S : SS) (w : Nat) : sCap S ≤ sCap (und S w) := cap_mono S.1 _
theorem cap_emT (S : SS) (x : Rc) : sCap S ≤ sCap (emT S x) := cap_mono S.1 _
set_option maxHeartbeats 1000000 in
set_option maxRecDepth 100000 in
theorem cS_undoDownTo (l : Launch) (D : va_G) (cI : ClassId) (a aL : Nat) (pa : A5) (ta da : A6) (S : SS) (x : XG) (b : Nat) (hI : Inv0 b S) (hb4 : b ≤ 4000) (hrx : RX S x) (w to : Nat) (hto : to < 2 ^ 31) (hd : sDo S = 0) (hp : (sT S w).1 ≠ 0) : Kt l yX3_undoDownTo wsX3_undoDownTo 4 91 (sCap (undL (sN S) S w to).2 - sCap S) (2 * (sCap (undL (sN S) S w to).2 - sCap S)) D cI [.ref a, .int (nI w), .int (nI to)] ([(a, .inr (3, [.ref aL, .ref pa.1, .ref ta.1, .ref da.1, .int (nI (sLp S)), .int (nI (sPt S)), .int (nI (sWk S)), .int (nI (sDo S)), .int (nI (sAt S)), .int (sC2 S), .int (sC3 S), .int (sC4 S), .int (sC5 S)]))] ++ (wL cI aL x.1 S.1 x.2.1 ++ (wG cI pa S.2.1 ++ (wT cI ta x.2.2.1 x.2.2.2.1 ++ wT cI da x.2.2.2.2.1 x.2.2.2.2.2)))) (pI (fun (r : Int32) (u : XG) => r = nI (undL (sN S) S w to).1 ∧ RX (undL (sN S) S w to).2 u)) (fun (u : XG) => [(a, .inr (3, [.ref aL, .ref pa.1, .ref ta.1, .ref da.1, .int (nI (sLp ((undL (sN S) S w to).2))), .int (nI (sPt ((undL (sN S) S w to).2))), .int (nI (sWk ((undL (sN S) S w to).2))), .int (nI (sDo ((undL (sN S) S w to).2))), .int (nI (sAt ((undL (sN S) S w to).2))), .int (sC2 ((undL (sN S) S w to).2)), .int (sC3 ((undL (sN S) S w to).2)), .int (sC4 ((undL (sN S) S w to).2)), .int (sC5 ((undL (sN S) S w to).2))]))] ++ (wL cI aL u.1 (((undL (sN S) S w to).2).1) u.2.1 ++ (wG cI pa (((undL (sN S) S w to).2).2.1) ++ (wT cI ta u.2.2.1 u.2.2.2.1 ++ wT cI da u.2.2.2.2.1 u.2.2.2.2.2)))) := by
  refine kt_start (cc := cX3_undoDownTo) (maxL := 5) (ret := (some .int)) (by decide +kernel) rfl (Nat.le_of_ble_eq_true rfl) ?_
  intro p e s m below meth c hx hb hml hr hlk hown hnm hts ls hl hw
  have hown : s.vm.findClass RX3 = some m.cls := hown
  have hl : lv_has ls 5 [(0, .ref a), (1, .int (nI w)), (2, .int (nI to))] := hl
  have k10 := hts (.fieldLink RX3 10 "RestartBook" "log" "LRestartBook$Log;") (by decide +kernel)
  have k26 := hts (.fieldLink RX3 26 "RestartBook" "tables" "LRestartBook$Tables;") (by decide +kernel)
  have hin3 : ∀ w ∈ u_ws RX3 TX3 13, w ∈ wsX3_undoDownTo := in_X3_undoDownTo
  have hn4 := Inv0_n hI
  have hw200 := (TR_some hrx.2.1 hp).2.1
  refine lv_aload_n hx hb dX3_undoDownTo_0 rfl (lv_at hl 0 rfl) ?_
  refine ww_get hx hb hts hin3 hown hw 0 rfl rfl 0 (by decide) k10 rfl dX3_undoDownTo_1 ?_
  refine ww_callV ([(a, .inr (3, [.ref aL, .ref pa.1, .ref ta.1, .ref da.1, .int (nI (sLp S)), .int (nI (sPt S)), .int (nI (sWk S)), .int (nI (sDo S)), .int (nI (sAt S)), .int (sC2 S), .int (sC3 S), .int (sC4 S), .int (sC5 S)]))]) (wG cI pa S.2.1 ++ (wT cI ta x.2.2.1 x.2.2.2.1 ++ wT cI da x.2.2.2.2.1 x.2.2.2.2.2)) (As := []) (rest := []) ⟨hx, hb, hml, hown, hts⟩ (cL_recordsHeld l D cI aL x.1 S.1.2.2.2.1 S.1.1 S.1.2.1 S.1.2.2.1 x.2.1) gX3_undoDownTo_X0_recordsHeld rfl hd_X0_recordsHeld ⟨Nat.le_of_ble_eq_true rfl, Nat.le_of_ble_eq_true rfl⟩ hw rfl rfl rfl rfl rfl hl.1 (Nat.le_of_ble_eq_true rfl) dX3_undoDownTo_4 ⟨Nat.le_of_ble_eq_true rfl, Nat.le_of_ble_eq_true rfl⟩ (fun rv u H locs hq hw => ?_)
  obtain ⟨rr, rfl, hq⟩ := hq
  subst hq
  have hw : ww D cI _ _ s ([(a, .inr (3, [.ref aL, .ref pa.1, .ref ta.1, .ref da.1, .int (nI (sLp S)), .int (nI (sPt S)), .int (nI (sWk S)), .int (nI (sDo S)), .int (nI (sAt S)), .int (sC2 S), .int (sC3 S), .int (sC4 S), .int (sC5 S)]))] ++ (wL cI aL x.1 S.1 x.2.1 ++ (wG cI pa S.2.1 ++ (wT cI ta x.2.2.1 x.2.2.2.1 ++ wT cI da x.2.2.2.2.1 x.2.2.2.2.2)))) H locs := hw
  refine W.eq (g2 := F0 m 7 ls [.int (nI (sN S))]) rfl ?_
  refine lv_istore_n (lv' := [(3, .int (nI (sN S))), (0, .ref a), (1, .int (nI w)), (2, .int (nI to))]) hx hb dX3_undoDownTo_7 rfl hl (by decide) rfl (fun ls hl => ?_)
  refine lv_iconst (v := nI 0) hx hb dX3_undoDownTo_8 (by decide +kernel) ?_
  refine lv_istore (lv' := [(4, .int (nI 0)), (3, .int (nI (sN S))), (0, .ref a), (1, .int (nI w)), (2, .int (nI to))]) hx hb dX3_undoDownTo_9 hl (by decide) rfl (fun ls hl => ?_)
  have lp : ∀ (t : Nat) (i : Nat) (Sc : SS) (xc : XG) (H : Heap) (locs : List Loc) (ls : Array Slot), sN S - i < t → (i ≤ sN S) → (Inv0 b Sc) → (sDo Sc = 0) → ((sT Sc w).1 ≠ 0) → (RX Sc xc) → (sCap S ≤ sCap Sc) → ((undL (sN S) S w to) = ((undL (sN S - i) Sc w to).1 + i, (undL (sN S - i) Sc w to).2)) → ww D cI (va_A ([(a, .inr (3, [.ref aL, .ref pa.1, .ref ta.1, .ref da.1, .int (nI (sLp S)), .int (nI (sPt S)), .int (nI (sWk S)), .int (nI (sDo S)), .int (nI (sAt S)), .int (sC2 S), .int (sC3 S), .int (sC4 S), .int (sC5 S)]))] ++ (wL cI aL x.1 S.1 x.2.1 ++ (wG cI pa S.2.1 ++ (wT cI ta x.2.2.1 x.2.2.2.1 ++ wT cI da x.2.2.2.2.1 x.2.2.2.2.2)))) s.heap.size) s.heap s ([(a, .inr (3, [.ref aL, .ref pa.1, .ref ta.1, .ref da.1, .int (nI (sLp Sc)), .int (nI (sPt Sc)), .int (nI (sWk Sc)), .int (nI (sDo Sc)), .int (nI (sAt Sc)), .int (sC2 Sc), .int (sC3 Sc), .int (sC4 Sc), .int (sC5 Sc)]))] ++ (wL cI aL xc.1 Sc.1 xc.2.1 ++ (wG cI pa Sc.2.1 ++ (wT cI ta xc.2.2.1 xc.2.2.2.1 ++ wT cI da xc.2.2.2.2.1 xc.2.2.2.2.2)))) H locs → lv_has ls 5 [(4, .int (nI i)), (3, .int (nI (sN S))), (0, .ref a), (1, .int (nI w)), (2, .int (nI to))] → W p l e { frames := 4, cells := sCap (undL (sN S) S w to).2 - sCap S, slots := 2 * (sCap (undL (sN S) S w to).2 - sCap S), locals := 91 } s m [.ref a, .int (nI w), .int (nI to)].toArray below meth c H locs (sCap Sc - sCap S) (2 * (sCap Sc - sCap S)) (MQ below (kQ D cI ([(a, .inr (3, [.ref aL, .ref pa.1, .ref ta.1, .ref da.1, .int (nI (sLp S)), .int (nI (sPt S)), .int (nI (sWk S)), .int (nI (sDo S)), .int (nI (sAt S)), .int (sC2 S), .int (sC3 S), .int (sC4 S), .int (sC5 S)]))] ++ (wL cI aL x.1 S.1 x.2.1 ++ (wG cI pa S.2.1 ++ (wT cI ta x.2.2.1 x.2.2.2.1 ++ wT cI da x.2.2.2.2.1 x.2.2.2.2.2)))) s.heap.size (pI (fun (r : Int32) (u : XG) => r = nI (undL (sN S) S w to).1 ∧ RX (undL (sN S) S w to).2 u)) (fun (u : XG) => [(a, .inr (3, [.ref aL, .ref pa.1, .ref ta.1, .ref da.1, .int (nI (sLp ((undL (sN S) S w to).2))), .int (nI (sPt ((undL (sN S) S w to).2))), .int (nI (sWk ((undL (sN S) S w to).2))), .int (nI (sDo ((undL (sN S) S w to).2))), .int (nI (sAt ((undL (sN S) S w to).2))), .int (sC2 ((undL (sN S) S w to).2)), .int (sC3 ((undL (sN S) S w to).2)), .int (sC4 ((undL (sN S) S w to).2)), .int (sC5 ((undL (sN S) S w to).2))]))] ++ (wL cI aL u.1 (((undL (sN S) S w to).2).1) u.2.1 ++ (wG cI pa (((undL (sN S) S w to).2).2.1) ++ (wT cI ta u.2.2.1 u.2.2.2.1 ++ wT cI da u.2.2.2.2.1 u.2.2.2.2.2))))) [.ref a, .int (nI w), .int (nI to)].toArray s (sCap (undL (sN S) S w to).2 - sCap S) (2 * (sCap (undL (sN S) S w to).2 - sCap S)) (va_A ([(a, .inr (3, [.ref aL, .ref pa.1, .ref ta.1, .ref da.1, .int (nI (sLp S)), .int (nI (sPt S)), .int (nI (sWk S)), .int (nI (sDo S)), .int (nI (sAt S)), .int (sC2 S), .int (sC3 S), .int (sC4 S), .int (sC5 S)]))] ++ (wL cI aL x.1 S.1 x.2.1 ++ (wG cI pa S.2.1 ++ (wT cI ta x.2.2.1 x.2.2.2.1 ++ wT cI da x.2.2.2.2.1 x.2.2.2.2.2)))) s.heap.size)) (F0 m 11 ls []) := by
    intro t
    induction t with
    | zero => intro i Sc xc H locs ls ht; exact absurd ht (Nat.not_lt_zero _)
    | succ t ih_11 =>
      intro i Sc xc H locs ls ht hi0 hI2 hd2 hp2 hr2 hcm he hw hl
      refine lv_iload hx hb dX3_undoDownTo_11 (lv_at hl 0 rfl) ?_
      refine lv_iload_n hx hb dX3_undoDownTo_13 rfl (lv_at hl 1 rfl) ?_
      refine lv_icmp_ge (tgt := 40) hx hb dX3_undoDownTo_14 (by decide) (fun c_14 => ?_) (fun c_14 => ?_)
      · have hE : undL (sN S) S w to = (i, Sc) := by
          rw [he]
          first
          | (rw [undL_stop (by have := (Inv0_TB hI2 hb4 w).2.2; simp (disch := omega) only [i_le, nI_toInt] at c_26; omega)]; exact Prod.ext (Nat.zero_add _) rfl)
          | (rw [show sN S - i = 0 by simp (disch := omega) only [i_le, nI_toInt] at c_14; omega]; exact Prod.ext (Nat.zero_add _) rfl)
        have hE2 : sCap (undL (sN S) S w to).2 = sCap Sc := by rw [hE]
        have hw : ww D cI (va_A ([(a, .inr (3, [.ref aL, .ref pa.1, .ref ta.1, .ref da.1, .int (nI (sLp S)), .int (nI (sPt S)), .int (nI (sWk S)), .int (nI (sDo S)), .int (nI (sAt S)), .int (sC2 S), .int (sC3 S), .int (sC4 S), .int (sC5 S)]))] ++ (wL cI aL x.1 S.1 x.2.1 ++ (wG cI pa S.2.1 ++ (wT cI ta x.2.2.1 x.2.2.2.1 ++ wT cI da x.2.2.2.2.1 x.2.2.2.2.2)))) s.heap.size) s.heap s ([(a, .inr (3, [.ref aL, .ref pa.1, .ref ta.1, .ref da.1, .int (nI (sLp ((undL (sN S) S w to).2))), .int (nI (sPt ((undL (sN S) S w to).2))), .int (nI (sWk ((undL (sN S) S w to).2))), .int (nI (sDo ((undL (sN S) S w to).2))), .int (nI (sAt ((undL (sN S) S w to).2))), .int (sC2 ((undL (sN S) S w to).2)), .int (sC3 ((undL (sN S) S w to).2)), .int (sC4 ((undL (sN S) S w to).2)), .int (sC5 ((undL (sN S) S w to).2))]))] ++ (wL cI aL xc.1 (((undL (sN S) S w to).2).1) xc.2.1 ++ (wG cI pa (((undL (sN S) S w to).2).2.1) ++ (wT cI ta xc.2.2.1 xc.2.2.2.1 ++ wT cI da xc.2.2.2.2.1 xc.2.2.2.2.2)))) H locs := by rw [hE]; exact hw
        refine lv_iload hx hb dX3_undoDownTo_40 (lv_at hl 0 rfl) ?_
        exact ww_iret (u := xc) hx hb hr hlk hw (⟨by rw [hE], by rw [hE]; exact hr2⟩) (by rw [hE2]; omega) (by rw [hE2]; omega) dX3_undoDownTo_42
      · have hi : i < sN S := by simp (disch := omega) only [i_le, nI_toInt] at c_14; omega
        have hfin0 : sCap Sc ≤ sCap (undL (sN S) S w to).2 := by rw [he]; exact (undL_ok (sN S - i) hI2 hd2 hp2).2.2.2.2.1
        refine lv_aload_n hx hb dX3_undoDownTo_17 rfl (lv_at hl 2 rfl) ?_
        refine ww_get hx hb hts hin3 hown hw 0 rfl rfl 2 (by decide) k26 rfl dX3_undoDownTo_18 ?_
        refine lv_iload_n hx hb dX3_undoDownTo_21 rfl (lv_at hl 3 rfl) ?_
        refine ww_callV ([(a, .inr (3, [.ref aL, .ref pa.1, .ref ta.1, .ref da.1, .int (nI (sLp Sc)), .int (nI (sPt Sc)), .int (nI (sWk Sc)), .int (nI (sDo Sc)), .int (nI (sAt Sc)), .int (sC2 Sc), .int (sC3 Sc), .int (sC4 Sc), .int (sC5 Sc)]))] ++ (wL cI aL xc.1 Sc.1 xc.2.1 ++ wG cI pa Sc.2.1)) (wT cI da xc.2.2.2.2.1 xc.2.2.2.2.2) (As := [.int (nI w)]) (rest := []) ⟨hx, hb, hml, hown, hts⟩ (cT_nextOf l D cI ta.1 ta.2.1 ta.2.2.1 ta.2.2.2.1 ta.2.2.2.2.1 ta.2.2.2.2.2 xc.2.2.1 xc.2.2.2.1 (sT Sc) hr2.2.1 w (by omega) hp2) gX3_undoDownTo_X2_nextOf rfl hd_X2_nextOf ⟨Nat.le_of_ble_eq_true rfl, Nat.le_of_ble_eq_true rfl⟩ hw rfl rfl rfl rfl rfl hl.1 (Nat.le_of_ble_eq_true rfl) dX3_undoDownTo_22 ⟨by have := hfin0; show _ + 0 ≤ sCap (undL (sN S) S w to).2 - sCap S; omega, by have := hfin0; show _ + 0 ≤ 2 * (sCap (undL (sN S) S w to).2 - sCap S); omega⟩ (fun rv u H locs hq hw => ?_)
        obtain ⟨rr, rfl, hq⟩ := hq
        subst hq
        have hw : ww D cI _ _ s ([(a, .inr (3, [.ref aL, .ref pa.1, .ref ta.1, .ref da.1, .int (nI (sLp Sc)), .int (nI (sPt Sc)), .int (nI (sWk Sc)), .int (nI (sDo Sc)), .int (nI (sAt Sc)), .int (sC2 Sc), .int (sC3 Sc), .int (sC4 Sc), .int (sC5 Sc)]))] ++ (wL cI aL xc.1 Sc.1 xc.2.1 ++ (wG cI pa Sc.2.1 ++ (wT cI ta xc.2.2.1 xc.2.2.2.1 ++ wT cI da xc.2.2.2.2.1 xc.2.2.2.2.2)))) H locs := hw
        refine W.eq (g2 := F0 m 25 ls [.int (nI (sT Sc w).2.2)]) rfl ?_
        refine lv_iload_n hx hb dX3_undoDownTo_25 rfl (lv_at hl 4 rfl) ?_
        refine lv_icmp_le (tgt := 40) hx hb dX3_undoDownTo_26 (by decide) (fun c_26 => ?_) (fun c_26 => ?_)
        · have hE : undL (sN S) S w to = (i, Sc) := by
            rw [he]
            first
            | (rw [undL_stop (by have := (Inv0_TB hI2 hb4 w).2.2; simp (disch := omega) only [i_le, nI_toInt] at c_26; omega)]; exact Prod.ext (Nat.zero_add _) rfl)
            | (rw [show sN S - i = 0 by simp (disch := omega) only [i_le, nI_toInt] at c_14; omega]; exact Prod.ext (Nat.zero_add _) rfl)
          have hE2 : sCap (undL (sN S) S w to).2 = sCap Sc := by rw [hE]
          have hw : ww D cI (va_A ([(a, .inr (3, [.ref aL, .ref pa.1, .ref ta.1, .ref da.1, .int (nI (sLp S)), .int (nI (sPt S)), .int (nI (sWk S)), .int (nI (sDo S)), .int (nI (sAt S)), .int (sC2 S), .int (sC3 S), .int (sC4 S), .int (sC5 S)]))] ++ (wL cI aL x.1 S.1 x.2.1 ++ (wG cI pa S.2.1 ++ (wT cI ta x.2.2.1 x.2.2.2.1 ++ wT cI da x.2.2.2.2.1 x.2.2.2.2.2)))) s.heap.size) s.heap s ([(a, .inr (3, [.ref aL, .ref pa.1, .ref ta.1, .ref da.1, .int (nI (sLp ((undL (sN S) S w to).2))), .int (nI (sPt ((undL (sN S) S w to).2))), .int (nI (sWk ((undL (sN S) S w to).2))), .int (nI (sDo ((undL (sN S) S w to).2))), .int (nI (sAt ((undL (sN S) S w to).2))), .int (sC2 ((undL (sN S) S w to).2)), .int (sC3 ((undL (sN S) S w to).2)), .int (sC4 ((undL (sN S) S w to).2)), .int (sC5 ((undL (sN S) S w to).2))]))] ++ (wL cI aL xc.1 (((undL (sN S) S w to).2).1) xc.2.1 ++ (wG cI pa (((undL (sN S) S w to).2).2.1) ++ (wT cI ta xc.2.2.1 xc.2.2.2.1 ++ wT cI da xc.2.2.2.2.1 xc.2.2.2.2.2)))) H locs := by rw [hE]; exact hw
          refine lv_iload hx hb dX3_undoDownTo_40 (lv_at hl 0 rfl) ?_
          exact ww_iret (u := xc) hx hb hr hlk hw (⟨by rw [hE], by rw [hE]; exact hr2⟩) (by rw [hE2]; omega) (by rw [hE2]; omega) dX3_undoDownTo_42
        · have hlt : to < (sT Sc w).2.2 := by have := (Inv0_TB hI2 hb4 w).2.2; simp (disch := omega) only [i_le, nI_toInt] at c_26; omega
          have hI3 := Inv0_und hI2 (Or.inl hd2) hp2 (by omega)
          have hE2 := ((Inv0_T hI2).1 w).2 hp2
          have hp3 : (sT (und Sc w) w).1 ≠ 0 := by rw [und_T hp2 (by have := hE2.1; omega)]; exact hp2
          have hcu := cap_und Sc w
          have hfin : sCap (und Sc w) ≤ sCap (undL (sN S) S w to).2 := by rw [he, undL_go (by omega) hlt]; exact (undL_ok (sN S - i - 1) hI3 hd2 hp3).2.2.2.2.1
          refine lv_aload_n hx hb dX3_undoDownTo_29 rfl (lv_at hl 2 rfl) ?_
          refine lv_iload_n hx hb dX3_undoDownTo_30 rfl (lv_at hl 3 rfl) ?_
          refine ww_callA (As := [.int (nI w)]) (rest := []) ⟨hx, hb, hml, hown, hts⟩ (cS_und l D cI a aL pa ta da Sc xc b w hI2 hb4 hr2 hp2 (by omega)) gX3_undoDownTo_X3_undoNext rfl hd_X3_undoNext ⟨Nat.le_of_ble_eq_true rfl, Nat.le_of_ble_eq_true rfl⟩ hw rfl rfl rfl rfl hl.1 (Nat.le_of_ble_eq_true rfl) dX3_undoDownTo_31 ⟨by show _ ≤ sCap (undL (sN S) S w to).2 - sCap S; omega, by show _ ≤ 2 * (sCap (undL (sN S) S w to).2 - sCap S); omega⟩ (fun rv u H locs hq hw => ?_)
          obtain ⟨rfl, hq⟩ := hq
          have hw : ww D cI _ _ s ([(a, .inr (3, [.ref aL, .ref pa.1, .ref ta.1, .ref da.1, .int (nI (sLp (und Sc w))), .int (nI (sPt (und Sc w))), .int (nI (sWk (und Sc w))), .int (nI (sDo (und Sc w))), .int (nI (sAt (und Sc w))), .int (sC2 (und Sc w)), .int (sC3 (und Sc w)), .int (sC4 (und Sc w)), .int (sC5 (und Sc w))]))] ++ (wL cI aL u.1 ((und Sc w).1) u.2.1 ++ (wG cI pa ((und Sc w).2.1) ++ (wT cI ta u.2.2.1 u.2.2.2.1 ++ wT cI da u.2.2.2.2.1 u.2.2.2.2.2)))) H locs := hw
          refine W.eq (g2 := F0 m 34 ls []) rfl ?_
          refine lv_iinc (v := nI (i + 1)) (lv' := [(4, .int (nI (i + 1))), (3, .int (nI (sN S))), (0, .ref a), (1, .int (nI w)), (2, .int (nI to))]) hx hb dX3_undoDownTo_34 hl (k := 0) rfl (nI_add _ _) (by decide) rfl (fun ls hl => ?_)
          refine lv_goto (tgt := 11) hx hb dX3_undoDownTo_37 (by decide) ?_
          refine W.widen (k := sCap (und Sc w) - sCap S) (n := 2 * (sCap (und Sc w) - sCap S)) (by omega) (by omega) ?_
          exact ih_11 (i + 1) (und Sc w) u _ _ _ (by omega) (by omega) hI3 hd2 hp3 hq (by omega) (by rw [he, undL_go (by omega) hlt]; show _ = _; rw [show sN S - i - 1 = sN S - (i + 1) by omega]; exact Prod.ext (by show _ + 1 + i = _ + (i + 1); omega) rfl) hw (lv_sub hl [0, 1, 2, 3, 4] rfl)
  refine W.widen (k := sCap S - sCap S) (n := 2 * (sCap S - sCap S)) (by omega) (by omega) ?_
  exact lp ((sN S - (0)) + 1) 0 S x _ _ _ (Nat.lt_succ_self _) (Nat.zero_le _) hI hd hp hrx (Nat.le_refl _) rfl hw (lv_sub hl [0, 1, 2, 3, 4] rfl)
set_option maxHeartbeats 1000000 in
set_option maxRecDepth 100000 in
theorem cS_undoOrEnd (l : Launch) (D : va_G) (cI : ClassId) (a aL : Nat) (pa : A5) (ta da : A6) (S : SS) (x : XG) (b : Nat) (hI : Inv0 b S) (hb4 : b ≤ 4000) (hrx : RX S x) (w : Nat) (hp : (sT S w).1 ≠ 0) : Kt l yX3_undoOrEnd wsX3_undoOrEnd 4 91 (sCap (uoe S w) - sCap S) (2 * (sCap (uoe S w) - sCap S)) D cI [.ref a, .int (nI w)] ([(a, .inr (3, [.ref aL, .ref pa.1, .ref ta.1, .ref da.1, .int (nI (sLp S)), .int (nI (sPt S)), .int (nI (sWk S)), .int (nI (sDo S)), .int (nI (sAt S)), .int (sC2 S), .int (sC3 S), .int (sC4 S), .int (sC5 S)]))] ++ (wL cI aL x.1 S.1 x.2.1 ++ (wG cI pa S.2.1 ++ (wT cI ta x.2.2.1 x.2.2.2.1 ++ wT cI da x.2.2.2.2.1 x.2.2.2.2.2)))) (pV (fun (u : XG) => RX (uoe S w) u)) (fun (u : XG) => [(a, .inr (3, [.ref aL, .ref pa.1, .ref ta.1, .ref da.1, .int (nI (sLp (uoe S w))), .int (nI (sPt (uoe S w))), .int (nI (sWk (uoe S w))), .int (nI (sDo (uoe S w))), .int (nI (sAt (uoe S w))), .int (sC2 (uoe S w)), .int (sC3 (uoe S w)), .int (sC4 (uoe S w)), .int (sC5 (uoe S w))]))] ++ (wL cI aL u.1 ((uoe S w).1) u.2.1 ++ (wG cI pa ((uoe S w).2.1) ++ (wT cI ta u.2.2.1 u.2.2.2.1 ++ wT cI da u.2.2.2.2.1 u.2.2.2.2.2)))) := by
  refine kt_start (cc := cX3_undoOrEnd) (maxL := 2) (ret := none) (by decide +kernel) rfl (Nat.le_of_ble_eq_true rfl) ?_
  intro p e s m below meth c hx hb hml hr hlk hown hnm hts ls hl hw
  have hown : s.vm.findClass RX3 = some m.cls := hown
  have hl : lv_has ls 2 [(0, .ref a), (1, .int (nI w))] := hl
  have k26 := hts (.fieldLink RX3 26 "RestartBook" "tables" "LRestartBook$Tables;") (by decide +kernel)
  have k58 := hts (.fieldLink RX3 58 "RestartBook" "undone" "I") (by decide +kernel)
  have hin3 : ∀ w ∈ u_ws RX3 TX3 13, w ∈ wsX3_undoOrEnd := in_X3_undoOrEnd
  have hw200 := (TR_some hrx.2.1 hp).2.1
  refine lv_aload_n hx hb dX3_undoOrEnd_0 rfl (lv_at hl 0 rfl) ?_
  refine ww_get hx hb hts hin3 hown hw 0 rfl rfl 2 (by decide) k26 rfl dX3_undoOrEnd_1 ?_
  refine lv_iload_n hx hb dX3_undoOrEnd_4 rfl (lv_at hl 1 rfl) ?_
  refine ww_callV ([(a, .inr (3, [.ref aL, .ref pa.1, .ref ta.1, .ref da.1, .int (nI (sLp S)), .int (nI (sPt S)), .int (nI (sWk S)), .int (nI (sDo S)), .int (nI (sAt S)), .int (sC2 S), .int (sC3 S), .int (sC4 S), .int (sC5 S)]))] ++ (wL cI aL x.1 S.1 x.2.1 ++ wG cI pa S.2.1)) (wT cI da x.2.2.2.2.1 x.2.2.2.2.2) (As := [.int (nI w)]) (rest := []) ⟨hx, hb, hml, hown, hts⟩ (cT_nextOf l D cI ta.1 ta.2.1 ta.2.2.1 ta.2.2.2.1 ta.2.2.2.2.1 ta.2.2.2.2.2 x.2.2.1 x.2.2.2.1 (sT S) hrx.2.1 w (by omega) hp) gX3_undoOrEnd_X2_nextOf rfl hd_X2_nextOf ⟨Nat.le_of_ble_eq_true rfl, Nat.le_of_ble_eq_true rfl⟩ hw rfl rfl rfl rfl rfl hl.1 (Nat.le_of_ble_eq_true rfl) dX3_undoOrEnd_5 ⟨Nat.zero_le _, Nat.zero_le _⟩ (fun rv u H locs hq hw => ?_)
  obtain ⟨rr, rfl, hq⟩ := hq
  subst hq
  have hw : ww D cI _ _ s ([(a, .inr (3, [.ref aL, .ref pa.1, .ref ta.1, .ref da.1, .int (nI (sLp S)), .int (nI (sPt S)), .int (nI (sWk S)), .int (nI (sDo S)), .int (nI (sAt S)), .int (sC2 S), .int (sC3 S), .int (sC4 S), .int (sC5 S)]))] ++ (wL cI aL x.1 S.1 x.2.1 ++ (wG cI pa S.2.1 ++ (wT cI ta x.2.2.1 x.2.2.2.1 ++ wT cI da x.2.2.2.2.1 x.2.2.2.2.2)))) H locs := hw
  refine W.eq (g2 := F0 m 8 ls [.int (nI (sT S w).2.2)]) rfl ?_
  refine lv_if_le (tgt := 29) hx hb dX3_undoOrEnd_8 (by decide) (fun c_8 => ?_) (fun c_8 => ?_)
  · have hlt : ¬ 0 < (sT S w).2.2 := by have := (Inv0_TB hI hb4 w).2.2; simp (disch := omega) only [i_le, nI_toInt, z_0] at c_8; omega
    have hE : uoe S w = emT S (rcW S 5 w) := by rw [uoe, if_neg hlt]
    have hE2 : sCap (uoe S w) = sCap (emT S (rcW S 5 w)) := by rw [hE]
    refine lv_aload_n hx hb dX3_undoOrEnd_29 rfl (lv_at hl 0 rfl) ?_
    refine lv_iconst (v := nI 5) hx hb dX3_undoOrEnd_30 (by decide +kernel) ?_
    refine lv_iload_n hx hb dX3_undoOrEnd_31 rfl (lv_at hl 1 rfl) ?_
    refine ww_callA (As := [.int (nI 5), .int (nI w)]) (rest := []) ⟨hx, hb, hml, hown, hts⟩ (cS_app l D cI a aL pa ta da S x b 5 w hI hb4 hrx hp (by omega) (by omega)) gX3_undoOrEnd_X3_appendOfWork rfl hd_X3_appendOfWork ⟨Nat.le_of_ble_eq_true rfl, Nat.le_of_ble_eq_true rfl⟩ hw rfl rfl rfl rfl hl.1 (Nat.le_of_ble_eq_true rfl) dX3_undoOrEnd_32 ⟨by show _ ≤ sCap (uoe S w) - sCap S; rw [hE2]; omega, by show _ ≤ 2 * (sCap (uoe S w) - sCap S); rw [hE2]; omega⟩ (fun rv u H locs hq hw => ?_)
    obtain ⟨rr, rfl, -, hq⟩ := hq
    have hw : ww D cI _ _ s ([(a, .inr (3, [.ref aL, .ref pa.1, .ref ta.1, .ref da.1, .int (nI (sLp (emT S (rcW S 5 w)))), .int (nI (sPt (emT S (rcW S 5 w)))), .int (nI (sWk (emT S (rcW S 5 w)))), .int (nI (sDo (emT S (rcW S 5 w)))), .int (nI (sAt (emT S (rcW S 5 w)))), .int (sC2 (emT S (rcW S 5 w))), .int (sC3 (emT S (rcW S 5 w))), .int (sC4 (emT S (rcW S 5 w))), .int (sC5 (emT S (rcW S 5 w)))]))] ++ (wL cI aL u.1 ((emT S (rcW S 5 w)).1) u.2.1 ++ (wG cI pa ((emT S (rcW S 5 w)).2.1) ++ (wT cI ta u.2.2.1 u.2.2.2.1 ++ wT cI da u.2.2.2.2.1 u.2.2.2.2.2)))) H locs := hw
    refine W.eq (g2 := F0 m 35 ls [.int (rr)]) rfl ?_
    refine lv_pop hx hb dX3_undoOrEnd_35 rfl ?_
    have hw : ww D cI (va_A ([(a, .inr (3, [.ref aL, .ref pa.1, .ref ta.1, .ref da.1, .int (nI (sLp S)), .int (nI (sPt S)), .int (nI (sWk S)), .int (nI (sDo S)), .int (nI (sAt S)), .int (sC2 S), .int (sC3 S), .int (sC4 S), .int (sC5 S)]))] ++ (wL cI aL x.1 S.1 x.2.1 ++ (wG cI pa S.2.1 ++ (wT cI ta x.2.2.1 x.2.2.2.1 ++ wT cI da x.2.2.2.2.1 x.2.2.2.2.2)))) s.heap.size) s.heap s ([(a, .inr (3, [.ref aL, .ref pa.1, .ref ta.1, .ref da.1, .int (nI (sLp (uoe S w))), .int (nI (sPt (uoe S w))), .int (nI (sWk (uoe S w))), .int (nI (sDo (uoe S w))), .int (nI (sAt (uoe S w))), .int (sC2 (uoe S w)), .int (sC3 (uoe S w)), .int (sC4 (uoe S w)), .int (sC5 (uoe S w))]))] ++ (wL cI aL u.1 ((uoe S w).1) u.2.1 ++ (wG cI pa ((uoe S w).2.1) ++ (wT cI ta u.2.2.1 u.2.2.2.1 ++ wT cI da u.2.2.2.2.1 u.2.2.2.2.2)))) H locs := by rw [hE]; exact hw
    exact ww_vret (u := u) hx hb hr hlk hw (by rw [hE]; exact hq) (by rw [hE2]; omega) (by rw [hE2]; omega) rfl dX3_undoOrEnd_36
  · have hlt : 0 < (sT S w).2.2 := by have := (Inv0_TB hI hb4 w).2.2; simp (disch := omega) only [i_le, nI_toInt, z_0] at c_8; omega
    have hE : uoe S w = setC (und S w) (sC2 S) (sC3 S) (sC4 S) (sC5 S + 1) := by rw [uoe, if_pos hlt]
    have hE2 : sCap (uoe S w) = sCap (und S w) := by rw [hE]; rfl
    refine lv_aload_n hx hb dX3_undoOrEnd_11 rfl (lv_at hl 0 rfl) ?_
    refine lv_iload_n hx hb dX3_undoOrEnd_12 rfl (lv_at hl 1 rfl) ?_
    refine ww_callA (As := [.int (nI w)]) (rest := []) ⟨hx, hb, hml, hown, hts⟩ (cS_und l D cI a aL pa ta da S x b w hI hb4 hrx hp (by omega)) gX3_undoOrEnd_X3_undoNext rfl hd_X3_undoNext ⟨Nat.le_of_ble_eq_true rfl, Nat.le_of_ble_eq_true rfl⟩ hw rfl rfl rfl rfl hl.1 (Nat.le_of_ble_eq_true rfl) dX3_undoOrEnd_13 ⟨by show _ ≤ sCap (uoe S w) - sCap S; rw [hE2]; omega, by show _ ≤ 2 * (sCap (uoe S w) - sCap S); rw [hE2]; omega⟩ (fun rv u H locs hq hw => ?_)
    obtain ⟨rfl, hq⟩ := hq
    have hw : ww D cI _ _ s ([(a, .inr (3, [.ref aL, .ref pa.1, .ref ta.1, .ref da.1, .int (nI (sLp (und S w))), .int (nI (sPt (und S w))), .int (nI (sWk (und S w))), .int (nI (sDo (und S w))), .int (nI (sAt (und S w))), .int (sC2 (und S w)), .int (sC3 (und S w)), .int (sC4 (und S w)), .int (sC5 (und S w))]))] ++ (wL cI aL u.1 ((und S w).1) u.2.1 ++ (wG cI pa ((und S w).2.1) ++ (wT cI ta u.2.2.1 u.2.2.2.1 ++ wT cI da u.2.2.2.2.1 u.2.2.2.2.2)))) H locs := hw
    refine W.eq (g2 := F0 m 16 ls []) rfl ?_
    refine lv_aload_n hx hb dX3_undoOrEnd_16 rfl (lv_at hl 0 rfl) ?_
    refine lv_dup hx hb dX3_undoOrEnd_17 rfl ?_
    refine ww_get hx hb hts hin3 hown hw 0 rfl rfl 12 (by decide) k58 rfl dX3_undoOrEnd_18 ?_
    refine lv_iconst (v := nI 1) hx hb dX3_undoOrEnd_21 (by decide +kernel) ?_
    refine lv_iadd hx hb dX3_undoOrEnd_22 ?_
    refine ww_put (ws' := [(a, .inr (3, [.ref aL, .ref pa.1, .ref ta.1, .ref da.1, .int (nI (sLp (und S w))), .int (nI (sPt (und S w))), .int (nI (sWk (und S w))), .int (nI (sDo (und S w))), .int (nI (sAt (und S w))), .int (sC2 (und S w)), .int (sC3 (und S w)), .int (sC4 (und S w)), .int ((sC5 (und S w)) + (nI 1))]))] ++ (wL cI aL u.1 ((und S w).1) u.2.1 ++ (wG cI pa ((und S w).2.1) ++ (wT cI ta u.2.2.1 u.2.2.2.1 ++ wT cI da u.2.2.2.2.1 u.2.2.2.2.2)))) hx hb hts hin3 tyX3 tyX3_ok nmX3 hown hw 0 rfl rfl 12 (by decide) k58 rfl rfl rfl (Nat.le_of_ble_eq_true rfl) rfl dX3_undoOrEnd_23 (fun H locs hw => ?_)
    refine lv_goto (tgt := 36) hx hb dX3_undoOrEnd_26 (by decide) ?_
    have hw : ww D cI (va_A ([(a, .inr (3, [.ref aL, .ref pa.1, .ref ta.1, .ref da.1, .int (nI (sLp S)), .int (nI (sPt S)), .int (nI (sWk S)), .int (nI (sDo S)), .int (nI (sAt S)), .int (sC2 S), .int (sC3 S), .int (sC4 S), .int (sC5 S)]))] ++ (wL cI aL x.1 S.1 x.2.1 ++ (wG cI pa S.2.1 ++ (wT cI ta x.2.2.1 x.2.2.2.1 ++ wT cI da x.2.2.2.2.1 x.2.2.2.2.2)))) s.heap.size) s.heap s ([(a, .inr (3, [.ref aL, .ref pa.1, .ref ta.1, .ref da.1, .int (nI (sLp (uoe S w))), .int (nI (sPt (uoe S w))), .int (nI (sWk (uoe S w))), .int (nI (sDo (uoe S w))), .int (nI (sAt (uoe S w))), .int (sC2 (uoe S w)), .int (sC3 (uoe S w)), .int (sC4 (uoe S w)), .int (sC5 (uoe S w))]))] ++ (wL cI aL u.1 ((uoe S w).1) u.2.1 ++ (wG cI pa ((uoe S w).2.1) ++ (wT cI ta u.2.2.1 u.2.2.2.1 ++ wT cI da u.2.2.2.2.1 u.2.2.2.2.2)))) H locs := by rw [hE]; exact hw
    exact ww_vret (u := u) hx hb hr hlk hw (by rw [hE]; exact hq) (by rw [hE2]; omega) (by rw [hE2]; omega) rfl dX3_undoOrEnd_36
