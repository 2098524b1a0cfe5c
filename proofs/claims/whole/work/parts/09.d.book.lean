/-! RestartBook: a step, and the calls of its face (1) -/
set_option maxRecDepth 20000 in
theorem in_X3_begin : ∀ w ∈ u_ws RX3 TX3 13, w ∈ wsX3_begin := by
  intro w h
  show w ∈ wsX3_begin
  simp only [wsX3_begin, List.mem_cons, List.mem_append]
  simp only [h, true_or, or_true]
set_option maxRecDepth 20000 in
theorem in_X3_prepare : ∀ w ∈ u_ws RX3 TX3 13, w ∈ wsX3_prepare := by
  intro w h
  show w ∈ wsX3_prepare
  simp only [wsX3_prepare, List.mem_cons, List.mem_append]
  simp only [h, true_or, or_true]
set_option maxRecDepth 20000 in
theorem in_X3_commit : ∀ w ∈ u_ws RX3 TX3 13, w ∈ wsX3_commit := by
  intro w h
  show w ∈ wsX3_commit
  simp only [wsX3_commit, List.mem_cons, List.mem_append]
  simp only [h, true_or, or_true]
set_option maxRecDepth 20000 in
theorem in_X3_abort : ∀ w ∈ u_ws RX3 TX3 13, w ∈ wsX3_abort := by
  intro w h
  show w ∈ wsX3_abort
  simp only [wsX3_abort, List.mem_cons, List.mem_append]
  simp only [h, true_or, or_true]
set_option maxRecDepth 20000 in
theorem in_X3_add : ∀ w ∈ u_ws RX3 TX3 13, w ∈ wsX3_add := by
  intro w h
  show w ∈ wsX3_add
  simp only [wsX3_add, List.mem_cons, List.mem_append]
  simp only [h, true_or, or_true]
set_option maxRecDepth 20000 in
theorem in_X3_back : ∀ w ∈ u_ws RX3 TX3 13, w ∈ wsX3_back := by
  intro w h
  show w ∈ wsX3_back
  simp only [wsX3_back, List.mem_cons, List.mem_append]
  simp only [h, true_or, or_true]
theorem hd_X3_begin : yX3_begin.cls = RX3 ∧ yX3_begin.cls ≠ "java/lang/invoke/MethodHandle" ∧ yX3_begin.cls ≠ "java/lang/invoke/VarHandle" ∧ (parseMethodDescriptor yX3_begin.desc).map (fun d => d.parameters.length) = some 0 := by decide +kernel
theorem hd_X3_add : yX3_add.cls = RX3 ∧ yX3_add.cls ≠ "java/lang/invoke/MethodHandle" ∧ yX3_add.cls ≠ "java/lang/invoke/VarHandle" ∧ (parseMethodDescriptor yX3_add.desc).map (fun d => d.parameters.length) = some 4 := by decide +kernel
theorem hd_X3_back : yX3_back.cls = RX3 ∧ yX3_back.cls ≠ "java/lang/invoke/MethodHandle" ∧ yX3_back.cls ≠ "java/lang/invoke/VarHandle" ∧ (parseMethodDescriptor yX3_back.desc).map (fun d => d.parameters.length) = some 2 := by decide +kernel
theorem hd_X3_prepare : yX3_prepare.cls = RX3 ∧ yX3_prepare.cls ≠ "java/lang/invoke/MethodHandle" ∧ yX3_prepare.cls ≠ "java/lang/invoke/VarHandle" ∧ (parseMethodDescriptor yX3_prepare.desc).map (fun d => d.parameters.length) = some 1 := by decide +kernel
theorem hd_X3_commit : yX3_commit.cls = RX3 ∧ yX3_commit.cls ≠ "java/lang/invoke/MethodHandle" ∧ yX3_commit.cls ≠ "java/lang/invoke/VarHandle" ∧ (parseMethodDescriptor yX3_commit.desc).map (fun d => d.parameters.length) = some 1 := by decide +kernel
theorem hd_X3_abort : yX3_abort.cls = RX3 ∧ yX3_abort.cls ≠ "java/lang/invoke/MethodHandle" ∧ yX3_abort.cls ≠ "java/lang/invoke/VarHandle" ∧ (parseMethodDescriptor yX3_abort.desc).map (fun d => d.parameters.length) = some 1 := by decide +kernel
theorem inN_iff {x : Int32} {n : Nat} (hn : n < 2 ^ 31) : inN x n ↔ ∃ j : Nat, j < n ∧ x = nI j := by
  constructor
  · rintro ⟨h1, h2⟩
    obtain ⟨j, hj, rfl⟩ := i_nat h1
    rw [nI_toInt hj] at h2
    exact ⟨j, by omega, rfl⟩
  · rintro ⟨j, hj, rfl⟩
    rw [inN, nI_toInt (by omega)]
    omega
theorem in_work {x : XG} {S : SS} (h : RX S x) {w : Int32} (hk : (sT S (cl w)).1 ≠ 0) : ∃ j : Nat, j ≤ 200 ∧ w = nI j ∧ cl (nI j) = j ∧ (sT S j).1 ≠ 0 := by
  obtain ⟨a, b, -⟩ := TR_some h.2.1 hk
  exact ⟨cl w, b, cl_pos a, cl_nI (by omega), hk⟩
set_option maxHeartbeats 1000000 in
set_option maxRecDepth 100000 in
theorem cS_makeStep (l : Launch) (D : va_G) (cI : ClassId) (a aL : Nat) (pa : A5) (ta da : A6) (S : SS) (x : XG) (b : Nat) (hI0 : Inv b S) (h5 : E5 S) (hb4 : b ≤ 4000) (hrx : RX S x) (hd1 : 1 ≤ sDo S) (hat31 : sAt S < 2 ^ 31) : Kt l yX3_makeStep wsX3_makeStep 5 112 (sCap (stp S) - sCap S) (2 * (sCap (stp S) - sCap S)) D cI [.ref a] ([(a, .inr (3, [.ref aL, .ref pa.1, .ref ta.1, .ref da.1, .int (nI (sLp S)), .int (nI (sPt S)), .int (nI (sWk S)), .int (nI (sDo S)), .int (nI (sAt S)), .int (sC2 S), .int (sC3 S), .int (sC4 S), .int (sC5 S)]))] ++ (wL cI aL x.1 S.1 x.2.1 ++ (wG cI pa S.2.1 ++ (wT cI ta x.2.2.1 x.2.2.2.1 ++ wT cI da x.2.2.2.2.1 x.2.2.2.2.2)))) (pV (fun (u : XG) => RX (stp S) u)) (fun (u : XG) => [(a, .inr (3, [.ref aL, .ref pa.1, .ref ta.1, .ref da.1, .int (nI (sLp (stp S))), .int (nI (sPt (stp S))), .int (nI (sWk (stp S))), .int (nI (sDo (stp S))), .int (nI (sAt (stp S))), .int (sC2 (stp S)), .int (sC3 (stp S)), .int (sC4 (stp S)), .int (sC5 (stp S))]))] ++ (wL cI aL u.1 ((stp S).1) u.2.1 ++ (wG cI pa ((stp S).2.1) ++ (wT cI ta u.2.2.1 u.2.2.2.1 ++ wT cI da u.2.2.2.2.1 u.2.2.2.2.2)))) := by
  refine kt_start (cc := cX3_makeStep) (maxL := 1) (ret := none) (by decide +kernel) rfl (Nat.le_of_ble_eq_true rfl) ?_
  intro p e s m below meth c hx hb hml hr hlk hown hnm hts ls hl hw
  have hown : s.vm.findClass RX3 = some m.cls := hown
  have hl : lv_has ls 1 [(0, .ref a)] := hl
  have k26 := hts (.fieldLink RX3 26 "RestartBook" "tables" "LRestartBook$Tables;") (by decide +kernel)
  have k43 := hts (.fieldLink RX3 43 "RestartBook" "doing" "I") (by decide +kernel)
  have k46 := hts (.fieldLink RX3 46 "RestartBook" "nextStep" "I") (by decide +kernel)
  have hin3 : ∀ w ∈ u_ws RX3 TX3 13, w ∈ wsX3_makeStep := in_X3_makeStep
  have hI := hI0.1
  have hn4 := Inv0_n hI
  have hwk := hI.2.1.2.1
  have hdo4 : sDo S ≤ 4 := by rcases hI.2.2.2.2.2 with z | z | z <;> omega
  refine lv_aload_n hx hb dX3_makeStep_0 rfl (lv_at hl 0 rfl) ?_
  refine ww_get hx hb hts hin3 hown hw 0 rfl rfl 7 (by decide) k43 rfl dX3_makeStep_1 ?_
  rcases (show sDo S = 1 ∨ sDo S = 2 ∨ sDo S = 3 ∨ sDo S = 4 by omega) with hd | hd | hd | hd
  · refine lv_eqi (show _ = nI 1 from by rw [hd]) ?_
    have ha := hI0.2.1 hd
    have hat1 : 1 ≤ sAt S := by rcases hI.2.2.2.2.2 with z | z | z <;> omega
    have hE : stp S = pas (setDo (look S (sAt S)) 1 (sAt S + 1)) := by rw [stp, if_pos hd]
    have hIn := Inv0_look hI hd ha
    refine lv_tableIn (tgt := 36) (off := 32) hx hb dX3_makeStep_4 (by decide +kernel) (by decide +kernel) (by decide +kernel) (by decide) ?_
    refine lv_aload_n hx hb dX3_makeStep_36 rfl (lv_at hl 0 rfl) ?_
    refine lv_aload_n hx hb dX3_makeStep_37 rfl (lv_at hl 0 rfl) ?_
    refine ww_get hx hb hts hin3 hown hw 0 rfl rfl 8 (by decide) k46 rfl dX3_makeStep_38 ?_
    refine ww_callA (As := [.int (nI (sAt S))]) (rest := []) ⟨hx, hb, hml, hown, hts⟩ (cS_lookThrough l D cI a aL pa ta da S x b hI hb4 hrx h5 hd hat1 ha) gX3_makeStep_X3_lookThrough rfl hd_X3_lookThrough ⟨Nat.le_of_ble_eq_true rfl, Nat.le_of_ble_eq_true rfl⟩ hw rfl rfl rfl rfl hl.1 (Nat.le_of_ble_eq_true rfl) dX3_makeStep_41 ⟨by show _ ≤ sCap (stp S) - sCap S; omega, by show _ ≤ 2 * (sCap (stp S) - sCap S); omega⟩ (fun rv u H locs hq hw => ?_)
    obtain ⟨rfl, hq⟩ := hq
    have hw : ww D cI _ _ s ([(a, .inr (3, [.ref aL, .ref pa.1, .ref ta.1, .ref da.1, .int (nI (sLp (look S (sAt S)))), .int (nI (sPt (look S (sAt S)))), .int (nI (sWk (look S (sAt S)))), .int (nI (sDo (look S (sAt S)))), .int (nI (sAt (look S (sAt S)))), .int (sC2 (look S (sAt S))), .int (sC3 (look S (sAt S))), .int (sC4 (look S (sAt S))), .int (sC5 (look S (sAt S)))]))] ++ (wL cI aL u.1 ((look S (sAt S)).1) u.2.1 ++ (wG cI pa ((look S (sAt S)).2.1) ++ (wT cI ta u.2.2.1 u.2.2.2.1 ++ wT cI da u.2.2.2.2.1 u.2.2.2.2.2)))) H locs := hw
    refine W.eq (g2 := F0 m 44 ls []) rfl ?_
    refine lv_aload_n hx hb dX3_makeStep_44 rfl (lv_at hl 0 rfl) ?_
    refine lv_dup hx hb dX3_makeStep_45 rfl ?_
    refine ww_get hx hb hts hin3 hown hw 0 rfl rfl 8 (by decide) k46 rfl dX3_makeStep_46 ?_
    refine lv_eqi (show _ = nI (sAt S) from by rw [(look_At S (sAt S)).1]) ?_
    refine lv_iconst (v := nI 1) hx hb dX3_makeStep_49 (by decide +kernel) ?_
    refine lv_iadd hx hb dX3_makeStep_50 ?_
    refine lv_eqi (show _ = nI ((sAt S) + 1) from nI_add _ _) ?_
    refine ww_put (ws' := [(a, .inr (3, [.ref aL, .ref pa.1, .ref ta.1, .ref da.1, .int (nI (sLp (look S (sAt S)))), .int (nI (sPt (look S (sAt S)))), .int (nI (sWk (look S (sAt S)))), .int (nI (sDo (look S (sAt S)))), .int (nI ((sAt S) + 1)), .int (sC2 (look S (sAt S))), .int (sC3 (look S (sAt S))), .int (sC4 (look S (sAt S))), .int (sC5 (look S (sAt S)))]))] ++ (wL cI aL u.1 ((look S (sAt S)).1) u.2.1 ++ (wG cI pa ((look S (sAt S)).2.1) ++ (wT cI ta u.2.2.1 u.2.2.2.1 ++ wT cI da u.2.2.2.2.1 u.2.2.2.2.2)))) hx hb hts hin3 tyX3 tyX3_ok nmX3 hown hw 0 rfl rfl 8 (by decide) k46 rfl rfl rfl (Nat.le_of_ble_eq_true rfl) rfl dX3_makeStep_51 (fun H locs hw => ?_)
    refine lv_goto (tgt := 109) hx hb dX3_makeStep_54 (by decide) ?_
    have hw : ww D cI (va_A ([(a, .inr (3, [.ref aL, .ref pa.1, .ref ta.1, .ref da.1, .int (nI (sLp S)), .int (nI (sPt S)), .int (nI (sWk S)), .int (nI (sDo S)), .int (nI (sAt S)), .int (sC2 S), .int (sC3 S), .int (sC4 S), .int (sC5 S)]))] ++ (wL cI aL x.1 S.1 x.2.1 ++ (wG cI pa S.2.1 ++ (wT cI ta x.2.2.1 x.2.2.2.1 ++ wT cI da x.2.2.2.2.1 x.2.2.2.2.2)))) s.heap.size) s.heap s ([(a, .inr (3, [.ref aL, .ref pa.1, .ref ta.1, .ref da.1, .int (nI (sLp (setDo (look S (sAt S)) 1 (sAt S + 1)))), .int (nI (sPt (setDo (look S (sAt S)) 1 (sAt S + 1)))), .int (nI (sWk (setDo (look S (sAt S)) 1 (sAt S + 1)))), .int (nI (sDo (setDo (look S (sAt S)) 1 (sAt S + 1)))), .int (nI (sAt (setDo (look S (sAt S)) 1 (sAt S + 1)))), .int (sC2 (setDo (look S (sAt S)) 1 (sAt S + 1))), .int (sC3 (setDo (look S (sAt S)) 1 (sAt S + 1))), .int (sC4 (setDo (look S (sAt S)) 1 (sAt S + 1))), .int (sC5 (setDo (look S (sAt S)) 1 (sAt S + 1)))]))] ++ (wL cI aL u.1 ((setDo (look S (sAt S)) 1 (sAt S + 1)).1) u.2.1 ++ (wG cI pa ((setDo (look S (sAt S)) 1 (sAt S + 1)).2.1) ++ (wT cI ta u.2.2.1 u.2.2.2.1 ++ wT cI da u.2.2.2.2.1 u.2.2.2.2.2)))) H locs := by have e := (look_At S (sAt S)).2.1; rw [hd] at e; rw [e] at hw; exact hw
    have hat3 : sAt (setDo (look S (sAt S)) 1 (sAt S + 1)) < 2 ^ 31 := by show sAt S + 1 < 2 ^ 31; omega
    refine W.eq (g2 := F0 m 109 ls []) rfl ?_
    refine lv_aload_n hx hb dX3_makeStep_109 rfl (lv_at hl 0 rfl) ?_
    refine ww_callA (As := []) (rest := []) ⟨hx, hb, hml, hown, hts⟩ (cS_pas l D cI a aL pa ta da (setDo (look S (sAt S)) 1 (sAt S + 1)) u b hIn hb4 hq hat3) gX3_makeStep_X3_passOverPartsWithoutSteps rfl hd_X3_passOverPartsWithoutSteps ⟨Nat.le_of_ble_eq_true rfl, Nat.le_of_ble_eq_true rfl⟩ hw rfl rfl rfl rfl hl.1 (Nat.le_of_ble_eq_true rfl) dX3_makeStep_110 ⟨by show _ ≤ sCap (stp S) - sCap S; omega, by show _ ≤ 2 * (sCap (stp S) - sCap S); omega⟩ (fun rv u H locs hq hw => ?_)
    obtain ⟨rfl, hq⟩ := hq
    have hw : ww D cI _ _ s ([(a, .inr (3, [.ref aL, .ref pa.1, .ref ta.1, .ref da.1, .int (nI (sLp (pas (setDo (look S (sAt S)) 1 (sAt S + 1))))), .int (nI (sPt (pas (setDo (look S (sAt S)) 1 (sAt S + 1))))), .int (nI (sWk (pas (setDo (look S (sAt S)) 1 (sAt S + 1))))), .int (nI (sDo (pas (setDo (look S (sAt S)) 1 (sAt S + 1))))), .int (nI (sAt (pas (setDo (look S (sAt S)) 1 (sAt S + 1))))), .int (sC2 (pas (setDo (look S (sAt S)) 1 (sAt S + 1)))), .int (sC3 (pas (setDo (look S (sAt S)) 1 (sAt S + 1)))), .int (sC4 (pas (setDo (look S (sAt S)) 1 (sAt S + 1)))), .int (sC5 (pas (setDo (look S (sAt S)) 1 (sAt S + 1))))]))] ++ (wL cI aL u.1 ((pas (setDo (look S (sAt S)) 1 (sAt S + 1))).1) u.2.1 ++ (wG cI pa ((pas (setDo (look S (sAt S)) 1 (sAt S + 1))).2.1) ++ (wT cI ta u.2.2.1 u.2.2.2.1 ++ wT cI da u.2.2.2.2.1 u.2.2.2.2.2)))) H locs := hw
    refine W.eq (g2 := F0 m 113 ls []) rfl ?_
    have hw : ww D cI (va_A ([(a, .inr (3, [.ref aL, .ref pa.1, .ref ta.1, .ref da.1, .int (nI (sLp S)), .int (nI (sPt S)), .int (nI (sWk S)), .int (nI (sDo S)), .int (nI (sAt S)), .int (sC2 S), .int (sC3 S), .int (sC4 S), .int (sC5 S)]))] ++ (wL cI aL x.1 S.1 x.2.1 ++ (wG cI pa S.2.1 ++ (wT cI ta x.2.2.1 x.2.2.2.1 ++ wT cI da x.2.2.2.2.1 x.2.2.2.2.2)))) s.heap.size) s.heap s ([(a, .inr (3, [.ref aL, .ref pa.1, .ref ta.1, .ref da.1, .int (nI (sLp (stp S))), .int (nI (sPt (stp S))), .int (nI (sWk (stp S))), .int (nI (sDo (stp S))), .int (nI (sAt (stp S))), .int (sC2 (stp S)), .int (sC3 (stp S)), .int (sC4 (stp S)), .int (sC5 (stp S))]))] ++ (wL cI aL u.1 ((stp S).1) u.2.1 ++ (wG cI pa ((stp S).2.1) ++ (wT cI ta u.2.2.1 u.2.2.2.1 ++ wT cI da u.2.2.2.2.1 u.2.2.2.2.2)))) H locs := by rw [hE]; exact hw
    exact ww_vret (u := u) hx hb hr hlk hw (by rw [hE]; exact hq) (by omega) (by omega) rfl dX3_makeStep_113
  · refine lv_eqi (show _ = nI 2 from by rw [hd]) ?_
    have ha := hI0.2.2.1 hd
    have hat1 : 1 ≤ sAt S := by rcases hI.2.2.2.2.2 with z | z | z <;> omega
    have hE : stp S = pas (setDo (again S (sAt S)) 2 (sAt S + 1)) := by rw [stp, if_neg (by omega), if_pos hd]
    have hIn := Inv0_again hI hd ha
    refine lv_tableIn (tgt := 57) (off := 53) hx hb dX3_makeStep_4 (by decide +kernel) (by decide +kernel) (by decide +kernel) (by decide) ?_
    refine lv_aload_n hx hb dX3_makeStep_57 rfl (lv_at hl 0 rfl) ?_
    refine lv_aload_n hx hb dX3_makeStep_58 rfl (lv_at hl 0 rfl) ?_
    refine ww_get hx hb hts hin3 hown hw 0 rfl rfl 8 (by decide) k46 rfl dX3_makeStep_59 ?_
    refine ww_callA (As := [.int (nI (sAt S))]) (rest := []) ⟨hx, hb, hml, hown, hts⟩ (cS_doAgain l D cI a aL pa ta da S x b hI hb4 hrx hat1 ha) gX3_makeStep_X3_doAgainOrPassOver rfl hd_X3_doAgainOrPassOver ⟨Nat.le_of_ble_eq_true rfl, Nat.le_of_ble_eq_true rfl⟩ hw rfl rfl rfl rfl hl.1 (Nat.le_of_ble_eq_true rfl) dX3_makeStep_62 ⟨by show _ ≤ sCap (stp S) - sCap S; omega, by show _ ≤ 2 * (sCap (stp S) - sCap S); omega⟩ (fun rv u H locs hq hw => ?_)
    obtain ⟨rfl, hq⟩ := hq
    have hw : ww D cI _ _ s ([(a, .inr (3, [.ref aL, .ref pa.1, .ref ta.1, .ref da.1, .int (nI (sLp (again S (sAt S)))), .int (nI (sPt (again S (sAt S)))), .int (nI (sWk (again S (sAt S)))), .int (nI (sDo (again S (sAt S)))), .int (nI (sAt (again S (sAt S)))), .int (sC2 (again S (sAt S))), .int (sC3 (again S (sAt S))), .int (sC4 (again S (sAt S))), .int (sC5 (again S (sAt S)))]))] ++ (wL cI aL u.1 ((again S (sAt S)).1) u.2.1 ++ (wG cI pa ((again S (sAt S)).2.1) ++ (wT cI ta u.2.2.1 u.2.2.2.1 ++ wT cI da u.2.2.2.2.1 u.2.2.2.2.2)))) H locs := hw
    refine W.eq (g2 := F0 m 65 ls []) rfl ?_
    refine lv_aload_n hx hb dX3_makeStep_65 rfl (lv_at hl 0 rfl) ?_
    refine lv_dup hx hb dX3_makeStep_66 rfl ?_
    refine ww_get hx hb hts hin3 hown hw 0 rfl rfl 8 (by decide) k46 rfl dX3_makeStep_67 ?_
    refine lv_eqi (show _ = nI (sAt S) from by rw [(again_At S (sAt S)).1]) ?_
    refine lv_iconst (v := nI 1) hx hb dX3_makeStep_70 (by decide +kernel) ?_
    refine lv_iadd hx hb dX3_makeStep_71 ?_
    refine lv_eqi (show _ = nI ((sAt S) + 1) from nI_add _ _) ?_
    refine ww_put (ws' := [(a, .inr (3, [.ref aL, .ref pa.1, .ref ta.1, .ref da.1, .int (nI (sLp (again S (sAt S)))), .int (nI (sPt (again S (sAt S)))), .int (nI (sWk (again S (sAt S)))), .int (nI (sDo (again S (sAt S)))), .int (nI ((sAt S) + 1)), .int (sC2 (again S (sAt S))), .int (sC3 (again S (sAt S))), .int (sC4 (again S (sAt S))), .int (sC5 (again S (sAt S)))]))] ++ (wL cI aL u.1 ((again S (sAt S)).1) u.2.1 ++ (wG cI pa ((again S (sAt S)).2.1) ++ (wT cI ta u.2.2.1 u.2.2.2.1 ++ wT cI da u.2.2.2.2.1 u.2.2.2.2.2)))) hx hb hts hin3 tyX3 tyX3_ok nmX3 hown hw 0 rfl rfl 8 (by decide) k46 rfl rfl rfl (Nat.le_of_ble_eq_true rfl) rfl dX3_makeStep_72 (fun H locs hw => ?_)
    refine lv_goto (tgt := 109) hx hb dX3_makeStep_75 (by decide) ?_
    have hw : ww D cI (va_A ([(a, .inr (3, [.ref aL, .ref pa.1, .ref ta.1, .ref da.1, .int (nI (sLp S)), .int (nI (sPt S)), .int (nI (sWk S)), .int (nI (sDo S)), .int (nI (sAt S)), .int (sC2 S), .int (sC3 S), .int (sC4 S), .int (sC5 S)]))] ++ (wL cI aL x.1 S.1 x.2.1 ++ (wG cI pa S.2.1 ++ (wT cI ta x.2.2.1 x.2.2.2.1 ++ wT cI da x.2.2.2.2.1 x.2.2.2.2.2)))) s.heap.size) s.heap s ([(a, .inr (3, [.ref aL, .ref pa.1, .ref ta.1, .ref da.1, .int (nI (sLp (setDo (again S (sAt S)) 2 (sAt S + 1)))), .int (nI (sPt (setDo (again S (sAt S)) 2 (sAt S + 1)))), .int (nI (sWk (setDo (again S (sAt S)) 2 (sAt S + 1)))), .int (nI (sDo (setDo (again S (sAt S)) 2 (sAt S + 1)))), .int (nI (sAt (setDo (again S (sAt S)) 2 (sAt S + 1)))), .int (sC2 (setDo (again S (sAt S)) 2 (sAt S + 1))), .int (sC3 (setDo (again S (sAt S)) 2 (sAt S + 1))), .int (sC4 (setDo (again S (sAt S)) 2 (sAt S + 1))), .int (sC5 (setDo (again S (sAt S)) 2 (sAt S + 1)))]))] ++ (wL cI aL u.1 ((setDo (again S (sAt S)) 2 (sAt S + 1)).1) u.2.1 ++ (wG cI pa ((setDo (again S (sAt S)) 2 (sAt S + 1)).2.1) ++ (wT cI ta u.2.2.1 u.2.2.2.1 ++ wT cI da u.2.2.2.2.1 u.2.2.2.2.2)))) H locs := by have e := (again_At S (sAt S)).2.1; rw [hd] at e; rw [e] at hw; exact hw
    have hat3 : sAt (setDo (again S (sAt S)) 2 (sAt S + 1)) < 2 ^ 31 := by show sAt S + 1 < 2 ^ 31; omega
    refine W.eq (g2 := F0 m 109 ls []) rfl ?_
    refine lv_aload_n hx hb dX3_makeStep_109 rfl (lv_at hl 0 rfl) ?_
    refine ww_callA (As := []) (rest := []) ⟨hx, hb, hml, hown, hts⟩ (cS_pas l D cI a aL pa ta da (setDo (again S (sAt S)) 2 (sAt S + 1)) u b hIn hb4 hq hat3) gX3_makeStep_X3_passOverPartsWithoutSteps rfl hd_X3_passOverPartsWithoutSteps ⟨Nat.le_of_ble_eq_true rfl, Nat.le_of_ble_eq_true rfl⟩ hw rfl rfl rfl rfl hl.1 (Nat.le_of_ble_eq_true rfl) dX3_makeStep_110 ⟨by show _ ≤ sCap (stp S) - sCap S; omega, by show _ ≤ 2 * (sCap (stp S) - sCap S); omega⟩ (fun rv u H locs hq hw => ?_)
    obtain ⟨rfl, hq⟩ := hq
    have hw : ww D cI _ _ s ([(a, .inr (3, [.ref aL, .ref pa.1, .ref ta.1, .ref da.1, .int (nI (sLp (pas (setDo (again S (sAt S)) 2 (sAt S + 1))))), .int (nI (sPt (pas (setDo (again S (sAt S)) 2 (sAt S + 1))))), .int (nI (sWk (pas (setDo (again S (sAt S)) 2 (sAt S + 1))))), .int (nI (sDo (pas (setDo (again S (sAt S)) 2 (sAt S + 1))))), .int (nI (sAt (pas (setDo (again S (sAt S)) 2 (sAt S + 1))))), .int (sC2 (pas (setDo (again S (sAt S)) 2 (sAt S + 1)))), .int (sC3 (pas (setDo (again S (sAt S)) 2 (sAt S + 1)))), .int (sC4 (pas (setDo (again S (sAt S)) 2 (sAt S + 1)))), .int (sC5 (pas (setDo (again S (sAt S)) 2 (sAt S + 1))))]))] ++ (wL cI aL u.1 ((pas (setDo (again S (sAt S)) 2 (sAt S + 1))).1) u.2.1 ++ (wG cI pa ((pas (setDo (again S (sAt S)) 2 (sAt S + 1))).2.1) ++ (wT cI ta u.2.2.1 u.2.2.2.1 ++ wT cI da u.2.2.2.2.1 u.2.2.2.2.2)))) H locs := hw
    refine W.eq (g2 := F0 m 113 ls []) rfl ?_
    have hw : ww D cI (va_A ([(a, .inr (3, [.ref aL, .ref pa.1, .ref ta.1, .ref da.1, .int (nI (sLp S)), .int (nI (sPt S)), .int (nI (sWk S)), .int (nI (sDo S)), .int (nI (sAt S)), .int (sC2 S), .int (sC3 S), .int (sC4 S), .int (sC5 S)]))] ++ (wL cI aL x.1 S.1 x.2.1 ++ (wG cI pa S.2.1 ++ (wT cI ta x.2.2.1 x.2.2.2.1 ++ wT cI da x.2.2.2.2.1 x.2.2.2.2.2)))) s.heap.size) s.heap s ([(a, .inr (3, [.ref aL, .ref pa.1, .ref ta.1, .ref da.1, .int (nI (sLp (stp S))), .int (nI (sPt (stp S))), .int (nI (sWk (stp S))), .int (nI (sDo (stp S))), .int (nI (sAt (stp S))), .int (sC2 (stp S)), .int (sC3 (stp S)), .int (sC4 (stp S)), .int (sC5 (stp S))]))] ++ (wL cI aL u.1 ((stp S).1) u.2.1 ++ (wG cI pa ((stp S).2.1) ++ (wT cI ta u.2.2.1 u.2.2.2.1 ++ wT cI da u.2.2.2.2.1 u.2.2.2.2.2)))) H locs := by rw [hE]; exact hw
    exact ww_vret (u := u) hx hb hr hlk hw (by rw [hE]; exact hq) (by omega) (by omega) rfl dX3_makeStep_113
  · refine lv_eqi (show _ = nI 3 from by rw [hd]) ?_
    have hp : (sT S (lwD (sT S) 4 200)).1 ≠ 0 := by have := (lwD_in (sT S) 4 200).resolve_left (hI0.2.2.2.1 hd); omega
    have hE : stp S = pas (emT S (rcW S 5 (lwD (sT S) 4 200))) := by rw [stp, if_neg (by omega), if_neg (by omega), if_pos hd]
    obtain ⟨w0, hw0⟩ : ∃ w0, lwD (sT S) 4 200 = w0 := ⟨_, rfl⟩
    rw [hw0] at hp hE
    have hE2 : sCap (stp S) = sCap (emT S (rcW S 5 w0)) := by rw [hE, pas_cap]
    have hcm := cap_emT S (rcW S 5 w0)
    have hIn := Inv0_end hI (Or.inr (Or.inl hd)) hp
    refine lv_tableIn (tgt := 78) (off := 74) hx hb dX3_makeStep_4 (by decide +kernel) (by decide +kernel) (by decide +kernel) (by decide) ?_
    refine lv_aload_n hx hb dX3_makeStep_78 rfl (lv_at hl 0 rfl) ?_
    refine lv_iconst (v := nI 5) hx hb dX3_makeStep_79 (by decide +kernel) ?_
    refine lv_aload_n hx hb dX3_makeStep_80 rfl (lv_at hl 0 rfl) ?_
    refine ww_get hx hb hts hin3 hown hw 0 rfl rfl 2 (by decide) k26 rfl dX3_makeStep_81 ?_
    refine lv_iconst (v := nI 4) hx hb dX3_makeStep_84 (by decide +kernel) ?_
    refine ww_callV ([(a, .inr (3, [.ref aL, .ref pa.1, .ref ta.1, .ref da.1, .int (nI (sLp S)), .int (nI (sPt S)), .int (nI (sWk S)), .int (nI (sDo S)), .int (nI (sAt S)), .int (sC2 S), .int (sC3 S), .int (sC4 S), .int (sC5 S)]))] ++ (wL cI aL x.1 S.1 x.2.1 ++ wG cI pa S.2.1)) (wT cI da x.2.2.2.2.1 x.2.2.2.2.2) (As := [.int (nI 4)]) (rest := [.int (nI 5), .ref a]) ⟨hx, hb, hml, hown, hts⟩ (cT_leastWorkIn l D cI ta.1 ta.2.1 ta.2.2.1 ta.2.2.2.1 ta.2.2.2.2.1 ta.2.2.2.2.2 x.2.2.1 x.2.2.2.1 (sT S) hrx.2.1 4 (by decide) (by omega) (Inv0_TB hI hb4)) gX3_makeStep_X2_leastWorkIn rfl hd_X2_leastWorkIn ⟨Nat.le_of_ble_eq_true rfl, Nat.le_of_ble_eq_true rfl⟩ hw rfl rfl rfl rfl rfl hl.1 (Nat.le_of_ble_eq_true rfl) dX3_makeStep_85 ⟨by show _ ≤ sCap (stp S) - sCap S; omega, by show _ ≤ 2 * (sCap (stp S) - sCap S); omega⟩ (fun rv u H locs hq hw => ?_)
    obtain ⟨rr, rfl, hq⟩ := hq
    rw [hw0] at hq
    subst hq
    have hw : ww D cI _ _ s ([(a, .inr (3, [.ref aL, .ref pa.1, .ref ta.1, .ref da.1, .int (nI (sLp S)), .int (nI (sPt S)), .int (nI (sWk S)), .int (nI (sDo S)), .int (nI (sAt S)), .int (sC2 S), .int (sC3 S), .int (sC4 S), .int (sC5 S)]))] ++ (wL cI aL x.1 S.1 x.2.1 ++ (wG cI pa S.2.1 ++ (wT cI ta x.2.2.1 x.2.2.2.1 ++ wT cI da x.2.2.2.2.1 x.2.2.2.2.2)))) H locs := hw
    refine W.eq (g2 := F0 m 88 ls [.int (nI w0), .int (nI 5), .ref a]) rfl ?_
    refine ww_callA (As := [.int (nI 5), .int (nI w0)]) (rest := []) ⟨hx, hb, hml, hown, hts⟩ (cS_app l D cI a aL pa ta da S x b 5 w0 hI hb4 hrx hp (by omega) (by omega)) gX3_makeStep_X3_appendOfWork rfl hd_X3_appendOfWork ⟨Nat.le_of_ble_eq_true rfl, Nat.le_of_ble_eq_true rfl⟩ hw rfl rfl rfl rfl hl.1 (Nat.le_of_ble_eq_true rfl) dX3_makeStep_88 ⟨by show _ ≤ sCap (stp S) - sCap S; omega, by show _ ≤ 2 * (sCap (stp S) - sCap S); omega⟩ (fun rv u H locs hq hw => ?_)
    obtain ⟨rr, rfl, -, hq⟩ := hq
    have hw : ww D cI _ _ s ([(a, .inr (3, [.ref aL, .ref pa.1, .ref ta.1, .ref da.1, .int (nI (sLp (emT S (rcW S 5 w0)))), .int (nI (sPt (emT S (rcW S 5 w0)))), .int (nI (sWk (emT S (rcW S 5 w0)))), .int (nI (sDo (emT S (rcW S 5 w0)))), .int (nI (sAt (emT S (rcW S 5 w0)))), .int (sC2 (emT S (rcW S 5 w0))), .int (sC3 (emT S (rcW S 5 w0))), .int (sC4 (emT S (rcW S 5 w0))), .int (sC5 (emT S (rcW S 5 w0)))]))] ++ (wL cI aL u.1 ((emT S (rcW S 5 w0)).1) u.2.1 ++ (wG cI pa ((emT S (rcW S 5 w0)).2.1) ++ (wT cI ta u.2.2.1 u.2.2.2.1 ++ wT cI da u.2.2.2.2.1 u.2.2.2.2.2)))) H locs := hw
    refine W.eq (g2 := F0 m 91 ls [.int (rr)]) rfl ?_
    refine lv_pop hx hb dX3_makeStep_91 rfl ?_
    refine lv_goto (tgt := 109) hx hb dX3_makeStep_92 (by decide) ?_
    have hat3 : sAt (emT S (rcW S 5 w0)) < 2 ^ 31 := hat31
    refine lv_aload_n hx hb dX3_makeStep_109 rfl (lv_at hl 0 rfl) ?_
    refine ww_callA (As := []) (rest := []) ⟨hx, hb, hml, hown, hts⟩ (cS_pas l D cI a aL pa ta da (emT S (rcW S 5 w0)) u b hIn hb4 hq hat3) gX3_makeStep_X3_passOverPartsWithoutSteps rfl hd_X3_passOverPartsWithoutSteps ⟨Nat.le_of_ble_eq_true rfl, Nat.le_of_ble_eq_true rfl⟩ hw rfl rfl rfl rfl hl.1 (Nat.le_of_ble_eq_true rfl) dX3_makeStep_110 ⟨by show _ ≤ sCap (stp S) - sCap S; omega, by show _ ≤ 2 * (sCap (stp S) - sCap S); omega⟩ (fun rv u H locs hq hw => ?_)
    obtain ⟨rfl, hq⟩ := hq
    have hw : ww D cI _ _ s ([(a, .inr (3, [.ref aL, .ref pa.1, .ref ta.1, .ref da.1, .int (nI (sLp (pas (emT S (rcW S 5 w0))))), .int (nI (sPt (pas (emT S (rcW S 5 w0))))), .int (nI (sWk (pas (emT S (rcW S 5 w0))))), .int (nI (sDo (pas (emT S (rcW S 5 w0))))), .int (nI (sAt (pas (emT S (rcW S 5 w0))))), .int (sC2 (pas (emT S (rcW S 5 w0)))), .int (sC3 (pas (emT S (rcW S 5 w0)))), .int (sC4 (pas (emT S (rcW S 5 w0)))), .int (sC5 (pas (emT S (rcW S 5 w0))))]))] ++ (wL cI aL u.1 ((pas (emT S (rcW S 5 w0))).1) u.2.1 ++ (wG cI pa ((pas (emT S (rcW S 5 w0))).2.1) ++ (wT cI ta u.2.2.1 u.2.2.2.1 ++ wT cI da u.2.2.2.2.1 u.2.2.2.2.2)))) H locs := hw
    refine W.eq (g2 := F0 m 113 ls []) rfl ?_
    have hw : ww D cI (va_A ([(a, .inr (3, [.ref aL, .ref pa.1, .ref ta.1, .ref da.1, .int (nI (sLp S)), .int (nI (sPt S)), .int (nI (sWk S)), .int (nI (sDo S)), .int (nI (sAt S)), .int (sC2 S), .int (sC3 S), .int (sC4 S), .int (sC5 S)]))] ++ (wL cI aL x.1 S.1 x.2.1 ++ (wG cI pa S.2.1 ++ (wT cI ta x.2.2.1 x.2.2.2.1 ++ wT cI da x.2.2.2.2.1 x.2.2.2.2.2)))) s.heap.size) s.heap s ([(a, .inr (3, [.ref aL, .ref pa.1, .ref ta.1, .ref da.1, .int (nI (sLp (stp S))), .int (nI (sPt (stp S))), .int (nI (sWk (stp S))), .int (nI (sDo (stp S))), .int (nI (sAt (stp S))), .int (sC2 (stp S)), .int (sC3 (stp S)), .int (sC4 (stp S)), .int (sC5 (stp S))]))] ++ (wL cI aL u.1 ((stp S).1) u.2.1 ++ (wG cI pa ((stp S).2.1) ++ (wT cI ta u.2.2.1 u.2.2.2.1 ++ wT cI da u.2.2.2.2.1 u.2.2.2.2.2)))) H locs := by rw [hE]; exact hw
    exact ww_vret (u := u) hx hb hr hlk hw (by rw [hE]; exact hq) (by omega) (by omega) rfl dX3_makeStep_113
  · refine lv_eqi (show _ = nI 4 from by rw [hd]) ?_
    have hp : (sT S (wuD (sT S) 200)).1 ≠ 0 := by rcases (wuD_in (T := sT S) 200).resolve_left (hI0.2.2.2.2 hd) with z | z <;> omega
    have hE : stp S = pas (uoe S (wuD (sT S) 200)) := by rw [stp, if_neg (by omega), if_neg (by omega), if_neg (by omega), if_pos hd]
    obtain ⟨w0, hw0⟩ : ∃ w0, wuD (sT S) 200 = w0 := ⟨_, rfl⟩
    rw [hw0] at hp hE
    have hE2 : sCap (stp S) = sCap (uoe S w0) := by rw [hE, pas_cap]
    have hcm : sCap S ≤ sCap (uoe S w0) := by rw [uoe]; split; exact cap_und S w0; exact cap_emT S _
    have hIn : Inv0 b (uoe S w0) := by rw [uoe]; split; (rename_i z; exact Inv0_und hI (Or.inr (Or.inr hd)) hp z); exact Inv0_end hI (Or.inr (Or.inr hd)) hp
    refine lv_tableIn (tgt := 95) (off := 91) hx hb dX3_makeStep_4 (by decide +kernel) (by decide +kernel) (by decide +kernel) (by decide) ?_
    refine lv_aload_n hx hb dX3_makeStep_95 rfl (lv_at hl 0 rfl) ?_
    refine lv_aload_n hx hb dX3_makeStep_96 rfl (lv_at hl 0 rfl) ?_
    refine ww_get hx hb hts hin3 hown hw 0 rfl rfl 2 (by decide) k26 rfl dX3_makeStep_97 ?_
    refine ww_callV ([(a, .inr (3, [.ref aL, .ref pa.1, .ref ta.1, .ref da.1, .int (nI (sLp S)), .int (nI (sPt S)), .int (nI (sWk S)), .int (nI (sDo S)), .int (nI (sAt S)), .int (sC2 S), .int (sC3 S), .int (sC4 S), .int (sC5 S)]))] ++ (wL cI aL x.1 S.1 x.2.1 ++ wG cI pa S.2.1)) (wT cI da x.2.2.2.2.1 x.2.2.2.2.2) (As := []) (rest := [.ref a]) ⟨hx, hb, hml, hown, hts⟩ (cT_workToUndo l D cI ta.1 ta.2.1 ta.2.2.1 ta.2.2.2.1 ta.2.2.2.2.1 ta.2.2.2.2.2 x.2.2.1 x.2.2.2.1 (sT S) hrx.2.1 (Inv0_TB hI hb4)) gX3_makeStep_X2_workToUndo rfl hd_X2_workToUndo ⟨Nat.le_of_ble_eq_true rfl, Nat.le_of_ble_eq_true rfl⟩ hw rfl rfl rfl rfl rfl hl.1 (Nat.le_of_ble_eq_true rfl) dX3_makeStep_100 ⟨by show _ ≤ sCap (stp S) - sCap S; omega, by show _ ≤ 2 * (sCap (stp S) - sCap S); omega⟩ (fun rv u H locs hq hw => ?_)
    obtain ⟨rr, rfl, hq⟩ := hq
    rw [hw0] at hq
    subst hq
    have hw : ww D cI _ _ s ([(a, .inr (3, [.ref aL, .ref pa.1, .ref ta.1, .ref da.1, .int (nI (sLp S)), .int (nI (sPt S)), .int (nI (sWk S)), .int (nI (sDo S)), .int (nI (sAt S)), .int (sC2 S), .int (sC3 S), .int (sC4 S), .int (sC5 S)]))] ++ (wL cI aL x.1 S.1 x.2.1 ++ (wG cI pa S.2.1 ++ (wT cI ta x.2.2.1 x.2.2.2.1 ++ wT cI da x.2.2.2.2.1 x.2.2.2.2.2)))) H locs := hw
    refine W.eq (g2 := F0 m 103 ls [.int (nI w0), .ref a]) rfl ?_
    refine ww_callA (As := [.int (nI w0)]) (rest := []) ⟨hx, hb, hml, hown, hts⟩ (cS_undoOrEnd l D cI a aL pa ta da S x b hI hb4 hrx w0 hp) gX3_makeStep_X3_undoOrEnd rfl hd_X3_undoOrEnd ⟨Nat.le_of_ble_eq_true rfl, Nat.le_of_ble_eq_true rfl⟩ hw rfl rfl rfl rfl hl.1 (Nat.le_of_ble_eq_true rfl) dX3_makeStep_103 ⟨by show _ ≤ sCap (stp S) - sCap S; omega, by show _ ≤ 2 * (sCap (stp S) - sCap S); omega⟩ (fun rv u H locs hq hw => ?_)
    obtain ⟨rfl, hq⟩ := hq
    have hw : ww D cI _ _ s ([(a, .inr (3, [.ref aL, .ref pa.1, .ref ta.1, .ref da.1, .int (nI (sLp (uoe S w0))), .int (nI (sPt (uoe S w0))), .int (nI (sWk (uoe S w0))), .int (nI (sDo (uoe S w0))), .int (nI (sAt (uoe S w0))), .int (sC2 (uoe S w0)), .int (sC3 (uoe S w0)), .int (sC4 (uoe S w0)), .int (sC5 (uoe S w0))]))] ++ (wL cI aL u.1 ((uoe S w0).1) u.2.1 ++ (wG cI pa ((uoe S w0).2.1) ++ (wT cI ta u.2.2.1 u.2.2.2.1 ++ wT cI da u.2.2.2.2.1 u.2.2.2.2.2)))) H locs := hw
    refine W.eq (g2 := F0 m 106 ls []) rfl ?_
    refine lv_goto (tgt := 109) hx hb dX3_makeStep_106 (by decide) ?_
    have hat3 : sAt (uoe S w0) < 2 ^ 31 := by rw [uoe]; split <;> exact hat31
    refine lv_aload_n hx hb dX3_makeStep_109 rfl (lv_at hl 0 rfl) ?_
    refine ww_callA (As := []) (rest := []) ⟨hx, hb, hml, hown, hts⟩ (cS_pas l D cI a aL pa ta da (uoe S w0) u b hIn hb4 hq hat3) gX3_makeStep_X3_passOverPartsWithoutSteps rfl hd_X3_passOverPartsWithoutSteps ⟨Nat.le_of_ble_eq_true rfl, Nat.le_of_ble_eq_true rfl⟩ hw rfl rfl rfl rfl hl.1 (Nat.le_of_ble_eq_true rfl) dX3_makeStep_110 ⟨by show _ ≤ sCap (stp S) - sCap S; omega, by show _ ≤ 2 * (sCap (stp S) - sCap S); omega⟩ (fun rv u H locs hq hw => ?_)
    obtain ⟨rfl, hq⟩ := hq
    have hw : ww D cI _ _ s ([(a, .inr (3, [.ref aL, .ref pa.1, .ref ta.1, .ref da.1, .int (nI (sLp (pas (uoe S w0)))), .int (nI (sPt (pas (uoe S w0)))), .int (nI (sWk (pas (uoe S w0)))), .int (nI (sDo (pas (uoe S w0)))), .int (nI (sAt (pas (uoe S w0)))), .int (sC2 (pas (uoe S w0))), .int (sC3 (pas (uoe S w0))), .int (sC4 (pas (uoe S w0))), .int (sC5 (pas (uoe S w0)))]))] ++ (wL cI aL u.1 ((pas (uoe S w0)).1) u.2.1 ++ (wG cI pa ((pas (uoe S w0)).2.1) ++ (wT cI ta u.2.2.1 u.2.2.2.1 ++ wT cI da u.2.2.2.2.1 u.2.2.2.2.2)))) H locs := hw
    refine W.eq (g2 := F0 m 113 ls []) rfl ?_
    have hw : ww D cI (va_A ([(a, .inr (3, [.ref aL, .ref pa.1, .ref ta.1, .ref da.1, .int (nI (sLp S)), .int (nI (sPt S)), .int (nI (sWk S)), .int (nI (sDo S)), .int (nI (sAt S)), .int (sC2 S), .int (sC3 S), .int (sC4 S), .int (sC5 S)]))] ++ (wL cI aL x.1 S.1 x.2.1 ++ (wG cI pa S.2.1 ++ (wT cI ta x.2.2.1 x.2.2.2.1 ++ wT cI da x.2.2.2.2.1 x.2.2.2.2.2)))) s.heap.size) s.heap s ([(a, .inr (3, [.ref aL, .ref pa.1, .ref ta.1, .ref da.1, .int (nI (sLp (stp S))), .int (nI (sPt (stp S))), .int (nI (sWk (stp S))), .int (nI (sDo (stp S))), .int (nI (sAt (stp S))), .int (sC2 (stp S)), .int (sC3 (stp S)), .int (sC4 (stp S)), .int (sC5 (stp S))]))] ++ (wL cI aL u.1 ((stp S).1) u.2.1 ++ (wG cI pa ((stp S).2.1) ++ (wT cI ta u.2.2.1 u.2.2.2.1 ++ wT cI da u.2.2.2.2.1 u.2.2.2.2.2)))) H locs := by rw [hE]; exact hw
    exact ww_vret (u := u) hx hb hr hlk hw (by rw [hE]; exact hq) (by omega) (by omega) rfl dX3_makeStep_113
set_option maxHeartbeats 1000000 in
set_option maxRecDepth 100000 in
theorem cF_begin (l : Launch) (D : va_G) (cI : ClassId) (a aL : Nat) (pa : A5) (ta da : A6) (S : SS) (x : XG) (b : Nat) (hI0 : Inv b S) (h5 : E5 S) (hb4 : b ≤ 4000) (hrx : RX S x) : Kt l yX3_begin wsX3_begin 2 44 (sCap (oBegin S).2 - sCap S) (2 * (sCap (oBegin S).2 - sCap S)) D cI [.ref a] ([(a, .inr (3, [.ref aL, .ref pa.1, .ref ta.1, .ref da.1, .int (nI (sLp S)), .int (nI (sPt S)), .int (nI (sWk S)), .int (nI (sDo S)), .int (nI (sAt S)), .int (sC2 S), .int (sC3 S), .int (sC4 S), .int (sC5 S)]))] ++ (wL cI aL x.1 S.1 x.2.1 ++ (wG cI pa S.2.1 ++ (wT cI ta x.2.2.1 x.2.2.2.1 ++ wT cI da x.2.2.2.2.1 x.2.2.2.2.2)))) (pI (fun (r : Int32) (u : XG) => r = (oBegin S).1 ∧ RX (oBegin S).2 u)) (fun (u : XG) => [(a, .inr (3, [.ref aL, .ref pa.1, .ref ta.1, .ref da.1, .int (nI (sLp ((oBegin S).2))), .int (nI (sPt ((oBegin S).2))), .int (nI (sWk ((oBegin S).2))), .int (nI (sDo ((oBegin S).2))), .int (nI (sAt ((oBegin S).2))), .int (sC2 ((oBegin S).2)), .int (sC3 ((oBegin S).2)), .int (sC4 ((oBegin S).2)), .int (sC5 ((oBegin S).2))]))] ++ (wL cI aL u.1 (((oBegin S).2).1) u.2.1 ++ (wG cI pa (((oBegin S).2).2.1) ++ (wT cI ta u.2.2.1 u.2.2.2.1 ++ wT cI da u.2.2.2.2.1 u.2.2.2.2.2)))) := by
  refine kt_start (cc := cX3_begin) (maxL := 1) (ret := (some .int)) (by decide +kernel) rfl (Nat.le_of_ble_eq_true rfl) ?_
  intro p e s m below meth c hx hb hml hr hlk hown hnm hts ls hl hw
  have hown : s.vm.findClass RX3 = some m.cls := hown
  have hl : lv_has ls 1 [(0, .ref a)] := hl
  have k26 := hts (.fieldLink RX3 26 "RestartBook" "tables" "LRestartBook$Tables;") (by decide +kernel)
  have k40 := hts (.fieldLink RX3 40 "RestartBook" "worksGiven" "I") (by decide +kernel)
  have k43 := hts (.fieldLink RX3 43 "RestartBook" "doing" "I") (by decide +kernel)
  have hin3 : ∀ w ∈ u_ws RX3 TX3 13, w ∈ wsX3_begin := in_X3_begin
  have hI := hI0.1
  have hn4 := Inv0_n hI
  have hwk := hI.2.1.2.1
  have hdo4 : sDo S ≤ 4 := by rcases hI.2.2.2.2.2 with z | z | z <;> omega
  refine lv_aload_n hx hb dX3_begin_0 rfl (lv_at hl 0 rfl) ?_
  refine ww_get hx hb hts hin3 hown hw 0 rfl rfl 7 (by decide) k43 rfl dX3_begin_1 ?_
  refine lv_if_eq (tgt := 10) hx hb dX3_begin_4 (by decide) (fun c_4 => ?_) (fun c_4 => ?_)
  · have hdo : sDo S = 0 := nI_q (by omega) (by omega) (c_4.trans nI_0.symm)
    have hT := Inv0_T hI
    refine lv_aload_n hx hb dX3_begin_10 rfl (lv_at hl 0 rfl) ?_
    refine ww_get hx hb hts hin3 hown hw 0 rfl rfl 6 (by decide) k40 rfl dX3_begin_11 ?_
    refine lv_sipush (v := nI 200) hx hb dX3_begin_14 (by decide +kernel) ?_
    refine lv_icmp_ge (tgt := 30) hx hb dX3_begin_17 (by decide) (fun c_17 => ?_) (fun c_17 => ?_)
    · have hfl : 200 ≤ sWk S ∨ 16 ≤ cardT (sT S) 200 := by first | assumption | exact Or.inl (by simp (disch := omega) only [i_le, nI_toInt] at c_17; omega)
      have hE : oBegin S = (xROO, S) := by rw [oBegin, if_neg (fun q => q hdo), if_pos hfl]
      have hE2 : sCap (oBegin S).2 = sCap S := by rw [hE]
      have hw : ww D cI (va_A ([(a, .inr (3, [.ref aL, .ref pa.1, .ref ta.1, .ref da.1, .int (nI (sLp S)), .int (nI (sPt S)), .int (nI (sWk S)), .int (nI (sDo S)), .int (nI (sAt S)), .int (sC2 S), .int (sC3 S), .int (sC4 S), .int (sC5 S)]))] ++ (wL cI aL x.1 S.1 x.2.1 ++ (wG cI pa S.2.1 ++ (wT cI ta x.2.2.1 x.2.2.2.1 ++ wT cI da x.2.2.2.2.1 x.2.2.2.2.2)))) s.heap.size) s.heap s ([(a, .inr (3, [.ref aL, .ref pa.1, .ref ta.1, .ref da.1, .int (nI (sLp ((oBegin S).2))), .int (nI (sPt ((oBegin S).2))), .int (nI (sWk ((oBegin S).2))), .int (nI (sDo ((oBegin S).2))), .int (nI (sAt ((oBegin S).2))), .int (sC2 ((oBegin S).2)), .int (sC3 ((oBegin S).2)), .int (sC4 ((oBegin S).2)), .int (sC5 ((oBegin S).2))]))] ++ (wL cI aL x.1 (((oBegin S).2).1) x.2.1 ++ (wG cI pa (((oBegin S).2).2.1) ++ (wT cI ta x.2.2.1 x.2.2.2.1 ++ wT cI da x.2.2.2.2.1 x.2.2.2.2.2)))) s.heap [] := by rw [hE]; exact hw
      refine lv_bipush (v := (-104)) hx hb dX3_begin_30 (by decide +kernel) ?_
      exact ww_iret (u := x) hx hb hr hlk hw (by rw [hE]; exact ⟨rfl, hrx⟩) (Nat.zero_le _) (Nat.zero_le _) dX3_begin_32
    · refine lv_aload_n hx hb dX3_begin_20 rfl (lv_at hl 0 rfl) ?_
      refine ww_get hx hb hts hin3 hown hw 0 rfl rfl 2 (by decide) k26 rfl dX3_begin_21 ?_
      refine ww_callV ([(a, .inr (3, [.ref aL, .ref pa.1, .ref ta.1, .ref da.1, .int (nI (sLp S)), .int (nI (sPt S)), .int (nI (sWk S)), .int (nI (sDo S)), .int (nI (sAt S)), .int (sC2 S), .int (sC3 S), .int (sC4 S), .int (sC5 S)]))] ++ (wL cI aL x.1 S.1 x.2.1 ++ wG cI pa S.2.1)) (wT cI da x.2.2.2.2.1 x.2.2.2.2.2) (As := []) (rest := []) ⟨hx, hb, hml, hown, hts⟩ (cT_isFull l D cI ta.1 ta.2.1 ta.2.2.1 ta.2.2.2.1 ta.2.2.2.2.1 ta.2.2.2.2.2 x.2.2.1 x.2.2.2.1 (TR_le hrx.2.1)) gX3_begin_X2_isFull rfl hd_X2_isFull ⟨Nat.le_of_ble_eq_true rfl, Nat.le_of_ble_eq_true rfl⟩ hw rfl rfl rfl rfl rfl hl.1 (Nat.le_of_ble_eq_true rfl) dX3_begin_24 ⟨Nat.zero_le _, Nat.zero_le _⟩ (fun rv u H locs hq hw => ?_)
      obtain ⟨rr, rfl, hq⟩ := hq
      have hw : ww D cI _ _ s ([(a, .inr (3, [.ref aL, .ref pa.1, .ref ta.1, .ref da.1, .int (nI (sLp S)), .int (nI (sPt S)), .int (nI (sWk S)), .int (nI (sDo S)), .int (nI (sAt S)), .int (sC2 S), .int (sC3 S), .int (sC4 S), .int (sC5 S)]))] ++ (wL cI aL x.1 S.1 x.2.1 ++ (wG cI pa S.2.1 ++ (wT cI ta x.2.2.1 x.2.2.2.1 ++ wT cI da x.2.2.2.2.1 x.2.2.2.2.2)))) H locs := hw
      refine W.eq (g2 := F0 m 27 ls [.int (rr)]) rfl ?_
      rcases hq with ⟨rfl, hf⟩ | ⟨rfl, hf⟩
      · have hfl : 200 ≤ sWk S ∨ 16 ≤ cardT (sT S) 200 := Or.inr (by rw [← TR_card hrx.2.1]; exact hf)
        refine lv_if_eq (tgt := 33) hx hb dX3_begin_27 (by decide) (fun c_27 => absurd c_27 (by decide)) (fun c_27 => ?_)
        have hfl : 200 ≤ sWk S ∨ 16 ≤ cardT (sT S) 200 := by first | assumption | exact Or.inl (by simp (disch := omega) only [i_le, nI_toInt] at c_17; omega)
        have hE : oBegin S = (xROO, S) := by rw [oBegin, if_neg (fun q => q hdo), if_pos hfl]
        have hE2 : sCap (oBegin S).2 = sCap S := by rw [hE]
        have hw : ww D cI (va_A ([(a, .inr (3, [.ref aL, .ref pa.1, .ref ta.1, .ref da.1, .int (nI (sLp S)), .int (nI (sPt S)), .int (nI (sWk S)), .int (nI (sDo S)), .int (nI (sAt S)), .int (sC2 S), .int (sC3 S), .int (sC4 S), .int (sC5 S)]))] ++ (wL cI aL x.1 S.1 x.2.1 ++ (wG cI pa S.2.1 ++ (wT cI ta x.2.2.1 x.2.2.2.1 ++ wT cI da x.2.2.2.2.1 x.2.2.2.2.2)))) s.heap.size) s.heap s ([(a, .inr (3, [.ref aL, .ref pa.1, .ref ta.1, .ref da.1, .int (nI (sLp ((oBegin S).2))), .int (nI (sPt ((oBegin S).2))), .int (nI (sWk ((oBegin S).2))), .int (nI (sDo ((oBegin S).2))), .int (nI (sAt ((oBegin S).2))), .int (sC2 ((oBegin S).2)), .int (sC3 ((oBegin S).2)), .int (sC4 ((oBegin S).2)), .int (sC5 ((oBegin S).2))]))] ++ (wL cI aL x.1 (((oBegin S).2).1) x.2.1 ++ (wG cI pa (((oBegin S).2).2.1) ++ (wT cI ta x.2.2.1 x.2.2.2.1 ++ wT cI da x.2.2.2.2.1 x.2.2.2.2.2)))) H locs := by rw [hE]; exact hw
        refine lv_bipush (v := (-104)) hx hb dX3_begin_30 (by decide +kernel) ?_
        exact ww_iret (u := x) hx hb hr hlk hw (by rw [hE]; exact ⟨rfl, hrx⟩) (Nat.zero_le _) (Nat.zero_le _) dX3_begin_32
      · have hfl : ¬ (200 ≤ sWk S ∨ 16 ≤ cardT (sT S) 200) := by rw [← TR_card hrx.2.1]; simp (disch := omega) only [i_le, nI_toInt] at c_17; omega
        refine lv_if_eq (tgt := 33) hx hb dX3_begin_27 (by decide) (fun c_27 => ?_) (fun c_27 => absurd (rfl) c_27)
        refine lv_aload_n hx hb dX3_begin_33 rfl (lv_at hl 0 rfl) ?_
        refine lv_dup hx hb dX3_begin_34 rfl ?_
        refine ww_get hx hb hts hin3 hown hw 0 rfl rfl 6 (by decide) k40 rfl dX3_begin_35 ?_
        refine lv_iconst (v := nI 1) hx hb dX3_begin_38 (by decide +kernel) ?_
        refine lv_iadd hx hb dX3_begin_39 ?_
        refine lv_eqi (show _ = nI ((sWk S) + 1) from nI_add _ _) ?_
        refine ww_put (ws' := [(a, .inr (3, [.ref aL, .ref pa.1, .ref ta.1, .ref da.1, .int (nI (sLp S)), .int (nI (sPt S)), .int (nI ((sWk S) + 1)), .int (nI (sDo S)), .int (nI (sAt S)), .int (sC2 S), .int (sC3 S), .int (sC4 S), .int (sC5 S)]))] ++ (wL cI aL x.1 S.1 x.2.1 ++ (wG cI pa S.2.1 ++ (wT cI ta x.2.2.1 x.2.2.2.1 ++ wT cI da x.2.2.2.2.1 x.2.2.2.2.2)))) hx hb hts hin3 tyX3 tyX3_ok nmX3 hown hw 0 rfl rfl 6 (by decide) k40 rfl rfl rfl (Nat.le_of_ble_eq_true rfl) rfl dX3_begin_40 (fun H locs hw => ?_)
        refine lv_aload_n hx hb dX3_begin_43 rfl (lv_at hl 0 rfl) ?_
        refine ww_get hx hb hts hin3 hown hw 0 rfl rfl 2 (by decide) k26 rfl dX3_begin_44 ?_
        refine lv_aload_n hx hb dX3_begin_47 rfl (lv_at hl 0 rfl) ?_
        refine ww_get hx hb hts hin3 hown hw 0 rfl rfl 6 (by decide) k40 rfl dX3_begin_48 ?_
        have hz : (sT S (sWk S + 1)).1 = 0 := by
          by_cases z : (sT S (sWk S + 1)).1 = 0
          · exact z
          · have := ((hT.1 _).2 z).2.1; omega
        refine ww_callV ([(a, .inr (3, [.ref aL, .ref pa.1, .ref ta.1, .ref da.1, .int (nI (sLp S)), .int (nI (sPt S)), .int (nI ((sWk S) + 1)), .int (nI (sDo S)), .int (nI (sAt S)), .int (sC2 S), .int (sC3 S), .int (sC4 S), .int (sC5 S)]))] ++ (wL cI aL x.1 S.1 x.2.1 ++ wG cI pa S.2.1)) (wT cI da x.2.2.2.2.1 x.2.2.2.2.2) (As := [.int (nI ((sWk S) + 1))]) (rest := []) ⟨hx, hb, hml, hown, hts⟩ (cT_bringIn l D cI ta.1 ta.2.1 ta.2.2.1 ta.2.2.2.1 ta.2.2.2.2.1 ta.2.2.2.2.2 x.2.2.1 x.2.2.2.1 (sT S) hrx.2.1 (sWk S + 1) (by omega) (by omega) (Or.inr (by rw [TR_card hrx.2.1]; omega))) gX3_begin_X2_bringIn rfl hd_X2_bringIn ⟨Nat.le_of_ble_eq_true rfl, Nat.le_of_ble_eq_true rfl⟩ hw rfl rfl rfl rfl rfl hl.1 (Nat.le_of_ble_eq_true rfl) dX3_begin_51 ⟨Nat.zero_le _, Nat.zero_le _⟩ (fun rv u H locs hq hw => ?_)
        obtain ⟨rfl, -, hq⟩ := hq
        rw [if_pos hz] at hq
        have hw : ww D cI _ _ s ([(a, .inr (3, [.ref aL, .ref pa.1, .ref ta.1, .ref da.1, .int (nI (sLp S)), .int (nI (sPt S)), .int (nI ((sWk S) + 1)), .int (nI (sDo S)), .int (nI (sAt S)), .int (sC2 S), .int (sC3 S), .int (sC4 S), .int (sC5 S)]))] ++ (wL cI aL x.1 S.1 x.2.1 ++ (wG cI pa S.2.1 ++ (wT cI ta u x.2.2.2.1 ++ wT cI da x.2.2.2.2.1 x.2.2.2.2.2)))) H locs := hw
        refine W.eq (g2 := F0 m 54 ls []) rfl ?_
        refine W.eq (g2 := F0 m 54 ls []) rfl ?_
        refine lv_aload_n hx hb dX3_begin_54 rfl (lv_at hl 0 rfl) ?_
        refine ww_get hx hb hts hin3 hown hw 0 rfl rfl 6 (by decide) k40 rfl dX3_begin_55 ?_
        have hE : oBegin S = (nI (sWk S + 1), (S.1, S.2.1, (va_up (sT S) (sWk S + 1) (1, 0, 0), sBs S), S.2.2.2.1, (sLp S, sPt S, sWk S + 1, S.2.2.2.2.2.2.2))) := by rw [oBegin, if_neg (fun q => q hdo), if_neg hfl]
        have hE2 : sCap (oBegin S).2 = sCap (S.1, S.2.1, (va_up (sT S) (sWk S + 1) (1, 0, 0), sBs S), S.2.2.2.1, (sLp S, sPt S, sWk S + 1, S.2.2.2.2.2.2.2)) := by rw [hE]
        have hw : ww D cI (va_A ([(a, .inr (3, [.ref aL, .ref pa.1, .ref ta.1, .ref da.1, .int (nI (sLp S)), .int (nI (sPt S)), .int (nI (sWk S)), .int (nI (sDo S)), .int (nI (sAt S)), .int (sC2 S), .int (sC3 S), .int (sC4 S), .int (sC5 S)]))] ++ (wL cI aL x.1 S.1 x.2.1 ++ (wG cI pa S.2.1 ++ (wT cI ta x.2.2.1 x.2.2.2.1 ++ wT cI da x.2.2.2.2.1 x.2.2.2.2.2)))) s.heap.size) s.heap s ([(a, .inr (3, [.ref aL, .ref pa.1, .ref ta.1, .ref da.1, .int (nI (sLp ((oBegin S).2))), .int (nI (sPt ((oBegin S).2))), .int (nI (sWk ((oBegin S).2))), .int (nI (sDo ((oBegin S).2))), .int (nI (sAt ((oBegin S).2))), .int (sC2 ((oBegin S).2)), .int (sC3 ((oBegin S).2)), .int (sC4 ((oBegin S).2)), .int (sC5 ((oBegin S).2))]))] ++ (wL cI aL ((x.1, x.2.1, u, x.2.2.2).1) (((oBegin S).2).1) ((x.1, x.2.1, u, x.2.2.2).2.1) ++ (wG cI pa (((oBegin S).2).2.1) ++ (wT cI ta ((x.1, x.2.1, u, x.2.2.2).2.2.1) ((x.1, x.2.1, u, x.2.2.2).2.2.2.1) ++ wT cI da ((x.1, x.2.1, u, x.2.2.2).2.2.2.2.1) ((x.1, x.2.1, u, x.2.2.2).2.2.2.2.2))))) H locs := by rw [hE]; exact hw
        exact ww_iret (u := (x.1, x.2.1, u, x.2.2.2)) hx hb hr hlk hw (by rw [hE]; exact ⟨rfl, hrx.1, hq, hrx.2.2⟩) (Nat.zero_le _) (Nat.zero_le _) dX3_begin_58
  · have hdo : sDo S ≠ 0 := fun q => c_4 ((congrArg nI q).trans nI_0)
    have hE : oBegin S = (xDOW, S) := by rw [oBegin, if_pos hdo]
    have hE2 : sCap (oBegin S).2 = sCap S := by rw [hE]
    have hw : ww D cI (va_A ([(a, .inr (3, [.ref aL, .ref pa.1, .ref ta.1, .ref da.1, .int (nI (sLp S)), .int (nI (sPt S)), .int (nI (sWk S)), .int (nI (sDo S)), .int (nI (sAt S)), .int (sC2 S), .int (sC3 S), .int (sC4 S), .int (sC5 S)]))] ++ (wL cI aL x.1 S.1 x.2.1 ++ (wG cI pa S.2.1 ++ (wT cI ta x.2.2.1 x.2.2.2.1 ++ wT cI da x.2.2.2.2.1 x.2.2.2.2.2)))) s.heap.size) s.heap s ([(a, .inr (3, [.ref aL, .ref pa.1, .ref ta.1, .ref da.1, .int (nI (sLp ((oBegin S).2))), .int (nI (sPt ((oBegin S).2))), .int (nI (sWk ((oBegin S).2))), .int (nI (sDo ((oBegin S).2))), .int (nI (sAt ((oBegin S).2))), .int (sC2 ((oBegin S).2)), .int (sC3 ((oBegin S).2)), .int (sC4 ((oBegin S).2)), .int (sC5 ((oBegin S).2))]))] ++ (wL cI aL x.1 (((oBegin S).2).1) x.2.1 ++ (wG cI pa (((oBegin S).2).2.1) ++ (wT cI ta x.2.2.1 x.2.2.2.1 ++ wT cI da x.2.2.2.2.1 x.2.2.2.2.2)))) s.heap [] := by rw [hE]; exact hw
    refine lv_bipush (v := (-105)) hx hb dX3_begin_7 (by decide +kernel) ?_
    exact ww_iret (u := x) hx hb hr hlk hw (by rw [hE]; exact ⟨rfl, hrx⟩) (Nat.zero_le _) (Nat.zero_le _) dX3_begin_9
