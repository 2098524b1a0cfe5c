/-! RestartBook: its inner methods, over the pieces of its state -/
set_option maxRecDepth 20000 in
theorem in_X3_refusalFor : ∀ w ∈ u_ws RX3 TX3 13, w ∈ wsX3_refusalFor := by
  intro w h
  show w ∈ wsX3_refusalFor
  simp only [wsX3_refusalFor, List.mem_cons, List.mem_append]
  simp only [h, true_or, or_true]
set_option maxRecDepth 20000 in
theorem in_X3_appendOfWork : ∀ w ∈ u_ws RX3 TX3 13, w ∈ wsX3_appendOfWork := by
  intro w h
  show w ∈ wsX3_appendOfWork
  simp only [wsX3_appendOfWork, List.mem_cons, List.mem_append]
  simp only [h, true_or, or_true]
set_option maxRecDepth 20000 in
theorem in_X3_undoDownTo : ∀ w ∈ u_ws RX3 TX3 13, w ∈ wsX3_undoDownTo := by
  intro w h
  show w ∈ wsX3_undoDownTo
  simp only [wsX3_undoDownTo, List.mem_cons, List.mem_append]
  simp only [h, true_or, or_true]
set_option maxRecDepth 20000 in
theorem in_X3_undoNext : ∀ w ∈ u_ws RX3 TX3 13, w ∈ wsX3_undoNext := by
  intro w h
  show w ∈ wsX3_undoNext
  simp only [wsX3_undoNext, List.mem_cons, List.mem_append]
  simp only [h, true_or, or_true]
set_option maxRecDepth 20000 in
theorem in_X3_takeIntoTables : ∀ w ∈ u_ws RX3 TX3 13, w ∈ wsX3_takeIntoTables := by
  intro w h
  show w ∈ wsX3_takeIntoTables
  simp only [wsX3_takeIntoTables, List.mem_cons, List.mem_append]
  simp only [h, true_or, or_true]
set_option maxRecDepth 20000 in
theorem in_X3_carryOut : ∀ w ∈ u_ws RX3 TX3 13, w ∈ wsX3_carryOut := by
  intro w h
  show w ∈ wsX3_carryOut
  simp only [wsX3_carryOut, List.mem_cons, List.mem_append]
  simp only [h, true_or, or_true]
theorem hd_X3_refusalFor : yX3_refusalFor.cls = RX3 ∧ yX3_refusalFor.cls ≠ "java/lang/invoke/MethodHandle" ∧ yX3_refusalFor.cls ≠ "java/lang/invoke/VarHandle" ∧ (parseMethodDescriptor yX3_refusalFor.desc).map (fun d => d.parameters.length) = some 1 := by decide +kernel
theorem hd_X3_appendOfWork : yX3_appendOfWork.cls = RX3 ∧ yX3_appendOfWork.cls ≠ "java/lang/invoke/MethodHandle" ∧ yX3_appendOfWork.cls ≠ "java/lang/invoke/VarHandle" ∧ (parseMethodDescriptor yX3_appendOfWork.desc).map (fun d => d.parameters.length) = some 2 := by decide +kernel
theorem hd_X3_undoDownTo : yX3_undoDownTo.cls = RX3 ∧ yX3_undoDownTo.cls ≠ "java/lang/invoke/MethodHandle" ∧ yX3_undoDownTo.cls ≠ "java/lang/invoke/VarHandle" ∧ (parseMethodDescriptor yX3_undoDownTo.desc).map (fun d => d.parameters.length) = some 2 := by decide +kernel
theorem hd_X3_undoNext : yX3_undoNext.cls = RX3 ∧ yX3_undoNext.cls ≠ "java/lang/invoke/MethodHandle" ∧ yX3_undoNext.cls ≠ "java/lang/invoke/VarHandle" ∧ (parseMethodDescriptor yX3_undoNext.desc).map (fun d => d.parameters.length) = some 1 := by decide +kernel
theorem hd_X3_takeIntoTables : yX3_takeIntoTables.cls = RX3 ∧ yX3_takeIntoTables.cls ≠ "java/lang/invoke/MethodHandle" ∧ yX3_takeIntoTables.cls ≠ "java/lang/invoke/VarHandle" ∧ (parseMethodDescriptor yX3_takeIntoTables.desc).map (fun d => d.parameters.length) = some 1 := by decide +kernel
theorem hd_X3_carryOut : yX3_carryOut.cls = RX3 ∧ yX3_carryOut.cls ≠ "java/lang/invoke/MethodHandle" ∧ yX3_carryOut.cls ≠ "java/lang/invoke/VarHandle" ∧ (parseMethodDescriptor yX3_carryOut.desc).map (fun d => d.parameters.length) = some 1 := by decide +kernel
theorem tk_eq {T T1 : TF} {x : Rc} {r : Nat} (hw : rW x ≠ 0) (hT1 : T1 = if (T (rW x)).1 = 0 then va_up T (rW x) (1, 0, 0) else T) {z : Nat × Nat × Nat} (hz : z = tkE r (rK x) (rG x) (T1 (rW x))) : va_up T1 (rW x) z = tkT T r x := by
  have e : T1 (rW x) = if (T (rW x)).1 = 0 then (1, 0, 0) else T (rW x) := by
    rw [hT1]; split <;> simp [va_up]
  rw [hz, e, tkT, if_neg hw]
  funext k
  by_cases hk : k = rW x
  · simp [va_up, hk]
  · rw [hT1]
    simp only [va_up, if_neg hk]
    split <;> simp [va_up, hk]
theorem BR_dirty {fb u : Nat → Int32} {B : Nat → Nat} (h : BR fb B) {p r : Nat} (hp : p < 64) (hr : r < 2 ^ 31) (hu : u = if fb p = 0 then upd fb p (nI r) else fb) : BR u (if B p = 0 then va_up B p r else B) := by
  have hb := h p hp
  by_cases z : B p = 0
  · rw [if_pos z]
    rw [if_pos (by rw [hb.1, z, nI_0])] at hu
    subst hu
    intro q hq
    by_cases e : q = p
    · simp only [upd, va_up, if_pos e]; exact ⟨trivial, hr⟩
    · simp only [upd, va_up, if_neg e]; exact h q hq
  · rw [if_neg z]
    rw [if_neg (fun q => z ((nI_eq hb.2 (by omega)).mp (by rw [← hb.1, q, nI_0])))] at hu
    subst hu
    exact h
theorem tkB_d {B : Nat → Nat} {r : Nat} {x : Rc} (hw : rW x ≠ 0) (hk : rK x = 1 ∨ rK x = 2) : tkB B r x = if B (rP x) = 0 then va_up B (rP x) r else B := by
  simp only [tkB, hw, hk, ne_eq, not_false_eq_true, true_and]
theorem tkB_n {B : Nat → Nat} {r : Nat} {x : Rc} (hk : ¬ (rK x = 1 ∨ rK x = 2)) : tkB B r x = B := by
  simp only [tkB, hk, false_and, and_false, if_false]
set_option maxHeartbeats 4000000 in
set_option maxRecDepth 100000 in
theorem cB_refusalFor (l : Launch) (D : va_G) (cI : ClassId) (a aL b : Nat) (pa : A5) (ta da : A6) (C : CX) (L : LG) (f : Nat → Int32) (G : PG) (v v2 : TW) (fb fb2 : Nat → Int32) (T : TF) (h : TR v T) (x : Int32) (hdo : C.2.2.2.1 < 2 ^ 31) : Kt l yX3_refusalFor wsX3_refusalFor 2 43 (0) (0) D cI [.ref a, .int x] ([(a, .inr (3, [.ref aL, .ref pa.1, .ref ta.1, .ref da.1, .int (nI C.1), .int (nI C.2.1), .int (nI C.2.2.1), .int (nI C.2.2.2.1), .int (nI C.2.2.2.2.1), .int C.2.2.2.2.2.1, .int C.2.2.2.2.2.2.1, .int C.2.2.2.2.2.2.2.1, .int C.2.2.2.2.2.2.2.2]))] ++ (wL cI aL b L f ++ (wG cI pa G ++ (wT cI ta v fb ++ wT cI da v2 fb2)))) (pI (fun (r : Int32) (u : Unit) => r = if C.2.2.2.1 ≠ 0 then xDOW else if (T (cl x)).1 = 0 then xUNK else 0)) (fun (u : Unit) => [(a, .inr (3, [.ref aL, .ref pa.1, .ref ta.1, .ref da.1, .int (nI C.1), .int (nI C.2.1), .int (nI C.2.2.1), .int (nI C.2.2.2.1), .int (nI C.2.2.2.2.1), .int C.2.2.2.2.2.1, .int C.2.2.2.2.2.2.1, .int C.2.2.2.2.2.2.2.1, .int C.2.2.2.2.2.2.2.2]))] ++ (wL cI aL b L f ++ (wG cI pa G ++ (wT cI ta v fb ++ wT cI da v2 fb2)))) := by
  refine kt_start (cc := cX3_refusalFor) (maxL := 2) (ret := (some .int)) (by decide +kernel) rfl (Nat.le_of_ble_eq_true rfl) ?_
  intro p e s m below meth c hx hb hml hr hlk hown hnm hts ls hl hw
  have hown : s.vm.findClass RX3 = some m.cls := hown
  have hl : lv_has ls 2 [(0, .ref a), (1, .int x)] := hl
  have k26 := hts (.fieldLink RX3 26 "RestartBook" "tables" "LRestartBook$Tables;") (by decide +kernel)
  have k43 := hts (.fieldLink RX3 43 "RestartBook" "doing" "I") (by decide +kernel)
  have hin3 : ∀ w ∈ u_ws RX3 TX3 13, w ∈ wsX3_refusalFor := in_X3_refusalFor
  refine lv_aload_n hx hb dX3_refusalFor_0 rfl (lv_at hl 0 rfl) ?_
  refine ww_get hx hb hts hin3 hown hw 0 rfl rfl 7 (by decide) k43 rfl dX3_refusalFor_1 ?_
  refine lv_if_eq (tgt := 10) hx hb dX3_refusalFor_4 (by decide) (fun c_4 => ?_) (fun c_4 => ?_)
  · refine lv_aload_n hx hb dX3_refusalFor_10 rfl (lv_at hl 0 rfl) ?_
    refine ww_get hx hb hts hin3 hown hw 0 rfl rfl 2 (by decide) k26 rfl dX3_refusalFor_11 ?_
    refine lv_iload_n hx hb dX3_refusalFor_14 rfl (lv_at hl 1 rfl) ?_
    refine ww_callV ([(a, .inr (3, [.ref aL, .ref pa.1, .ref ta.1, .ref da.1, .int (nI C.1), .int (nI C.2.1), .int (nI C.2.2.1), .int (nI C.2.2.2.1), .int (nI C.2.2.2.2.1), .int C.2.2.2.2.2.1, .int C.2.2.2.2.2.2.1, .int C.2.2.2.2.2.2.2.1, .int C.2.2.2.2.2.2.2.2]))] ++ (wL cI aL b L f ++ wG cI pa G)) (wT cI da v2 fb2) (As := [.int x]) (rest := []) ⟨hx, hb, hml, hown, hts⟩ (cT_holds l D cI ta.1 ta.2.1 ta.2.2.1 ta.2.2.2.1 ta.2.2.2.2.1 ta.2.2.2.2.2 v fb T h x) gX3_refusalFor_X2_holds rfl hd_X2_holds ⟨Nat.le_of_ble_eq_true rfl, Nat.le_of_ble_eq_true rfl⟩ hw rfl rfl rfl rfl rfl hl.1 (Nat.le_of_ble_eq_true rfl) dX3_refusalFor_15 ⟨Nat.le_of_ble_eq_true rfl, Nat.le_of_ble_eq_true rfl⟩ (fun rv u H locs hq hw => ?_)
    obtain ⟨r, rfl, hq⟩ := hq
    rw [known h] at hq
    have hw : ww D cI _ _ s ([(a, .inr (3, [.ref aL, .ref pa.1, .ref ta.1, .ref da.1, .int (nI C.1), .int (nI C.2.1), .int (nI C.2.2.1), .int (nI C.2.2.2.1), .int (nI C.2.2.2.2.1), .int C.2.2.2.2.2.1, .int C.2.2.2.2.2.2.1, .int C.2.2.2.2.2.2.2.1, .int C.2.2.2.2.2.2.2.2]))] ++ (wL cI aL b L f ++ (wG cI pa G ++ (wT cI ta v fb ++ wT cI da v2 fb2)))) H locs := hw
    refine W.eq (g2 := F0 m 18 ls [.int (r)]) rfl ?_
    rcases hq with ⟨rfl, hq⟩ | ⟨rfl, hq⟩
    · skip
      refine lv_if_eq (tgt := 25) hx hb dX3_refusalFor_18 (by decide) (fun c_18 => absurd c_18 (by decide)) (fun c_18 => ?_)
      refine lv_iconst (v := nI 0) hx hb dX3_refusalFor_21 (by decide +kernel) ?_
      refine lv_goto (tgt := 27) hx hb dX3_refusalFor_22 (by decide) ?_
      exact ww_iret (u := ()) hx hb hr hlk hw (by rw [if_neg (fun q => q ((nI_eq hdo (by omega)).mp (by rw [nI_0]; exact c_4))), if_neg hq]; exact nI_0) (Nat.le_of_ble_eq_true rfl) (Nat.le_of_ble_eq_true rfl) dX3_refusalFor_27
    · have hq := Decidable.not_not.mp hq
      refine lv_if_eq (tgt := 25) hx hb dX3_refusalFor_18 (by decide) (fun c_18 => ?_) (fun c_18 => absurd (rfl) c_18)
      refine lv_bipush (v := (-101)) hx hb dX3_refusalFor_25 (by decide +kernel) ?_
      exact ww_iret (u := ()) hx hb hr hlk hw (by rw [if_neg (fun q => q ((nI_eq hdo (by omega)).mp (by rw [nI_0]; exact c_4))), if_pos hq]) (Nat.le_of_ble_eq_true rfl) (Nat.le_of_ble_eq_true rfl) dX3_refusalFor_27
  · refine lv_bipush (v := (-105)) hx hb dX3_refusalFor_7 (by decide +kernel) ?_
    exact ww_iret (u := ()) hx hb hr hlk hw (by rw [if_pos (fun q => c_4 (by rw [q, nI_0]))]) (Nat.le_of_ble_eq_true rfl) (Nat.le_of_ble_eq_true rfl) dX3_refusalFor_9
set_option maxHeartbeats 4000000 in
set_option maxRecDepth 100000 in
theorem cB_takeIntoTables (l : Launch) (D : va_G) (cI : ClassId) (a aL b : Nat) (pa : A5) (ta da : A6) (C : CX) (L : LG) (f : Nat → Int32) (G : PG) (v v2 : TW) (fb fb2 : Nat → Int32) (r : Nat) (x : Rc) (T : TF) (B : Nat → Nat) (hL : LOk L f) (h1 : 1 ≤ r) (h2 : r ≤ L.1) (hxr : L.2.2.2.2 r = x) (h : TR v T) (hB : BR fb B) (hk1 : 1 ≤ rK x) (hk2 : rK x ≤ 8) (hW : rW x ≤ 200) (hroom : rW x = 0 ∨ (T (rW x)).1 ≠ 0 ∨ v.1 < 16) (hpg : rP x < 64) (hg : rG x < 2 ^ 31) : Kt l yX3_takeIntoTables wsX3_takeIntoTables 2 45 (0) (0) D cI [.ref a, .int (nI r)] ([(a, .inr (3, [.ref aL, .ref pa.1, .ref ta.1, .ref da.1, .int (nI C.1), .int (nI C.2.1), .int (nI C.2.2.1), .int (nI C.2.2.2.1), .int (nI C.2.2.2.2.1), .int C.2.2.2.2.2.1, .int C.2.2.2.2.2.2.1, .int C.2.2.2.2.2.2.2.1, .int C.2.2.2.2.2.2.2.2]))] ++ (wL cI aL b L f ++ (wG cI pa G ++ (wT cI ta v fb ++ wT cI da v2 fb2)))) (pV (fun (u : TW × (Nat → Int32)) => TR u.1 (tkT T r x) ∧ BR u.2 (tkB B r x))) (fun (u : TW × (Nat → Int32)) => [(a, .inr (3, [.ref aL, .ref pa.1, .ref ta.1, .ref da.1, .int (nI C.1), .int (nI C.2.1), .int (nI C.2.2.1), .int (nI C.2.2.2.1), .int (nI C.2.2.2.2.1), .int C.2.2.2.2.2.1, .int C.2.2.2.2.2.2.1, .int C.2.2.2.2.2.2.2.1, .int C.2.2.2.2.2.2.2.2]))] ++ (wL cI aL b L f ++ (wG cI pa G ++ (wT cI ta u.1 u.2 ++ wT cI da v2 fb2)))) := by
  refine kt_start (cc := cX3_takeIntoTables) (maxL := 4) (ret := none) (by decide +kernel) rfl (Nat.le_of_ble_eq_true rfl) ?_
  intro p e s m below meth c hx hb hml hr hlk hown hnm hts ls hl hw
  have hown : s.vm.findClass RX3 = some m.cls := hown
  have hl : lv_has ls 4 [(0, .ref a), (1, .int (nI r))] := hl
  have k10 := hts (.fieldLink RX3 10 "RestartBook" "log" "LRestartBook$Log;") (by decide +kernel)
  have k26 := hts (.fieldLink RX3 26 "RestartBook" "tables" "LRestartBook$Tables;") (by decide +kernel)
  have hin3 : ∀ w ∈ u_ws RX3 TX3 13, w ∈ wsX3_takeIntoTables := in_X3_takeIntoTables
  refine lv_aload_n hx hb dX3_takeIntoTables_0 rfl (lv_at hl 0 rfl) ?_
  refine ww_get hx hb hts hin3 hown hw 0 rfl rfl 0 (by decide) k10 rfl dX3_takeIntoTables_1 ?_
  refine lv_iload_n hx hb dX3_takeIntoTables_4 rfl (lv_at hl 1 rfl) ?_
  refine lv_iconst (v := nI 0) hx hb dX3_takeIntoTables_5 (by decide +kernel) ?_
  refine ww_callV ([(a, .inr (3, [.ref aL, .ref pa.1, .ref ta.1, .ref da.1, .int (nI C.1), .int (nI C.2.1), .int (nI C.2.2.1), .int (nI C.2.2.2.1), .int (nI C.2.2.2.2.1), .int C.2.2.2.2.2.1, .int C.2.2.2.2.2.2.1, .int C.2.2.2.2.2.2.2.1, .int C.2.2.2.2.2.2.2.2]))]) (wG cI pa G ++ (wT cI ta v fb ++ wT cI da v2 fb2)) (As := [.int (nI r), .int (nI 0)]) (rest := []) ⟨hx, hb, hml, hown, hts⟩ (cL_read l D cI aL b L.2.2.2.1 L.1 L.2.1 L.2.2.1 f r 0 hL.2.1 (by have := hL.2.2.2.1; omega) (by have := hL.2.1; have := hL.2.2.2.1; omega) (by omega)) gX3_takeIntoTables_X0_read rfl hd_X0_read ⟨Nat.le_of_ble_eq_true rfl, Nat.le_of_ble_eq_true rfl⟩ hw rfl rfl rfl rfl rfl hl.1 (Nat.le_of_ble_eq_true rfl) dX3_takeIntoTables_6 ⟨Nat.le_of_ble_eq_true rfl, Nat.le_of_ble_eq_true rfl⟩ (fun rv u H locs hq hw => ?_)
  obtain ⟨rr, rfl, hq⟩ := hq
  have hw : ww D cI _ _ s ([(a, .inr (3, [.ref aL, .ref pa.1, .ref ta.1, .ref da.1, .int (nI C.1), .int (nI C.2.1), .int (nI C.2.2.1), .int (nI C.2.2.2.1), .int (nI C.2.2.2.2.1), .int C.2.2.2.2.2.1, .int C.2.2.2.2.2.2.1, .int C.2.2.2.2.2.2.2.1, .int C.2.2.2.2.2.2.2.2]))] ++ (wL cI aL b L f ++ (wG cI pa G ++ (wT cI ta v fb ++ wT cI da v2 fb2)))) H locs := hw
  refine W.eq (g2 := F0 m 9 ls [.int (rr)]) rfl ?_
  refine lv_eqi (show _ = nI (rK x) from hq.trans ((LRep_rd hL.1 h1 h2 (by omega)).trans (by rw [hxr]; rfl))) ?_
  refine lv_istore_n (lv' := [(2, .int (nI (rK x))), (0, .ref a), (1, .int (nI r))]) hx hb dX3_takeIntoTables_9 rfl hl (by decide) rfl (fun ls hl => ?_)
  refine lv_aload_n hx hb dX3_takeIntoTables_10 rfl (lv_at hl 1 rfl) ?_
  refine ww_get hx hb hts hin3 hown hw 0 rfl rfl 0 (by decide) k10 rfl dX3_takeIntoTables_11 ?_
  refine lv_iload_n hx hb dX3_takeIntoTables_14 rfl (lv_at hl 2 rfl) ?_
  refine lv_iconst (v := nI 1) hx hb dX3_takeIntoTables_15 (by decide +kernel) ?_
  refine ww_callV ([(a, .inr (3, [.ref aL, .ref pa.1, .ref ta.1, .ref da.1, .int (nI C.1), .int (nI C.2.1), .int (nI C.2.2.1), .int (nI C.2.2.2.1), .int (nI C.2.2.2.2.1), .int C.2.2.2.2.2.1, .int C.2.2.2.2.2.2.1, .int C.2.2.2.2.2.2.2.1, .int C.2.2.2.2.2.2.2.2]))]) (wG cI pa G ++ (wT cI ta v fb ++ wT cI da v2 fb2)) (As := [.int (nI r), .int (nI 1)]) (rest := []) ⟨hx, hb, hml, hown, hts⟩ (cL_read l D cI aL b L.2.2.2.1 L.1 L.2.1 L.2.2.1 f r 1 hL.2.1 (by have := hL.2.2.2.1; omega) (by have := hL.2.1; have := hL.2.2.2.1; omega) (by omega)) gX3_takeIntoTables_X0_read rfl hd_X0_read ⟨Nat.le_of_ble_eq_true rfl, Nat.le_of_ble_eq_true rfl⟩ hw rfl rfl rfl rfl rfl hl.1 (Nat.le_of_ble_eq_true rfl) dX3_takeIntoTables_16 ⟨Nat.le_of_ble_eq_true rfl, Nat.le_of_ble_eq_true rfl⟩ (fun rv u H locs hq hw => ?_)
  obtain ⟨rr, rfl, hq⟩ := hq
  have hw : ww D cI _ _ s ([(a, .inr (3, [.ref aL, .ref pa.1, .ref ta.1, .ref da.1, .int (nI C.1), .int (nI C.2.1), .int (nI C.2.2.1), .int (nI C.2.2.2.1), .int (nI C.2.2.2.2.1), .int C.2.2.2.2.2.1, .int C.2.2.2.2.2.2.1, .int C.2.2.2.2.2.2.2.1, .int C.2.2.2.2.2.2.2.2]))] ++ (wL cI aL b L f ++ (wG cI pa G ++ (wT cI ta v fb ++ wT cI da v2 fb2)))) H locs := hw
  refine W.eq (g2 := F0 m 19 ls [.int (rr)]) rfl ?_
  refine lv_eqi (show _ = nI (rW x) from hq.trans ((LRep_rd hL.1 h1 h2 (by omega)).trans (by rw [hxr]; rfl))) ?_
  refine lv_istore_n (lv' := [(3, .int (nI (rW x))), (2, .int (nI (rK x))), (0, .ref a), (1, .int (nI r))]) hx hb dX3_takeIntoTables_19 rfl hl (by decide) rfl (fun ls hl => ?_)
  refine lv_iload_n hx hb dX3_takeIntoTables_20 rfl (lv_at hl 0 rfl) ?_
  refine W.eq (g2 := F0 m 21 ls [.int (nI (rW x))]) rfl ?_
  refine lv_if_ne (tgt := 25) hx hb dX3_takeIntoTables_21 (by decide) (fun c_21 => ?_) (fun c_21 => ?_)
  · have hw0 : rW x ≠ 0 := fun q => c_21 (by rw [q, nI_0])
    have hr31 : r < 2 ^ 31 := by have := hL.2.1; have := hL.2.2.2.1; omega
    refine lv_aload_n hx hb dX3_takeIntoTables_25 rfl (lv_at hl 2 rfl) ?_
    refine ww_get hx hb hts hin3 hown hw 0 rfl rfl 2 (by decide) k26 rfl dX3_takeIntoTables_26 ?_
    refine lv_iload_n hx hb dX3_takeIntoTables_29 rfl (lv_at hl 0 rfl) ?_
    refine ww_callV ([(a, .inr (3, [.ref aL, .ref pa.1, .ref ta.1, .ref da.1, .int (nI C.1), .int (nI C.2.1), .int (nI C.2.2.1), .int (nI C.2.2.2.1), .int (nI C.2.2.2.2.1), .int C.2.2.2.2.2.1, .int C.2.2.2.2.2.2.1, .int C.2.2.2.2.2.2.2.1, .int C.2.2.2.2.2.2.2.2]))] ++ (wL cI aL b L f ++ wG cI pa G)) (wT cI da v2 fb2) (As := [.int (nI (rW x))]) (rest := []) ⟨hx, hb, hml, hown, hts⟩ (cT_bringIn l D cI ta.1 ta.2.1 ta.2.2.1 ta.2.2.2.1 ta.2.2.2.2.1 ta.2.2.2.2.2 v fb T h (rW x) (by omega) hW (hroom.resolve_left hw0)) gX3_takeIntoTables_X2_bringIn rfl hd_X2_bringIn ⟨Nat.le_of_ble_eq_true rfl, Nat.le_of_ble_eq_true rfl⟩ hw rfl rfl rfl rfl rfl hl.1 (Nat.le_of_ble_eq_true rfl) dX3_takeIntoTables_30 ⟨Nat.le_of_ble_eq_true rfl, Nat.le_of_ble_eq_true rfl⟩ (fun rv u H locs hq hw => ?_)
    obtain ⟨g1, rfl⟩ : ∃ q, q = u := ⟨_, rfl⟩
    obtain ⟨rfl, -, hT1⟩ := hq
    have hw : ww D cI _ _ s ([(a, .inr (3, [.ref aL, .ref pa.1, .ref ta.1, .ref da.1, .int (nI C.1), .int (nI C.2.1), .int (nI C.2.2.1), .int (nI C.2.2.2.1), .int (nI C.2.2.2.2.1), .int C.2.2.2.2.2.1, .int C.2.2.2.2.2.2.1, .int C.2.2.2.2.2.2.2.1, .int C.2.2.2.2.2.2.2.2]))] ++ (wL cI aL b L f ++ (wG cI pa G ++ (wT cI ta g1 fb ++ wT cI da v2 fb2)))) H locs := hw
    refine W.eq (g2 := F0 m 33 ls []) rfl ?_
    obtain ⟨T1, hT1e⟩ : ∃ T1, T1 = (if (T (rW x)).1 = 0 then va_up T (rW x) (1, 0, 0) else T) := ⟨_, rfl⟩
    rw [← hT1e] at hT1
    have hp1 : (T1 (rW x)).1 ≠ 0 := by rw [hT1e]; split; (simp [va_up]); assumption
    refine lv_aload_n hx hb dX3_takeIntoTables_33 rfl (lv_at hl 2 rfl) ?_
    refine ww_get hx hb hts hin3 hown hw 0 rfl rfl 2 (by decide) k26 rfl dX3_takeIntoTables_34 ?_
    refine lv_iload_n hx hb dX3_takeIntoTables_37 rfl (lv_at hl 0 rfl) ?_
    refine lv_iload_n hx hb dX3_takeIntoTables_38 rfl (lv_at hl 3 rfl) ?_
    refine ww_callV ([(a, .inr (3, [.ref aL, .ref pa.1, .ref ta.1, .ref da.1, .int (nI C.1), .int (nI C.2.1), .int (nI C.2.2.1), .int (nI C.2.2.2.1), .int (nI C.2.2.2.2.1), .int C.2.2.2.2.2.1, .int C.2.2.2.2.2.2.1, .int C.2.2.2.2.2.2.2.1, .int C.2.2.2.2.2.2.2.2]))] ++ (wL cI aL b L f ++ wG cI pa G)) (wT cI da v2 fb2) (As := [.int (nI (rW x)), .int (nI r)]) (rest := []) ⟨hx, hb, hml, hown, hts⟩ (cT_setLast l D cI ta.1 ta.2.1 ta.2.2.1 ta.2.2.2.1 ta.2.2.2.2.1 ta.2.2.2.2.2 g1 fb T1 hT1 (rW x) r (by omega) hp1) gX3_takeIntoTables_X2_setLast rfl hd_X2_setLast ⟨Nat.le_of_ble_eq_true rfl, Nat.le_of_ble_eq_true rfl⟩ hw rfl rfl rfl rfl rfl hl.1 (Nat.le_of_ble_eq_true rfl) dX3_takeIntoTables_39 ⟨Nat.le_of_ble_eq_true rfl, Nat.le_of_ble_eq_true rfl⟩ (fun rv u H locs hq hw => ?_)
    obtain ⟨u2, rfl⟩ : ∃ q, q = u := ⟨_, rfl⟩
    obtain ⟨rfl, hT2⟩ := hq
    have hw : ww D cI _ _ s ([(a, .inr (3, [.ref aL, .ref pa.1, .ref ta.1, .ref da.1, .int (nI C.1), .int (nI C.2.1), .int (nI C.2.2.1), .int (nI C.2.2.2.1), .int (nI C.2.2.2.2.1), .int C.2.2.2.2.2.1, .int C.2.2.2.2.2.2.1, .int C.2.2.2.2.2.2.2.1, .int C.2.2.2.2.2.2.2.2]))] ++ (wL cI aL b L f ++ (wG cI pa G ++ (wT cI ta (g1.1, g1.2.1, g1.2.2.1, u2, g1.2.2.2.2) fb ++ wT cI da v2 fb2)))) H locs := hw
    refine W.eq (g2 := F0 m 42 ls []) rfl ?_
    rcases (show rK x = 1 ∨ rK x = 2 ∨ rK x = 3 ∨ rK x = 4 ∨ rK x = 5 ∨ rK x = 6 ∨ rK x = 7 ∨ rK x = 8 by omega) with hq | hq | hq | hq | hq | hq | hq | hq
    · refine lv_iload_n hx hb dX3_takeIntoTables_42 rfl (lv_at hl 1 rfl) ?_
      refine lv_eqi (show _ = nI 1 from by rw [hq]) ?_
      refine lv_tableIn (tgt := 80) (off := 37) hx hb dX3_takeIntoTables_43 (by decide +kernel) (by decide +kernel) (by decide +kernel) (by decide) ?_
      refine lv_aload_n hx hb dX3_takeIntoTables_80 rfl (lv_at hl 2 rfl) ?_
      refine ww_get hx hb hts hin3 hown hw 0 rfl rfl 2 (by decide) k26 rfl dX3_takeIntoTables_81 ?_
      refine lv_iload_n hx hb dX3_takeIntoTables_84 rfl (lv_at hl 0 rfl) ?_
      refine lv_iload_n hx hb dX3_takeIntoTables_85 rfl (lv_at hl 3 rfl) ?_
      refine ww_callV ([(a, .inr (3, [.ref aL, .ref pa.1, .ref ta.1, .ref da.1, .int (nI C.1), .int (nI C.2.1), .int (nI C.2.2.1), .int (nI C.2.2.2.1), .int (nI C.2.2.2.2.1), .int C.2.2.2.2.2.1, .int C.2.2.2.2.2.2.1, .int C.2.2.2.2.2.2.2.1, .int C.2.2.2.2.2.2.2.2]))] ++ (wL cI aL b L f ++ wG cI pa G)) (wT cI da v2 fb2) (As := [.int (nI (rW x)), .int (nI r)]) (rest := []) ⟨hx, hb, hml, hown, hts⟩ (cT_setNext l D cI ta.1 ta.2.1 ta.2.2.1 ta.2.2.2.1 ta.2.2.2.2.1 ta.2.2.2.2.2 (g1.1, g1.2.1, g1.2.2.1, u2, g1.2.2.2.2) fb _ hT2 (rW x) r (by omega) (by simp [va_up]; exact hp1)) gX3_takeIntoTables_X2_setNext rfl hd_X2_setNext ⟨Nat.le_of_ble_eq_true rfl, Nat.le_of_ble_eq_true rfl⟩ hw rfl rfl rfl rfl rfl hl.1 (Nat.le_of_ble_eq_true rfl) dX3_takeIntoTables_86 ⟨Nat.le_of_ble_eq_true rfl, Nat.le_of_ble_eq_true rfl⟩ (fun rv u H locs hq2 hw => ?_)
      obtain ⟨u3, rfl⟩ : ∃ q, q = u := ⟨_, rfl⟩
      obtain ⟨rfl, hT3⟩ := hq2
      have hw : ww D cI _ _ s ([(a, .inr (3, [.ref aL, .ref pa.1, .ref ta.1, .ref da.1, .int (nI C.1), .int (nI C.2.1), .int (nI C.2.2.1), .int (nI C.2.2.2.1), .int (nI C.2.2.2.2.1), .int C.2.2.2.2.2.1, .int C.2.2.2.2.2.2.1, .int C.2.2.2.2.2.2.2.1, .int C.2.2.2.2.2.2.2.2]))] ++ (wL cI aL b L f ++ (wG cI pa G ++ (wT cI ta (g1.1, g1.2.1, g1.2.2.1, u2, u3) fb ++ wT cI da v2 fb2)))) H locs := hw
      refine W.eq (g2 := F0 m 89 ls []) rfl ?_
      rw [up4 T1 (rW x) ((T1 (rW x)).1, r, (T1 (rW x)).2.2) (fun q => (q.1, q.2.1, r))] at hT3
      try dsimp only at hT3
      refine lv_aload_n hx hb dX3_takeIntoTables_89 rfl (lv_at hl 2 rfl) ?_
      refine ww_get hx hb hts hin3 hown hw 0 rfl rfl 2 (by decide) k26 rfl dX3_takeIntoTables_90 ?_
      refine lv_aload_n hx hb dX3_takeIntoTables_93 rfl (lv_at hl 2 rfl) ?_
      refine ww_get hx hb hts hin3 hown hw 0 rfl rfl 0 (by decide) k10 rfl dX3_takeIntoTables_94 ?_
      refine lv_iload_n hx hb dX3_takeIntoTables_97 rfl (lv_at hl 3 rfl) ?_
      refine lv_iconst (v := nI 3) hx hb dX3_takeIntoTables_98 (by decide +kernel) ?_
      refine ww_callV ([(a, .inr (3, [.ref aL, .ref pa.1, .ref ta.1, .ref da.1, .int (nI C.1), .int (nI C.2.1), .int (nI C.2.2.1), .int (nI C.2.2.2.1), .int (nI C.2.2.2.2.1), .int C.2.2.2.2.2.1, .int C.2.2.2.2.2.2.1, .int C.2.2.2.2.2.2.2.1, .int C.2.2.2.2.2.2.2.2]))]) (wG cI pa G ++ (wT cI ta (g1.1, g1.2.1, g1.2.2.1, u2, u3) fb ++ wT cI da v2 fb2)) (As := [.int (nI r), .int (nI 3)]) (rest := [.ref ta.1]) ⟨hx, hb, hml, hown, hts⟩ (cL_read l D cI aL b L.2.2.2.1 L.1 L.2.1 L.2.2.1 f r 3 hL.2.1 (by have := hL.2.2.2.1; omega) (by have := hL.2.1; have := hL.2.2.2.1; omega) (by omega)) gX3_takeIntoTables_X0_read rfl hd_X0_read ⟨Nat.le_of_ble_eq_true rfl, Nat.le_of_ble_eq_true rfl⟩ hw rfl rfl rfl rfl rfl hl.1 (Nat.le_of_ble_eq_true rfl) dX3_takeIntoTables_99 ⟨Nat.le_of_ble_eq_true rfl, Nat.le_of_ble_eq_true rfl⟩ (fun rv u H locs hqr hw => ?_)
      obtain ⟨rr, rfl, hqr⟩ := hqr
      have hw : ww D cI _ _ s ([(a, .inr (3, [.ref aL, .ref pa.1, .ref ta.1, .ref da.1, .int (nI C.1), .int (nI C.2.1), .int (nI C.2.2.1), .int (nI C.2.2.2.1), .int (nI C.2.2.2.2.1), .int C.2.2.2.2.2.1, .int C.2.2.2.2.2.2.1, .int C.2.2.2.2.2.2.2.1, .int C.2.2.2.2.2.2.2.2]))] ++ (wL cI aL b L f ++ (wG cI pa G ++ (wT cI ta (g1.1, g1.2.1, g1.2.2.1, u2, u3) fb ++ wT cI da v2 fb2)))) H locs := hw
      refine W.eq (g2 := F0 m 102 ls [.int (rr), .ref ta.1]) rfl ?_
      refine lv_eqi (show _ = nI (rP x) from hqr.trans ((LRep_rd hL.1 h1 h2 (by omega)).trans (by rw [hxr]; rfl))) ?_
      refine W.eq (g2 := F0 m 102 ls [.int (nI (rP x)), .ref ta.1]) rfl ?_
      refine lv_iload_n hx hb dX3_takeIntoTables_102 rfl (lv_at hl 3 rfl) ?_
      refine ww_callV ([(a, .inr (3, [.ref aL, .ref pa.1, .ref ta.1, .ref da.1, .int (nI C.1), .int (nI C.2.1), .int (nI C.2.2.1), .int (nI C.2.2.2.1), .int (nI C.2.2.2.2.1), .int C.2.2.2.2.2.1, .int C.2.2.2.2.2.2.1, .int C.2.2.2.2.2.2.2.1, .int C.2.2.2.2.2.2.2.2]))] ++ (wL cI aL b L f ++ wG cI pa G)) (wT cI da v2 fb2) (As := [.int (nI (rP x)), .int (nI r)]) (rest := []) ⟨hx, hb, hml, hown, hts⟩ (cT_makeDirty l D cI ta.1 ta.2.1 ta.2.2.1 ta.2.2.2.1 ta.2.2.2.2.1 ta.2.2.2.2.2 (g1.1, g1.2.1, g1.2.2.1, u2, u3) fb (rP x) (nI r) hpg) gX3_takeIntoTables_X2_makeDirty rfl hd_X2_makeDirty ⟨Nat.le_of_ble_eq_true rfl, Nat.le_of_ble_eq_true rfl⟩ hw rfl rfl rfl rfl rfl hl.1 (Nat.le_of_ble_eq_true rfl) dX3_takeIntoTables_103 ⟨Nat.le_of_ble_eq_true rfl, Nat.le_of_ble_eq_true rfl⟩ (fun rv u H locs hq2 hw => ?_)
      obtain ⟨u5, rfl⟩ : ∃ q, q = u := ⟨_, rfl⟩
      obtain ⟨rfl, hu5⟩ := hq2
      have hw : ww D cI _ _ s ([(a, .inr (3, [.ref aL, .ref pa.1, .ref ta.1, .ref da.1, .int (nI C.1), .int (nI C.2.1), .int (nI C.2.2.1), .int (nI C.2.2.2.1), .int (nI C.2.2.2.2.1), .int C.2.2.2.2.2.1, .int C.2.2.2.2.2.2.1, .int C.2.2.2.2.2.2.2.1, .int C.2.2.2.2.2.2.2.2]))] ++ (wL cI aL b L f ++ (wG cI pa G ++ (wT cI ta (g1.1, g1.2.1, g1.2.2.1, u2, u3) u5 ++ wT cI da v2 fb2)))) H locs := hw
      refine W.eq (g2 := F0 m 106 ls []) rfl ?_
      refine lv_goto (tgt := 194) hx hb dX3_takeIntoTables_106 (by decide) ?_
      exact ww_vret (u := ((g1.1, g1.2.1, g1.2.2.1, u2, u3), u5)) hx hb hr hlk hw (⟨by rw [← tk_eq hw0 hT1e (by simp only [tkE, hq]; rfl)]; exact hT3, by rw [tkB_d hw0 (by omega)]; exact BR_dirty hB hpg hr31 hu5⟩) (Nat.le_of_ble_eq_true rfl) (Nat.le_of_ble_eq_true rfl) rfl dX3_takeIntoTables_194
    · refine lv_iload_n hx hb dX3_takeIntoTables_42 rfl (lv_at hl 1 rfl) ?_
      refine lv_eqi (show _ = nI 2 from by rw [hq]) ?_
      refine lv_tableIn (tgt := 109) (off := 66) hx hb dX3_takeIntoTables_43 (by decide +kernel) (by decide +kernel) (by decide +kernel) (by decide) ?_
      refine lv_aload_n hx hb dX3_takeIntoTables_109 rfl (lv_at hl 2 rfl) ?_
      refine ww_get hx hb hts hin3 hown hw 0 rfl rfl 2 (by decide) k26 rfl dX3_takeIntoTables_110 ?_
      refine lv_iload_n hx hb dX3_takeIntoTables_113 rfl (lv_at hl 0 rfl) ?_
      refine lv_aload_n hx hb dX3_takeIntoTables_114 rfl (lv_at hl 2 rfl) ?_
      refine ww_get hx hb hts hin3 hown hw 0 rfl rfl 0 (by decide) k10 rfl dX3_takeIntoTables_115 ?_
      refine lv_iload_n hx hb dX3_takeIntoTables_118 rfl (lv_at hl 3 rfl) ?_
      refine lv_bipush (v := nI 6) hx hb dX3_takeIntoTables_119 (by decide +kernel) ?_
      refine ww_callV ([(a, .inr (3, [.ref aL, .ref pa.1, .ref ta.1, .ref da.1, .int (nI C.1), .int (nI C.2.1), .int (nI C.2.2.1), .int (nI C.2.2.2.1), .int (nI C.2.2.2.2.1), .int C.2.2.2.2.2.1, .int C.2.2.2.2.2.2.1, .int C.2.2.2.2.2.2.2.1, .int C.2.2.2.2.2.2.2.2]))]) (wG cI pa G ++ (wT cI ta (g1.1, g1.2.1, g1.2.2.1, u2, g1.2.2.2.2) fb ++ wT cI da v2 fb2)) (As := [.int (nI r), .int (nI 6)]) (rest := [.int (nI (rW x)), .ref ta.1]) ⟨hx, hb, hml, hown, hts⟩ (cL_read l D cI aL b L.2.2.2.1 L.1 L.2.1 L.2.2.1 f r 6 hL.2.1 (by have := hL.2.2.2.1; omega) (by have := hL.2.1; have := hL.2.2.2.1; omega) (by omega)) gX3_takeIntoTables_X0_read rfl hd_X0_read ⟨Nat.le_of_ble_eq_true rfl, Nat.le_of_ble_eq_true rfl⟩ hw rfl rfl rfl rfl rfl hl.1 (Nat.le_of_ble_eq_true rfl) dX3_takeIntoTables_121 ⟨Nat.le_of_ble_eq_true rfl, Nat.le_of_ble_eq_true rfl⟩ (fun rv u H locs hqr hw => ?_)
      obtain ⟨rr, rfl, hqr⟩ := hqr
      have hw : ww D cI _ _ s ([(a, .inr (3, [.ref aL, .ref pa.1, .ref ta.1, .ref da.1, .int (nI C.1), .int (nI C.2.1), .int (nI C.2.2.1), .int (nI C.2.2.2.1), .int (nI C.2.2.2.2.1), .int C.2.2.2.2.2.1, .int C.2.2.2.2.2.2.1, .int C.2.2.2.2.2.2.2.1, .int C.2.2.2.2.2.2.2.2]))] ++ (wL cI aL b L f ++ (wG cI pa G ++ (wT cI ta (g1.1, g1.2.1, g1.2.2.1, u2, g1.2.2.2.2) fb ++ wT cI da v2 fb2)))) H locs := hw
      refine W.eq (g2 := F0 m 124 ls [.int (rr), .int (nI (rW x)), .ref ta.1]) rfl ?_
      refine lv_eqi (show _ = nI (rG x) from hqr.trans ((LRep_rd hL.1 h1 h2 (by omega)).trans (by rw [hxr]; rfl))) ?_
      refine ww_callV ([(a, .inr (3, [.ref aL, .ref pa.1, .ref ta.1, .ref da.1, .int (nI C.1), .int (nI C.2.1), .int (nI C.2.2.1), .int (nI C.2.2.2.1), .int (nI C.2.2.2.2.1), .int C.2.2.2.2.2.1, .int C.2.2.2.2.2.2.1, .int C.2.2.2.2.2.2.2.1, .int C.2.2.2.2.2.2.2.2]))] ++ (wL cI aL b L f ++ wG cI pa G)) (wT cI da v2 fb2) (As := [.int (nI (rW x)), .int (nI (rG x))]) (rest := []) ⟨hx, hb, hml, hown, hts⟩ (cT_setNext l D cI ta.1 ta.2.1 ta.2.2.1 ta.2.2.2.1 ta.2.2.2.2.1 ta.2.2.2.2.2 (g1.1, g1.2.1, g1.2.2.1, u2, g1.2.2.2.2) fb _ hT2 (rW x) (rG x) (by omega) (by simp [va_up]; exact hp1)) gX3_takeIntoTables_X2_setNext rfl hd_X2_setNext ⟨Nat.le_of_ble_eq_true rfl, Nat.le_of_ble_eq_true rfl⟩ hw rfl rfl rfl rfl rfl hl.1 (Nat.le_of_ble_eq_true rfl) dX3_takeIntoTables_124 ⟨Nat.le_of_ble_eq_true rfl, Nat.le_of_ble_eq_true rfl⟩ (fun rv u H locs hq2 hw => ?_)
      obtain ⟨u3, rfl⟩ : ∃ q, q = u := ⟨_, rfl⟩
      obtain ⟨rfl, hT3⟩ := hq2
      have hw : ww D cI _ _ s ([(a, .inr (3, [.ref aL, .ref pa.1, .ref ta.1, .ref da.1, .int (nI C.1), .int (nI C.2.1), .int (nI C.2.2.1), .int (nI C.2.2.2.1), .int (nI C.2.2.2.2.1), .int C.2.2.2.2.2.1, .int C.2.2.2.2.2.2.1, .int C.2.2.2.2.2.2.2.1, .int C.2.2.2.2.2.2.2.2]))] ++ (wL cI aL b L f ++ (wG cI pa G ++ (wT cI ta (g1.1, g1.2.1, g1.2.2.1, u2, u3) fb ++ wT cI da v2 fb2)))) H locs := hw
      refine W.eq (g2 := F0 m 127 ls []) rfl ?_
      rw [up4 T1 (rW x) ((T1 (rW x)).1, r, (T1 (rW x)).2.2) (fun q => (q.1, q.2.1, (rG x)))] at hT3
      try dsimp only at hT3
      refine lv_aload_n hx hb dX3_takeIntoTables_127 rfl (lv_at hl 2 rfl) ?_
      refine ww_get hx hb hts hin3 hown hw 0 rfl rfl 2 (by decide) k26 rfl dX3_takeIntoTables_128 ?_
      refine lv_aload_n hx hb dX3_takeIntoTables_131 rfl (lv_at hl 2 rfl) ?_
      refine W.eq (g2 := F0 m 132 ls [.ref a, .ref ta.1]) rfl ?_
      refine ww_get hx hb hts hin3 hown hw 0 rfl rfl 0 (by decide) k10 rfl dX3_takeIntoTables_132 ?_
      refine lv_iload_n hx hb dX3_takeIntoTables_135 rfl (lv_at hl 3 rfl) ?_
      refine lv_iconst (v := nI 3) hx hb dX3_takeIntoTables_136 (by decide +kernel) ?_
      refine ww_callV ([(a, .inr (3, [.ref aL, .ref pa.1, .ref ta.1, .ref da.1, .int (nI C.1), .int (nI C.2.1), .int (nI C.2.2.1), .int (nI C.2.2.2.1), .int (nI C.2.2.2.2.1), .int C.2.2.2.2.2.1, .int C.2.2.2.2.2.2.1, .int C.2.2.2.2.2.2.2.1, .int C.2.2.2.2.2.2.2.2]))]) (wG cI pa G ++ (wT cI ta (g1.1, g1.2.1, g1.2.2.1, u2, u3) fb ++ wT cI da v2 fb2)) (As := [.int (nI r), .int (nI 3)]) (rest := [.ref ta.1]) ⟨hx, hb, hml, hown, hts⟩ (cL_read l D cI aL b L.2.2.2.1 L.1 L.2.1 L.2.2.1 f r 3 hL.2.1 (by have := hL.2.2.2.1; omega) (by have := hL.2.1; have := hL.2.2.2.1; omega) (by omega)) gX3_takeIntoTables_X0_read rfl hd_X0_read ⟨Nat.le_of_ble_eq_true rfl, Nat.le_of_ble_eq_true rfl⟩ hw rfl rfl rfl rfl rfl hl.1 (Nat.le_of_ble_eq_true rfl) dX3_takeIntoTables_137 ⟨Nat.le_of_ble_eq_true rfl, Nat.le_of_ble_eq_true rfl⟩ (fun rv u H locs hqr hw => ?_)
      obtain ⟨rr, rfl, hqr⟩ := hqr
      have hw : ww D cI _ _ s ([(a, .inr (3, [.ref aL, .ref pa.1, .ref ta.1, .ref da.1, .int (nI C.1), .int (nI C.2.1), .int (nI C.2.2.1), .int (nI C.2.2.2.1), .int (nI C.2.2.2.2.1), .int C.2.2.2.2.2.1, .int C.2.2.2.2.2.2.1, .int C.2.2.2.2.2.2.2.1, .int C.2.2.2.2.2.2.2.2]))] ++ (wL cI aL b L f ++ (wG cI pa G ++ (wT cI ta (g1.1, g1.2.1, g1.2.2.1, u2, u3) fb ++ wT cI da v2 fb2)))) H locs := hw
      refine W.eq (g2 := F0 m 140 ls [.int (rr), .ref ta.1]) rfl ?_
      refine lv_eqi (show _ = nI (rP x) from hqr.trans ((LRep_rd hL.1 h1 h2 (by omega)).trans (by rw [hxr]; rfl))) ?_
      refine lv_iload_n hx hb dX3_takeIntoTables_140 rfl (lv_at hl 3 rfl) ?_
      refine ww_callV ([(a, .inr (3, [.ref aL, .ref pa.1, .ref ta.1, .ref da.1, .int (nI C.1), .int (nI C.2.1), .int (nI C.2.2.1), .int (nI C.2.2.2.1), .int (nI C.2.2.2.2.1), .int C.2.2.2.2.2.1, .int C.2.2.2.2.2.2.1, .int C.2.2.2.2.2.2.2.1, .int C.2.2.2.2.2.2.2.2]))] ++ (wL cI aL b L f ++ wG cI pa G)) (wT cI da v2 fb2) (As := [.int (nI (rP x)), .int (nI r)]) (rest := []) ⟨hx, hb, hml, hown, hts⟩ (cT_makeDirty l D cI ta.1 ta.2.1 ta.2.2.1 ta.2.2.2.1 ta.2.2.2.2.1 ta.2.2.2.2.2 (g1.1, g1.2.1, g1.2.2.1, u2, u3) fb (rP x) (nI r) hpg) gX3_takeIntoTables_X2_makeDirty rfl hd_X2_makeDirty ⟨Nat.le_of_ble_eq_true rfl, Nat.le_of_ble_eq_true rfl⟩ hw rfl rfl rfl rfl rfl hl.1 (Nat.le_of_ble_eq_true rfl) dX3_takeIntoTables_141 ⟨Nat.le_of_ble_eq_true rfl, Nat.le_of_ble_eq_true rfl⟩ (fun rv u H locs hq2 hw => ?_)
      obtain ⟨u5, rfl⟩ : ∃ q, q = u := ⟨_, rfl⟩
      obtain ⟨rfl, hu5⟩ := hq2
      have hw : ww D cI _ _ s ([(a, .inr (3, [.ref aL, .ref pa.1, .ref ta.1, .ref da.1, .int (nI C.1), .int (nI C.2.1), .int (nI C.2.2.1), .int (nI C.2.2.2.1), .int (nI C.2.2.2.2.1), .int C.2.2.2.2.2.1, .int C.2.2.2.2.2.2.1, .int C.2.2.2.2.2.2.2.1, .int C.2.2.2.2.2.2.2.2]))] ++ (wL cI aL b L f ++ (wG cI pa G ++ (wT cI ta (g1.1, g1.2.1, g1.2.2.1, u2, u3) u5 ++ wT cI da v2 fb2)))) H locs := hw
      refine W.eq (g2 := F0 m 144 ls []) rfl ?_
      refine lv_goto (tgt := 194) hx hb dX3_takeIntoTables_144 (by decide) ?_
      exact ww_vret (u := ((g1.1, g1.2.1, g1.2.2.1, u2, u3), u5)) hx hb hr hlk hw (⟨by rw [← tk_eq hw0 hT1e (by simp only [tkE, hq]; rfl)]; exact hT3, by rw [tkB_d hw0 (by omega)]; exact BR_dirty hB hpg hr31 hu5⟩) (Nat.le_of_ble_eq_true rfl) (Nat.le_of_ble_eq_true rfl) rfl dX3_takeIntoTables_194
    · refine lv_iload_n hx hb dX3_takeIntoTables_42 rfl (lv_at hl 1 rfl) ?_
      refine lv_eqi (show _ = nI 3 from by rw [hq]) ?_
      refine lv_tableIn (tgt := 147) (off := 104) hx hb dX3_takeIntoTables_43 (by decide +kernel) (by decide +kernel) (by decide +kernel) (by decide) ?_
      refine lv_aload_n hx hb dX3_takeIntoTables_147 rfl (lv_at hl 2 rfl) ?_
      refine ww_get hx hb hts hin3 hown hw 0 rfl rfl 2 (by decide) k26 rfl dX3_takeIntoTables_148 ?_
      refine lv_iload_n hx hb dX3_takeIntoTables_151 rfl (lv_at hl 0 rfl) ?_
      refine lv_iconst (v := nI 4) hx hb dX3_takeIntoTables_152 (by decide +kernel) ?_
      refine ww_callV ([(a, .inr (3, [.ref aL, .ref pa.1, .ref ta.1, .ref da.1, .int (nI C.1), .int (nI C.2.1), .int (nI C.2.2.1), .int (nI C.2.2.2.1), .int (nI C.2.2.2.2.1), .int C.2.2.2.2.2.1, .int C.2.2.2.2.2.2.1, .int C.2.2.2.2.2.2.2.1, .int C.2.2.2.2.2.2.2.2]))] ++ (wL cI aL b L f ++ wG cI pa G)) (wT cI da v2 fb2) (As := [.int (nI (rW x)), .int (nI 4)]) (rest := []) ⟨hx, hb, hml, hown, hts⟩ (cT_setState l D cI ta.1 ta.2.1 ta.2.2.1 ta.2.2.2.1 ta.2.2.2.2.1 ta.2.2.2.2.2 (g1.1, g1.2.1, g1.2.2.1, u2, g1.2.2.2.2) fb _ hT2 (rW x) 4 (by omega) (by simp [va_up]; exact hp1) (by decide)) gX3_takeIntoTables_X2_setState rfl hd_X2_setState ⟨Nat.le_of_ble_eq_true rfl, Nat.le_of_ble_eq_true rfl⟩ hw rfl rfl rfl rfl rfl hl.1 (Nat.le_of_ble_eq_true rfl) dX3_takeIntoTables_153 ⟨Nat.le_of_ble_eq_true rfl, Nat.le_of_ble_eq_true rfl⟩ (fun rv u H locs hq2 hw => ?_)
      obtain ⟨u3, rfl⟩ : ∃ q, q = u := ⟨_, rfl⟩
      obtain ⟨rfl, hT3⟩ := hq2
      have hw : ww D cI _ _ s ([(a, .inr (3, [.ref aL, .ref pa.1, .ref ta.1, .ref da.1, .int (nI C.1), .int (nI C.2.1), .int (nI C.2.2.1), .int (nI C.2.2.2.1), .int (nI C.2.2.2.2.1), .int C.2.2.2.2.2.1, .int C.2.2.2.2.2.2.1, .int C.2.2.2.2.2.2.2.1, .int C.2.2.2.2.2.2.2.2]))] ++ (wL cI aL b L f ++ (wG cI pa G ++ (wT cI ta (g1.1, g1.2.1, u3, u2, g1.2.2.2.2) fb ++ wT cI da v2 fb2)))) H locs := hw
      refine W.eq (g2 := F0 m 156 ls []) rfl ?_
      rw [up4 T1 (rW x) ((T1 (rW x)).1, r, (T1 (rW x)).2.2) (fun q => (4, q.2.1, q.2.2))] at hT3
      try dsimp only at hT3
      refine lv_goto (tgt := 194) hx hb dX3_takeIntoTables_156 (by decide) ?_
      exact ww_vret (u := ((g1.1, g1.2.1, u3, u2, g1.2.2.2.2), fb)) hx hb hr hlk hw (⟨by rw [← tk_eq hw0 hT1e (by simp only [tkE, hq]; rfl)]; exact hT3, by rw [tkB_n (by omega)]; exact hB⟩) (Nat.le_of_ble_eq_true rfl) (Nat.le_of_ble_eq_true rfl) rfl dX3_takeIntoTables_194
    · refine lv_iload_n hx hb dX3_takeIntoTables_42 rfl (lv_at hl 1 rfl) ?_
      refine lv_eqi (show _ = nI 4 from by rw [hq]) ?_
      refine lv_tableIn (tgt := 159) (off := 116) hx hb dX3_takeIntoTables_43 (by decide +kernel) (by decide +kernel) (by decide +kernel) (by decide) ?_
      refine lv_aload_n hx hb dX3_takeIntoTables_159 rfl (lv_at hl 2 rfl) ?_
      refine ww_get hx hb hts hin3 hown hw 0 rfl rfl 2 (by decide) k26 rfl dX3_takeIntoTables_160 ?_
      refine lv_iload_n hx hb dX3_takeIntoTables_163 rfl (lv_at hl 0 rfl) ?_
      refine lv_iconst (v := nI 2) hx hb dX3_takeIntoTables_164 (by decide +kernel) ?_
      refine ww_callV ([(a, .inr (3, [.ref aL, .ref pa.1, .ref ta.1, .ref da.1, .int (nI C.1), .int (nI C.2.1), .int (nI C.2.2.1), .int (nI C.2.2.2.1), .int (nI C.2.2.2.2.1), .int C.2.2.2.2.2.1, .int C.2.2.2.2.2.2.1, .int C.2.2.2.2.2.2.2.1, .int C.2.2.2.2.2.2.2.2]))] ++ (wL cI aL b L f ++ wG cI pa G)) (wT cI da v2 fb2) (As := [.int (nI (rW x)), .int (nI 2)]) (rest := []) ⟨hx, hb, hml, hown, hts⟩ (cT_setState l D cI ta.1 ta.2.1 ta.2.2.1 ta.2.2.2.1 ta.2.2.2.2.1 ta.2.2.2.2.2 (g1.1, g1.2.1, g1.2.2.1, u2, g1.2.2.2.2) fb _ hT2 (rW x) 2 (by omega) (by simp [va_up]; exact hp1) (by decide)) gX3_takeIntoTables_X2_setState rfl hd_X2_setState ⟨Nat.le_of_ble_eq_true rfl, Nat.le_of_ble_eq_true rfl⟩ hw rfl rfl rfl rfl rfl hl.1 (Nat.le_of_ble_eq_true rfl) dX3_takeIntoTables_165 ⟨Nat.le_of_ble_eq_true rfl, Nat.le_of_ble_eq_true rfl⟩ (fun rv u H locs hq2 hw => ?_)
      obtain ⟨u3, rfl⟩ : ∃ q, q = u := ⟨_, rfl⟩
      obtain ⟨rfl, hT3⟩ := hq2
      have hw : ww D cI _ _ s ([(a, .inr (3, [.ref aL, .ref pa.1, .ref ta.1, .ref da.1, .int (nI C.1), .int (nI C.2.1), .int (nI C.2.2.1), .int (nI C.2.2.2.1), .int (nI C.2.2.2.2.1), .int C.2.2.2.2.2.1, .int C.2.2.2.2.2.2.1, .int C.2.2.2.2.2.2.2.1, .int C.2.2.2.2.2.2.2.2]))] ++ (wL cI aL b L f ++ (wG cI pa G ++ (wT cI ta (g1.1, g1.2.1, u3, u2, g1.2.2.2.2) fb ++ wT cI da v2 fb2)))) H locs := hw
      refine W.eq (g2 := F0 m 168 ls []) rfl ?_
      rw [up4 T1 (rW x) ((T1 (rW x)).1, r, (T1 (rW x)).2.2) (fun q => (2, q.2.1, q.2.2))] at hT3
      try dsimp only at hT3
      refine lv_goto (tgt := 194) hx hb dX3_takeIntoTables_168 (by decide) ?_
      exact ww_vret (u := ((g1.1, g1.2.1, u3, u2, g1.2.2.2.2), fb)) hx hb hr hlk hw (⟨by rw [← tk_eq hw0 hT1e (by simp only [tkE, hq]; rfl)]; exact hT3, by rw [tkB_n (by omega)]; exact hB⟩) (Nat.le_of_ble_eq_true rfl) (Nat.le_of_ble_eq_true rfl) rfl dX3_takeIntoTables_194
    · refine lv_iload_n hx hb dX3_takeIntoTables_42 rfl (lv_at hl 1 rfl) ?_
      refine lv_eqi (show _ = nI 5 from by rw [hq]) ?_
      refine lv_tableIn (tgt := 183) (off := 140) hx hb dX3_takeIntoTables_43 (by decide +kernel) (by decide +kernel) (by decide +kernel) (by decide) ?_
      refine lv_aload_n hx hb dX3_takeIntoTables_183 rfl (lv_at hl 2 rfl) ?_
      refine ww_get hx hb hts hin3 hown hw 0 rfl rfl 2 (by decide) k26 rfl dX3_takeIntoTables_184 ?_
      refine lv_iload_n hx hb dX3_takeIntoTables_187 rfl (lv_at hl 0 rfl) ?_
      refine ww_callV ([(a, .inr (3, [.ref aL, .ref pa.1, .ref ta.1, .ref da.1, .int (nI C.1), .int (nI C.2.1), .int (nI C.2.2.1), .int (nI C.2.2.2.1), .int (nI C.2.2.2.2.1), .int C.2.2.2.2.2.1, .int C.2.2.2.2.2.2.1, .int C.2.2.2.2.2.2.2.1, .int C.2.2.2.2.2.2.2.2]))] ++ (wL cI aL b L f ++ wG cI pa G)) (wT cI da v2 fb2) (As := [.int (nI (rW x))]) (rest := []) ⟨hx, hb, hml, hown, hts⟩ (cT_takeOut l D cI ta.1 ta.2.1 ta.2.2.1 ta.2.2.2.1 ta.2.2.2.2.1 ta.2.2.2.2.2 (g1.1, g1.2.1, g1.2.2.1, u2, g1.2.2.2.2) fb _ hT2 (rW x) (by omega) (by simp [va_up]; exact hp1)) gX3_takeIntoTables_X2_takeOut rfl hd_X2_takeOut ⟨Nat.le_of_ble_eq_true rfl, Nat.le_of_ble_eq_true rfl⟩ hw rfl rfl rfl rfl rfl hl.1 (Nat.le_of_ble_eq_true rfl) dX3_takeIntoTables_188 ⟨Nat.le_of_ble_eq_true rfl, Nat.le_of_ble_eq_true rfl⟩ (fun rv u H locs hq2 hw => ?_)
      obtain ⟨g3, rfl⟩ : ∃ q, q = u := ⟨_, rfl⟩
      obtain ⟨rfl, hT3⟩ := hq2
      have hw : ww D cI _ _ s ([(a, .inr (3, [.ref aL, .ref pa.1, .ref ta.1, .ref da.1, .int (nI C.1), .int (nI C.2.1), .int (nI C.2.2.1), .int (nI C.2.2.2.1), .int (nI C.2.2.2.2.1), .int C.2.2.2.2.2.1, .int C.2.2.2.2.2.2.1, .int C.2.2.2.2.2.2.2.1, .int C.2.2.2.2.2.2.2.2]))] ++ (wL cI aL b L f ++ (wG cI pa G ++ (wT cI ta g3 fb ++ wT cI da v2 fb2)))) H locs := hw
      refine W.eq (g2 := F0 m 191 ls []) rfl ?_
      rw [up4 T1 (rW x) ((T1 (rW x)).1, r, (T1 (rW x)).2.2) (fun q => (0, 0, 0))] at hT3
      try dsimp only at hT3
      refine lv_goto (tgt := 194) hx hb dX3_takeIntoTables_191 (by decide) ?_
      exact ww_vret (u := (g3, fb)) hx hb hr hlk hw (⟨by rw [← tk_eq hw0 hT1e (by simp only [tkE, hq]; rfl)]; exact hT3, by rw [tkB_n (by omega)]; exact hB⟩) (Nat.le_of_ble_eq_true rfl) (Nat.le_of_ble_eq_true rfl) rfl dX3_takeIntoTables_194
    · refine lv_iload_n hx hb dX3_takeIntoTables_42 rfl (lv_at hl 1 rfl) ?_
      refine lv_eqi (show _ = nI 6 from by rw [hq]) ?_
      refine lv_tableIn (tgt := 171) (off := 128) hx hb dX3_takeIntoTables_43 (by decide +kernel) (by decide +kernel) (by decide +kernel) (by decide) ?_
      refine lv_aload_n hx hb dX3_takeIntoTables_171 rfl (lv_at hl 2 rfl) ?_
      refine ww_get hx hb hts hin3 hown hw 0 rfl rfl 2 (by decide) k26 rfl dX3_takeIntoTables_172 ?_
      refine lv_iload_n hx hb dX3_takeIntoTables_175 rfl (lv_at hl 0 rfl) ?_
      refine lv_iconst (v := nI 3) hx hb dX3_takeIntoTables_176 (by decide +kernel) ?_
      refine ww_callV ([(a, .inr (3, [.ref aL, .ref pa.1, .ref ta.1, .ref da.1, .int (nI C.1), .int (nI C.2.1), .int (nI C.2.2.1), .int (nI C.2.2.2.1), .int (nI C.2.2.2.2.1), .int C.2.2.2.2.2.1, .int C.2.2.2.2.2.2.1, .int C.2.2.2.2.2.2.2.1, .int C.2.2.2.2.2.2.2.2]))] ++ (wL cI aL b L f ++ wG cI pa G)) (wT cI da v2 fb2) (As := [.int (nI (rW x)), .int (nI 3)]) (rest := []) ⟨hx, hb, hml, hown, hts⟩ (cT_setState l D cI ta.1 ta.2.1 ta.2.2.1 ta.2.2.2.1 ta.2.2.2.2.1 ta.2.2.2.2.2 (g1.1, g1.2.1, g1.2.2.1, u2, g1.2.2.2.2) fb _ hT2 (rW x) 3 (by omega) (by simp [va_up]; exact hp1) (by decide)) gX3_takeIntoTables_X2_setState rfl hd_X2_setState ⟨Nat.le_of_ble_eq_true rfl, Nat.le_of_ble_eq_true rfl⟩ hw rfl rfl rfl rfl rfl hl.1 (Nat.le_of_ble_eq_true rfl) dX3_takeIntoTables_177 ⟨Nat.le_of_ble_eq_true rfl, Nat.le_of_ble_eq_true rfl⟩ (fun rv u H locs hq2 hw => ?_)
      obtain ⟨u3, rfl⟩ : ∃ q, q = u := ⟨_, rfl⟩
      obtain ⟨rfl, hT3⟩ := hq2
      have hw : ww D cI _ _ s ([(a, .inr (3, [.ref aL, .ref pa.1, .ref ta.1, .ref da.1, .int (nI C.1), .int (nI C.2.1), .int (nI C.2.2.1), .int (nI C.2.2.2.1), .int (nI C.2.2.2.2.1), .int C.2.2.2.2.2.1, .int C.2.2.2.2.2.2.1, .int C.2.2.2.2.2.2.2.1, .int C.2.2.2.2.2.2.2.2]))] ++ (wL cI aL b L f ++ (wG cI pa G ++ (wT cI ta (g1.1, g1.2.1, u3, u2, g1.2.2.2.2) fb ++ wT cI da v2 fb2)))) H locs := hw
      refine W.eq (g2 := F0 m 180 ls []) rfl ?_
      rw [up4 T1 (rW x) ((T1 (rW x)).1, r, (T1 (rW x)).2.2) (fun q => (3, q.2.1, q.2.2))] at hT3
      try dsimp only at hT3
      refine lv_goto (tgt := 194) hx hb dX3_takeIntoTables_180 (by decide) ?_
      exact ww_vret (u := ((g1.1, g1.2.1, u3, u2, g1.2.2.2.2), fb)) hx hb hr hlk hw (⟨by rw [← tk_eq hw0 hT1e (by simp only [tkE, hq]; rfl)]; exact hT3, by rw [tkB_n (by omega)]; exact hB⟩) (Nat.le_of_ble_eq_true rfl) (Nat.le_of_ble_eq_true rfl) rfl dX3_takeIntoTables_194
    · refine lv_iload_n hx hb dX3_takeIntoTables_42 rfl (lv_at hl 1 rfl) ?_
      refine lv_eqi (show _ = nI 7 from by rw [hq]) ?_
      refine lv_tableOut (tgt := 194) hx hb dX3_takeIntoTables_43 (by decide +kernel) (by decide) ?_
      exact ww_vret (u := ((g1.1, g1.2.1, g1.2.2.1, u2, g1.2.2.2.2), fb)) hx hb hr hlk hw (⟨by rw [← tk_eq hw0 hT1e (by simp only [tkE, hq]; rfl)]; exact hT2, by rw [tkB_n (by omega)]; exact hB⟩) (Nat.le_of_ble_eq_true rfl) (Nat.le_of_ble_eq_true rfl) rfl dX3_takeIntoTables_194
    · refine lv_iload_n hx hb dX3_takeIntoTables_42 rfl (lv_at hl 1 rfl) ?_
      refine lv_eqi (show _ = nI 8 from by rw [hq]) ?_
      refine lv_tableOut (tgt := 194) hx hb dX3_takeIntoTables_43 (by decide +kernel) (by decide) ?_
      exact ww_vret (u := ((g1.1, g1.2.1, g1.2.2.1, u2, g1.2.2.2.2), fb)) hx hb hr hlk hw (⟨by rw [← tk_eq hw0 hT1e (by simp only [tkE, hq]; rfl)]; exact hT2, by rw [tkB_n (by omega)]; exact hB⟩) (Nat.le_of_ble_eq_true rfl) (Nat.le_of_ble_eq_true rfl) rfl dX3_takeIntoTables_194
  · exact ww_vret (u := (v, fb)) hx hb hr hlk hw (by have hw0 : rW x = 0 := (nI_eq (by omega) (by omega)).mp (by rw [nI_0]; exact c_21); exact ⟨by rw [tkT, if_pos hw0]; exact h, by rw [tkB, if_neg (fun q => q.1 hw0)]; exact hB⟩) (Nat.le_of_ble_eq_true rfl) (Nat.le_of_ble_eq_true rfl) rfl dX3_takeIntoTables_24
set_option maxHeartbeats 4000000 in
set_option maxRecDepth 100000 in
theorem cB_carryOut (l : Launch) (D : va_G) (cI : ClassId) (a aL b : Nat) (pa : A5) (ta da : A6) (C : CX) (L : LG) (f : Nat → Int32) (G : PG) (v v2 : TW) (fb fb2 : Nat → Int32) (r : Nat) (x : Rc) (hL : LOk L f) (h1 : 1 ≤ r) (h2 : r ≤ L.1) (hxr : L.2.2.2.2 r = x) (hpg : rP x < 64) (hwd : rD x < 8) : Kt l yX3_carryOut wsX3_carryOut 2 45 (0) (0) D cI [.ref a, .int (nI r)] ([(a, .inr (3, [.ref aL, .ref pa.1, .ref ta.1, .ref da.1, .int (nI C.1), .int (nI C.2.1), .int (nI C.2.2.1), .int (nI C.2.2.2.1), .int (nI C.2.2.2.2.1), .int C.2.2.2.2.2.1, .int C.2.2.2.2.2.2.1, .int C.2.2.2.2.2.2.2.1, .int C.2.2.2.2.2.2.2.2]))] ++ (wL cI aL b L f ++ (wG cI pa G ++ (wT cI ta v fb ++ wT cI da v2 fb2)))) (pV (fun (u : Unit) => True)) (fun (u : Unit) => [(a, .inr (3, [.ref aL, .ref pa.1, .ref ta.1, .ref da.1, .int (nI C.1), .int (nI C.2.1), .int (nI C.2.2.1), .int (nI C.2.2.2.1), .int (nI C.2.2.2.2.1), .int C.2.2.2.2.2.1, .int C.2.2.2.2.2.2.1, .int C.2.2.2.2.2.2.2.1, .int C.2.2.2.2.2.2.2.2]))] ++ (wL cI aL b L f ++ (wG cI pa (apP G r x) ++ (wT cI ta v fb ++ wT cI da v2 fb2)))) := by
  refine kt_start (cc := cX3_carryOut) (maxL := 2) (ret := none) (by decide +kernel) rfl (Nat.le_of_ble_eq_true rfl) ?_
  intro p e s m below meth c hx hb hml hr hlk hown hnm hts ls hl hw
  have hown : s.vm.findClass RX3 = some m.cls := hown
  have hl : lv_has ls 2 [(0, .ref a), (1, .int (nI r))] := hl
  have k10 := hts (.fieldLink RX3 10 "RestartBook" "log" "LRestartBook$Log;") (by decide +kernel)
  have k19 := hts (.fieldLink RX3 19 "RestartBook" "pages" "LRestartBook$Pages;") (by decide +kernel)
  have hin3 : ∀ w ∈ u_ws RX3 TX3 13, w ∈ wsX3_carryOut := in_X3_carryOut
  refine lv_aload_n hx hb dX3_carryOut_0 rfl (lv_at hl 0 rfl) ?_
  refine ww_get hx hb hts hin3 hown hw 0 rfl rfl 1 (by decide) k19 rfl dX3_carryOut_1 ?_
  refine lv_aload_n hx hb dX3_carryOut_4 rfl (lv_at hl 0 rfl) ?_
  refine ww_get hx hb hts hin3 hown hw 0 rfl rfl 0 (by decide) k10 rfl dX3_carryOut_5 ?_
  refine lv_iload_n hx hb dX3_carryOut_8 rfl (lv_at hl 1 rfl) ?_
  refine lv_iconst (v := nI 3) hx hb dX3_carryOut_9 (by decide +kernel) ?_
  refine ww_callV ([(a, .inr (3, [.ref aL, .ref pa.1, .ref ta.1, .ref da.1, .int (nI C.1), .int (nI C.2.1), .int (nI C.2.2.1), .int (nI C.2.2.2.1), .int (nI C.2.2.2.2.1), .int C.2.2.2.2.2.1, .int C.2.2.2.2.2.2.1, .int C.2.2.2.2.2.2.2.1, .int C.2.2.2.2.2.2.2.2]))]) (wG cI pa G ++ (wT cI ta v fb ++ wT cI da v2 fb2)) (As := [.int (nI r), .int (nI 3)]) (rest := [.ref pa.1]) ⟨hx, hb, hml, hown, hts⟩ (cL_read l D cI aL b L.2.2.2.1 L.1 L.2.1 L.2.2.1 f r 3 hL.2.1 (by have := hL.2.2.2.1; omega) (by have := hL.2.1; have := hL.2.2.2.1; omega) (by omega)) gX3_carryOut_X0_read rfl hd_X0_read ⟨Nat.le_of_ble_eq_true rfl, Nat.le_of_ble_eq_true rfl⟩ hw rfl rfl rfl rfl rfl hl.1 (Nat.le_of_ble_eq_true rfl) dX3_carryOut_10 ⟨Nat.le_of_ble_eq_true rfl, Nat.le_of_ble_eq_true rfl⟩ (fun rv u H locs hq hw => ?_)
  obtain ⟨rr, rfl, hq⟩ := hq
  have hw : ww D cI _ _ s ([(a, .inr (3, [.ref aL, .ref pa.1, .ref ta.1, .ref da.1, .int (nI C.1), .int (nI C.2.1), .int (nI C.2.2.1), .int (nI C.2.2.2.1), .int (nI C.2.2.2.2.1), .int C.2.2.2.2.2.1, .int C.2.2.2.2.2.2.1, .int C.2.2.2.2.2.2.2.1, .int C.2.2.2.2.2.2.2.2]))] ++ (wL cI aL b L f ++ (wG cI pa G ++ (wT cI ta v fb ++ wT cI da v2 fb2)))) H locs := hw
  refine W.eq (g2 := F0 m 13 ls [.int (rr), .ref pa.1]) rfl ?_
  refine lv_eqi (show _ = nI (rP x) from hq.trans ((LRep_rd hL.1 h1 h2 (by omega)).trans (by rw [hxr]; rfl))) ?_
  refine lv_aload_n hx hb dX3_carryOut_13 rfl (lv_at hl 0 rfl) ?_
  refine ww_get hx hb hts hin3 hown hw 0 rfl rfl 0 (by decide) k10 rfl dX3_carryOut_14 ?_
  refine lv_iload_n hx hb dX3_carryOut_17 rfl (lv_at hl 1 rfl) ?_
  refine lv_iconst (v := nI 4) hx hb dX3_carryOut_18 (by decide +kernel) ?_
  refine ww_callV ([(a, .inr (3, [.ref aL, .ref pa.1, .ref ta.1, .ref da.1, .int (nI C.1), .int (nI C.2.1), .int (nI C.2.2.1), .int (nI C.2.2.2.1), .int (nI C.2.2.2.2.1), .int C.2.2.2.2.2.1, .int C.2.2.2.2.2.2.1, .int C.2.2.2.2.2.2.2.1, .int C.2.2.2.2.2.2.2.2]))]) (wG cI pa G ++ (wT cI ta v fb ++ wT cI da v2 fb2)) (As := [.int (nI r), .int (nI 4)]) (rest := [.int (nI (rP x)), .ref pa.1]) ⟨hx, hb, hml, hown, hts⟩ (cL_read l D cI aL b L.2.2.2.1 L.1 L.2.1 L.2.2.1 f r 4 hL.2.1 (by have := hL.2.2.2.1; omega) (by have := hL.2.1; have := hL.2.2.2.1; omega) (by omega)) gX3_carryOut_X0_read rfl hd_X0_read ⟨Nat.le_of_ble_eq_true rfl, Nat.le_of_ble_eq_true rfl⟩ hw rfl rfl rfl rfl rfl hl.1 (Nat.le_of_ble_eq_true rfl) dX3_carryOut_19 ⟨Nat.le_of_ble_eq_true rfl, Nat.le_of_ble_eq_true rfl⟩ (fun rv u H locs hq hw => ?_)
  obtain ⟨rr, rfl, hq⟩ := hq
  have hw : ww D cI _ _ s ([(a, .inr (3, [.ref aL, .ref pa.1, .ref ta.1, .ref da.1, .int (nI C.1), .int (nI C.2.1), .int (nI C.2.2.1), .int (nI C.2.2.2.1), .int (nI C.2.2.2.2.1), .int C.2.2.2.2.2.1, .int C.2.2.2.2.2.2.1, .int C.2.2.2.2.2.2.2.1, .int C.2.2.2.2.2.2.2.2]))] ++ (wL cI aL b L f ++ (wG cI pa G ++ (wT cI ta v fb ++ wT cI da v2 fb2)))) H locs := hw
  refine W.eq (g2 := F0 m 22 ls [.int (rr), .int (nI (rP x)), .ref pa.1]) rfl ?_
  refine lv_eqi (show _ = nI (rD x) from hq.trans ((LRep_rd hL.1 h1 h2 (by omega)).trans (by rw [hxr]; rfl))) ?_
  refine lv_aload_n hx hb dX3_carryOut_22 rfl (lv_at hl 0 rfl) ?_
  refine W.eq (g2 := F0 m 23 ls [.ref a, .int (nI (rD x)), .int (nI (rP x)), .ref pa.1]) rfl ?_
  refine ww_get hx hb hts hin3 hown hw 0 rfl rfl 0 (by decide) k10 rfl dX3_carryOut_23 ?_
  refine lv_iload_n hx hb dX3_carryOut_26 rfl (lv_at hl 1 rfl) ?_
  refine lv_iconst (v := nI 5) hx hb dX3_carryOut_27 (by decide +kernel) ?_
  refine ww_callV ([(a, .inr (3, [.ref aL, .ref pa.1, .ref ta.1, .ref da.1, .int (nI C.1), .int (nI C.2.1), .int (nI C.2.2.1), .int (nI C.2.2.2.1), .int (nI C.2.2.2.2.1), .int C.2.2.2.2.2.1, .int C.2.2.2.2.2.2.1, .int C.2.2.2.2.2.2.2.1, .int C.2.2.2.2.2.2.2.2]))]) (wG cI pa G ++ (wT cI ta v fb ++ wT cI da v2 fb2)) (As := [.int (nI r), .int (nI 5)]) (rest := [.int (nI (rD x)), .int (nI (rP x)), .ref pa.1]) ⟨hx, hb, hml, hown, hts⟩ (cL_read l D cI aL b L.2.2.2.1 L.1 L.2.1 L.2.2.1 f r 5 hL.2.1 (by have := hL.2.2.2.1; omega) (by have := hL.2.1; have := hL.2.2.2.1; omega) (by omega)) gX3_carryOut_X0_read rfl hd_X0_read ⟨Nat.le_of_ble_eq_true rfl, Nat.le_of_ble_eq_true rfl⟩ hw rfl rfl rfl rfl rfl hl.1 (Nat.le_of_ble_eq_true rfl) dX3_carryOut_28 ⟨Nat.le_of_ble_eq_true rfl, Nat.le_of_ble_eq_true rfl⟩ (fun rv u H locs hq hw => ?_)
  obtain ⟨rr, rfl, hq⟩ := hq
  have hw : ww D cI _ _ s ([(a, .inr (3, [.ref aL, .ref pa.1, .ref ta.1, .ref da.1, .int (nI C.1), .int (nI C.2.1), .int (nI C.2.2.1), .int (nI C.2.2.2.1), .int (nI C.2.2.2.2.1), .int C.2.2.2.2.2.1, .int C.2.2.2.2.2.2.1, .int C.2.2.2.2.2.2.2.1, .int C.2.2.2.2.2.2.2.2]))] ++ (wL cI aL b L f ++ (wG cI pa G ++ (wT cI ta v fb ++ wT cI da v2 fb2)))) H locs := hw
  refine W.eq (g2 := F0 m 31 ls [.int (rr), .int (nI (rD x)), .int (nI (rP x)), .ref pa.1]) rfl ?_
  refine lv_eqi (show _ = rM x from hq.trans ((LRep_rd hL.1 h1 h2 (by omega)).trans (by rw [hxr]; rfl))) ?_
  refine lv_iload_n hx hb dX3_carryOut_31 rfl (lv_at hl 1 rfl) ?_
  refine ww_callV ([(a, .inr (3, [.ref aL, .ref pa.1, .ref ta.1, .ref da.1, .int (nI C.1), .int (nI C.2.1), .int (nI C.2.2.1), .int (nI C.2.2.2.1), .int (nI C.2.2.2.2.1), .int C.2.2.2.2.2.1, .int C.2.2.2.2.2.2.1, .int C.2.2.2.2.2.2.2.1, .int C.2.2.2.2.2.2.2.2]))] ++ wL cI aL b L f) (wT cI ta v fb ++ wT cI da v2 fb2) (As := [.int (nI (rP x)), .int (nI (rD x)), .int (rM x), .int (nI r)]) (rest := []) ⟨hx, hb, hml, hown, hts⟩ (cP_change l D cI pa.1 pa.2.1 pa.2.2.1 pa.2.2.2.1 pa.2.2.2.2 G.1 G.2.1 G.2.2.1 G.2.2.2 (rP x) (rD x) (rM x) (nI r) hpg hwd) gX3_carryOut_X1_change rfl hd_X1_change ⟨Nat.le_of_ble_eq_true rfl, Nat.le_of_ble_eq_true rfl⟩ hw rfl rfl rfl rfl rfl hl.1 (Nat.le_of_ble_eq_true rfl) dX3_carryOut_32 ⟨Nat.le_of_ble_eq_true rfl, Nat.le_of_ble_eq_true rfl⟩ (fun rv u H locs hq hw => ?_)
  obtain ⟨rfl, -⟩ := hq
  have hw : ww D cI _ _ s ([(a, .inr (3, [.ref aL, .ref pa.1, .ref ta.1, .ref da.1, .int (nI C.1), .int (nI C.2.1), .int (nI C.2.2.1), .int (nI C.2.2.2.1), .int (nI C.2.2.2.2.1), .int C.2.2.2.2.2.1, .int C.2.2.2.2.2.2.1, .int C.2.2.2.2.2.2.2.1, .int C.2.2.2.2.2.2.2.2]))] ++ (wL cI aL b L f ++ (wG cI pa (apP G r x) ++ (wT cI ta v fb ++ wT cI da v2 fb2)))) H locs := hw
  refine W.eq (g2 := F0 m 35 ls []) rfl ?_
  exact ww_vret (u := ()) hx hb hr hlk hw (trivial) (Nat.le_of_ble_eq_true rfl) (Nat.le_of_ble_eq_true rfl) rfl dX3_carryOut_35
