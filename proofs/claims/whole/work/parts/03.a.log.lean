/-! RestartBook.Log, its reading methods -/
set_option maxRecDepth 20000 in
theorem in_X0_recordsHeld : ∀ w ∈ u_ws RX0 TX0 4, w ∈ wsX0_recordsHeld := by
  intro w h
  show w ∈ wsX0_recordsHeld
  simp only [wsX0_recordsHeld, List.mem_cons, List.mem_append]
  simp only [h, true_or, or_true]
set_option maxRecDepth 20000 in
theorem in_X0_forcedHeld : ∀ w ∈ u_ws RX0 TX0 4, w ∈ wsX0_forcedHeld := by
  intro w h
  show w ∈ wsX0_forcedHeld
  simp only [wsX0_forcedHeld, List.mem_cons, List.mem_append]
  simp only [h, true_or, or_true]
set_option maxRecDepth 20000 in
theorem in_X0_changesHeld : ∀ w ∈ u_ws RX0 TX0 4, w ∈ wsX0_changesHeld := by
  intro w h
  show w ∈ wsX0_changesHeld
  simp only [wsX0_changesHeld, List.mem_cons, List.mem_append]
  simp only [h, true_or, or_true]
set_option maxRecDepth 20000 in
theorem in_X0_holds : ∀ w ∈ u_ws RX0 TX0 4, w ∈ wsX0_holds := by
  intro w h
  show w ∈ wsX0_holds
  simp only [wsX0_holds, List.mem_cons, List.mem_append]
  simp only [h, true_or, or_true]
set_option maxRecDepth 20000 in
theorem in_X0_read : ∀ w ∈ u_ws RX0 TX0 4, w ∈ wsX0_read := by
  intro w h
  show w ∈ wsX0_read
  simp only [wsX0_read, List.mem_cons, List.mem_append]
  simp only [h, true_or, or_true]
set_option maxRecDepth 20000 in
theorem in_X0_append : ∀ w ∈ u_ws RX0 TX0 4, w ∈ wsX0_append := by
  intro w h
  show w ∈ wsX0_append
  simp only [wsX0_append, List.mem_cons, List.mem_append]
  simp only [h, true_or, or_true]
set_option maxRecDepth 20000 in
theorem in_X0_forceUpTo : ∀ w ∈ u_ws RX0 TX0 4, w ∈ wsX0_forceUpTo := by
  intro w h
  show w ∈ wsX0_forceUpTo
  simp only [wsX0_forceUpTo, List.mem_cons, List.mem_append]
  simp only [h, true_or, or_true]
set_option maxRecDepth 20000 in
theorem in_X0_loseBehind : ∀ w ∈ u_ws RX0 TX0 4, w ∈ wsX0_loseBehind := by
  intro w h
  show w ∈ wsX0_loseBehind
  simp only [wsX0_loseBehind, List.mem_cons, List.mem_append]
  simp only [h, true_or, or_true]
set_option maxRecDepth 20000 in
theorem in_X0_init : ∀ w ∈ u_ws RX0 TX0 4, w ∈ wsX0_init := by
  intro w h
  show w ∈ wsX0_init
  simp only [wsX0_init, List.mem_cons, List.mem_append]
  simp only [h, true_or, or_true]
theorem hd_X0_recordsHeld : yX0_recordsHeld.cls = RX0 ∧ yX0_recordsHeld.cls ≠ "java/lang/invoke/MethodHandle" ∧ yX0_recordsHeld.cls ≠ "java/lang/invoke/VarHandle" ∧ (parseMethodDescriptor yX0_recordsHeld.desc).map (fun d => d.parameters.length) = some 0 := by decide +kernel
theorem hd_X0_forcedHeld : yX0_forcedHeld.cls = RX0 ∧ yX0_forcedHeld.cls ≠ "java/lang/invoke/MethodHandle" ∧ yX0_forcedHeld.cls ≠ "java/lang/invoke/VarHandle" ∧ (parseMethodDescriptor yX0_forcedHeld.desc).map (fun d => d.parameters.length) = some 0 := by decide +kernel
theorem hd_X0_changesHeld : yX0_changesHeld.cls = RX0 ∧ yX0_changesHeld.cls ≠ "java/lang/invoke/MethodHandle" ∧ yX0_changesHeld.cls ≠ "java/lang/invoke/VarHandle" ∧ (parseMethodDescriptor yX0_changesHeld.desc).map (fun d => d.parameters.length) = some 0 := by decide +kernel
theorem hd_X0_holds : yX0_holds.cls = RX0 ∧ yX0_holds.cls ≠ "java/lang/invoke/MethodHandle" ∧ yX0_holds.cls ≠ "java/lang/invoke/VarHandle" ∧ (parseMethodDescriptor yX0_holds.desc).map (fun d => d.parameters.length) = some 1 := by decide +kernel
theorem hd_X0_read : yX0_read.cls = RX0 ∧ yX0_read.cls ≠ "java/lang/invoke/MethodHandle" ∧ yX0_read.cls ≠ "java/lang/invoke/VarHandle" ∧ (parseMethodDescriptor yX0_read.desc).map (fun d => d.parameters.length) = some 2 := by decide +kernel
theorem hd_X0_changesPage : yX0_changesPage.cls = RX0 ∧ yX0_changesPage.cls ≠ "java/lang/invoke/MethodHandle" ∧ yX0_changesPage.cls ≠ "java/lang/invoke/VarHandle" ∧ (parseMethodDescriptor yX0_changesPage.desc).map (fun d => d.parameters.length) = some 1 := by decide +kernel
theorem hd_X0_append : yX0_append.cls = RX0 ∧ yX0_append.cls ≠ "java/lang/invoke/MethodHandle" ∧ yX0_append.cls ≠ "java/lang/invoke/VarHandle" ∧ (parseMethodDescriptor yX0_append.desc).map (fun d => d.parameters.length) = some 7 := by decide +kernel
theorem hd_X0_undoingBehind : yX0_undoingBehind.cls = RX0 ∧ yX0_undoingBehind.cls ≠ "java/lang/invoke/MethodHandle" ∧ yX0_undoingBehind.cls ≠ "java/lang/invoke/VarHandle" ∧ (parseMethodDescriptor yX0_undoingBehind.desc).map (fun d => d.parameters.length) = some 1 := by decide +kernel
theorem hd_X0_forceUpTo : yX0_forceUpTo.cls = RX0 ∧ yX0_forceUpTo.cls ≠ "java/lang/invoke/MethodHandle" ∧ yX0_forceUpTo.cls ≠ "java/lang/invoke/VarHandle" ∧ (parseMethodDescriptor yX0_forceUpTo.desc).map (fun d => d.parameters.length) = some 1 := by decide +kernel
theorem hd_X0_loseBehind : yX0_loseBehind.cls = RX0 ∧ yX0_loseBehind.cls ≠ "java/lang/invoke/MethodHandle" ∧ yX0_loseBehind.cls ≠ "java/lang/invoke/VarHandle" ∧ (parseMethodDescriptor yX0_loseBehind.desc).map (fun d => d.parameters.length) = some 1 := by decide +kernel
theorem i_eq {x y : Int32} : x = y ↔ x.toInt = y.toInt := Int32.toInt_inj.symm
theorem i_lt {x y : Int32} : x < y ↔ x.toInt < y.toInt := Int32.lt_iff_toInt_lt
theorem i_le {x y : Int32} : x ≤ y ↔ x.toInt ≤ y.toInt := Int32.le_iff_toInt_le
theorem z_0 : (0 : Int32).toInt = 0 := by decide
theorem z_m1 : (-1 : Int32).toInt = -1 := by decide
theorem i_nat {x : Int32} (h : 0 ≤ x.toInt) : ∃ j : Nat, j < 2 ^ 31 ∧ x = nI j := nI_of (by rw [i_lt, z_0]; omega)
set_option maxHeartbeats 4000000 in
set_option maxRecDepth 100000 in
theorem cL_recordsHeld (l : Launch) (D : va_G) (cI : ClassId) (a b cap n fo ch : Nat) (f : Nat → Int32) : Kt l yX0_recordsHeld wsX0_recordsHeld 0 0 (0) (0) D cI [.ref a] ([(a, .inr (0, [.ref b, .int (nI n), .int (nI fo), .int (nI ch)])), (b, .inl (cI, cap, .inl f))]) (pI (fun (r : Int32) (u : Unit) => r = nI n)) (fun (u : Unit) => [(a, .inr (0, [.ref b, .int (nI n), .int (nI fo), .int (nI ch)])), (b, .inl (cI, cap, .inl f))]) := by
  refine kt_start (cc := cX0_recordsHeld) (maxL := 1) (ret := (some .int)) (by decide +kernel) rfl (Nat.le_of_ble_eq_true rfl) ?_
  intro p e s m below meth c hx hb hml hr hlk hown hnm hts ls hl hw
  have hown : s.vm.findClass RX0 = some m.cls := hown
  have hl : lv_has ls 1 [(0, .ref a)] := hl
  have k13 := hts (.fieldLink RX0 13 "RestartBook$Log" "records" "I") (by decide +kernel)
  have hin0 : ∀ w ∈ u_ws RX0 TX0 4, w ∈ wsX0_recordsHeld := in_X0_recordsHeld
  refine lv_aload_n hx hb dX0_recordsHeld_0 rfl (lv_at hl 0 rfl) ?_
  refine ww_get hx hb hts hin0 hown hw 0 rfl rfl 1 (by decide) k13 rfl dX0_recordsHeld_1 ?_
  exact ww_iret (u := ()) hx hb hr hlk hw (rfl) (Nat.le_of_ble_eq_true rfl) (Nat.le_of_ble_eq_true rfl) dX0_recordsHeld_4
set_option maxHeartbeats 4000000 in
set_option maxRecDepth 100000 in
theorem cL_forcedHeld (l : Launch) (D : va_G) (cI : ClassId) (a b cap n fo ch : Nat) (f : Nat → Int32) : Kt l yX0_forcedHeld wsX0_forcedHeld 0 0 (0) (0) D cI [.ref a] ([(a, .inr (0, [.ref b, .int (nI n), .int (nI fo), .int (nI ch)])), (b, .inl (cI, cap, .inl f))]) (pI (fun (r : Int32) (u : Unit) => r = nI fo)) (fun (u : Unit) => [(a, .inr (0, [.ref b, .int (nI n), .int (nI fo), .int (nI ch)])), (b, .inl (cI, cap, .inl f))]) := by
  refine kt_start (cc := cX0_forcedHeld) (maxL := 1) (ret := (some .int)) (by decide +kernel) rfl (Nat.le_of_ble_eq_true rfl) ?_
  intro p e s m below meth c hx hb hml hr hlk hown hnm hts ls hl hw
  have hown : s.vm.findClass RX0 = some m.cls := hown
  have hl : lv_has ls 1 [(0, .ref a)] := hl
  have k17 := hts (.fieldLink RX0 17 "RestartBook$Log" "forced" "I") (by decide +kernel)
  have hin0 : ∀ w ∈ u_ws RX0 TX0 4, w ∈ wsX0_forcedHeld := in_X0_forcedHeld
  refine lv_aload_n hx hb dX0_forcedHeld_0 rfl (lv_at hl 0 rfl) ?_
  refine ww_get hx hb hts hin0 hown hw 0 rfl rfl 2 (by decide) k17 rfl dX0_forcedHeld_1 ?_
  exact ww_iret (u := ()) hx hb hr hlk hw (rfl) (Nat.le_of_ble_eq_true rfl) (Nat.le_of_ble_eq_true rfl) dX0_forcedHeld_4
set_option maxHeartbeats 4000000 in
set_option maxRecDepth 100000 in
theorem cL_changesHeld (l : Launch) (D : va_G) (cI : ClassId) (a b cap n fo ch : Nat) (f : Nat → Int32) : Kt l yX0_changesHeld wsX0_changesHeld 0 0 (0) (0) D cI [.ref a] ([(a, .inr (0, [.ref b, .int (nI n), .int (nI fo), .int (nI ch)])), (b, .inl (cI, cap, .inl f))]) (pI (fun (r : Int32) (u : Unit) => r = nI ch)) (fun (u : Unit) => [(a, .inr (0, [.ref b, .int (nI n), .int (nI fo), .int (nI ch)])), (b, .inl (cI, cap, .inl f))]) := by
  refine kt_start (cc := cX0_changesHeld) (maxL := 1) (ret := (some .int)) (by decide +kernel) rfl (Nat.le_of_ble_eq_true rfl) ?_
  intro p e s m below meth c hx hb hml hr hlk hown hnm hts ls hl hw
  have hown : s.vm.findClass RX0 = some m.cls := hown
  have hl : lv_has ls 1 [(0, .ref a)] := hl
  have k20 := hts (.fieldLink RX0 20 "RestartBook$Log" "changes" "I") (by decide +kernel)
  have hin0 : ∀ w ∈ u_ws RX0 TX0 4, w ∈ wsX0_changesHeld := in_X0_changesHeld
  refine lv_aload_n hx hb dX0_changesHeld_0 rfl (lv_at hl 0 rfl) ?_
  refine ww_get hx hb hts hin0 hown hw 0 rfl rfl 3 (by decide) k20 rfl dX0_changesHeld_1 ?_
  exact ww_iret (u := ()) hx hb hr hlk hw (rfl) (Nat.le_of_ble_eq_true rfl) (Nat.le_of_ble_eq_true rfl) dX0_changesHeld_4
theorem hold_y {x : Int32} {n : Nat} (hn : n < 2 ^ 31) (h1 : ¬ x < nI 1) (h2 : ¬ nI n < x) : ∃ j : Nat, 1 ≤ j ∧ j ≤ n ∧ x = nI j := by
  simp (disch := omega) only [i_lt, nI_toInt] at h1 h2
  obtain ⟨j, hj, rfl⟩ := i_nat (x := x) (by omega)
  rw [nI_toInt hj] at h1 h2
  exact ⟨j, by omega, by omega, rfl⟩
theorem hold_n {x : Int32} {n : Nat} (hn : n < 2 ^ 31) (h : x < nI 1 ∨ nI n < x) : ¬ ∃ j : Nat, 1 ≤ j ∧ j ≤ n ∧ x = nI j := by
  rintro ⟨j, h1, h2, rfl⟩
  simp (disch := omega) only [i_lt, nI_toInt] at h
  omega
set_option maxHeartbeats 4000000 in
set_option maxRecDepth 100000 in
theorem cL_holds (l : Launch) (D : va_G) (cI : ClassId) (a b cap n fo ch : Nat) (f : Nat → Int32) (x : Int32) (hn : n < 2 ^ 31) : Kt l yX0_holds wsX0_holds 0 0 (0) (0) D cI [.ref a, .int x] ([(a, .inr (0, [.ref b, .int (nI n), .int (nI fo), .int (nI ch)])), (b, .inl (cI, cap, .inl f))]) (pI (fun (r : Int32) (u : Unit) => (r = 1 ∧ ∃ j : Nat, 1 ≤ j ∧ j ≤ n ∧ x = nI j) ∨ (r = 0 ∧ ¬ ∃ j : Nat, 1 ≤ j ∧ j ≤ n ∧ x = nI j))) (fun (u : Unit) => [(a, .inr (0, [.ref b, .int (nI n), .int (nI fo), .int (nI ch)])), (b, .inl (cI, cap, .inl f))]) := by
  refine kt_start (cc := cX0_holds) (maxL := 2) (ret := (some .boolean)) (by decide +kernel) rfl (Nat.le_of_ble_eq_true rfl) ?_
  intro p e s m below meth c hx hb hml hr hlk hown hnm hts ls hl hw
  have hown : s.vm.findClass RX0 = some m.cls := hown
  have hl : lv_has ls 2 [(0, .ref a), (1, .int x)] := hl
  have k13 := hts (.fieldLink RX0 13 "RestartBook$Log" "records" "I") (by decide +kernel)
  have hin0 : ∀ w ∈ u_ws RX0 TX0 4, w ∈ wsX0_holds := in_X0_holds
  refine lv_iload_n hx hb dX0_holds_0 rfl (lv_at hl 1 rfl) ?_
  refine lv_iconst (v := nI 1) hx hb dX0_holds_1 (by decide +kernel) ?_
  refine lv_icmp_lt (tgt := 17) hx hb dX0_holds_2 (by decide) (fun c_2 => ?_) (fun c_2 => ?_)
  · refine lv_iconst (v := nI 0) hx hb dX0_holds_17 (by decide +kernel) ?_
    exact ww_zret (u := ()) hx hb hr hlk (by decide +kernel) hw (Or.inr ⟨by decide, hold_n hn (by first | exact Or.inl c_2 | exact Or.inr c_10)⟩) (Nat.le_of_ble_eq_true rfl) (Nat.le_of_ble_eq_true rfl) dX0_holds_18
  · refine lv_iload_n hx hb dX0_holds_5 rfl (lv_at hl 1 rfl) ?_
    refine lv_aload_n hx hb dX0_holds_6 rfl (lv_at hl 0 rfl) ?_
    refine ww_get hx hb hts hin0 hown hw 0 rfl rfl 1 (by decide) k13 rfl dX0_holds_7 ?_
    refine lv_icmp_gt (tgt := 17) hx hb dX0_holds_10 (by decide) (fun c_10 => ?_) (fun c_10 => ?_)
    · refine lv_iconst (v := nI 0) hx hb dX0_holds_17 (by decide +kernel) ?_
      exact ww_zret (u := ()) hx hb hr hlk (by decide +kernel) hw (Or.inr ⟨by decide, hold_n hn (by first | exact Or.inl c_2 | exact Or.inr c_10)⟩) (Nat.le_of_ble_eq_true rfl) (Nat.le_of_ble_eq_true rfl) dX0_holds_18
    · refine lv_iconst (v := nI 1) hx hb dX0_holds_13 (by decide +kernel) ?_
      refine lv_goto (tgt := 18) hx hb dX0_holds_14 (by decide) ?_
      exact ww_zret (u := ()) hx hb hr hlk (by decide +kernel) hw (Or.inl ⟨by decide, hold_y hn c_2 c_10⟩) (Nat.le_of_ble_eq_true rfl) (Nat.le_of_ble_eq_true rfl) dX0_holds_18
set_option maxHeartbeats 4000000 in
set_option maxRecDepth 100000 in
theorem cL_read (l : Launch) (D : va_G) (cI : ClassId) (a b cap n fo ch : Nat) (f : Nat → Int32) (j k : Nat) (hn : n * 7 ≤ cap) (hcap : cap < 2 ^ 31) (hj : j < 2 ^ 31) (hk : k ≤ 6) : Kt l yX0_read wsX0_read 1 21 (0) (0) D cI [.ref a, .int (nI j), .int (nI k)] ([(a, .inr (0, [.ref b, .int (nI n), .int (nI fo), .int (nI ch)])), (b, .inl (cI, cap, .inl f))]) (pI (fun (r : Int32) (u : Unit) => r = if 1 ≤ j ∧ j ≤ n then f ((j - 1) * 7 + k) else 0)) (fun (u : Unit) => [(a, .inr (0, [.ref b, .int (nI n), .int (nI fo), .int (nI ch)])), (b, .inl (cI, cap, .inl f))]) := by
  refine kt_start (cc := cX0_read) (maxL := 3) (ret := (some .int)) (by decide +kernel) rfl (Nat.le_of_ble_eq_true rfl) ?_
  intro p e s m below meth c hx hb hml hr hlk hown hnm hts ls hl hw
  have hown : s.vm.findClass RX0 = some m.cls := hown
  have hl : lv_has ls 3 [(0, .ref a), (1, .int (nI j)), (2, .int (nI k))] := hl
  have k9 := hts (.fieldLink RX0 9 "RestartBook$Log" "cells" "[I") (by decide +kernel)
  have hin0 : ∀ w ∈ u_ws RX0 TX0 4, w ∈ wsX0_read := in_X0_read
  refine lv_aload_n hx hb dX0_read_0 rfl (lv_at hl 0 rfl) ?_
  refine lv_iload_n hx hb dX0_read_1 rfl (lv_at hl 1 rfl) ?_
  refine ww_callV ([]) ([]) (As := [.int (nI j)]) (rest := []) ⟨hx, hb, hml, hown, hts⟩ (cL_holds l D cI a b cap n fo ch f (nI j) (by omega)) gX0_read_X0_holds rfl hd_X0_holds ⟨Nat.le_of_ble_eq_true rfl, Nat.le_of_ble_eq_true rfl⟩ hw rfl rfl rfl rfl rfl hl.1 (Nat.le_of_ble_eq_true rfl) dX0_read_2 ⟨Nat.le_of_ble_eq_true rfl, Nat.le_of_ble_eq_true rfl⟩ (fun v u H locs hq hw => ?_)
  obtain ⟨r, rfl, hq⟩ := hq
  have hw : ww D cI _ _ s ([(a, .inr (0, [.ref b, .int (nI n), .int (nI fo), .int (nI ch)])), (b, .inl (cI, cap, .inl f))]) H locs := hw
  refine W.eq (g2 := F0 m 5 ls [.int (r)]) rfl ?_
  rcases hq with ⟨rfl, hq⟩ | ⟨rfl, hq⟩
  · obtain ⟨j1, hq1, hq2, hq3⟩ := hq
    have hjj : j = j1 := (nI_eq (by omega) (by omega)).mp hq3
    subst hjj
    refine lv_if_eq (tgt := 18) hx hb dX0_read_5 (by decide) (fun c_5 => absurd c_5 (by decide)) (fun c_5 => ?_)
    refine lv_iload_n hx hb dX0_read_8 rfl (lv_at hl 2 rfl) ?_
    refine lv_if_lt (tgt := 18) hx hb dX0_read_9 (by decide) (fun c_9 => absurd c_9 (nI_pos (by omega))) (fun c_9 => ?_)
    refine lv_iload_n hx hb dX0_read_12 rfl (lv_at hl 2 rfl) ?_
    refine lv_bipush (v := nI 6) hx hb dX0_read_13 (by decide +kernel) ?_
    refine lv_icmp_le (tgt := 20) hx hb dX0_read_15 (by decide) (fun c_15 => ?_) (fun c_15 => absurd (nI_le (by omega) (by omega)) c_15)
    refine lv_aload_n hx hb dX0_read_20 rfl (lv_at hl 0 rfl) ?_
    refine ww_get hx hb hts hin0 hown hw 0 rfl rfl 0 (by decide) k9 rfl dX0_read_21 ?_
    refine lv_iload_n hx hb dX0_read_24 rfl (lv_at hl 1 rfl) ?_
    refine lv_iconst (v := nI 1) hx hb dX0_read_25 (by decide +kernel) ?_
    refine lv_isub hx hb dX0_read_26 ?_
    refine lv_eqi (show _ = nI (j - 1) from pk_sub (by omega)) ?_
    refine W.eq (g2 := F0 m 27 ls [.int (nI (j - 1)), .ref b]) rfl ?_
    refine lv_bipush (v := nI 7) hx hb dX0_read_27 (by decide +kernel) ?_
    refine lv_imul hx hb dX0_read_29 ?_
    refine lv_eqi (show _ = nI ((j - 1) * 7) from pk_mul _ _) ?_
    refine lv_iload_n hx hb dX0_read_30 rfl (lv_at hl 2 rfl) ?_
    refine lv_iadd hx hb dX0_read_31 ?_
    refine lv_eqi (show _ = nI (((j - 1) * 7) + k) from nI_add _ _) ?_
    refine ww_iald hx hb hw 1 rfl (((j - 1) * 7) + k) rfl (by omega) (by omega) dX0_read_32 ?_
    exact ww_iret (u := ()) hx hb hr hlk hw ((if_pos ⟨hq1, hq2⟩).symm) (Nat.le_of_ble_eq_true rfl) (Nat.le_of_ble_eq_true rfl) dX0_read_33
  · have hq : ¬ (1 ≤ j ∧ j ≤ n) := fun hc => hq ⟨j, hc.1, hc.2, rfl⟩
    refine lv_if_eq (tgt := 18) hx hb dX0_read_5 (by decide) (fun c_5 => ?_) (fun c_5 => absurd (rfl) c_5)
    refine lv_iconst (v := nI 0) hx hb dX0_read_18 (by decide +kernel) ?_
    exact ww_iret (u := ()) hx hb hr hlk hw ((if_neg hq).symm) (Nat.le_of_ble_eq_true rfl) (Nat.le_of_ble_eq_true rfl) dX0_read_19
