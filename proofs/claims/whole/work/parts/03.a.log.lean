/-! RestartBook.Log, its reading methods -/
set_option maxRecDepth 20000 in
theorem in_X0_recordsHeld : ∀ w ∈ u_ws RX0 TX0 4, w ∈ wsX0_recordsHeld := by
  intro w h
  show w ∈ wsX0_recordsHeld
  simp only [wsX0_recordsHeld, List.mem_cons, List.mem_append]
  simp only [h, true_or, or_true]
set_option maxRecDepth 20000 in
theorem in_X0_forcedHeld : ∀ w ∈ u_ws RX0 TX0 4, w ∈ wsX0_forcedHeld := by
  intro w h
  show w ∈ wsX0_forcedHeld
  simp only [wsX0_forcedHeld, List.mem_cons, List.mem_append]
  simp only [h, true_or, or_true]
set_option maxRecDepth 20000 in
theorem in_X0_changesHeld : ∀ w ∈ u_ws RX0 TX0 4, w ∈ wsX0_changesHeld := by
  intro w h
  show w ∈ wsX0_changesHeld
  simp only [wsX0_changesHeld, List.mem_cons, List.mem_append]
  simp only [h, true_or, or_true]
set_option maxRecDepth 20000 in
theorem in_X0_holds : ∀ w ∈ u_ws RX0 TX0 4, w ∈ wsX0_holds := by
  intro w h
  show w ∈ wsX0_holds
  simp only [wsX0_holds, List.mem_cons, List.mem_append]
  simp only [h, true_or, or_true]
set_option maxRecDepth 20000 in
theorem in_X0_read : ∀ w ∈ u_ws RX0 TX0 4, w ∈ wsX0_read := by
  intro w h
  show w ∈ wsX0_read
  simp only [wsX0_read, List.mem_cons, List.mem_append]
  simp only [h, true_or, or_true]
set_option maxRecDepth 20000 in
theorem in_X0_append : ∀ w ∈ u_ws RX0 TX0 4, w ∈ wsX0_append := by
  intro w h
  show w ∈ wsX0_append
  simp only [wsX0_append, List.mem_cons, List.mem_append]
  simp only [h, true_or, or_true]
set_option maxRecDepth 20000 in
theorem in_X0_forceUpTo : ∀ w ∈ u_ws RX0 TX0 4, w ∈ wsX0_forceUpTo := by
  intro w h
  show w ∈ wsX0_forceUpTo
  simp only [wsX0_forceUpTo, List.mem_cons, List.mem_append]
  simp only [h, true_or, or_true]
set_option maxRecDepth 20000 in
theorem in_X0_loseBehind : ∀ w ∈ u_ws RX0 TX0 4, w ∈ wsX0_loseBehind := by
  intro w h
  show w ∈ wsX0_loseBehind
  simp only [wsX0_loseBehind, List.mem_cons, List.mem_append]
  simp only [h, true_or, or_true]
set_option maxRecDepth 20000 in
theorem in_X0_init : ∀ w ∈ u_ws RX0 TX0 4, w ∈ wsX0_init := by
  intro w h
  show w ∈ wsX0_init
  simp only [wsX0_init, List.mem_cons, List.mem_append]
  simp only [h, true_or, or_true]
theorem hd_X0_recordsHeld : yX0_recordsHeld.cls = RX0 ∧ yX0_recordsHeld.cls ≠ "java/lang/invoke/MethodHandle" ∧ yX0_recordsHeld.cls ≠ "java/lang/invoke/VarHandle" ∧ (parseMethodDescriptor yX0_recordsHeld.desc).map (fun d => d.parameters.length) = some 0 := by decide +kernel
theorem hd_X0_forcedHeld : yX0_forcedHeld.cls = RX0 ∧ yX0_forcedHeld.cls ≠ "java/lang/invoke/MethodHandle" ∧ yX0_forcedHeld.cls ≠ "java/lang/invoke/VarHandle" ∧ (parseMethodDescriptor yX0_forcedHeld.desc).map (fun d => d.parameters.length) = some 0 := by decide +kernel
theorem hd_X0_changesHeld : yX0_changesHeld.cls = RX0 ∧ yX0_changesHeld.cls ≠ "java/lang/invoke/MethodHandle" ∧ yX0_changesHeld.cls ≠ "java/lang/invoke/VarHandle" ∧ (parseMethodDescriptor yX0_changesHeld.desc).map (fun d => d.parameters.length) = some 0 := by decide +kernel
theorem hd_X0_holds : yX0_holds.cls = RX0 ∧ yX0_holds.cls ≠ "java/lang/invoke/MethodHandle" ∧ yX0_holds.cls ≠ "java/lang/invoke/VarHandle" ∧ (parseMethodDescriptor yX0_holds.desc).map (fun d => d.parameters.length) = some 1 := by decide +kernel
theorem hd_X0_read : yX0_read.cls = RX0 ∧ yX0_read.cls ≠ "java/lang/invoke/MethodHandle" ∧ yX0_read.cls ≠ "java/lang/invoke/VarHandle" ∧ (parseMethodDescriptor yX0_read.desc).map (fun d => d.parameters.length) = some 2 := by decide +kernel
theorem hd_X0_changesPage : yX0_changesPage.cls = RX0 ∧ yX0_changesPage.cls ≠ "java/lang/invoke/MethodHandle" ∧ yX0_changesPage.cls ≠ "java/lang/invoke/VarHandle" ∧ (parseMethodDescriptor yX0_changesPage.desc).map (fun d => d.parameters.length) = some 1 := by decide +kernel
theorem hd_X0_append : yX0_append.cls = RX0 ∧ yX0_append.cls ≠ "java/lang/invoke/MethodHandle" ∧ yX0_append.cls ≠ "java/lang/invoke/VarHandle" ∧ (parseMethodDescriptor yX0_append.desc).map (fun d => d.parameters.length) = some 7 := by decide +kernel
theorem hd_X0_undoingBehind : yX0_undoingBehind.cls = RX0 ∧ yX0_undoingBehind.cls ≠ "java/lang/invoke/MethodHandle" ∧ yX0_undoingBehind.cls ≠ "java/lang/invoke/VarHandle" ∧ (parseMethodDescriptor yX0_undoingBehind.desc).map (fun d => d.parameters.length) = some 1 := by decide +kernel
theorem hd_X0_forceUpTo : yX0_forceUpTo.cls = RX0 ∧ yX0_forceUpTo.cls ≠ "java/lang/invoke/MethodHandle" ∧ yX0_forceUpTo.cls ≠ "java/lang/invoke/VarHandle" ∧ (parseMethodDescriptor yX0_forceUpTo.desc).map (fun d => d.parameters.length) = some 1 := by decide +kernel
theorem hd_X0_loseBehind : yX0_loseBehind.cls = RX0 ∧ yX0_loseBehind.cls ≠ "java/lang/invoke/MethodHandle" ∧ yX0_loseBehind.cls ≠ "java/lang/invoke/VarHandle" ∧ (parseMethodDescriptor yX0_loseBehind.desc).map (fun d => d.parameters.length) = some 1 := by decide +kernel
def lrd (f : Nat → Int32) (n j k : Nat) : Int32 := if 1 ≤ j ∧ j ≤ n then f ((j - 1) * 7 + k) else 0
def cntC (f : Nat → Int32) : Nat → Nat
  | 0 => 0
  | n + 1 => cntC f n + (if f (n * 7) = nI 1 then 1 else 0)
theorem cntC_mono (f : Nat → Int32) : ∀ {a b : Nat}, a ≤ b → cntC f a ≤ cntC f b := by
  intro a b h
  induction h with
  | refl => exact Nat.le_refl _
  | step _ ih => exact Nat.le_trans ih (Nat.le_add_right _ _)
set_option maxHeartbeats 4000000 in
set_option maxRecDepth 100000 in
theorem cL_recordsHeld (l : Launch) (D : va_G) (cI : ClassId) (a b cap n fo ch : Nat) (f : Nat → Int32) : Kt l yX0_recordsHeld wsX0_recordsHeld 0 0 (0) (0) D cI [.ref a] ([(a, .inr (0, [.ref b, .int (nI n), .int (nI fo), .int (nI ch)])), (b, .inl (cI, cap, .inl f))]) (pI (fun (r : Int32) (u : Unit) => r = nI n)) (fun (u : Unit) => [(a, .inr (0, [.ref b, .int (nI n), .int (nI fo), .int (nI ch)])), (b, .inl (cI, cap, .inl f))]) := by
  refine kt_start (cc := cX0_recordsHeld) (maxL := 1) (ret := (some .int)) (by decide +kernel) rfl (Nat.le_of_ble_eq_true rfl) ?_
  intro p e s m below meth c hx hb hml hr hlk hown hnm hts ls hl hw
  have hown : s.vm.findClass RX0 = some m.cls := hown
  have hl : lv_has ls 1 [(0, .ref a)] := hl
  have k13 := hts (.fieldLink RX0 13 "RestartBook$Log" "records" "I") (by decide +kernel)
  have hin0 : ∀ w ∈ u_ws RX0 TX0 4, w ∈ wsX0_recordsHeld := in_X0_recordsHeld
  refine lv_aload_n hx hb dX0_recordsHeld_0 rfl (lv_at hl 0 rfl) ?_
  refine ww_get hx hb hts hin0 hown hw 0 rfl rfl 1 (by decide) k13 rfl dX0_recordsHeld_1 ?_
  exact ww_iret (u := ()) hx hb hr hlk hw (rfl) (Nat.le_of_ble_eq_true rfl) (Nat.le_of_ble_eq_true rfl) dX0_recordsHeld_4
set_option maxHeartbeats 4000000 in
set_option maxRecDepth 100000 in
theorem cL_forcedHeld (l : Launch) (D : va_G) (cI : ClassId) (a b cap n fo ch : Nat) (f : Nat → Int32) : Kt l yX0_forcedHeld wsX0_forcedHeld 0 0 (0) (0) D cI [.ref a] ([(a, .inr (0, [.ref b, .int (nI n), .int (nI fo), .int (nI ch)])), (b, .inl (cI, cap, .inl f))]) (pI (fun (r : Int32) (u : Unit) => r = nI fo)) (fun (u : Unit) => [(a, .inr (0, [.ref b, .int (nI n), .int (nI fo), .int (nI ch)])), (b, .inl (cI, cap, .inl f))]) := by
  refine kt_start (cc := cX0_forcedHeld) (maxL := 1) (ret := (some .int)) (by decide +kernel) rfl (Nat.le_of_ble_eq_true rfl) ?_
  intro p e s m below meth c hx hb hml hr hlk hown hnm hts ls hl hw
  have hown : s.vm.findClass RX0 = some m.cls := hown
  have hl : lv_has ls 1 [(0, .ref a)] := hl
  have k17 := hts (.fieldLink RX0 17 "RestartBook$Log" "forced" "I") (by decide +kernel)
  have hin0 : ∀ w ∈ u_ws RX0 TX0 4, w ∈ wsX0_forcedHeld := in_X0_forcedHeld
  refine lv_aload_n hx hb dX0_forcedHeld_0 rfl (lv_at hl 0 rfl) ?_
  refine ww_get hx hb hts hin0 hown hw 0 rfl rfl 2 (by decide) k17 rfl dX0_forcedHeld_1 ?_
  exact ww_iret (u := ()) hx hb hr hlk hw (rfl) (Nat.le_of_ble_eq_true rfl) (Nat.le_of_ble_eq_true rfl) dX0_forcedHeld_4
set_option maxHeartbeats 4000000 in
set_option maxRecDepth 100000 in
theorem cL_changesHeld (l : Launch) (D : va_G) (cI : ClassId) (a b cap n fo ch : Nat) (f : Nat → Int32) : Kt l yX0_changesHeld wsX0_changesHeld 0 0 (0) (0) D cI [.ref a] ([(a, .inr (0, [.ref b, .int (nI n), .int (nI fo), .int (nI ch)])), (b, .inl (cI, cap, .inl f))]) (pI (fun (r : Int32) (u : Unit) => r = nI ch)) (fun (u : Unit) => [(a, .inr (0, [.ref b, .int (nI n), .int (nI fo), .int (nI ch)])), (b, .inl (cI, cap, .inl f))]) := by
  refine kt_start (cc := cX0_changesHeld) (maxL := 1) (ret := (some .int)) (by decide +kernel) rfl (Nat.le_of_ble_eq_true rfl) ?_
  intro p e s m below meth c hx hb hml hr hlk hown hnm hts ls hl hw
  have hown : s.vm.findClass RX0 = some m.cls := hown
  have hl : lv_has ls 1 [(0, .ref a)] := hl
  have k20 := hts (.fieldLink RX0 20 "RestartBook$Log" "changes" "I") (by decide +kernel)
  have hin0 : ∀ w ∈ u_ws RX0 TX0 4, w ∈ wsX0_changesHeld := in_X0_changesHeld
  refine lv_aload_n hx hb dX0_changesHeld_0 rfl (lv_at hl 0 rfl) ?_
  refine ww_get hx hb hts hin0 hown hw 0 rfl rfl 3 (by decide) k20 rfl dX0_changesHeld_1 ?_
  exact ww_iret (u := ()) hx hb hr hlk hw (rfl) (Nat.le_of_ble_eq_true rfl) (Nat.le_of_ble_eq_true rfl) dX0_changesHeld_4
theorem hold_y {x : Int32} {n : Nat} (hn : n < 2 ^ 31) (h1 : ¬ x < nI 1) (h2 : ¬ nI n < x) : ∃ j : Nat, 1 ≤ j ∧ j ≤ n ∧ x = nI j := by
  simp (disch := omega) only [i_lt, nI_toInt] at h1 h2
  obtain ⟨j, hj, rfl⟩ := i_nat (x := x) (by omega)
  rw [nI_toInt hj] at h1 h2
  exact ⟨j, by omega, by omega, rfl⟩
theorem hold_n {x : Int32} {n : Nat} (hn : n < 2 ^ 31) (h : x < nI 1 ∨ nI n < x) : ¬ ∃ j : Nat, 1 ≤ j ∧ j ≤ n ∧ x = nI j := by
  rintro ⟨j, h1, h2, rfl⟩
  simp (disch := omega) only [i_lt, nI_toInt] at h
  omega
set_option maxHeartbeats 4000000 in
set_option maxRecDepth 100000 in
theorem cL_holds (l : Launch) (D : va_G) (cI : ClassId) (a b cap n fo ch : Nat) (f : Nat → Int32) (x : Int32) (hn : n < 2 ^ 31) : Kt l yX0_holds wsX0_holds 0 0 (0) (0) D cI [.ref a, .int x] ([(a, .inr (0, [.ref b, .int (nI n), .int (nI fo), .int (nI ch)])), (b, .inl (cI, cap, .inl f))]) (pI (fun (r : Int32) (u : Unit) => (r = 1 ∧ ∃ j : Nat, 1 ≤ j ∧ j ≤ n ∧ x = nI j) ∨ (r = 0 ∧ ¬ ∃ j : Nat, 1 ≤ j ∧ j ≤ n ∧ x = nI j))) (fun (u : Unit) => [(a, .inr (0, [.ref b, .int (nI n), .int (nI fo), .int (nI ch)])), (b, .inl (cI, cap, .inl f))]) := by
  refine kt_start (cc := cX0_holds) (maxL := 2) (ret := (some .boolean)) (by decide +kernel) rfl (Nat.le_of_ble_eq_true rfl) ?_
  intro p e s m below meth c hx hb hml hr hlk hown hnm hts ls hl hw
  have hown : s.vm.findClass RX0 = some m.cls := hown
  have hl : lv_has ls 2 [(0, .ref a), (1, .int x)] := hl
  have k13 := hts (.fieldLink RX0 13 "RestartBook$Log" "records" "I") (by decide +kernel)
  have hin0 : ∀ w ∈ u_ws RX0 TX0 4, w ∈ wsX0_holds := in_X0_holds
  refine lv_iload_n hx hb dX0_holds_0 rfl (lv_at hl 1 rfl) ?_
  refine lv_iconst (v := nI 1) hx hb dX0_holds_1 (by decide +kernel) ?_
  refine lv_icmp_lt (tgt := 17) hx hb dX0_holds_2 (by decide) (fun c_2 => ?_) (fun c_2 => ?_)
  · refine lv_iconst (v := nI 0) hx hb dX0_holds_17 (by decide +kernel) ?_
    exact ww_zret (u := ()) hx hb hr hlk (by decide +kernel) hw (Or.inr ⟨by decide, hold_n hn (by first | exact Or.inl c_2 | exact Or.inr c_10)⟩) (Nat.le_of_ble_eq_true rfl) (Nat.le_of_ble_eq_true rfl) dX0_holds_18
  · refine lv_iload_n hx hb dX0_holds_5 rfl (lv_at hl 1 rfl) ?_
    refine lv_aload_n hx hb dX0_holds_6 rfl (lv_at hl 0 rfl) ?_
    refine ww_get hx hb hts hin0 hown hw 0 rfl rfl 1 (by decide) k13 rfl dX0_holds_7 ?_
    refine lv_icmp_gt (tgt := 17) hx hb dX0_holds_10 (by decide) (fun c_10 => ?_) (fun c_10 => ?_)
    · refine lv_iconst (v := nI 0) hx hb dX0_holds_17 (by decide +kernel) ?_
      exact ww_zret (u := ()) hx hb hr hlk (by decide +kernel) hw (Or.inr ⟨by decide, hold_n hn (by first | exact Or.inl c_2 | exact Or.inr c_10)⟩) (Nat.le_of_ble_eq_true rfl) (Nat.le_of_ble_eq_true rfl) dX0_holds_18
    · refine lv_iconst (v := nI 1) hx hb dX0_holds_13 (by decide +kernel) ?_
      refine lv_goto (tgt := 18) hx hb dX0_holds_14 (by decide) ?_
      exact ww_zret (u := ()) hx hb hr hlk (by decide +kernel) hw (Or.inl ⟨by decide, hold_y hn c_2 c_10⟩) (Nat.le_of_ble_eq_true rfl) (Nat.le_of_ble_eq_true rfl) dX0_holds_18
set_option maxHeartbeats 4000000 in
set_option maxRecDepth 100000 in
theorem cL_read (l : Launch) (D : va_G) (cI : ClassId) (a b cap n fo ch : Nat) (f : Nat → Int32) (j k : Nat) (hn : n * 7 ≤ cap) (hcap : cap < 2 ^ 31) (hj : j < 2 ^ 31) (hk : k ≤ 6) : Kt l yX0_read wsX0_read 1 21 (0) (0) D cI [.ref a, .int (nI j), .int (nI k)] ([(a, .inr (0, [.ref b, .int (nI n), .int (nI fo), .int (nI ch)])), (b, .inl (cI, cap, .inl f))]) (pI (fun (r : Int32) (u : Unit) => r = lrd f n j k)) (fun (u : Unit) => [(a, .inr (0, [.ref b, .int (nI n), .int (nI fo), .int (nI ch)])), (b, .inl (cI, cap, .inl f))]) := by
  refine kt_start (cc := cX0_read) (maxL := 3) (ret := (some .int)) (by decide +kernel) rfl (Nat.le_of_ble_eq_true rfl) ?_
  intro p e s m below meth c hx hb hml hr hlk hown hnm hts ls hl hw
  have hown : s.vm.findClass RX0 = some m.cls := hown
  have hl : lv_has ls 3 [(0, .ref a), (1, .int (nI j)), (2, .int (nI k))] := hl
  have k9 := hts (.fieldLink RX0 9 "RestartBook$Log" "cells" "[I") (by decide +kernel)
  have hin0 : ∀ w ∈ u_ws RX0 TX0 4, w ∈ wsX0_read := in_X0_read
  refine lv_aload_n hx hb dX0_read_0 rfl (lv_at hl 0 rfl) ?_
  refine lv_iload_n hx hb dX0_read_1 rfl (lv_at hl 1 rfl) ?_
  refine ww_callV ([]) ([]) (As := [.int (nI j)]) (rest := []) ⟨hx, hb, hml, hown, hts⟩ (cL_holds l D cI a b cap n fo ch f (nI j) (by omega)) gX0_read_X0_holds rfl hd_X0_holds ⟨Nat.le_of_ble_eq_true rfl, Nat.le_of_ble_eq_true rfl⟩ hw rfl rfl rfl rfl rfl hl.1 (Nat.le_of_ble_eq_true rfl) dX0_read_2 ⟨Nat.le_of_ble_eq_true rfl, Nat.le_of_ble_eq_true rfl⟩ (fun v u H locs hq hw => ?_)
  obtain ⟨r, rfl, hq⟩ := hq
  have hw : ww D cI _ _ s ([(a, .inr (0, [.ref b, .int (nI n), .int (nI fo), .int (nI ch)])), (b, .inl (cI, cap, .inl f))]) H locs := hw
  refine W.eq (g2 := F0 m 5 ls [.int (r)]) rfl ?_
  rcases hq with ⟨rfl, hq⟩ | ⟨rfl, hq⟩
  · obtain ⟨j1, hq1, hq2, hq3⟩ := hq
    have hjj : j = j1 := (nI_eq (by omega) (by omega)).mp hq3
    subst hjj
    refine lv_if_eq (tgt := 18) hx hb dX0_read_5 (by decide) (fun c_5 => absurd c_5 (by decide)) (fun c_5 => ?_)
    refine lv_iload_n hx hb dX0_read_8 rfl (lv_at hl 2 rfl) ?_
    refine lv_if_lt (tgt := 18) hx hb dX0_read_9 (by decide) (fun c_9 => absurd c_9 (nI_pos (by omega))) (fun c_9 => ?_)
    refine lv_iload_n hx hb dX0_read_12 rfl (lv_at hl 2 rfl) ?_
    refine lv_bipush (v := nI 6) hx hb dX0_read_13 (by decide +kernel) ?_
    refine lv_icmp_le (tgt := 20) hx hb dX0_read_15 (by decide) (fun c_15 => ?_) (fun c_15 => absurd (nI_le (by omega) (by omega)) c_15)
    refine lv_aload_n hx hb dX0_read_20 rfl (lv_at hl 0 rfl) ?_
    refine ww_get hx hb hts hin0 hown hw 0 rfl rfl 0 (by decide) k9 rfl dX0_read_21 ?_
    refine lv_iload_n hx hb dX0_read_24 rfl (lv_at hl 1 rfl) ?_
    refine lv_iconst (v := nI 1) hx hb dX0_read_25 (by decide +kernel) ?_
    refine lv_isub hx hb dX0_read_26 ?_
    refine lv_eqi (show _ = nI (j - 1) from pk_sub (by omega)) ?_
    refine W.eq (g2 := F0 m 27 ls [.int (nI (j - 1)), .ref b]) rfl ?_
    refine lv_bipush (v := nI 7) hx hb dX0_read_27 (by decide +kernel) ?_
    refine lv_imul hx hb dX0_read_29 ?_
    refine lv_eqi (show _ = nI ((j - 1) * 7) from pk_mul _ _) ?_
    refine lv_iload_n hx hb dX0_read_30 rfl (lv_at hl 2 rfl) ?_
    refine lv_iadd hx hb dX0_read_31 ?_
    refine lv_eqi (show _ = nI (((j - 1) * 7) + k) from nI_add _ _) ?_
    refine ww_iald hx hb hw 1 rfl (((j - 1) * 7) + k) rfl (by omega) (by omega) dX0_read_32 ?_
    exact ww_iret (u := ()) hx hb hr hlk hw ((if_pos ⟨hq1, hq2⟩).symm) (Nat.le_of_ble_eq_true rfl) (Nat.le_of_ble_eq_true rfl) dX0_read_33
  · have hq : ¬ (1 ≤ j ∧ j ≤ n) := fun hc => hq ⟨j, hc.1, hc.2, rfl⟩
    refine lv_if_eq (tgt := 18) hx hb dX0_read_5 (by decide) (fun c_5 => ?_) (fun c_5 => absurd (rfl) c_5)
    refine lv_iconst (v := nI 0) hx hb dX0_read_18 (by decide +kernel) ?_
    exact ww_iret (u := ()) hx hb hr hlk hw ((if_neg hq).symm) (Nat.le_of_ble_eq_true rfl) (Nat.le_of_ble_eq_true rfl) dX0_read_19
set_option maxHeartbeats 4000000 in
set_option maxRecDepth 100000 in
theorem cL_changesPage (l : Launch) (D : va_G) (cI : ClassId) (a b cap n fo ch : Nat) (f : Nat → Int32) (j : Nat) (hn : n * 7 ≤ cap) (hcap : cap < 2 ^ 31) (hj : j < 2 ^ 31) : Kt l yX0_changesPage wsX0_changesPage 2 43 (0) (0) D cI [.ref a, .int (nI j)] ([(a, .inr (0, [.ref b, .int (nI n), .int (nI fo), .int (nI ch)])), (b, .inl (cI, cap, .inl f))]) (pI (fun (r : Int32) (u : Unit) => (r = 1 ∧ (lrd f n j 0 = nI 1 ∨ lrd f n j 0 = nI 2)) ∨ (r = 0 ∧ ¬ (lrd f n j 0 = nI 1 ∨ lrd f n j 0 = nI 2)))) (fun (u : Unit) => [(a, .inr (0, [.ref b, .int (nI n), .int (nI fo), .int (nI ch)])), (b, .inl (cI, cap, .inl f))]) := by
  refine kt_start (cc := cX0_changesPage) (maxL := 3) (ret := (some .boolean)) (by decide +kernel) rfl (Nat.le_of_ble_eq_true rfl) ?_
  intro p e s m below meth c hx hb hml hr hlk hown hnm hts ls hl hw
  have hown : s.vm.findClass RX0 = some m.cls := hown
  have hl : lv_has ls 3 [(0, .ref a), (1, .int (nI j))] := hl
  refine lv_aload_n hx hb dX0_changesPage_0 rfl (lv_at hl 0 rfl) ?_
  refine lv_iload_n hx hb dX0_changesPage_1 rfl (lv_at hl 1 rfl) ?_
  refine lv_iconst (v := nI 0) hx hb dX0_changesPage_2 (by decide +kernel) ?_
  refine ww_callV ([]) ([]) (As := [.int (nI j), .int (nI 0)]) (rest := []) ⟨hx, hb, hml, hown, hts⟩ (cL_read l D cI a b cap n fo ch f j 0 (by omega) (by omega) hj (by omega)) gX0_changesPage_X0_read rfl hd_X0_read ⟨Nat.le_of_ble_eq_true rfl, Nat.le_of_ble_eq_true rfl⟩ hw rfl rfl rfl rfl rfl hl.1 (Nat.le_of_ble_eq_true rfl) dX0_changesPage_3 ⟨Nat.le_of_ble_eq_true rfl, Nat.le_of_ble_eq_true rfl⟩ (fun v u H locs hq hw => ?_)
  obtain ⟨r, rfl, hq⟩ := hq
  subst hq
  have hw : ww D cI _ _ s ([(a, .inr (0, [.ref b, .int (nI n), .int (nI fo), .int (nI ch)])), (b, .inl (cI, cap, .inl f))]) H locs := hw
  refine W.eq (g2 := F0 m 6 ls [.int (lrd f n j 0)]) rfl ?_
  refine lv_istore_n (lv' := [(2, .int (lrd f n j 0)), (0, .ref a), (1, .int (nI j))]) hx hb dX0_changesPage_6 rfl hl (by decide) rfl (fun ls hl => ?_)
  refine lv_iload_n hx hb dX0_changesPage_7 rfl (lv_at hl 0 rfl) ?_
  refine lv_iconst (v := nI 1) hx hb dX0_changesPage_8 (by decide +kernel) ?_
  refine lv_icmp_eq (tgt := 17) hx hb dX0_changesPage_9 (by decide) (fun c_9 => ?_) (fun c_9 => ?_)
  · refine lv_iconst (v := nI 1) hx hb dX0_changesPage_17 (by decide +kernel) ?_
    refine lv_goto (tgt := 22) hx hb dX0_changesPage_18 (by decide) ?_
    exact ww_zret (u := ()) hx hb hr hlk (by decide +kernel) hw (Or.inl ⟨by decide, by first | exact Or.inl c_9 | exact Or.inr (c_14)⟩) (Nat.le_of_ble_eq_true rfl) (Nat.le_of_ble_eq_true rfl) dX0_changesPage_22
  · refine lv_iload_n hx hb dX0_changesPage_12 rfl (lv_at hl 0 rfl) ?_
    refine lv_iconst (v := nI 2) hx hb dX0_changesPage_13 (by decide +kernel) ?_
    refine lv_icmp_ne (tgt := 21) hx hb dX0_changesPage_14 (by decide) (fun c_14 => ?_) (fun c_14 => ?_)
    · refine lv_iconst (v := nI 0) hx hb dX0_changesPage_21 (by decide +kernel) ?_
      exact ww_zret (u := ()) hx hb hr hlk (by decide +kernel) hw (Or.inr ⟨by decide, fun h => h.elim c_9 c_14⟩) (Nat.le_of_ble_eq_true rfl) (Nat.le_of_ble_eq_true rfl) dX0_changesPage_22
    · refine lv_iconst (v := nI 1) hx hb dX0_changesPage_17 (by decide +kernel) ?_
      refine lv_goto (tgt := 22) hx hb dX0_changesPage_18 (by decide) ?_
      exact ww_zret (u := ()) hx hb hr hlk (by decide +kernel) hw (Or.inl ⟨by decide, by first | exact Or.inl c_9 | exact Or.inr (c_14)⟩) (Nat.le_of_ble_eq_true rfl) (Nat.le_of_ble_eq_true rfl) dX0_changesPage_22
set_option maxHeartbeats 4000000 in
set_option maxRecDepth 100000 in
theorem cL_undoingBehind (l : Launch) (D : va_G) (cI : ClassId) (a b cap n fo ch : Nat) (f : Nat → Int32) (j bf : Nat) (hn : n * 7 ≤ cap) (hcap : cap < 2 ^ 31) (hj : j < 2 ^ 31) (hbf : lrd f n j 2 = nI bf) (hbl : bf < 2 ^ 31) : Kt l yX0_undoingBehind wsX0_undoingBehind 2 43 (0) (0) D cI [.ref a, .int (nI j)] ([(a, .inr (0, [.ref b, .int (nI n), .int (nI fo), .int (nI ch)])), (b, .inl (cI, cap, .inl f))]) (pI (fun (r : Int32) (u : Unit) => r = if lrd f n bf 0 = nI 2 then lrd f n bf 6 else nI bf)) (fun (u : Unit) => [(a, .inr (0, [.ref b, .int (nI n), .int (nI fo), .int (nI ch)])), (b, .inl (cI, cap, .inl f))]) := by
  refine kt_start (cc := cX0_undoingBehind) (maxL := 3) (ret := (some .int)) (by decide +kernel) rfl (Nat.le_of_ble_eq_true rfl) ?_
  intro p e s m below meth c hx hb hml hr hlk hown hnm hts ls hl hw
  have hown : s.vm.findClass RX0 = some m.cls := hown
  have hl : lv_has ls 3 [(0, .ref a), (1, .int (nI j))] := hl
  refine lv_aload_n hx hb dX0_undoingBehind_0 rfl (lv_at hl 0 rfl) ?_
  refine lv_iload_n hx hb dX0_undoingBehind_1 rfl (lv_at hl 1 rfl) ?_
  refine lv_iconst (v := nI 2) hx hb dX0_undoingBehind_2 (by decide +kernel) ?_
  refine ww_callV ([]) ([]) (As := [.int (nI j), .int (nI 2)]) (rest := []) ⟨hx, hb, hml, hown, hts⟩ (cL_read l D cI a b cap n fo ch f j 2 (by omega) (by omega) hj (by omega)) gX0_undoingBehind_X0_read rfl hd_X0_read ⟨Nat.le_of_ble_eq_true rfl, Nat.le_of_ble_eq_true rfl⟩ hw rfl rfl rfl rfl rfl hl.1 (Nat.le_of_ble_eq_true rfl) dX0_undoingBehind_3 ⟨Nat.le_of_ble_eq_true rfl, Nat.le_of_ble_eq_true rfl⟩ (fun v u H locs hq hw => ?_)
  obtain ⟨r, rfl, hq⟩ := hq
  subst hq
  have hw : ww D cI _ _ s ([(a, .inr (0, [.ref b, .int (nI n), .int (nI fo), .int (nI ch)])), (b, .inl (cI, cap, .inl f))]) H locs := hw
  refine W.eq (g2 := F0 m 6 ls [.int (lrd f n j 2)]) rfl ?_
  refine lv_eqi (show _ = nI bf from hbf) ?_
  refine lv_istore_n (lv' := [(2, .int (nI bf)), (0, .ref a), (1, .int (nI j))]) hx hb dX0_undoingBehind_6 rfl hl (by decide) rfl (fun ls hl => ?_)
  refine lv_aload_n hx hb dX0_undoingBehind_7 rfl (lv_at hl 1 rfl) ?_
  refine lv_iload_n hx hb dX0_undoingBehind_8 rfl (lv_at hl 0 rfl) ?_
  refine lv_iconst (v := nI 0) hx hb dX0_undoingBehind_9 (by decide +kernel) ?_
  refine ww_callV ([]) ([]) (As := [.int (nI bf), .int (nI 0)]) (rest := []) ⟨hx, hb, hml, hown, hts⟩ (cL_read l D cI a b cap n fo ch f bf 0 (by omega) (by omega) (by omega) (by omega)) gX0_undoingBehind_X0_read rfl hd_X0_read ⟨Nat.le_of_ble_eq_true rfl, Nat.le_of_ble_eq_true rfl⟩ hw rfl rfl rfl rfl rfl hl.1 (Nat.le_of_ble_eq_true rfl) dX0_undoingBehind_10 ⟨Nat.le_of_ble_eq_true rfl, Nat.le_of_ble_eq_true rfl⟩ (fun v u H locs hq hw => ?_)
  obtain ⟨r, rfl, hq⟩ := hq
  subst hq
  have hw : ww D cI _ _ s ([(a, .inr (0, [.ref b, .int (nI n), .int (nI fo), .int (nI ch)])), (b, .inl (cI, cap, .inl f))]) H locs := hw
  refine W.eq (g2 := F0 m 13 ls [.int (lrd f n bf 0)]) rfl ?_
  refine lv_iconst (v := nI 2) hx hb dX0_undoingBehind_13 (by decide +kernel) ?_
  refine lv_icmp_ne (tgt := 27) hx hb dX0_undoingBehind_14 (by decide) (fun c_14 => ?_) (fun c_14 => ?_)
  · refine lv_iload_n hx hb dX0_undoingBehind_27 rfl (lv_at hl 0 rfl) ?_
    exact ww_iret (u := ()) hx hb hr hlk hw ((if_neg c_14).symm) (Nat.le_of_ble_eq_true rfl) (Nat.le_of_ble_eq_true rfl) dX0_undoingBehind_28
  · refine lv_aload_n hx hb dX0_undoingBehind_17 rfl (lv_at hl 1 rfl) ?_
    refine lv_iload_n hx hb dX0_undoingBehind_18 rfl (lv_at hl 0 rfl) ?_
    refine lv_bipush (v := nI 6) hx hb dX0_undoingBehind_19 (by decide +kernel) ?_
    refine ww_callV ([]) ([]) (As := [.int (nI bf), .int (nI 6)]) (rest := []) ⟨hx, hb, hml, hown, hts⟩ (cL_read l D cI a b cap n fo ch f bf 6 (by omega) (by omega) (by omega) (by omega)) gX0_undoingBehind_X0_read rfl hd_X0_read ⟨Nat.le_of_ble_eq_true rfl, Nat.le_of_ble_eq_true rfl⟩ hw rfl rfl rfl rfl rfl hl.1 (Nat.le_of_ble_eq_true rfl) dX0_undoingBehind_21 ⟨Nat.le_of_ble_eq_true rfl, Nat.le_of_ble_eq_true rfl⟩ (fun v u H locs hq hw => ?_)
    obtain ⟨r, rfl, hq⟩ := hq
    subst hq
    have hw : ww D cI _ _ s ([(a, .inr (0, [.ref b, .int (nI n), .int (nI fo), .int (nI ch)])), (b, .inl (cI, cap, .inl f))]) H locs := hw
    refine W.eq (g2 := F0 m 24 ls [.int (lrd f n bf 6)]) rfl ?_
    refine lv_goto (tgt := 28) hx hb dX0_undoingBehind_24 (by decide) ?_
    exact ww_iret (u := ()) hx hb hr hlk hw ((if_pos (c_14)).symm) (Nat.le_of_ble_eq_true rfl) (Nat.le_of_ble_eq_true rfl) dX0_undoingBehind_28
set_option maxHeartbeats 4000000 in
set_option maxRecDepth 100000 in
theorem cL_forceUpTo (l : Launch) (D : va_G) (cI : ClassId) (a b cap n fo ch : Nat) (f : Nat → Int32) (x : Int32) (hn : n < 2 ^ 31) (hf : fo < 2 ^ 31) : Kt l yX0_forceUpTo wsX0_forceUpTo 1 16 (0) (0) D cI [.ref a, .int x] ([(a, .inr (0, [.ref b, .int (nI n), .int (nI fo), .int (nI ch)])), (b, .inl (cI, cap, .inl f))]) (pV (fun (u : Unit) => True)) (fun (u : Unit) => [(a, .inr (0, [.ref b, .int (nI n), .int (nI (max fo (min x.toNatClampNeg n))), .int (nI ch)])), (b, .inl (cI, cap, .inl f))]) := by
  refine kt_start (cc := cX0_forceUpTo) (maxL := 2) (ret := none) (by decide +kernel) rfl (Nat.le_of_ble_eq_true rfl) ?_
  intro p e s m below meth c hx hb hml hr hlk hown hnm hts ls hl hw
  have hown : s.vm.findClass RX0 = some m.cls := hown
  have hl : lv_has ls 2 [(0, .ref a), (1, .int x)] := hl
  have k13 := hts (.fieldLink RX0 13 "RestartBook$Log" "records" "I") (by decide +kernel)
  have k17 := hts (.fieldLink RX0 17 "RestartBook$Log" "forced" "I") (by decide +kernel)
  have hin0 : ∀ w ∈ u_ws RX0 TX0 4, w ∈ wsX0_forceUpTo := in_X0_forceUpTo
  refine lv_aload_n hx hb dX0_forceUpTo_0 rfl (lv_at hl 0 rfl) ?_
  refine lv_aload_n hx hb dX0_forceUpTo_1 rfl (lv_at hl 0 rfl) ?_
  refine ww_get hx hb hts hin0 hown hw 0 rfl rfl 2 (by decide) k17 rfl dX0_forceUpTo_2 ?_
  refine lv_iload_n hx hb dX0_forceUpTo_5 rfl (lv_at hl 1 rfl) ?_
  refine lv_aload_n hx hb dX0_forceUpTo_6 rfl (lv_at hl 0 rfl) ?_
  refine ww_get hx hb hts hin0 hown hw 0 rfl rfl 1 (by decide) k13 rfl dX0_forceUpTo_7 ?_
  refine va_mmin hx hb (hml.trans hl.1.symm) hown (hts (.methodLink RX0 37 Lib.Math.min.name) (by decide +kernel)) (hts (.static Lib.Math.min.name) (by decide +kernel)) (hts (.initialized "java/lang/Math") (by decide +kernel)) (hts _ (List.mem_of_getElem? (l := wsX0_forceUpTo) (i := 6) rfl)) (Nat.le_of_ble_eq_true rfl) (Nat.le_of_ble_eq_true rfl) (Nat.zero_le _) (Nat.zero_le _) dX0_forceUpTo_10 ?_
  refine va_mmax hx hb (hml.trans hl.1.symm) hown (hts (.methodLink RX0 42 Lib.Math.max.name) (by decide +kernel)) (hts (.static Lib.Math.max.name) (by decide +kernel)) (hts (.initialized "java/lang/Math") (by decide +kernel)) (hts _ (List.mem_of_getElem? (l := wsX0_forceUpTo) (i := 9) rfl)) (Nat.le_of_ble_eq_true rfl) (Nat.le_of_ble_eq_true rfl) (Nat.zero_le _) (Nat.zero_le _) dX0_forceUpTo_13 ?_
  refine lv_eqi (show _ = nI (max fo (min x.toNatClampNeg n)) from nI_force x hn hf) ?_
  refine ww_put (ws' := [(a, .inr (0, [.ref b, .int (nI n), .int (nI (max fo (min x.toNatClampNeg n))), .int (nI ch)])), (b, .inl (cI, cap, .inl f))]) hx hb hts hin0 tyX0 tyX0_ok nmX0 hown hw 0 rfl rfl 2 (by decide) k17 rfl rfl rfl (Nat.le_of_ble_eq_true rfl) rfl dX0_forceUpTo_16 (fun H locs hw => ?_)
  exact ww_vret (u := ()) hx hb hr hlk hw (trivial) (Nat.le_of_ble_eq_true rfl) (Nat.le_of_ble_eq_true rfl) rfl dX0_forceUpTo_19
theorem los_a {f : Nat → Int32} {d i n kp : Nat} (hi : kp < i) (hi2 : i ≤ n + 1) (hiv : d + cntC f (i - 1) = cntC f n + cntC f kp) (h : ¬ lrd f n i 0 = nI 1) (hin : i ≤ n := by assumption) : d + cntC f (i + 1 - 1) = cntC f n + cntC f kp := by
  obtain ⟨j, rfl⟩ : ∃ j, i = j + 1 := ⟨i - 1, by omega⟩
  simp only [lrd, if_pos (show 1 ≤ j + 1 ∧ j + 1 ≤ n from ⟨by omega, hin⟩), Nat.add_sub_cancel, Nat.add_zero] at h hiv ⊢
  rw [show cntC f (j + 1) = cntC f j + (if f (j * 7) = nI 1 then 1 else 0) from rfl, if_neg h]
  exact hiv
theorem los_b {f : Nat → Int32} {d i n kp : Nat} (hi : kp < i) (hi2 : i ≤ n + 1) (hiv : d + cntC f (i - 1) = cntC f n + cntC f kp) (h : lrd f n i 0 = nI 1) (hin : i ≤ n := by assumption) : (d - 1) + cntC f (i + 1 - 1) = cntC f n + cntC f kp := by
  obtain ⟨j, rfl⟩ : ∃ j, i = j + 1 := ⟨i - 1, by omega⟩
  have e : cntC f (j + 1) = cntC f j + 1 := by
    simp only [lrd, if_pos (show 1 ≤ j + 1 ∧ j + 1 ≤ n from ⟨by omega, hin⟩), Nat.add_sub_cancel, Nat.add_zero] at h
    rw [show cntC f (j + 1) = cntC f j + (if f (j * 7) = nI 1 then 1 else 0) from rfl, if_pos h]
  have := cntC_mono f hin
  simp only [Nat.add_sub_cancel] at hiv ⊢
  omega
theorem los_p {f : Nat → Int32} {d i n kp : Nat} (hi : kp < i) (hiv : d + cntC f (i - 1) = cntC f n + cntC f kp) (h : lrd f n i 0 = nI 1) (hin : i ≤ n) : 1 ≤ d := by
  obtain ⟨j, rfl⟩ : ∃ j, i = j + 1 := ⟨i - 1, by omega⟩
  have e : cntC f (j + 1) = cntC f j + 1 := by
    simp only [lrd, if_pos (show 1 ≤ j + 1 ∧ j + 1 ≤ n from ⟨by omega, hin⟩), Nat.add_sub_cancel, Nat.add_zero] at h
    rw [show cntC f (j + 1) = cntC f j + (if f (j * 7) = nI 1 then 1 else 0) from rfl, if_pos h]
  have := cntC_mono f hin
  simp only [Nat.add_sub_cancel] at hiv
  omega
set_option maxHeartbeats 4000000 in
set_option maxRecDepth 100000 in
theorem cL_loseBehind (l : Launch) (D : va_G) (cI : ClassId) (a b cap n fo ch : Nat) (f : Nat → Int32) (k : Nat) (hn : n * 7 ≤ cap) (hcap : cap < 2 ^ 31) (hk : k < 2 ^ 31) (hfn : fo ≤ n) (hch : ch = cntC f n) : Kt l yX0_loseBehind wsX0_loseBehind 2 43 (0) (0) D cI [.ref a, .int (nI k)] ([(a, .inr (0, [.ref b, .int (nI n), .int (nI fo), .int (nI ch)])), (b, .inl (cI, cap, .inl f))]) (pV (fun (u : Unit) => True)) (fun (u : Unit) => [(a, .inr (0, [.ref b, .int (nI (fo + min k (n - fo))), .int (nI (fo + min k (n - fo))), .int (nI (cntC f (fo + min k (n - fo))))])), (b, .inl (cI, cap, .inl f))]) := by
  refine kt_start (cc := cX0_loseBehind) (maxL := 4) (ret := none) (by decide +kernel) rfl (Nat.le_of_ble_eq_true rfl) ?_
  intro p e s m below meth c hx hb hml hr hlk hown hnm hts ls hl hw
  have hown : s.vm.findClass RX0 = some m.cls := hown
  have hl : lv_has ls 4 [(0, .ref a), (1, .int (nI k))] := hl
  have k13 := hts (.fieldLink RX0 13 "RestartBook$Log" "records" "I") (by decide +kernel)
  have k17 := hts (.fieldLink RX0 17 "RestartBook$Log" "forced" "I") (by decide +kernel)
  have k20 := hts (.fieldLink RX0 20 "RestartBook$Log" "changes" "I") (by decide +kernel)
  have hin0 : ∀ w ∈ u_ws RX0 TX0 4, w ∈ wsX0_loseBehind := in_X0_loseBehind
  refine lv_aload_n hx hb dX0_loseBehind_0 rfl (lv_at hl 0 rfl) ?_
  refine ww_get hx hb hts hin0 hown hw 0 rfl rfl 2 (by decide) k17 rfl dX0_loseBehind_1 ?_
  refine lv_iload_n hx hb dX0_loseBehind_4 rfl (lv_at hl 1 rfl) ?_
  refine lv_aload_n hx hb dX0_loseBehind_5 rfl (lv_at hl 0 rfl) ?_
  refine ww_get hx hb hts hin0 hown hw 0 rfl rfl 1 (by decide) k13 rfl dX0_loseBehind_6 ?_
  refine lv_aload_n hx hb dX0_loseBehind_9 rfl (lv_at hl 0 rfl) ?_
  refine ww_get hx hb hts hin0 hown hw 0 rfl rfl 2 (by decide) k17 rfl dX0_loseBehind_10 ?_
  refine lv_isub hx hb dX0_loseBehind_13 ?_
  refine lv_eqi (show _ = nI (n - fo) from pk_sub hfn) ?_
  refine va_mmin hx hb (hml.trans hl.1.symm) hown (hts (.methodLink RX0 37 Lib.Math.min.name) (by decide +kernel)) (hts (.static Lib.Math.min.name) (by decide +kernel)) (hts (.initialized "java/lang/Math") (by decide +kernel)) (hts _ (List.mem_of_getElem? (l := wsX0_loseBehind) (i := 6) rfl)) (Nat.le_of_ble_eq_true rfl) (Nat.le_of_ble_eq_true rfl) (Nat.zero_le _) (Nat.zero_le _) dX0_loseBehind_14 ?_
  refine lv_eqi (show _ = nI (min k (n - fo)) from nI_min (by omega) (by omega)) ?_
  refine lv_iadd hx hb dX0_loseBehind_17 ?_
  refine lv_eqi (show _ = nI (fo + (min k (n - fo))) from nI_add _ _) ?_
  refine lv_istore_n (lv' := [(2, .int (nI (fo + (min k (n - fo))))), (0, .ref a), (1, .int (nI k))]) hx hb dX0_loseBehind_18 rfl hl (by decide) rfl (fun ls hl => ?_)
  refine W.eq (g2 := F0 m 19 ls []) rfl ?_
  refine lv_iload_n hx hb dX0_loseBehind_19 rfl (lv_at hl 0 rfl) ?_
  refine lv_iconst (v := nI 1) hx hb dX0_loseBehind_20 (by decide +kernel) ?_
  refine lv_iadd hx hb dX0_loseBehind_21 ?_
  refine lv_eqi (show _ = nI ((fo + (min k (n - fo))) + 1) from nI_add _ _) ?_
  refine lv_istore_n (lv' := [(3, .int (nI ((fo + (min k (n - fo))) + 1))), (2, .int (nI (fo + (min k (n - fo))))), (0, .ref a), (1, .int (nI k))]) hx hb dX0_loseBehind_22 rfl hl (by decide) rfl (fun ls hl => ?_)
  obtain ⟨kp, hkp⟩ : ∃ kp : Nat, kp = fo + min k (n - fo) := ⟨_, rfl⟩
  rw [← hkp] at hl
  have lp : ∀ (t : Nat) (i : Nat) (d : Nat) (H : Heap) (locs : List Loc) (ls : Array Slot), n + 1 - i < t → kp < i → i ≤ n + 1 → d + cntC f (i - 1) = cntC f n + cntC f kp → ww D cI (va_A ([(a, .inr (0, [.ref b, .int (nI n), .int (nI fo), .int (nI ch)])), (b, .inl (cI, cap, .inl f))]) s.heap.size) s.heap s ([(a, .inr (0, [.ref b, .int (nI n), .int (nI fo), .int (nI d)])), (b, .inl (cI, cap, .inl f))]) H locs → lv_has ls 4 [(3, .int (nI i)), (2, .int (nI kp)), (0, .ref a), (1, .int (nI k))] → W p l e { frames := 2, cells := 0, slots := 0, locals := 43 } s m [.ref a, .int (nI k)].toArray below meth c H locs (0) (0) (MQ below (kQ D cI ([(a, .inr (0, [.ref b, .int (nI n), .int (nI fo), .int (nI ch)])), (b, .inl (cI, cap, .inl f))]) s.heap.size (pV (fun (u : Unit) => True)) (fun (u : Unit) => [(a, .inr (0, [.ref b, .int (nI (fo + min k (n - fo))), .int (nI (fo + min k (n - fo))), .int (nI (cntC f (fo + min k (n - fo))))])), (b, .inl (cI, cap, .inl f))])) [.ref a, .int (nI k)].toArray s (0) (0) (va_A ([(a, .inr (0, [.ref b, .int (nI n), .int (nI fo), .int (nI ch)])), (b, .inl (cI, cap, .inl f))]) s.heap.size)) (F0 m 23 ls []) := by
    intro t
    induction t with
    | zero => intro i d H locs ls ht; exact absurd ht (Nat.not_lt_zero _)
    | succ t ih_23 =>
      intro i d H locs ls ht hi hi2 hiv hw hl
      refine lv_iload_n hx hb dX0_loseBehind_23 rfl (lv_at hl 0 rfl) ?_
      refine lv_aload_n hx hb dX0_loseBehind_24 rfl (lv_at hl 2 rfl) ?_
      refine ww_get hx hb hts hin0 hown hw 0 rfl rfl 1 (by decide) k13 rfl dX0_loseBehind_25 ?_
      refine lv_icmp_gt (tgt := 57) hx hb dX0_loseBehind_28 (by decide) (fun c_28 => ?_) (fun c_28 => ?_)
      · have hie : i = n + 1 := by simp (disch := omega) only [i_lt, nI_toInt] at c_28; omega
        have hd : d = cntC f kp := by rw [hie, Nat.add_sub_cancel] at hiv; omega
        subst hd
        refine lv_aload_n hx hb dX0_loseBehind_57 rfl (lv_at hl 2 rfl) ?_
        refine lv_iload_n hx hb dX0_loseBehind_58 rfl (lv_at hl 1 rfl) ?_
        refine ww_put (ws' := [(a, .inr (0, [.ref b, .int (nI kp), .int (nI fo), .int (nI (cntC f kp))])), (b, .inl (cI, cap, .inl f))]) hx hb hts hin0 tyX0 tyX0_ok nmX0 hown hw 0 rfl rfl 1 (by decide) k13 rfl rfl rfl (Nat.le_of_ble_eq_true rfl) rfl dX0_loseBehind_59 (fun H locs hw => ?_)
        refine lv_aload_n hx hb dX0_loseBehind_62 rfl (lv_at hl 2 rfl) ?_
        refine lv_iload_n hx hb dX0_loseBehind_63 rfl (lv_at hl 1 rfl) ?_
        refine ww_put (ws' := [(a, .inr (0, [.ref b, .int (nI kp), .int (nI kp), .int (nI (cntC f kp))])), (b, .inl (cI, cap, .inl f))]) hx hb hts hin0 tyX0 tyX0_ok nmX0 hown hw 0 rfl rfl 2 (by decide) k17 rfl rfl rfl (Nat.le_of_ble_eq_true rfl) rfl dX0_loseBehind_64 (fun H locs hw => ?_)
        subst hkp
        exact ww_vret (u := ()) hx hb hr hlk hw (trivial) (Nat.le_of_ble_eq_true rfl) (Nat.le_of_ble_eq_true rfl) rfl dX0_loseBehind_67
      · have hin : i ≤ n := by simp (disch := omega) only [i_lt, nI_toInt] at c_28; omega
        refine lv_aload_n hx hb dX0_loseBehind_31 rfl (lv_at hl 2 rfl) ?_
        refine lv_iload_n hx hb dX0_loseBehind_32 rfl (lv_at hl 0 rfl) ?_
        refine lv_iconst (v := nI 0) hx hb dX0_loseBehind_33 (by decide +kernel) ?_
        refine ww_callV ([]) ([]) (As := [.int (nI i), .int (nI 0)]) (rest := []) ⟨hx, hb, hml, hown, hts⟩ (cL_read l D cI a b cap n fo d f i 0 (by omega) (by omega) (by omega) (by omega)) gX0_loseBehind_X0_read rfl hd_X0_read ⟨Nat.le_of_ble_eq_true rfl, Nat.le_of_ble_eq_true rfl⟩ hw rfl rfl rfl rfl rfl hl.1 (Nat.le_of_ble_eq_true rfl) dX0_loseBehind_34 ⟨Nat.le_of_ble_eq_true rfl, Nat.le_of_ble_eq_true rfl⟩ (fun v u H locs hq hw => ?_)
        obtain ⟨r, rfl, hq⟩ := hq
        subst hq
        have hw : ww D cI _ _ s ([(a, .inr (0, [.ref b, .int (nI n), .int (nI fo), .int (nI d)])), (b, .inl (cI, cap, .inl f))]) H locs := hw
        refine W.eq (g2 := F0 m 37 ls [.int (lrd f n i 0)]) rfl ?_
        refine lv_iconst (v := nI 1) hx hb dX0_loseBehind_37 (by decide +kernel) ?_
        refine lv_icmp_ne (tgt := 51) hx hb dX0_loseBehind_38 (by decide) (fun c_38 => ?_) (fun c_38 => ?_)
        · refine lv_iinc (v := nI (i + 1)) (lv' := [(3, .int (nI (i + 1))), (2, .int (nI kp)), (0, .ref a), (1, .int (nI k))]) hx hb dX0_loseBehind_51 hl (k := 0) rfl (nI_add _ _) (by decide) rfl (fun ls hl => ?_)
          refine lv_goto (tgt := 23) hx hb dX0_loseBehind_54 (by decide) ?_
          exact ih_23 (i + 1) d _ _ _ (by omega) (by omega) (by omega) (by first | exact los_a hi hi2 hiv c_38 | exact los_b hi hi2 hiv c_38) hw (lv_sub hl [0, 1, 2, 3] rfl)
        · refine lv_aload_n hx hb dX0_loseBehind_41 rfl (lv_at hl 2 rfl) ?_
          refine lv_dup hx hb dX0_loseBehind_42 rfl ?_
          refine ww_get hx hb hts hin0 hown hw 0 rfl rfl 3 (by decide) k20 rfl dX0_loseBehind_43 ?_
          refine lv_iconst (v := nI 1) hx hb dX0_loseBehind_46 (by decide +kernel) ?_
          refine lv_isub hx hb dX0_loseBehind_47 ?_
          refine lv_eqi (show _ = nI (d - 1) from pk_sub (los_p hi hiv c_38 hin)) ?_
          refine ww_put (ws' := [(a, .inr (0, [.ref b, .int (nI n), .int (nI fo), .int (nI (d - 1))])), (b, .inl (cI, cap, .inl f))]) hx hb hts hin0 tyX0 tyX0_ok nmX0 hown hw 0 rfl rfl 3 (by decide) k20 rfl rfl rfl (Nat.le_of_ble_eq_true rfl) rfl dX0_loseBehind_48 (fun H locs hw => ?_)
          refine lv_iinc (v := nI (i + 1)) (lv' := [(3, .int (nI (i + 1))), (2, .int (nI kp)), (0, .ref a), (1, .int (nI k))]) hx hb dX0_loseBehind_51 hl (k := 0) rfl (nI_add _ _) (by decide) rfl (fun ls hl => ?_)
          refine lv_goto (tgt := 23) hx hb dX0_loseBehind_54 (by decide) ?_
          exact ih_23 (i + 1) (d - 1) _ _ _ (by omega) (by omega) (by omega) (by first | exact los_a hi hi2 hiv c_38 | exact los_b hi hi2 hiv c_38) hw (lv_sub hl [0, 1, 2, 3] rfl)
  exact lp ((n + 1 - (kp + 1)) + 1) (kp + 1) ch _ _ _ (Nat.lt_succ_self _) (by omega) (by omega) (by rw [hch]; rfl) hw (lv_sub hl [0, 1, 2, 3] rfl)
