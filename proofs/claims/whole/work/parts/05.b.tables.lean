/-! RestartBook.Tables: slots -/
set_option maxRecDepth 20000 in
theorem in_X2_isFull : ∀ w ∈ u_ws RX2 TX2 6, w ∈ wsX2_isFull := by
  intro w h
  show w ∈ wsX2_isFull
  simp only [wsX2_isFull, List.mem_cons, List.mem_append]
  simp only [h, true_or, or_true]
set_option maxRecDepth 20000 in
theorem in_X2_workAt : ∀ w ∈ u_ws RX2 TX2 6, w ∈ wsX2_workAt := by
  intro w h
  show w ∈ wsX2_workAt
  simp only [wsX2_workAt, List.mem_cons, List.mem_append]
  simp only [h, true_or, or_true]
set_option maxRecDepth 20000 in
theorem in_X2_stateOf : ∀ w ∈ u_ws RX2 TX2 6, w ∈ wsX2_stateOf := by
  intro w h
  show w ∈ wsX2_stateOf
  simp only [wsX2_stateOf, List.mem_cons, List.mem_append]
  simp only [h, true_or, or_true]
set_option maxRecDepth 20000 in
theorem in_X2_lastOf : ∀ w ∈ u_ws RX2 TX2 6, w ∈ wsX2_lastOf := by
  intro w h
  show w ∈ wsX2_lastOf
  simp only [wsX2_lastOf, List.mem_cons, List.mem_append]
  simp only [h, true_or, or_true]
set_option maxRecDepth 20000 in
theorem in_X2_nextOf : ∀ w ∈ u_ws RX2 TX2 6, w ∈ wsX2_nextOf := by
  intro w h
  show w ∈ wsX2_nextOf
  simp only [wsX2_nextOf, List.mem_cons, List.mem_append]
  simp only [h, true_or, or_true]
set_option maxRecDepth 20000 in
theorem in_X2_setState : ∀ w ∈ u_ws RX2 TX2 6, w ∈ wsX2_setState := by
  intro w h
  show w ∈ wsX2_setState
  simp only [wsX2_setState, List.mem_cons, List.mem_append]
  simp only [h, true_or, or_true]
set_option maxRecDepth 20000 in
theorem in_X2_setLast : ∀ w ∈ u_ws RX2 TX2 6, w ∈ wsX2_setLast := by
  intro w h
  show w ∈ wsX2_setLast
  simp only [wsX2_setLast, List.mem_cons, List.mem_append]
  simp only [h, true_or, or_true]
set_option maxRecDepth 20000 in
theorem in_X2_setNext : ∀ w ∈ u_ws RX2 TX2 6, w ∈ wsX2_setNext := by
  intro w h
  show w ∈ wsX2_setNext
  simp only [wsX2_setNext, List.mem_cons, List.mem_append]
  simp only [h, true_or, or_true]
set_option maxRecDepth 20000 in
theorem in_X2_bringIn : ∀ w ∈ u_ws RX2 TX2 6, w ∈ wsX2_bringIn := by
  intro w h
  show w ∈ wsX2_bringIn
  simp only [wsX2_bringIn, List.mem_cons, List.mem_append]
  simp only [h, true_or, or_true]
set_option maxRecDepth 20000 in
theorem in_X2_takeOut : ∀ w ∈ u_ws RX2 TX2 6, w ∈ wsX2_takeOut := by
  intro w h
  show w ∈ wsX2_takeOut
  simp only [wsX2_takeOut, List.mem_cons, List.mem_append]
  simp only [h, true_or, or_true]
set_option maxRecDepth 20000 in
theorem in_X2_leastWorkIn : ∀ w ∈ u_ws RX2 TX2 6, w ∈ wsX2_leastWorkIn := by
  intro w h
  show w ∈ wsX2_leastWorkIn
  simp only [wsX2_leastWorkIn, List.mem_cons, List.mem_append]
  simp only [h, true_or, or_true]
set_option maxRecDepth 20000 in
theorem in_X2_workToUndo : ∀ w ∈ u_ws RX2 TX2 6, w ∈ wsX2_workToUndo := by
  intro w h
  show w ∈ wsX2_workToUndo
  simp only [wsX2_workToUndo, List.mem_cons, List.mem_append]
  simp only [h, true_or, or_true]
set_option maxRecDepth 20000 in
theorem in_X2_baseOf : ∀ w ∈ u_ws RX2 TX2 6, w ∈ wsX2_baseOf := by
  intro w h
  show w ∈ wsX2_baseOf
  simp only [wsX2_baseOf, List.mem_cons, List.mem_append]
  simp only [h, true_or, or_true]
set_option maxRecDepth 20000 in
theorem in_X2_makeDirty : ∀ w ∈ u_ws RX2 TX2 6, w ∈ wsX2_makeDirty := by
  intro w h
  show w ∈ wsX2_makeDirty
  simp only [wsX2_makeDirty, List.mem_cons, List.mem_append]
  simp only [h, true_or, or_true]
set_option maxRecDepth 20000 in
theorem in_X2_makeClean : ∀ w ∈ u_ws RX2 TX2 6, w ∈ wsX2_makeClean := by
  intro w h
  show w ∈ wsX2_makeClean
  simp only [wsX2_makeClean, List.mem_cons, List.mem_append]
  simp only [h, true_or, or_true]
set_option maxRecDepth 20000 in
theorem in_X2_leastBase : ∀ w ∈ u_ws RX2 TX2 6, w ∈ wsX2_leastBase := by
  intro w h
  show w ∈ wsX2_leastBase
  simp only [wsX2_leastBase, List.mem_cons, List.mem_append]
  simp only [h, true_or, or_true]
set_option maxRecDepth 20000 in
theorem in_X2_makeEmpty : ∀ w ∈ u_ws RX2 TX2 6, w ∈ wsX2_makeEmpty := by
  intro w h
  show w ∈ wsX2_makeEmpty
  simp only [wsX2_makeEmpty, List.mem_cons, List.mem_append]
  simp only [h, true_or, or_true]
set_option maxRecDepth 20000 in
theorem in_X2_bringInMissing : ∀ w ∈ u_ws RX2 TX2 6, w ∈ wsX2_bringInMissing := by
  intro w h
  show w ∈ wsX2_bringInMissing
  simp only [wsX2_bringInMissing, List.mem_cons, List.mem_append]
  simp only [h, true_or, or_true]
set_option maxRecDepth 20000 in
theorem in_X2_slotOf : ∀ w ∈ u_ws RX2 TX2 6, w ∈ wsX2_slotOf := by
  intro w h
  show w ∈ wsX2_slotOf
  simp only [wsX2_slotOf, List.mem_cons, List.mem_append]
  simp only [h, true_or, or_true]
set_option maxRecDepth 20000 in
theorem in_X2_copySlot : ∀ w ∈ u_ws RX2 TX2 6, w ∈ wsX2_copySlot := by
  intro w h
  show w ∈ wsX2_copySlot
  simp only [wsX2_copySlot, List.mem_cons, List.mem_append]
  simp only [h, true_or, or_true]
set_option maxRecDepth 20000 in
theorem in_X2_init : ∀ w ∈ u_ws RX2 TX2 6, w ∈ wsX2_init := by
  intro w h
  show w ∈ wsX2_init
  simp only [wsX2_init, List.mem_cons, List.mem_append]
  simp only [h, true_or, or_true]
theorem hd_X2_isFull : yX2_isFull.cls = RX2 ∧ yX2_isFull.cls ≠ "java/lang/invoke/MethodHandle" ∧ yX2_isFull.cls ≠ "java/lang/invoke/VarHandle" ∧ (parseMethodDescriptor yX2_isFull.desc).map (fun d => d.parameters.length) = some 0 := by decide +kernel
theorem hd_X2_holds : yX2_holds.cls = RX2 ∧ yX2_holds.cls ≠ "java/lang/invoke/MethodHandle" ∧ yX2_holds.cls ≠ "java/lang/invoke/VarHandle" ∧ (parseMethodDescriptor yX2_holds.desc).map (fun d => d.parameters.length) = some 1 := by decide +kernel
theorem hd_X2_workAt : yX2_workAt.cls = RX2 ∧ yX2_workAt.cls ≠ "java/lang/invoke/MethodHandle" ∧ yX2_workAt.cls ≠ "java/lang/invoke/VarHandle" ∧ (parseMethodDescriptor yX2_workAt.desc).map (fun d => d.parameters.length) = some 1 := by decide +kernel
theorem hd_X2_stateOf : yX2_stateOf.cls = RX2 ∧ yX2_stateOf.cls ≠ "java/lang/invoke/MethodHandle" ∧ yX2_stateOf.cls ≠ "java/lang/invoke/VarHandle" ∧ (parseMethodDescriptor yX2_stateOf.desc).map (fun d => d.parameters.length) = some 1 := by decide +kernel
theorem hd_X2_lastOf : yX2_lastOf.cls = RX2 ∧ yX2_lastOf.cls ≠ "java/lang/invoke/MethodHandle" ∧ yX2_lastOf.cls ≠ "java/lang/invoke/VarHandle" ∧ (parseMethodDescriptor yX2_lastOf.desc).map (fun d => d.parameters.length) = some 1 := by decide +kernel
theorem hd_X2_nextOf : yX2_nextOf.cls = RX2 ∧ yX2_nextOf.cls ≠ "java/lang/invoke/MethodHandle" ∧ yX2_nextOf.cls ≠ "java/lang/invoke/VarHandle" ∧ (parseMethodDescriptor yX2_nextOf.desc).map (fun d => d.parameters.length) = some 1 := by decide +kernel
theorem hd_X2_setState : yX2_setState.cls = RX2 ∧ yX2_setState.cls ≠ "java/lang/invoke/MethodHandle" ∧ yX2_setState.cls ≠ "java/lang/invoke/VarHandle" ∧ (parseMethodDescriptor yX2_setState.desc).map (fun d => d.parameters.length) = some 2 := by decide +kernel
theorem hd_X2_setLast : yX2_setLast.cls = RX2 ∧ yX2_setLast.cls ≠ "java/lang/invoke/MethodHandle" ∧ yX2_setLast.cls ≠ "java/lang/invoke/VarHandle" ∧ (parseMethodDescriptor yX2_setLast.desc).map (fun d => d.parameters.length) = some 2 := by decide +kernel
theorem hd_X2_setNext : yX2_setNext.cls = RX2 ∧ yX2_setNext.cls ≠ "java/lang/invoke/MethodHandle" ∧ yX2_setNext.cls ≠ "java/lang/invoke/VarHandle" ∧ (parseMethodDescriptor yX2_setNext.desc).map (fun d => d.parameters.length) = some 2 := by decide +kernel
theorem hd_X2_bringIn : yX2_bringIn.cls = RX2 ∧ yX2_bringIn.cls ≠ "java/lang/invoke/MethodHandle" ∧ yX2_bringIn.cls ≠ "java/lang/invoke/VarHandle" ∧ (parseMethodDescriptor yX2_bringIn.desc).map (fun d => d.parameters.length) = some 1 := by decide +kernel
theorem hd_X2_takeOut : yX2_takeOut.cls = RX2 ∧ yX2_takeOut.cls ≠ "java/lang/invoke/MethodHandle" ∧ yX2_takeOut.cls ≠ "java/lang/invoke/VarHandle" ∧ (parseMethodDescriptor yX2_takeOut.desc).map (fun d => d.parameters.length) = some 1 := by decide +kernel
theorem hd_X2_leastWorkIn : yX2_leastWorkIn.cls = RX2 ∧ yX2_leastWorkIn.cls ≠ "java/lang/invoke/MethodHandle" ∧ yX2_leastWorkIn.cls ≠ "java/lang/invoke/VarHandle" ∧ (parseMethodDescriptor yX2_leastWorkIn.desc).map (fun d => d.parameters.length) = some 1 := by decide +kernel
theorem hd_X2_workToUndo : yX2_workToUndo.cls = RX2 ∧ yX2_workToUndo.cls ≠ "java/lang/invoke/MethodHandle" ∧ yX2_workToUndo.cls ≠ "java/lang/invoke/VarHandle" ∧ (parseMethodDescriptor yX2_workToUndo.desc).map (fun d => d.parameters.length) = some 0 := by decide +kernel
theorem hd_X2_baseOf : yX2_baseOf.cls = RX2 ∧ yX2_baseOf.cls ≠ "java/lang/invoke/MethodHandle" ∧ yX2_baseOf.cls ≠ "java/lang/invoke/VarHandle" ∧ (parseMethodDescriptor yX2_baseOf.desc).map (fun d => d.parameters.length) = some 1 := by decide +kernel
theorem hd_X2_makeDirty : yX2_makeDirty.cls = RX2 ∧ yX2_makeDirty.cls ≠ "java/lang/invoke/MethodHandle" ∧ yX2_makeDirty.cls ≠ "java/lang/invoke/VarHandle" ∧ (parseMethodDescriptor yX2_makeDirty.desc).map (fun d => d.parameters.length) = some 2 := by decide +kernel
theorem hd_X2_makeClean : yX2_makeClean.cls = RX2 ∧ yX2_makeClean.cls ≠ "java/lang/invoke/MethodHandle" ∧ yX2_makeClean.cls ≠ "java/lang/invoke/VarHandle" ∧ (parseMethodDescriptor yX2_makeClean.desc).map (fun d => d.parameters.length) = some 1 := by decide +kernel
theorem hd_X2_leastBase : yX2_leastBase.cls = RX2 ∧ yX2_leastBase.cls ≠ "java/lang/invoke/MethodHandle" ∧ yX2_leastBase.cls ≠ "java/lang/invoke/VarHandle" ∧ (parseMethodDescriptor yX2_leastBase.desc).map (fun d => d.parameters.length) = some 0 := by decide +kernel
theorem hd_X2_makeEmpty : yX2_makeEmpty.cls = RX2 ∧ yX2_makeEmpty.cls ≠ "java/lang/invoke/MethodHandle" ∧ yX2_makeEmpty.cls ≠ "java/lang/invoke/VarHandle" ∧ (parseMethodDescriptor yX2_makeEmpty.desc).map (fun d => d.parameters.length) = some 0 := by decide +kernel
theorem hd_X2_becomeLike : yX2_becomeLike.cls = RX2 ∧ yX2_becomeLike.cls ≠ "java/lang/invoke/MethodHandle" ∧ yX2_becomeLike.cls ≠ "java/lang/invoke/VarHandle" ∧ (parseMethodDescriptor yX2_becomeLike.desc).map (fun d => d.parameters.length) = some 1 := by decide +kernel
theorem hd_X2_bringInMissing : yX2_bringInMissing.cls = RX2 ∧ yX2_bringInMissing.cls ≠ "java/lang/invoke/MethodHandle" ∧ yX2_bringInMissing.cls ≠ "java/lang/invoke/VarHandle" ∧ (parseMethodDescriptor yX2_bringInMissing.desc).map (fun d => d.parameters.length) = some 1 := by decide +kernel
theorem hd_X2_slotOf : yX2_slotOf.cls = RX2 ∧ yX2_slotOf.cls ≠ "java/lang/invoke/MethodHandle" ∧ yX2_slotOf.cls ≠ "java/lang/invoke/VarHandle" ∧ (parseMethodDescriptor yX2_slotOf.desc).map (fun d => d.parameters.length) = some 1 := by decide +kernel
theorem hd_X2_copySlot : yX2_copySlot.cls = RX2 ∧ yX2_copySlot.cls ≠ "java/lang/invoke/MethodHandle" ∧ yX2_copySlot.cls ≠ "java/lang/invoke/VarHandle" ∧ (parseMethodDescriptor yX2_copySlot.desc).map (fun d => d.parameters.length) = some 2 := by decide +kernel
theorem nI_nm1 {i : Nat} (h : i < 2 ^ 31) : ¬ nI i = -1 := by
  intro q
  rw [i_eq, nI_toInt h, z_m1] at q
  omega
theorem TR_mem {v : TW} {T : TF} (h : TR v T) {i : Nat} (hi : i < v.1) : ∃ w : Nat, w ≤ 200 ∧ v.2.1 i = nI w ∧ (T w).1 ≠ 0 := by
  obtain ⟨-, wl, h1, -, -⟩ := h
  exact ⟨wl i, (h1 i hi).2.2.1, (h1 i hi).1.1, (h1 i hi).2.2.2⟩
theorem TR_setS {v : TW} {T : TF} (h : TR v T) {w i s : Nat} (hwb : w < 2 ^ 31) (hi : i < v.1) (he : v.2.1 i = nI w) (hs : s ≠ 0) : TR (v.1, v.2.1, upd v.2.2.1 i (nI s), v.2.2.2.1, v.2.2.2.2) (va_up T w (s, (T w).2.1, (T w).2.2)) :=
  TR_upd h hwb hi he hs rfl (fun _ _ => rfl) (fun _ _ => rfl) (fun j _ => by split; (rename_i e; rw [e]; exact (TR_at h hwb hi he).2.2.2.2.1); rfl) (fun j _ => by split; (rename_i e; rw [e]; exact (TR_at h hwb hi he).2.2.2.2.2); rfl)
theorem TR_setL {v : TW} {T : TF} (h : TR v T) {w i s : Nat} (hwb : w < 2 ^ 31) (hi : i < v.1) (he : v.2.1 i = nI w) : TR (v.1, v.2.1, v.2.2.1, upd v.2.2.2.1 i (nI s), v.2.2.2.2) (va_up T w ((T w).1, s, (T w).2.2)) :=
  TR_upd h hwb hi he (TR_at h hwb hi he).2.2.1 rfl (fun _ _ => rfl) (fun j _ => by split; (rename_i e; rw [e]; exact (TR_at h hwb hi he).2.2.2.1); rfl) (fun _ _ => rfl) (fun j _ => by split; (rename_i e; rw [e]; exact (TR_at h hwb hi he).2.2.2.2.2); rfl)
theorem TR_setN {v : TW} {T : TF} (h : TR v T) {w i s : Nat} (hwb : w < 2 ^ 31) (hi : i < v.1) (he : v.2.1 i = nI w) : TR (v.1, v.2.1, v.2.2.1, v.2.2.2.1, upd v.2.2.2.2 i (nI s)) (va_up T w ((T w).1, (T w).2.1, s)) :=
  TR_upd h hwb hi he (TR_at h hwb hi he).2.2.1 rfl (fun _ _ => rfl) (fun j _ => by split; (rename_i e; rw [e]; exact (TR_at h hwb hi he).2.2.2.1); rfl) (fun j _ => by split; (rename_i e; rw [e]; exact (TR_at h hwb hi he).2.2.2.2.1); rfl) (fun _ _ => rfl)
set_option maxHeartbeats 4000000 in
set_option maxRecDepth 100000 in
theorem cT_slotOf (l : Launch) (D : va_G) (cI : ClassId) (a a1 a2 a3 a4 a5 : Nat) (v : TW) (fb : Nat → Int32) (x : Int32) (hv : v.1 ≤ 16) : Kt l yX2_slotOf wsX2_slotOf 0 0 (0) (0) D cI [.ref a, .int x] ([(a, .inr (2, [.int (nI v.1), .ref a1, .ref a2, .ref a3, .ref a4, .ref a5])), (a1, .inl (cI, 16, .inl v.2.1)), (a2, .inl (cI, 16, .inl v.2.2.1)), (a3, .inl (cI, 16, .inl v.2.2.2.1)), (a4, .inl (cI, 16, .inl v.2.2.2.2)), (a5, .inl (cI, 64, .inl fb))]) (pI (fun (r : Int32) (u : Unit) => (∃ i, i < v.1 ∧ v.2.1 i = x ∧ r = nI i) ∨ ((∀ i, i < v.1 → v.2.1 i ≠ x) ∧ r = -1))) (fun (u : Unit) => [(a, .inr (2, [.int (nI v.1), .ref a1, .ref a2, .ref a3, .ref a4, .ref a5])), (a1, .inl (cI, 16, .inl v.2.1)), (a2, .inl (cI, 16, .inl v.2.2.1)), (a3, .inl (cI, 16, .inl v.2.2.2.1)), (a4, .inl (cI, 16, .inl v.2.2.2.2)), (a5, .inl (cI, 64, .inl fb))]) := by
  refine kt_start (cc := cX2_slotOf) (maxL := 3) (ret := (some .int)) (by decide +kernel) rfl (Nat.le_of_ble_eq_true rfl) ?_
  intro p e s m below meth c hx hb hml hr hlk hown hnm hts ls hl hw
  have hown : s.vm.findClass RX2 = some m.cls := hown
  have hl : lv_has ls 3 [(0, .ref a), (1, .int x)] := hl
  have k7 := hts (.fieldLink RX2 7 "RestartBook$Tables" "size" "I") (by decide +kernel)
  have k13 := hts (.fieldLink RX2 13 "RestartBook$Tables" "works" "[I") (by decide +kernel)
  have hin2 : ∀ w ∈ u_ws RX2 TX2 6, w ∈ wsX2_slotOf := in_X2_slotOf
  refine lv_iconst (v := nI 0) hx hb dX2_slotOf_0 (by decide +kernel) ?_
  refine lv_istore_n (lv' := [(2, .int (nI 0)), (0, .ref a), (1, .int x)]) hx hb dX2_slotOf_1 rfl hl (by decide) rfl (fun ls hl => ?_)
  have lp : ∀ (t : Nat) (i : Nat) (H : Heap) (locs : List Loc) (ls : Array Slot), v.1 - i < t → (i ≤ v.1) → (∀ j, j < i → v.2.1 j ≠ x) → ww D cI (va_A ([(a, .inr (2, [.int (nI v.1), .ref a1, .ref a2, .ref a3, .ref a4, .ref a5])), (a1, .inl (cI, 16, .inl v.2.1)), (a2, .inl (cI, 16, .inl v.2.2.1)), (a3, .inl (cI, 16, .inl v.2.2.2.1)), (a4, .inl (cI, 16, .inl v.2.2.2.2)), (a5, .inl (cI, 64, .inl fb))]) s.heap.size) s.heap s ([(a, .inr (2, [.int (nI v.1), .ref a1, .ref a2, .ref a3, .ref a4, .ref a5])), (a1, .inl (cI, 16, .inl v.2.1)), (a2, .inl (cI, 16, .inl v.2.2.1)), (a3, .inl (cI, 16, .inl v.2.2.2.1)), (a4, .inl (cI, 16, .inl v.2.2.2.2)), (a5, .inl (cI, 64, .inl fb))]) H locs → lv_has ls 3 [(2, .int (nI i)), (0, .ref a), (1, .int x)] → W p l e { frames := 0, cells := 0, slots := 0, locals := 0 } s m [.ref a, .int x].toArray below meth c H locs (0) (0) (MQ below (kQ D cI ([(a, .inr (2, [.int (nI v.1), .ref a1, .ref a2, .ref a3, .ref a4, .ref a5])), (a1, .inl (cI, 16, .inl v.2.1)), (a2, .inl (cI, 16, .inl v.2.2.1)), (a3, .inl (cI, 16, .inl v.2.2.2.1)), (a4, .inl (cI, 16, .inl v.2.2.2.2)), (a5, .inl (cI, 64, .inl fb))]) s.heap.size (pI (fun (r : Int32) (u : Unit) => (∃ i, i < v.1 ∧ v.2.1 i = x ∧ r = nI i) ∨ ((∀ i, i < v.1 → v.2.1 i ≠ x) ∧ r = -1))) (fun (u : Unit) => [(a, .inr (2, [.int (nI v.1), .ref a1, .ref a2, .ref a3, .ref a4, .ref a5])), (a1, .inl (cI, 16, .inl v.2.1)), (a2, .inl (cI, 16, .inl v.2.2.1)), (a3, .inl (cI, 16, .inl v.2.2.2.1)), (a4, .inl (cI, 16, .inl v.2.2.2.2)), (a5, .inl (cI, 64, .inl fb))])) [.ref a, .int x].toArray s (0) (0) (va_A ([(a, .inr (2, [.int (nI v.1), .ref a1, .ref a2, .ref a3, .ref a4, .ref a5])), (a1, .inl (cI, 16, .inl v.2.1)), (a2, .inl (cI, 16, .inl v.2.2.1)), (a3, .inl (cI, 16, .inl v.2.2.2.1)), (a4, .inl (cI, 16, .inl v.2.2.2.2)), (a5, .inl (cI, 64, .inl fb))]) s.heap.size)) (F0 m 2 ls []) := by
    intro t
    induction t with
    | zero => intro i H locs ls ht; exact absurd ht (Nat.not_lt_zero _)
    | succ t ih_2 =>
      intro i H locs ls ht hi0 hno hw hl
      refine lv_iload_n hx hb dX2_slotOf_2 rfl (lv_at hl 0 rfl) ?_
      refine lv_aload_n hx hb dX2_slotOf_3 rfl (lv_at hl 1 rfl) ?_
      refine ww_get hx hb hts hin2 hown hw 0 rfl rfl 0 (by decide) k7 rfl dX2_slotOf_4 ?_
      refine lv_icmp_ge (tgt := 28) hx hb dX2_slotOf_7 (by decide) (fun c_7 => ?_) (fun c_7 => ?_)
      · refine lv_iconst (v := (-1)) hx hb dX2_slotOf_28 (by decide +kernel) ?_
        exact ww_iret (u := ()) hx hb hr hlk hw (Or.inr ⟨fun j hj => hno j (by simp (disch := omega) only [i_le, nI_toInt] at c_7; omega), rfl⟩) (Nat.le_of_ble_eq_true rfl) (Nat.le_of_ble_eq_true rfl) dX2_slotOf_29
      · have hi : i < v.1 := by simp (disch := omega) only [i_le, nI_toInt] at c_7; omega
        refine lv_aload_n hx hb dX2_slotOf_10 rfl (lv_at hl 1 rfl) ?_
        refine ww_get hx hb hts hin2 hown hw 0 rfl rfl 1 (by decide) k13 rfl dX2_slotOf_11 ?_
        refine lv_iload_n hx hb dX2_slotOf_14 rfl (lv_at hl 0 rfl) ?_
        refine ww_iald hx hb hw 1 rfl i rfl (by omega) (by omega) dX2_slotOf_15 ?_
        refine lv_iload_n hx hb dX2_slotOf_16 rfl (lv_at hl 2 rfl) ?_
        refine lv_icmp_ne (tgt := 22) hx hb dX2_slotOf_17 (by decide) (fun c_17 => ?_) (fun c_17 => ?_)
        · refine lv_iinc (v := nI (i + 1)) (lv' := [(2, .int (nI (i + 1))), (0, .ref a), (1, .int x)]) hx hb dX2_slotOf_22 hl (k := 0) rfl (nI_add _ _) (by decide) rfl (fun ls hl => ?_)
          refine lv_goto (tgt := 2) hx hb dX2_slotOf_25 (by decide) ?_
          exact ih_2 (i + 1) _ _ _ (by omega) (by omega) (fun j hj => (Nat.lt_succ_iff_lt_or_eq.mp hj).elim (hno j) (fun e => by rw [e]; exact c_17)) hw (lv_sub hl [0, 1, 2] rfl)
        · refine lv_iload_n hx hb dX2_slotOf_20 rfl (lv_at hl 0 rfl) ?_
          exact ww_iret (u := ()) hx hb hr hlk hw (Or.inl ⟨i, hi, c_17, rfl⟩) (Nat.le_of_ble_eq_true rfl) (Nat.le_of_ble_eq_true rfl) dX2_slotOf_21
  exact lp ((v.1 - (0)) + 1) 0 _ _ _ (Nat.lt_succ_self _) (Nat.zero_le _) (fun j hj => absurd hj (Nat.not_lt_zero _)) hw (lv_sub hl [0, 1, 2] rfl)
set_option maxHeartbeats 4000000 in
set_option maxRecDepth 100000 in
theorem cT_copySlot (l : Launch) (D : va_G) (cI : ClassId) (a a1 a2 a3 a4 a5 : Nat) (v : TW) (fb : Nat → Int32) (sz i j : Nat) (hi : i < 16) (hj : j < 16) : Kt l yX2_copySlot wsX2_copySlot 0 0 (0) (0) D cI [.ref a, .int (nI i), .int (nI j)] ([(a, .inr (2, [.int (nI sz), .ref a1, .ref a2, .ref a3, .ref a4, .ref a5])), (a1, .inl (cI, 16, .inl v.2.1)), (a2, .inl (cI, 16, .inl v.2.2.1)), (a3, .inl (cI, 16, .inl v.2.2.2.1)), (a4, .inl (cI, 16, .inl v.2.2.2.2)), (a5, .inl (cI, 64, .inl fb))]) (pV (fun (u : Unit) => True)) (fun (u : Unit) => [(a, .inr (2, [.int (nI sz), .ref a1, .ref a2, .ref a3, .ref a4, .ref a5])), (a1, .inl (cI, 16, .inl (upd v.2.1 j (v.2.1 i)))), (a2, .inl (cI, 16, .inl (upd v.2.2.1 j (v.2.2.1 i)))), (a3, .inl (cI, 16, .inl (upd v.2.2.2.1 j (v.2.2.2.1 i)))), (a4, .inl (cI, 16, .inl (upd v.2.2.2.2 j (v.2.2.2.2 i)))), (a5, .inl (cI, 64, .inl fb))]) := by
  refine kt_start (cc := cX2_copySlot) (maxL := 3) (ret := none) (by decide +kernel) rfl (Nat.le_of_ble_eq_true rfl) ?_
  intro p e s m below meth c hx hb hml hr hlk hown hnm hts ls hl hw
  have hown : s.vm.findClass RX2 = some m.cls := hown
  have hl : lv_has ls 3 [(0, .ref a), (1, .int (nI i)), (2, .int (nI j))] := hl
  have k13 := hts (.fieldLink RX2 13 "RestartBook$Tables" "works" "[I") (by decide +kernel)
  have k17 := hts (.fieldLink RX2 17 "RestartBook$Tables" "states" "[I") (by decide +kernel)
  have k20 := hts (.fieldLink RX2 20 "RestartBook$Tables" "lasts" "[I") (by decide +kernel)
  have k23 := hts (.fieldLink RX2 23 "RestartBook$Tables" "nexts" "[I") (by decide +kernel)
  have hin2 : ∀ w ∈ u_ws RX2 TX2 6, w ∈ wsX2_copySlot := in_X2_copySlot
  refine lv_aload_n hx hb dX2_copySlot_0 rfl (lv_at hl 0 rfl) ?_
  refine ww_get hx hb hts hin2 hown hw 0 rfl rfl 1 (by decide) k13 rfl dX2_copySlot_1 ?_
  refine lv_iload_n hx hb dX2_copySlot_4 rfl (lv_at hl 2 rfl) ?_
  refine lv_aload_n hx hb dX2_copySlot_5 rfl (lv_at hl 0 rfl) ?_
  refine ww_get hx hb hts hin2 hown hw 0 rfl rfl 1 (by decide) k13 rfl dX2_copySlot_6 ?_
  refine lv_iload_n hx hb dX2_copySlot_9 rfl (lv_at hl 1 rfl) ?_
  refine ww_iald hx hb hw 1 rfl i rfl (by omega) (by omega) dX2_copySlot_10 ?_
  refine ww_iast (ws' := [(a, .inr (2, [.int (nI sz), .ref a1, .ref a2, .ref a3, .ref a4, .ref a5])), (a1, .inl (cI, 16, .inl (upd v.2.1 j (v.2.1 i)))), (a2, .inl (cI, 16, .inl v.2.2.1)), (a3, .inl (cI, 16, .inl v.2.2.2.1)), (a4, .inl (cI, 16, .inl v.2.2.2.2)), (a5, .inl (cI, 64, .inl fb))]) hx hb hw 1 rfl j rfl (by omega) (by omega) rfl dX2_copySlot_11 (fun H locs hw => ?_)
  refine lv_aload_n hx hb dX2_copySlot_12 rfl (lv_at hl 0 rfl) ?_
  refine ww_get hx hb hts hin2 hown hw 0 rfl rfl 2 (by decide) k17 rfl dX2_copySlot_13 ?_
  refine lv_iload_n hx hb dX2_copySlot_16 rfl (lv_at hl 2 rfl) ?_
  refine W.eq (g2 := F0 m 17 ls [.int (nI j), .ref a2]) rfl ?_
  refine lv_aload_n hx hb dX2_copySlot_17 rfl (lv_at hl 0 rfl) ?_
  refine ww_get hx hb hts hin2 hown hw 0 rfl rfl 2 (by decide) k17 rfl dX2_copySlot_18 ?_
  refine lv_iload_n hx hb dX2_copySlot_21 rfl (lv_at hl 1 rfl) ?_
  refine ww_iald hx hb hw 2 rfl i rfl (by omega) (by omega) dX2_copySlot_22 ?_
  refine ww_iast (ws' := [(a, .inr (2, [.int (nI sz), .ref a1, .ref a2, .ref a3, .ref a4, .ref a5])), (a1, .inl (cI, 16, .inl (upd v.2.1 j (v.2.1 i)))), (a2, .inl (cI, 16, .inl (upd v.2.2.1 j (v.2.2.1 i)))), (a3, .inl (cI, 16, .inl v.2.2.2.1)), (a4, .inl (cI, 16, .inl v.2.2.2.2)), (a5, .inl (cI, 64, .inl fb))]) hx hb hw 2 rfl j rfl (by omega) (by omega) rfl dX2_copySlot_23 (fun H locs hw => ?_)
  refine lv_aload_n hx hb dX2_copySlot_24 rfl (lv_at hl 0 rfl) ?_
  refine ww_get hx hb hts hin2 hown hw 0 rfl rfl 3 (by decide) k20 rfl dX2_copySlot_25 ?_
  refine lv_iload_n hx hb dX2_copySlot_28 rfl (lv_at hl 2 rfl) ?_
  refine lv_aload_n hx hb dX2_copySlot_29 rfl (lv_at hl 0 rfl) ?_
  refine ww_get hx hb hts hin2 hown hw 0 rfl rfl 3 (by decide) k20 rfl dX2_copySlot_30 ?_
  refine lv_iload_n hx hb dX2_copySlot_33 rfl (lv_at hl 1 rfl) ?_
  refine ww_iald hx hb hw 3 rfl i rfl (by omega) (by omega) dX2_copySlot_34 ?_
  refine W.eq (g2 := F0 m 35 ls [.int (v.2.2.2.1 i), .int (nI j), .ref a3]) rfl ?_
  refine ww_iast (ws' := [(a, .inr (2, [.int (nI sz), .ref a1, .ref a2, .ref a3, .ref a4, .ref a5])), (a1, .inl (cI, 16, .inl (upd v.2.1 j (v.2.1 i)))), (a2, .inl (cI, 16, .inl (upd v.2.2.1 j (v.2.2.1 i)))), (a3, .inl (cI, 16, .inl (upd v.2.2.2.1 j (v.2.2.2.1 i)))), (a4, .inl (cI, 16, .inl v.2.2.2.2)), (a5, .inl (cI, 64, .inl fb))]) hx hb hw 3 rfl j rfl (by omega) (by omega) rfl dX2_copySlot_35 (fun H locs hw => ?_)
  refine lv_aload_n hx hb dX2_copySlot_36 rfl (lv_at hl 0 rfl) ?_
  refine ww_get hx hb hts hin2 hown hw 0 rfl rfl 4 (by decide) k23 rfl dX2_copySlot_37 ?_
  refine lv_iload_n hx hb dX2_copySlot_40 rfl (lv_at hl 2 rfl) ?_
  refine lv_aload_n hx hb dX2_copySlot_41 rfl (lv_at hl 0 rfl) ?_
  refine ww_get hx hb hts hin2 hown hw 0 rfl rfl 4 (by decide) k23 rfl dX2_copySlot_42 ?_
  refine lv_iload_n hx hb dX2_copySlot_45 rfl (lv_at hl 1 rfl) ?_
  refine ww_iald hx hb hw 4 rfl i rfl (by omega) (by omega) dX2_copySlot_46 ?_
  refine ww_iast (ws' := [(a, .inr (2, [.int (nI sz), .ref a1, .ref a2, .ref a3, .ref a4, .ref a5])), (a1, .inl (cI, 16, .inl (upd v.2.1 j (v.2.1 i)))), (a2, .inl (cI, 16, .inl (upd v.2.2.1 j (v.2.2.1 i)))), (a3, .inl (cI, 16, .inl (upd v.2.2.2.1 j (v.2.2.2.1 i)))), (a4, .inl (cI, 16, .inl (upd v.2.2.2.2 j (v.2.2.2.2 i)))), (a5, .inl (cI, 64, .inl fb))]) hx hb hw 4 rfl j rfl (by omega) (by omega) rfl dX2_copySlot_47 (fun H locs hw => ?_)
  exact ww_vret (u := ()) hx hb hr hlk hw (trivial) (Nat.le_of_ble_eq_true rfl) (Nat.le_of_ble_eq_true rfl) rfl dX2_copySlot_48
set_option maxHeartbeats 4000000 in
set_option maxRecDepth 100000 in
theorem cT_isFull (l : Launch) (D : va_G) (cI : ClassId) (a a1 a2 a3 a4 a5 : Nat) (v : TW) (fb : Nat → Int32) (hv : v.1 ≤ 16) : Kt l yX2_isFull wsX2_isFull 0 0 (0) (0) D cI [.ref a] ([(a, .inr (2, [.int (nI v.1), .ref a1, .ref a2, .ref a3, .ref a4, .ref a5])), (a1, .inl (cI, 16, .inl v.2.1)), (a2, .inl (cI, 16, .inl v.2.2.1)), (a3, .inl (cI, 16, .inl v.2.2.2.1)), (a4, .inl (cI, 16, .inl v.2.2.2.2)), (a5, .inl (cI, 64, .inl fb))]) (pI (fun (r : Int32) (u : Unit) => (r = 1 ∧ 16 ≤ v.1) ∨ (r = 0 ∧ v.1 < 16))) (fun (u : Unit) => [(a, .inr (2, [.int (nI v.1), .ref a1, .ref a2, .ref a3, .ref a4, .ref a5])), (a1, .inl (cI, 16, .inl v.2.1)), (a2, .inl (cI, 16, .inl v.2.2.1)), (a3, .inl (cI, 16, .inl v.2.2.2.1)), (a4, .inl (cI, 16, .inl v.2.2.2.2)), (a5, .inl (cI, 64, .inl fb))]) := by
  refine kt_start (cc := cX2_isFull) (maxL := 1) (ret := (some .boolean)) (by decide +kernel) rfl (Nat.le_of_ble_eq_true rfl) ?_
  intro p e s m below meth c hx hb hml hr hlk hown hnm hts ls hl hw
  have hown : s.vm.findClass RX2 = some m.cls := hown
  have hl : lv_has ls 1 [(0, .ref a)] := hl
  have k7 := hts (.fieldLink RX2 7 "RestartBook$Tables" "size" "I") (by decide +kernel)
  have hin2 : ∀ w ∈ u_ws RX2 TX2 6, w ∈ wsX2_isFull := in_X2_isFull
  refine lv_aload_n hx hb dX2_isFull_0 rfl (lv_at hl 0 rfl) ?_
  refine ww_get hx hb hts hin2 hown hw 0 rfl rfl 0 (by decide) k7 rfl dX2_isFull_1 ?_
  refine lv_bipush (v := nI 16) hx hb dX2_isFull_4 (by decide +kernel) ?_
  refine lv_icmp_lt (tgt := 13) hx hb dX2_isFull_6 (by decide) (fun c_6 => ?_) (fun c_6 => ?_)
  · refine lv_iconst (v := nI 0) hx hb dX2_isFull_13 (by decide +kernel) ?_
    exact ww_zret (u := ()) hx hb hr hlk (by decide +kernel) hw (Or.inr ⟨by decide, by simp (disch := omega) only [i_lt, nI_toInt] at c_6; omega⟩) (Nat.le_of_ble_eq_true rfl) (Nat.le_of_ble_eq_true rfl) dX2_isFull_14
  · refine lv_iconst (v := nI 1) hx hb dX2_isFull_9 (by decide +kernel) ?_
    refine lv_goto (tgt := 14) hx hb dX2_isFull_10 (by decide) ?_
    exact ww_zret (u := ()) hx hb hr hlk (by decide +kernel) hw (Or.inl ⟨by decide, by simp (disch := omega) only [i_lt, nI_toInt] at c_6; omega⟩) (Nat.le_of_ble_eq_true rfl) (Nat.le_of_ble_eq_true rfl) dX2_isFull_14
set_option maxHeartbeats 4000000 in
set_option maxRecDepth 100000 in
theorem cT_workAt (l : Launch) (D : va_G) (cI : ClassId) (a a1 a2 a3 a4 a5 : Nat) (v : TW) (fb : Nat → Int32) (x : Int32) (hv : v.1 ≤ 16) : Kt l yX2_workAt wsX2_workAt 0 0 (0) (0) D cI [.ref a, .int x] ([(a, .inr (2, [.int (nI v.1), .ref a1, .ref a2, .ref a3, .ref a4, .ref a5])), (a1, .inl (cI, 16, .inl v.2.1)), (a2, .inl (cI, 16, .inl v.2.2.1)), (a3, .inl (cI, 16, .inl v.2.2.2.1)), (a4, .inl (cI, 16, .inl v.2.2.2.2)), (a5, .inl (cI, 64, .inl fb))]) (pI (fun (r : Int32) (u : Unit) => (∃ i, i < v.1 ∧ x = nI i ∧ r = v.2.1 i) ∨ ((¬ ∃ i, i < v.1 ∧ x = nI i) ∧ r = 0))) (fun (u : Unit) => [(a, .inr (2, [.int (nI v.1), .ref a1, .ref a2, .ref a3, .ref a4, .ref a5])), (a1, .inl (cI, 16, .inl v.2.1)), (a2, .inl (cI, 16, .inl v.2.2.1)), (a3, .inl (cI, 16, .inl v.2.2.2.1)), (a4, .inl (cI, 16, .inl v.2.2.2.2)), (a5, .inl (cI, 64, .inl fb))]) := by
  refine kt_start (cc := cX2_workAt) (maxL := 2) (ret := (some .int)) (by decide +kernel) rfl (Nat.le_of_ble_eq_true rfl) ?_
  intro p e s m below meth c hx hb hml hr hlk hown hnm hts ls hl hw
  have hown : s.vm.findClass RX2 = some m.cls := hown
  have hl : lv_has ls 2 [(0, .ref a), (1, .int x)] := hl
  have k7 := hts (.fieldLink RX2 7 "RestartBook$Tables" "size" "I") (by decide +kernel)
  have k13 := hts (.fieldLink RX2 13 "RestartBook$Tables" "works" "[I") (by decide +kernel)
  have hin2 : ∀ w ∈ u_ws RX2 TX2 6, w ∈ wsX2_workAt := in_X2_workAt
  refine lv_iload_n hx hb dX2_workAt_0 rfl (lv_at hl 1 rfl) ?_
  refine lv_if_lt (tgt := 21) hx hb dX2_workAt_1 (by decide) (fun c_1 => ?_) (fun c_1 => ?_)
  · refine lv_iconst (v := nI 0) hx hb dX2_workAt_21 (by decide +kernel) ?_
    exact ww_iret (u := ()) hx hb hr hlk hw (Or.inr ⟨ix_n (by omega) (by first | exact Or.inl c_1 | exact Or.inr c_9), by decide⟩) (Nat.le_of_ble_eq_true rfl) (Nat.le_of_ble_eq_true rfl) dX2_workAt_22
  · refine lv_iload_n hx hb dX2_workAt_4 rfl (lv_at hl 1 rfl) ?_
    refine lv_aload_n hx hb dX2_workAt_5 rfl (lv_at hl 0 rfl) ?_
    refine ww_get hx hb hts hin2 hown hw 0 rfl rfl 0 (by decide) k7 rfl dX2_workAt_6 ?_
    refine lv_icmp_ge (tgt := 21) hx hb dX2_workAt_9 (by decide) (fun c_9 => ?_) (fun c_9 => ?_)
    · refine lv_iconst (v := nI 0) hx hb dX2_workAt_21 (by decide +kernel) ?_
      exact ww_iret (u := ()) hx hb hr hlk hw (Or.inr ⟨ix_n (by omega) (by first | exact Or.inl c_1 | exact Or.inr c_9), by decide⟩) (Nat.le_of_ble_eq_true rfl) (Nat.le_of_ble_eq_true rfl) dX2_workAt_22
    · obtain ⟨i, hi, rfl⟩ := ix_y (by omega) c_1 c_9
      refine lv_aload_n hx hb dX2_workAt_12 rfl (lv_at hl 0 rfl) ?_
      refine ww_get hx hb hts hin2 hown hw 0 rfl rfl 1 (by decide) k13 rfl dX2_workAt_13 ?_
      refine lv_iload_n hx hb dX2_workAt_16 rfl (lv_at hl 1 rfl) ?_
      refine ww_iald hx hb hw 1 rfl i rfl (by omega) (by omega) dX2_workAt_17 ?_
      refine lv_goto (tgt := 22) hx hb dX2_workAt_18 (by decide) ?_
      exact ww_iret (u := ()) hx hb hr hlk hw (Or.inl ⟨i, hi, rfl, rfl⟩) (Nat.le_of_ble_eq_true rfl) (Nat.le_of_ble_eq_true rfl) dX2_workAt_22
set_option maxHeartbeats 4000000 in
set_option maxRecDepth 100000 in
theorem cT_holds (l : Launch) (D : va_G) (cI : ClassId) (a a1 a2 a3 a4 a5 : Nat) (v : TW) (fb : Nat → Int32) (T : TF) (h : TR v T) (x : Int32) : Kt l yX2_holds wsX2_holds 1 22 (0) (0) D cI [.ref a, .int x] ([(a, .inr (2, [.int (nI v.1), .ref a1, .ref a2, .ref a3, .ref a4, .ref a5])), (a1, .inl (cI, 16, .inl v.2.1)), (a2, .inl (cI, 16, .inl v.2.2.1)), (a3, .inl (cI, 16, .inl v.2.2.2.1)), (a4, .inl (cI, 16, .inl v.2.2.2.2)), (a5, .inl (cI, 64, .inl fb))]) (pI (fun (r : Int32) (u : Unit) => (r = 1 ∧ ∃ w : Nat, w ≤ 200 ∧ x = nI w ∧ (T w).1 ≠ 0) ∨ (r = 0 ∧ ¬ ∃ w : Nat, w ≤ 200 ∧ x = nI w ∧ (T w).1 ≠ 0))) (fun (u : Unit) => [(a, .inr (2, [.int (nI v.1), .ref a1, .ref a2, .ref a3, .ref a4, .ref a5])), (a1, .inl (cI, 16, .inl v.2.1)), (a2, .inl (cI, 16, .inl v.2.2.1)), (a3, .inl (cI, 16, .inl v.2.2.2.1)), (a4, .inl (cI, 16, .inl v.2.2.2.2)), (a5, .inl (cI, 64, .inl fb))]) := by
  refine kt_start (cc := cX2_holds) (maxL := 2) (ret := (some .boolean)) (by decide +kernel) rfl (Nat.le_of_ble_eq_true rfl) ?_
  intro p e s m below meth c hx hb hml hr hlk hown hnm hts ls hl hw
  have hown : s.vm.findClass RX2 = some m.cls := hown
  have hl : lv_has ls 2 [(0, .ref a), (1, .int x)] := hl
  refine lv_aload_n hx hb dX2_holds_0 rfl (lv_at hl 0 rfl) ?_
  refine lv_iload_n hx hb dX2_holds_1 rfl (lv_at hl 1 rfl) ?_
  refine ww_callV ([]) ([]) (As := [.int x]) (rest := []) ⟨hx, hb, hml, hown, hts⟩ (cT_slotOf l D cI a a1 a2 a3 a4 a5 v fb x (TR_le h)) gX2_holds_X2_slotOf rfl hd_X2_slotOf ⟨Nat.le_of_ble_eq_true rfl, Nat.le_of_ble_eq_true rfl⟩ hw rfl rfl rfl rfl rfl hl.1 (Nat.le_of_ble_eq_true rfl) dX2_holds_2 ⟨Nat.le_of_ble_eq_true rfl, Nat.le_of_ble_eq_true rfl⟩ (fun v u H locs hq hw => ?_)
  obtain ⟨r, rfl, hq⟩ := hq
  have hw : ww D cI _ _ s ([(a, .inr (2, [.int (nI v.1), .ref a1, .ref a2, .ref a3, .ref a4, .ref a5])), (a1, .inl (cI, 16, .inl v.2.1)), (a2, .inl (cI, 16, .inl v.2.2.1)), (a3, .inl (cI, 16, .inl v.2.2.2.1)), (a4, .inl (cI, 16, .inl v.2.2.2.2)), (a5, .inl (cI, 64, .inl fb))]) H locs := hw
  refine W.eq (g2 := F0 m 5 ls [.int (r)]) rfl ?_
  rcases hq with ⟨i, hi, he, rfl⟩ | ⟨hno, rfl⟩
  · have hi16 : i < 16 := Nat.lt_of_lt_of_le hi (TR_le h)
    refine lv_iconst (v := (-1)) hx hb dX2_holds_5 (by decide +kernel) ?_
    refine lv_icmp_eq (tgt := 13) hx hb dX2_holds_6 (by decide) (fun c_6 => absurd c_6 (nI_nm1 (by omega))) (fun c_6 => ?_)
    refine lv_iconst (v := nI 1) hx hb dX2_holds_9 (by decide +kernel) ?_
    refine lv_goto (tgt := 14) hx hb dX2_holds_10 (by decide) ?_
    exact ww_zret (u := ()) hx hb hr hlk (by decide +kernel) hw (Or.inl ⟨by decide, by obtain ⟨w, g1, g2, g3⟩ := TR_mem h hi; exact ⟨w, g1, he.symm.trans g2, g3⟩⟩) (Nat.le_of_ble_eq_true rfl) (Nat.le_of_ble_eq_true rfl) dX2_holds_14
  · skip
    refine lv_iconst (v := (-1)) hx hb dX2_holds_5 (by decide +kernel) ?_
    refine lv_icmp_eq (tgt := 13) hx hb dX2_holds_6 (by decide) (fun c_6 => ?_) (fun c_6 => absurd (rfl) c_6)
    refine lv_iconst (v := nI 0) hx hb dX2_holds_13 (by decide +kernel) ?_
    exact ww_zret (u := ()) hx hb hr hlk (by decide +kernel) hw (Or.inr ⟨by decide, fun q => by obtain ⟨w, g1, rfl, g3⟩ := q; exact g3 (TR_no h hno)⟩) (Nat.le_of_ble_eq_true rfl) (Nat.le_of_ble_eq_true rfl) dX2_holds_14
set_option maxHeartbeats 4000000 in
set_option maxRecDepth 100000 in
theorem cT_stateOf (l : Launch) (D : va_G) (cI : ClassId) (a a1 a2 a3 a4 a5 : Nat) (v : TW) (fb : Nat → Int32) (T : TF) (h : TR v T) (w : Nat) (hwb : w < 2 ^ 31) : Kt l yX2_stateOf wsX2_stateOf 1 22 (0) (0) D cI [.ref a, .int (nI w)] ([(a, .inr (2, [.int (nI v.1), .ref a1, .ref a2, .ref a3, .ref a4, .ref a5])), (a1, .inl (cI, 16, .inl v.2.1)), (a2, .inl (cI, 16, .inl v.2.2.1)), (a3, .inl (cI, 16, .inl v.2.2.2.1)), (a4, .inl (cI, 16, .inl v.2.2.2.2)), (a5, .inl (cI, 64, .inl fb))]) (pI (fun (r : Int32) (u : Unit) => r = nI (T w).1)) (fun (u : Unit) => [(a, .inr (2, [.int (nI v.1), .ref a1, .ref a2, .ref a3, .ref a4, .ref a5])), (a1, .inl (cI, 16, .inl v.2.1)), (a2, .inl (cI, 16, .inl v.2.2.1)), (a3, .inl (cI, 16, .inl v.2.2.2.1)), (a4, .inl (cI, 16, .inl v.2.2.2.2)), (a5, .inl (cI, 64, .inl fb))]) := by
  refine kt_start (cc := cX2_stateOf) (maxL := 3) (ret := (some .int)) (by decide +kernel) rfl (Nat.le_of_ble_eq_true rfl) ?_
  intro p e s m below meth c hx hb hml hr hlk hown hnm hts ls hl hw
  have hown : s.vm.findClass RX2 = some m.cls := hown
  have hl : lv_has ls 3 [(0, .ref a), (1, .int (nI w))] := hl
  have k17 := hts (.fieldLink RX2 17 "RestartBook$Tables" "states" "[I") (by decide +kernel)
  have hin2 : ∀ w ∈ u_ws RX2 TX2 6, w ∈ wsX2_stateOf := in_X2_stateOf
  refine lv_aload_n hx hb dX2_stateOf_0 rfl (lv_at hl 0 rfl) ?_
  refine lv_iload_n hx hb dX2_stateOf_1 rfl (lv_at hl 1 rfl) ?_
  refine ww_callV ([]) ([]) (As := [.int (nI w)]) (rest := []) ⟨hx, hb, hml, hown, hts⟩ (cT_slotOf l D cI a a1 a2 a3 a4 a5 v fb (nI w) (TR_le h)) gX2_stateOf_X2_slotOf rfl hd_X2_slotOf ⟨Nat.le_of_ble_eq_true rfl, Nat.le_of_ble_eq_true rfl⟩ hw rfl rfl rfl rfl rfl hl.1 (Nat.le_of_ble_eq_true rfl) dX2_stateOf_2 ⟨Nat.le_of_ble_eq_true rfl, Nat.le_of_ble_eq_true rfl⟩ (fun v u H locs hq hw => ?_)
  obtain ⟨r, rfl, hq⟩ := hq
  have hw : ww D cI _ _ s ([(a, .inr (2, [.int (nI v.1), .ref a1, .ref a2, .ref a3, .ref a4, .ref a5])), (a1, .inl (cI, 16, .inl v.2.1)), (a2, .inl (cI, 16, .inl v.2.2.1)), (a3, .inl (cI, 16, .inl v.2.2.2.1)), (a4, .inl (cI, 16, .inl v.2.2.2.2)), (a5, .inl (cI, 64, .inl fb))]) H locs := hw
  refine W.eq (g2 := F0 m 5 ls [.int (r)]) rfl ?_
  rcases hq with ⟨i, hi, he, rfl⟩ | ⟨hno, rfl⟩
  · have hi16 : i < 16 := Nat.lt_of_lt_of_le hi (TR_le h)
    refine lv_istore_n (lv' := [(2, .int (nI i)), (0, .ref a), (1, .int (nI w))]) hx hb dX2_stateOf_5 rfl hl (by decide) rfl (fun ls hl => ?_)
    refine lv_iload_n hx hb dX2_stateOf_6 rfl (lv_at hl 0 rfl) ?_
    refine lv_iconst (v := (-1)) hx hb dX2_stateOf_7 (by decide +kernel) ?_
    refine lv_icmp_ne (tgt := 15) hx hb dX2_stateOf_8 (by decide) (fun c_8 => ?_) (fun c_8 => absurd c_8 (nI_nm1 (by omega)))
    refine lv_aload_n hx hb dX2_stateOf_15 rfl (lv_at hl 1 rfl) ?_
    refine ww_get hx hb hts hin2 hown hw 0 rfl rfl 2 (by decide) k17 rfl dX2_stateOf_16 ?_
    refine lv_iload_n hx hb dX2_stateOf_19 rfl (lv_at hl 0 rfl) ?_
    refine ww_iald hx hb hw 2 rfl i rfl (by omega) (by omega) dX2_stateOf_20 ?_
    exact ww_iret (u := ()) hx hb hr hlk hw ((TR_at h hwb hi he).2.2.2.1) (Nat.le_of_ble_eq_true rfl) (Nat.le_of_ble_eq_true rfl) dX2_stateOf_21
  · skip
    refine lv_istore_n (lv' := [(2, .int (-1)), (0, .ref a), (1, .int (nI w))]) hx hb dX2_stateOf_5 rfl hl (by decide) rfl (fun ls hl => ?_)
    refine lv_iload_n hx hb dX2_stateOf_6 rfl (lv_at hl 0 rfl) ?_
    refine lv_iconst (v := (-1)) hx hb dX2_stateOf_7 (by decide +kernel) ?_
    refine lv_icmp_ne (tgt := 15) hx hb dX2_stateOf_8 (by decide) (fun c_8 => absurd c_8 (fun q => q rfl)) (fun c_8 => ?_)
    refine lv_iconst (v := nI 0) hx hb dX2_stateOf_11 (by decide +kernel) ?_
    refine lv_goto (tgt := 21) hx hb dX2_stateOf_12 (by decide) ?_
    exact ww_iret (u := ()) hx hb hr hlk hw (by rw [TR_no h hno]) (Nat.le_of_ble_eq_true rfl) (Nat.le_of_ble_eq_true rfl) dX2_stateOf_21
set_option maxHeartbeats 4000000 in
set_option maxRecDepth 100000 in
theorem cT_lastOf (l : Launch) (D : va_G) (cI : ClassId) (a a1 a2 a3 a4 a5 : Nat) (v : TW) (fb : Nat → Int32) (T : TF) (h : TR v T) (w : Nat) (hwb : w < 2 ^ 31) (hp : (T w).1 ≠ 0) : Kt l yX2_lastOf wsX2_lastOf 1 22 (0) (0) D cI [.ref a, .int (nI w)] ([(a, .inr (2, [.int (nI v.1), .ref a1, .ref a2, .ref a3, .ref a4, .ref a5])), (a1, .inl (cI, 16, .inl v.2.1)), (a2, .inl (cI, 16, .inl v.2.2.1)), (a3, .inl (cI, 16, .inl v.2.2.2.1)), (a4, .inl (cI, 16, .inl v.2.2.2.2)), (a5, .inl (cI, 64, .inl fb))]) (pI (fun (r : Int32) (u : Unit) => r = nI (T w).2.1)) (fun (u : Unit) => [(a, .inr (2, [.int (nI v.1), .ref a1, .ref a2, .ref a3, .ref a4, .ref a5])), (a1, .inl (cI, 16, .inl v.2.1)), (a2, .inl (cI, 16, .inl v.2.2.1)), (a3, .inl (cI, 16, .inl v.2.2.2.1)), (a4, .inl (cI, 16, .inl v.2.2.2.2)), (a5, .inl (cI, 64, .inl fb))]) := by
  refine kt_start (cc := cX2_lastOf) (maxL := 3) (ret := (some .int)) (by decide +kernel) rfl (Nat.le_of_ble_eq_true rfl) ?_
  intro p e s m below meth c hx hb hml hr hlk hown hnm hts ls hl hw
  have hown : s.vm.findClass RX2 = some m.cls := hown
  have hl : lv_has ls 3 [(0, .ref a), (1, .int (nI w))] := hl
  have k20 := hts (.fieldLink RX2 20 "RestartBook$Tables" "lasts" "[I") (by decide +kernel)
  have hin2 : ∀ w ∈ u_ws RX2 TX2 6, w ∈ wsX2_lastOf := in_X2_lastOf
  refine lv_aload_n hx hb dX2_lastOf_0 rfl (lv_at hl 0 rfl) ?_
  refine lv_iload_n hx hb dX2_lastOf_1 rfl (lv_at hl 1 rfl) ?_
  refine ww_callV ([]) ([]) (As := [.int (nI w)]) (rest := []) ⟨hx, hb, hml, hown, hts⟩ (cT_slotOf l D cI a a1 a2 a3 a4 a5 v fb (nI w) (TR_le h)) gX2_lastOf_X2_slotOf rfl hd_X2_slotOf ⟨Nat.le_of_ble_eq_true rfl, Nat.le_of_ble_eq_true rfl⟩ hw rfl rfl rfl rfl rfl hl.1 (Nat.le_of_ble_eq_true rfl) dX2_lastOf_2 ⟨Nat.le_of_ble_eq_true rfl, Nat.le_of_ble_eq_true rfl⟩ (fun v u H locs hq hw => ?_)
  obtain ⟨r, rfl, hq⟩ := hq
  have hw : ww D cI _ _ s ([(a, .inr (2, [.int (nI v.1), .ref a1, .ref a2, .ref a3, .ref a4, .ref a5])), (a1, .inl (cI, 16, .inl v.2.1)), (a2, .inl (cI, 16, .inl v.2.2.1)), (a3, .inl (cI, 16, .inl v.2.2.2.1)), (a4, .inl (cI, 16, .inl v.2.2.2.2)), (a5, .inl (cI, 64, .inl fb))]) H locs := hw
  refine W.eq (g2 := F0 m 5 ls [.int (r)]) rfl ?_
  rcases hq with ⟨i, hi, he, rfl⟩ | ⟨hno, rfl⟩
  · have hi16 : i < 16 := Nat.lt_of_lt_of_le hi (TR_le h)
    refine lv_istore_n (lv' := [(2, .int (nI i)), (0, .ref a), (1, .int (nI w))]) hx hb dX2_lastOf_5 rfl hl (by decide) rfl (fun ls hl => ?_)
    refine lv_iload_n hx hb dX2_lastOf_6 rfl (lv_at hl 0 rfl) ?_
    refine lv_iconst (v := (-1)) hx hb dX2_lastOf_7 (by decide +kernel) ?_
    refine lv_icmp_ne (tgt := 15) hx hb dX2_lastOf_8 (by decide) (fun c_8 => ?_) (fun c_8 => absurd c_8 (nI_nm1 (by omega)))
    refine lv_aload_n hx hb dX2_lastOf_15 rfl (lv_at hl 1 rfl) ?_
    refine ww_get hx hb hts hin2 hown hw 0 rfl rfl 3 (by decide) k20 rfl dX2_lastOf_16 ?_
    refine lv_iload_n hx hb dX2_lastOf_19 rfl (lv_at hl 0 rfl) ?_
    refine ww_iald hx hb hw 3 rfl i rfl (by omega) (by omega) dX2_lastOf_20 ?_
    exact ww_iret (u := ()) hx hb hr hlk hw ((TR_at h hwb hi he).2.2.2.2.1) (Nat.le_of_ble_eq_true rfl) (Nat.le_of_ble_eq_true rfl) dX2_lastOf_21
  · exact absurd (TR_no h hno) hp
set_option maxHeartbeats 4000000 in
set_option maxRecDepth 100000 in
theorem cT_nextOf (l : Launch) (D : va_G) (cI : ClassId) (a a1 a2 a3 a4 a5 : Nat) (v : TW) (fb : Nat → Int32) (T : TF) (h : TR v T) (w : Nat) (hwb : w < 2 ^ 31) (hp : (T w).1 ≠ 0) : Kt l yX2_nextOf wsX2_nextOf 1 22 (0) (0) D cI [.ref a, .int (nI w)] ([(a, .inr (2, [.int (nI v.1), .ref a1, .ref a2, .ref a3, .ref a4, .ref a5])), (a1, .inl (cI, 16, .inl v.2.1)), (a2, .inl (cI, 16, .inl v.2.2.1)), (a3, .inl (cI, 16, .inl v.2.2.2.1)), (a4, .inl (cI, 16, .inl v.2.2.2.2)), (a5, .inl (cI, 64, .inl fb))]) (pI (fun (r : Int32) (u : Unit) => r = nI (T w).2.2)) (fun (u : Unit) => [(a, .inr (2, [.int (nI v.1), .ref a1, .ref a2, .ref a3, .ref a4, .ref a5])), (a1, .inl (cI, 16, .inl v.2.1)), (a2, .inl (cI, 16, .inl v.2.2.1)), (a3, .inl (cI, 16, .inl v.2.2.2.1)), (a4, .inl (cI, 16, .inl v.2.2.2.2)), (a5, .inl (cI, 64, .inl fb))]) := by
  refine kt_start (cc := cX2_nextOf) (maxL := 3) (ret := (some .int)) (by decide +kernel) rfl (Nat.le_of_ble_eq_true rfl) ?_
  intro p e s m below meth c hx hb hml hr hlk hown hnm hts ls hl hw
  have hown : s.vm.findClass RX2 = some m.cls := hown
  have hl : lv_has ls 3 [(0, .ref a), (1, .int (nI w))] := hl
  have k23 := hts (.fieldLink RX2 23 "RestartBook$Tables" "nexts" "[I") (by decide +kernel)
  have hin2 : ∀ w ∈ u_ws RX2 TX2 6, w ∈ wsX2_nextOf := in_X2_nextOf
  refine lv_aload_n hx hb dX2_nextOf_0 rfl (lv_at hl 0 rfl) ?_
  refine lv_iload_n hx hb dX2_nextOf_1 rfl (lv_at hl 1 rfl) ?_
  refine ww_callV ([]) ([]) (As := [.int (nI w)]) (rest := []) ⟨hx, hb, hml, hown, hts⟩ (cT_slotOf l D cI a a1 a2 a3 a4 a5 v fb (nI w) (TR_le h)) gX2_nextOf_X2_slotOf rfl hd_X2_slotOf ⟨Nat.le_of_ble_eq_true rfl, Nat.le_of_ble_eq_true rfl⟩ hw rfl rfl rfl rfl rfl hl.1 (Nat.le_of_ble_eq_true rfl) dX2_nextOf_2 ⟨Nat.le_of_ble_eq_true rfl, Nat.le_of_ble_eq_true rfl⟩ (fun v u H locs hq hw => ?_)
  obtain ⟨r, rfl, hq⟩ := hq
  have hw : ww D cI _ _ s ([(a, .inr (2, [.int (nI v.1), .ref a1, .ref a2, .ref a3, .ref a4, .ref a5])), (a1, .inl (cI, 16, .inl v.2.1)), (a2, .inl (cI, 16, .inl v.2.2.1)), (a3, .inl (cI, 16, .inl v.2.2.2.1)), (a4, .inl (cI, 16, .inl v.2.2.2.2)), (a5, .inl (cI, 64, .inl fb))]) H locs := hw
  refine W.eq (g2 := F0 m 5 ls [.int (r)]) rfl ?_
  rcases hq with ⟨i, hi, he, rfl⟩ | ⟨hno, rfl⟩
  · have hi16 : i < 16 := Nat.lt_of_lt_of_le hi (TR_le h)
    refine lv_istore_n (lv' := [(2, .int (nI i)), (0, .ref a), (1, .int (nI w))]) hx hb dX2_nextOf_5 rfl hl (by decide) rfl (fun ls hl => ?_)
    refine lv_iload_n hx hb dX2_nextOf_6 rfl (lv_at hl 0 rfl) ?_
    refine lv_iconst (v := (-1)) hx hb dX2_nextOf_7 (by decide +kernel) ?_
    refine lv_icmp_ne (tgt := 15) hx hb dX2_nextOf_8 (by decide) (fun c_8 => ?_) (fun c_8 => absurd c_8 (nI_nm1 (by omega)))
    refine lv_aload_n hx hb dX2_nextOf_15 rfl (lv_at hl 1 rfl) ?_
    refine ww_get hx hb hts hin2 hown hw 0 rfl rfl 4 (by decide) k23 rfl dX2_nextOf_16 ?_
    refine lv_iload_n hx hb dX2_nextOf_19 rfl (lv_at hl 0 rfl) ?_
    refine ww_iald hx hb hw 4 rfl i rfl (by omega) (by omega) dX2_nextOf_20 ?_
    exact ww_iret (u := ()) hx hb hr hlk hw ((TR_at h hwb hi he).2.2.2.2.2) (Nat.le_of_ble_eq_true rfl) (Nat.le_of_ble_eq_true rfl) dX2_nextOf_21
  · exact absurd (TR_no h hno) hp
set_option maxHeartbeats 4000000 in
set_option maxRecDepth 100000 in
theorem cT_setState (l : Launch) (D : va_G) (cI : ClassId) (a a1 a2 a3 a4 a5 : Nat) (v : TW) (fb : Nat → Int32) (T : TF) (h : TR v T) (w z : Nat) (hwb : w < 2 ^ 31) (hp : (T w).1 ≠ 0) (hs : z ≠ 0) : Kt l yX2_setState wsX2_setState 1 22 (0) (0) D cI [.ref a, .int (nI w), .int (nI z)] ([(a, .inr (2, [.int (nI v.1), .ref a1, .ref a2, .ref a3, .ref a4, .ref a5])), (a1, .inl (cI, 16, .inl v.2.1)), (a2, .inl (cI, 16, .inl v.2.2.1)), (a3, .inl (cI, 16, .inl v.2.2.2.1)), (a4, .inl (cI, 16, .inl v.2.2.2.2)), (a5, .inl (cI, 64, .inl fb))]) (pV (fun (u : Nat → Int32) => TR (v.1, v.2.1, u, v.2.2.2.1, v.2.2.2.2) (va_up T w (z, (T w).2.1, (T w).2.2)))) (fun (u : Nat → Int32) => [(a, .inr (2, [.int (nI v.1), .ref a1, .ref a2, .ref a3, .ref a4, .ref a5])), (a1, .inl (cI, 16, .inl v.2.1)), (a2, .inl (cI, 16, .inl u)), (a3, .inl (cI, 16, .inl v.2.2.2.1)), (a4, .inl (cI, 16, .inl v.2.2.2.2)), (a5, .inl (cI, 64, .inl fb))]) := by
  refine kt_start (cc := cX2_setState) (maxL := 4) (ret := none) (by decide +kernel) rfl (Nat.le_of_ble_eq_true rfl) ?_
  intro p e s m below meth c hx hb hml hr hlk hown hnm hts ls hl hw
  have hown : s.vm.findClass RX2 = some m.cls := hown
  have hl : lv_has ls 4 [(0, .ref a), (1, .int (nI w)), (2, .int (nI z))] := hl
  have k17 := hts (.fieldLink RX2 17 "RestartBook$Tables" "states" "[I") (by decide +kernel)
  have hin2 : ∀ w ∈ u_ws RX2 TX2 6, w ∈ wsX2_setState := in_X2_setState
  refine lv_aload_n hx hb dX2_setState_0 rfl (lv_at hl 0 rfl) ?_
  refine lv_iload_n hx hb dX2_setState_1 rfl (lv_at hl 1 rfl) ?_
  refine ww_callV ([]) ([]) (As := [.int (nI w)]) (rest := []) ⟨hx, hb, hml, hown, hts⟩ (cT_slotOf l D cI a a1 a2 a3 a4 a5 v fb (nI w) (TR_le h)) gX2_setState_X2_slotOf rfl hd_X2_slotOf ⟨Nat.le_of_ble_eq_true rfl, Nat.le_of_ble_eq_true rfl⟩ hw rfl rfl rfl rfl rfl hl.1 (Nat.le_of_ble_eq_true rfl) dX2_setState_2 ⟨Nat.le_of_ble_eq_true rfl, Nat.le_of_ble_eq_true rfl⟩ (fun v u H locs hq hw => ?_)
  obtain ⟨r, rfl, hq⟩ := hq
  have hw : ww D cI _ _ s ([(a, .inr (2, [.int (nI v.1), .ref a1, .ref a2, .ref a3, .ref a4, .ref a5])), (a1, .inl (cI, 16, .inl v.2.1)), (a2, .inl (cI, 16, .inl v.2.2.1)), (a3, .inl (cI, 16, .inl v.2.2.2.1)), (a4, .inl (cI, 16, .inl v.2.2.2.2)), (a5, .inl (cI, 64, .inl fb))]) H locs := hw
  refine W.eq (g2 := F0 m 5 ls [.int (r)]) rfl ?_
  rcases hq with ⟨i, hi, he, rfl⟩ | ⟨hno, rfl⟩
  · have hi16 : i < 16 := Nat.lt_of_lt_of_le hi (TR_le h)
    refine lv_istore_n (lv' := [(3, .int (nI i)), (0, .ref a), (1, .int (nI w)), (2, .int (nI z))]) hx hb dX2_setState_5 rfl hl (by decide) rfl (fun ls hl => ?_)
    refine lv_iload_n hx hb dX2_setState_6 rfl (lv_at hl 0 rfl) ?_
    refine lv_iconst (v := (-1)) hx hb dX2_setState_7 (by decide +kernel) ?_
    refine lv_icmp_eq (tgt := 18) hx hb dX2_setState_8 (by decide) (fun c_8 => absurd c_8 (nI_nm1 (by omega))) (fun c_8 => ?_)
    refine lv_aload_n hx hb dX2_setState_11 rfl (lv_at hl 1 rfl) ?_
    refine ww_get hx hb hts hin2 hown hw 0 rfl rfl 2 (by decide) k17 rfl dX2_setState_12 ?_
    refine lv_iload_n hx hb dX2_setState_15 rfl (lv_at hl 0 rfl) ?_
    refine lv_iload_n hx hb dX2_setState_16 rfl (lv_at hl 3 rfl) ?_
    refine ww_iast (ws' := [(a, .inr (2, [.int (nI v.1), .ref a1, .ref a2, .ref a3, .ref a4, .ref a5])), (a1, .inl (cI, 16, .inl v.2.1)), (a2, .inl (cI, 16, .inl (upd v.2.2.1 i (nI z)))), (a3, .inl (cI, 16, .inl v.2.2.2.1)), (a4, .inl (cI, 16, .inl v.2.2.2.2)), (a5, .inl (cI, 64, .inl fb))]) hx hb hw 2 rfl i rfl (by omega) (by omega) rfl dX2_setState_17 (fun H locs hw => ?_)
    exact ww_vret (u := (upd v.2.2.1 i (nI z))) hx hb hr hlk hw (TR_setS h hwb hi he hs) (Nat.le_of_ble_eq_true rfl) (Nat.le_of_ble_eq_true rfl) rfl dX2_setState_18
  · exact absurd (TR_no h hno) hp
set_option maxHeartbeats 4000000 in
set_option maxRecDepth 100000 in
theorem cT_setLast (l : Launch) (D : va_G) (cI : ClassId) (a a1 a2 a3 a4 a5 : Nat) (v : TW) (fb : Nat → Int32) (T : TF) (h : TR v T) (w z : Nat) (hwb : w < 2 ^ 31) (hp : (T w).1 ≠ 0) : Kt l yX2_setLast wsX2_setLast 1 22 (0) (0) D cI [.ref a, .int (nI w), .int (nI z)] ([(a, .inr (2, [.int (nI v.1), .ref a1, .ref a2, .ref a3, .ref a4, .ref a5])), (a1, .inl (cI, 16, .inl v.2.1)), (a2, .inl (cI, 16, .inl v.2.2.1)), (a3, .inl (cI, 16, .inl v.2.2.2.1)), (a4, .inl (cI, 16, .inl v.2.2.2.2)), (a5, .inl (cI, 64, .inl fb))]) (pV (fun (u : Nat → Int32) => TR (v.1, v.2.1, v.2.2.1, u, v.2.2.2.2) (va_up T w ((T w).1, z, (T w).2.2)))) (fun (u : Nat → Int32) => [(a, .inr (2, [.int (nI v.1), .ref a1, .ref a2, .ref a3, .ref a4, .ref a5])), (a1, .inl (cI, 16, .inl v.2.1)), (a2, .inl (cI, 16, .inl v.2.2.1)), (a3, .inl (cI, 16, .inl u)), (a4, .inl (cI, 16, .inl v.2.2.2.2)), (a5, .inl (cI, 64, .inl fb))]) := by
  refine kt_start (cc := cX2_setLast) (maxL := 4) (ret := none) (by decide +kernel) rfl (Nat.le_of_ble_eq_true rfl) ?_
  intro p e s m below meth c hx hb hml hr hlk hown hnm hts ls hl hw
  have hown : s.vm.findClass RX2 = some m.cls := hown
  have hl : lv_has ls 4 [(0, .ref a), (1, .int (nI w)), (2, .int (nI z))] := hl
  have k20 := hts (.fieldLink RX2 20 "RestartBook$Tables" "lasts" "[I") (by decide +kernel)
  have hin2 : ∀ w ∈ u_ws RX2 TX2 6, w ∈ wsX2_setLast := in_X2_setLast
  refine lv_aload_n hx hb dX2_setLast_0 rfl (lv_at hl 0 rfl) ?_
  refine lv_iload_n hx hb dX2_setLast_1 rfl (lv_at hl 1 rfl) ?_
  refine ww_callV ([]) ([]) (As := [.int (nI w)]) (rest := []) ⟨hx, hb, hml, hown, hts⟩ (cT_slotOf l D cI a a1 a2 a3 a4 a5 v fb (nI w) (TR_le h)) gX2_setLast_X2_slotOf rfl hd_X2_slotOf ⟨Nat.le_of_ble_eq_true rfl, Nat.le_of_ble_eq_true rfl⟩ hw rfl rfl rfl rfl rfl hl.1 (Nat.le_of_ble_eq_true rfl) dX2_setLast_2 ⟨Nat.le_of_ble_eq_true rfl, Nat.le_of_ble_eq_true rfl⟩ (fun v u H locs hq hw => ?_)
  obtain ⟨r, rfl, hq⟩ := hq
  have hw : ww D cI _ _ s ([(a, .inr (2, [.int (nI v.1), .ref a1, .ref a2, .ref a3, .ref a4, .ref a5])), (a1, .inl (cI, 16, .inl v.2.1)), (a2, .inl (cI, 16, .inl v.2.2.1)), (a3, .inl (cI, 16, .inl v.2.2.2.1)), (a4, .inl (cI, 16, .inl v.2.2.2.2)), (a5, .inl (cI, 64, .inl fb))]) H locs := hw
  refine W.eq (g2 := F0 m 5 ls [.int (r)]) rfl ?_
  rcases hq with ⟨i, hi, he, rfl⟩ | ⟨hno, rfl⟩
  · have hi16 : i < 16 := Nat.lt_of_lt_of_le hi (TR_le h)
    refine lv_istore_n (lv' := [(3, .int (nI i)), (0, .ref a), (1, .int (nI w)), (2, .int (nI z))]) hx hb dX2_setLast_5 rfl hl (by decide) rfl (fun ls hl => ?_)
    refine lv_iload_n hx hb dX2_setLast_6 rfl (lv_at hl 0 rfl) ?_
    refine lv_iconst (v := (-1)) hx hb dX2_setLast_7 (by decide +kernel) ?_
    refine lv_icmp_eq (tgt := 18) hx hb dX2_setLast_8 (by decide) (fun c_8 => absurd c_8 (nI_nm1 (by omega))) (fun c_8 => ?_)
    refine lv_aload_n hx hb dX2_setLast_11 rfl (lv_at hl 1 rfl) ?_
    refine ww_get hx hb hts hin2 hown hw 0 rfl rfl 3 (by decide) k20 rfl dX2_setLast_12 ?_
    refine lv_iload_n hx hb dX2_setLast_15 rfl (lv_at hl 0 rfl) ?_
    refine lv_iload_n hx hb dX2_setLast_16 rfl (lv_at hl 3 rfl) ?_
    refine ww_iast (ws' := [(a, .inr (2, [.int (nI v.1), .ref a1, .ref a2, .ref a3, .ref a4, .ref a5])), (a1, .inl (cI, 16, .inl v.2.1)), (a2, .inl (cI, 16, .inl v.2.2.1)), (a3, .inl (cI, 16, .inl (upd v.2.2.2.1 i (nI z)))), (a4, .inl (cI, 16, .inl v.2.2.2.2)), (a5, .inl (cI, 64, .inl fb))]) hx hb hw 3 rfl i rfl (by omega) (by omega) rfl dX2_setLast_17 (fun H locs hw => ?_)
    exact ww_vret (u := (upd v.2.2.2.1 i (nI z))) hx hb hr hlk hw (TR_setL h hwb hi he) (Nat.le_of_ble_eq_true rfl) (Nat.le_of_ble_eq_true rfl) rfl dX2_setLast_18
  · exact absurd (TR_no h hno) hp
set_option maxHeartbeats 4000000 in
set_option maxRecDepth 100000 in
theorem cT_setNext (l : Launch) (D : va_G) (cI : ClassId) (a a1 a2 a3 a4 a5 : Nat) (v : TW) (fb : Nat → Int32) (T : TF) (h : TR v T) (w z : Nat) (hwb : w < 2 ^ 31) (hp : (T w).1 ≠ 0) : Kt l yX2_setNext wsX2_setNext 1 22 (0) (0) D cI [.ref a, .int (nI w), .int (nI z)] ([(a, .inr (2, [.int (nI v.1), .ref a1, .ref a2, .ref a3, .ref a4, .ref a5])), (a1, .inl (cI, 16, .inl v.2.1)), (a2, .inl (cI, 16, .inl v.2.2.1)), (a3, .inl (cI, 16, .inl v.2.2.2.1)), (a4, .inl (cI, 16, .inl v.2.2.2.2)), (a5, .inl (cI, 64, .inl fb))]) (pV (fun (u : Nat → Int32) => TR (v.1, v.2.1, v.2.2.1, v.2.2.2.1, u) (va_up T w ((T w).1, (T w).2.1, z)))) (fun (u : Nat → Int32) => [(a, .inr (2, [.int (nI v.1), .ref a1, .ref a2, .ref a3, .ref a4, .ref a5])), (a1, .inl (cI, 16, .inl v.2.1)), (a2, .inl (cI, 16, .inl v.2.2.1)), (a3, .inl (cI, 16, .inl v.2.2.2.1)), (a4, .inl (cI, 16, .inl u)), (a5, .inl (cI, 64, .inl fb))]) := by
  refine kt_start (cc := cX2_setNext) (maxL := 4) (ret := none) (by decide +kernel) rfl (Nat.le_of_ble_eq_true rfl) ?_
  intro p e s m below meth c hx hb hml hr hlk hown hnm hts ls hl hw
  have hown : s.vm.findClass RX2 = some m.cls := hown
  have hl : lv_has ls 4 [(0, .ref a), (1, .int (nI w)), (2, .int (nI z))] := hl
  have k23 := hts (.fieldLink RX2 23 "RestartBook$Tables" "nexts" "[I") (by decide +kernel)
  have hin2 : ∀ w ∈ u_ws RX2 TX2 6, w ∈ wsX2_setNext := in_X2_setNext
  refine lv_aload_n hx hb dX2_setNext_0 rfl (lv_at hl 0 rfl) ?_
  refine lv_iload_n hx hb dX2_setNext_1 rfl (lv_at hl 1 rfl) ?_
  refine ww_callV ([]) ([]) (As := [.int (nI w)]) (rest := []) ⟨hx, hb, hml, hown, hts⟩ (cT_slotOf l D cI a a1 a2 a3 a4 a5 v fb (nI w) (TR_le h)) gX2_setNext_X2_slotOf rfl hd_X2_slotOf ⟨Nat.le_of_ble_eq_true rfl, Nat.le_of_ble_eq_true rfl⟩ hw rfl rfl rfl rfl rfl hl.1 (Nat.le_of_ble_eq_true rfl) dX2_setNext_2 ⟨Nat.le_of_ble_eq_true rfl, Nat.le_of_ble_eq_true rfl⟩ (fun v u H locs hq hw => ?_)
  obtain ⟨r, rfl, hq⟩ := hq
  have hw : ww D cI _ _ s ([(a, .inr (2, [.int (nI v.1), .ref a1, .ref a2, .ref a3, .ref a4, .ref a5])), (a1, .inl (cI, 16, .inl v.2.1)), (a2, .inl (cI, 16, .inl v.2.2.1)), (a3, .inl (cI, 16, .inl v.2.2.2.1)), (a4, .inl (cI, 16, .inl v.2.2.2.2)), (a5, .inl (cI, 64, .inl fb))]) H locs := hw
  refine W.eq (g2 := F0 m 5 ls [.int (r)]) rfl ?_
  rcases hq with ⟨i, hi, he, rfl⟩ | ⟨hno, rfl⟩
  · have hi16 : i < 16 := Nat.lt_of_lt_of_le hi (TR_le h)
    refine lv_istore_n (lv' := [(3, .int (nI i)), (0, .ref a), (1, .int (nI w)), (2, .int (nI z))]) hx hb dX2_setNext_5 rfl hl (by decide) rfl (fun ls hl => ?_)
    refine lv_iload_n hx hb dX2_setNext_6 rfl (lv_at hl 0 rfl) ?_
    refine lv_iconst (v := (-1)) hx hb dX2_setNext_7 (by decide +kernel) ?_
    refine lv_icmp_eq (tgt := 18) hx hb dX2_setNext_8 (by decide) (fun c_8 => absurd c_8 (nI_nm1 (by omega))) (fun c_8 => ?_)
    refine lv_aload_n hx hb dX2_setNext_11 rfl (lv_at hl 1 rfl) ?_
    refine ww_get hx hb hts hin2 hown hw 0 rfl rfl 4 (by decide) k23 rfl dX2_setNext_12 ?_
    refine lv_iload_n hx hb dX2_setNext_15 rfl (lv_at hl 0 rfl) ?_
    refine lv_iload_n hx hb dX2_setNext_16 rfl (lv_at hl 3 rfl) ?_
    refine ww_iast (ws' := [(a, .inr (2, [.int (nI v.1), .ref a1, .ref a2, .ref a3, .ref a4, .ref a5])), (a1, .inl (cI, 16, .inl v.2.1)), (a2, .inl (cI, 16, .inl v.2.2.1)), (a3, .inl (cI, 16, .inl v.2.2.2.1)), (a4, .inl (cI, 16, .inl (upd v.2.2.2.2 i (nI z)))), (a5, .inl (cI, 64, .inl fb))]) hx hb hw 4 rfl i rfl (by omega) (by omega) rfl dX2_setNext_17 (fun H locs hw => ?_)
    exact ww_vret (u := (upd v.2.2.2.2 i (nI z))) hx hb hr hlk hw (TR_setN h hwb hi he) (Nat.le_of_ble_eq_true rfl) (Nat.le_of_ble_eq_true rfl) rfl dX2_setNext_18
  · exact absurd (TR_no h hno) hp
