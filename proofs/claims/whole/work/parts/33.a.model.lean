/-! RestartBookModel: passing over, doing again; write, table -/
set_option maxRecDepth 20000 in
theorem in_X4_leastBase : ∀ w ∈ u_ws RX4 TX4 28, w ∈ wsX4_leastBase := by
  intro w h
  show w ∈ wsX4_leastBase
  simp only [wsX4_leastBase, List.mem_cons, List.mem_append]
  simp only [h, true_or, or_true]
set_option maxRecDepth 20000 in
theorem in_X4_chosen : ∀ w ∈ u_ws RX4 TX4 28, w ∈ wsX4_chosen := by
  intro w h
  show w ∈ wsX4_chosen
  simp only [wsX4_chosen, List.mem_cons, List.mem_append]
  simp only [h, true_or, or_true]
set_option maxRecDepth 20000 in
theorem in_X4_passOver : ∀ w ∈ u_ws RX4 TX4 28, w ∈ wsX4_passOver := by
  intro w h
  show w ∈ wsX4_passOver
  simp only [wsX4_passOver, List.mem_cons, List.mem_append]
  simp only [h, true_or, or_true]
set_option maxRecDepth 20000 in
theorem in_X4_doAgain : ∀ w ∈ u_ws RX4 TX4 28, w ∈ wsX4_doAgain := by
  intro w h
  show w ∈ wsX4_doAgain
  simp only [wsX4_doAgain, List.mem_cons, List.mem_append]
  simp only [h, true_or, or_true]
set_option maxRecDepth 20000 in
theorem in_X4_write : ∀ w ∈ u_ws RX4 TX4 28, w ∈ wsX4_write := by
  intro w h
  show w ∈ wsX4_write
  simp only [wsX4_write, List.mem_cons, List.mem_append]
  simp only [h, true_or, or_true]
set_option maxRecDepth 20000 in
theorem in_X4_table : ∀ w ∈ u_ws RX4 TX4 28, w ∈ wsX4_table := by
  intro w h
  show w ∈ wsX4_table
  simp only [wsX4_table, List.mem_cons, List.mem_append]
  simp only [h, true_or, or_true]
theorem hd_X4_leastBase : yX4_leastBase.cls = RX4 ∧ yX4_leastBase.cls ≠ "java/lang/invoke/MethodHandle" ∧ yX4_leastBase.cls ≠ "java/lang/invoke/VarHandle" ∧ (parseMethodDescriptor yX4_leastBase.desc).map (fun d => d.parameters.length) = some 0 := by decide +kernel
theorem hd_X4_chosen : yX4_chosen.cls = RX4 ∧ yX4_chosen.cls ≠ "java/lang/invoke/MethodHandle" ∧ yX4_chosen.cls ≠ "java/lang/invoke/VarHandle" ∧ (parseMethodDescriptor yX4_chosen.desc).map (fun d => d.parameters.length) = some 0 := by decide +kernel
theorem hd_X4_passOver : yX4_passOver.cls = RX4 ∧ yX4_passOver.cls ≠ "java/lang/invoke/MethodHandle" ∧ yX4_passOver.cls ≠ "java/lang/invoke/VarHandle" ∧ (parseMethodDescriptor yX4_passOver.desc).map (fun d => d.parameters.length) = some 0 := by decide +kernel
theorem hd_X4_doAgain : yX4_doAgain.cls = RX4 ∧ yX4_doAgain.cls ≠ "java/lang/invoke/MethodHandle" ∧ yX4_doAgain.cls ≠ "java/lang/invoke/VarHandle" ∧ (parseMethodDescriptor yX4_doAgain.desc).map (fun d => d.parameters.length) = some 1 := by decide +kernel
theorem hd_X4_write : yX4_write.cls = RX4 ∧ yX4_write.cls ≠ "java/lang/invoke/MethodHandle" ∧ yX4_write.cls ≠ "java/lang/invoke/VarHandle" ∧ (parseMethodDescriptor yX4_write.desc).map (fun d => d.parameters.length) = some 1 := by decide +kernel
theorem hd_X4_table : yX4_table.cls = RX4 ∧ yX4_table.cls ≠ "java/lang/invoke/MethodHandle" ∧ yX4_table.cls ≠ "java/lang/invoke/VarHandle" ∧ (parseMethodDescriptor yX4_table.desc).map (fun d => d.parameters.length) = some 2 := by decide +kernel
def lbM (n : Nat) (B : Nat → Nat) (q : Nat) : Nat := if lbD B q = 0 then n + 1 else lbD B q
theorem lbM_take {n q : Nat} {B : Nat → Nat} (h0 : B q ≠ 0) (h : B q < lbM n B q) : lbM n B (q + 1) = B q := by
  rw [lbM] at h ⊢
  have e : lbD B (q + 1) = B q := by
    rw [lbD, if_pos]
    refine ⟨h0, ?_⟩
    by_cases z : lbD B q = 0
    · exact Or.inl z
    · rw [if_neg z] at h; exact Or.inr h
  rw [e, if_neg h0]
theorem lbM_keep {n q : Nat} {B : Nat → Nat} (hB : B q ≤ n) (h : B q = 0 ∨ lbM n B q ≤ B q) : lbM n B (q + 1) = lbM n B q := by
  have e : lbD B (q + 1) = lbD B q := by
    rw [lbD, if_neg]
    rintro ⟨z1, z2⟩
    rcases h with h | h
    · exact z1 h
    · rw [lbM] at h
      rcases z2 with z2 | z2
      · rw [if_pos z2] at h; omega
      · by_cases z : lbD B q = 0
        · omega
        · rw [if_neg z] at h; omega
  rw [lbM, lbM, e]
set_option maxHeartbeats 1000000 in
set_option maxRecDepth 100000 in
theorem cM_leastBase (l : Launch) (D : va_G) (cI : ClassId) (a : Nat) (ra : Nat → Nat) (g : Nat → Nat → Int32) (n fo ch pt wk dn ap : Nat) (lt : Int32) (B : Nat → Nat) (hB : MB g B) (hBn : ∀ p, B p ≤ n) (hn : n < 2 ^ 30) : Kt l yX4_leastBase wsX4_leastBase 0 0 (0) (0) D cI [.ref a] ([(a, .inr (4, [.ref (ra 0), .ref (ra 1), .ref (ra 2), .ref (ra 3), .ref (ra 4), .ref (ra 5), .ref (ra 6), .int (nI n), .int (nI fo), .int (nI ch), .ref (ra 10), .ref (ra 11), .ref (ra 12), .ref (ra 13), .int (nI pt), .ref (ra 15), .ref (ra 16), .ref (ra 17), .ref (ra 18), .ref (ra 19), .int (nI wk), .ref (ra 21), .ref (ra 22), .ref (ra 23), .int (nI dn), .int (nI ap), .int lt, .ref (ra 27)])), ((ra 0), .inl (cI, 5200, .inl (g 0))), ((ra 1), .inl (cI, 5200, .inl (g 1))), ((ra 2), .inl (cI, 5200, .inl (g 2))), ((ra 3), .inl (cI, 5200, .inl (g 3))), ((ra 4), .inl (cI, 5200, .inl (g 4))), ((ra 5), .inl (cI, 5200, .inl (g 5))), ((ra 6), .inl (cI, 5200, .inl (g 6))), ((ra 10), .inl (cI, 20200, .inl (g 10))), ((ra 11), .inl (cI, 20200, .inl (g 11))), ((ra 12), .inl (cI, 20200, .inl (g 12))), ((ra 13), .inl (cI, 6500, .inl (g 13))), ((ra 15), .inl (cI, 512, .inl (g 15))), ((ra 16), .inl (cI, 64, .inl (g 16))), ((ra 17), .inl (cI, 64, .inl (g 17))), ((ra 18), .inl (cI, 512, .inl (g 18))), ((ra 19), .inl (cI, 64, .inl (g 19))), ((ra 21), .inl (cI, 201, .inl (g 21))), ((ra 22), .inl (cI, 201, .inl (g 22))), ((ra 23), .inl (cI, 201, .inl (g 23))), ((ra 27), .inl (cI, 4, .inl (g 27)))]) (pI (fun (r : Int32) (u : Unit) => r = nI (lbM n B 64))) (fun (u : Unit) => [(a, .inr (4, [.ref (ra 0), .ref (ra 1), .ref (ra 2), .ref (ra 3), .ref (ra 4), .ref (ra 5), .ref (ra 6), .int (nI n), .int (nI fo), .int (nI ch), .ref (ra 10), .ref (ra 11), .ref (ra 12), .ref (ra 13), .int (nI pt), .ref (ra 15), .ref (ra 16), .ref (ra 17), .ref (ra 18), .ref (ra 19), .int (nI wk), .ref (ra 21), .ref (ra 22), .ref (ra 23), .int (nI dn), .int (nI ap), .int lt, .ref (ra 27)])), ((ra 0), .inl (cI, 5200, .inl (g 0))), ((ra 1), .inl (cI, 5200, .inl (g 1))), ((ra 2), .inl (cI, 5200, .inl (g 2))), ((ra 3), .inl (cI, 5200, .inl (g 3))), ((ra 4), .inl (cI, 5200, .inl (g 4))), ((ra 5), .inl (cI, 5200, .inl (g 5))), ((ra 6), .inl (cI, 5200, .inl (g 6))), ((ra 10), .inl (cI, 20200, .inl (g 10))), ((ra 11), .inl (cI, 20200, .inl (g 11))), ((ra 12), .inl (cI, 20200, .inl (g 12))), ((ra 13), .inl (cI, 6500, .inl (g 13))), ((ra 15), .inl (cI, 512, .inl (g 15))), ((ra 16), .inl (cI, 64, .inl (g 16))), ((ra 17), .inl (cI, 64, .inl (g 17))), ((ra 18), .inl (cI, 512, .inl (g 18))), ((ra 19), .inl (cI, 64, .inl (g 19))), ((ra 21), .inl (cI, 201, .inl (g 21))), ((ra 22), .inl (cI, 201, .inl (g 22))), ((ra 23), .inl (cI, 201, .inl (g 23))), ((ra 27), .inl (cI, 4, .inl (g 27)))]) := by
  refine kt_start (cc := cX4_leastBase) (maxL := 3) (ret := (some .int)) (by decide +kernel) rfl (Nat.le_of_ble_eq_true rfl) ?_
  intro p e s m below meth c hx hb hml hr hlk hown hnm hts ls hl hw
  have hown : s.vm.findClass RX4 = some m.cls := hown
  have hl : lv_has ls 3 [(0, .ref a)] := hl
  have k49 := hts (.fieldLink RX4 49 "RestartBookModel" "bases" "[I") (by decide +kernel)
  have k78 := hts (.fieldLink RX4 78 "RestartBookModel" "records" "I") (by decide +kernel)
  have hin4 : ∀ w ∈ u_ws RX4 TX4 28, w ∈ wsX4_leastBase := in_X4_leastBase
  refine lv_aload_n hx hb dX4_leastBase_0 rfl (lv_at hl 0 rfl) ?_
  refine ww_get hx hb hts hin4 hown hw 0 rfl rfl 7 (by decide) k78 rfl dX4_leastBase_1 ?_
  refine lv_iconst (v := nI 1) hx hb dX4_leastBase_4 (by decide +kernel) ?_
  refine lv_iadd hx hb dX4_leastBase_5 ?_
  refine lv_eqi (show _ = nI (n + 1) from nI_add _ _) ?_
  refine lv_istore_n (lv' := [(1, .int (nI (n + 1))), (0, .ref a)]) hx hb dX4_leastBase_6 rfl hl (by decide) rfl (fun ls hl => ?_)
  refine lv_iconst (v := nI 0) hx hb dX4_leastBase_7 (by decide +kernel) ?_
  refine lv_istore_n (lv' := [(2, .int (nI 0)), (1, .int (nI (n + 1))), (0, .ref a)]) hx hb dX4_leastBase_8 rfl hl (by decide) rfl (fun ls hl => ?_)
  have lp : ∀ (t : Nat) (q : Nat) (v : Nat) (H : Heap) (locs : List Loc) (ls : Array Slot), 64 - q < t → (q ≤ 64) → (v = lbM n B q) → (v ≤ n + 1) → ww D cI (va_A ([(a, .inr (4, [.ref (ra 0), .ref (ra 1), .ref (ra 2), .ref (ra 3), .ref (ra 4), .ref (ra 5), .ref (ra 6), .int (nI n), .int (nI fo), .int (nI ch), .ref (ra 10), .ref (ra 11), .ref (ra 12), .ref (ra 13), .int (nI pt), .ref (ra 15), .ref (ra 16), .ref (ra 17), .ref (ra 18), .ref (ra 19), .int (nI wk), .ref (ra 21), .ref (ra 22), .ref (ra 23), .int (nI dn), .int (nI ap), .int lt, .ref (ra 27)])), ((ra 0), .inl (cI, 5200, .inl (g 0))), ((ra 1), .inl (cI, 5200, .inl (g 1))), ((ra 2), .inl (cI, 5200, .inl (g 2))), ((ra 3), .inl (cI, 5200, .inl (g 3))), ((ra 4), .inl (cI, 5200, .inl (g 4))), ((ra 5), .inl (cI, 5200, .inl (g 5))), ((ra 6), .inl (cI, 5200, .inl (g 6))), ((ra 10), .inl (cI, 20200, .inl (g 10))), ((ra 11), .inl (cI, 20200, .inl (g 11))), ((ra 12), .inl (cI, 20200, .inl (g 12))), ((ra 13), .inl (cI, 6500, .inl (g 13))), ((ra 15), .inl (cI, 512, .inl (g 15))), ((ra 16), .inl (cI, 64, .inl (g 16))), ((ra 17), .inl (cI, 64, .inl (g 17))), ((ra 18), .inl (cI, 512, .inl (g 18))), ((ra 19), .inl (cI, 64, .inl (g 19))), ((ra 21), .inl (cI, 201, .inl (g 21))), ((ra 22), .inl (cI, 201, .inl (g 22))), ((ra 23), .inl (cI, 201, .inl (g 23))), ((ra 27), .inl (cI, 4, .inl (g 27)))]) s.heap.size) s.heap s ([(a, .inr (4, [.ref (ra 0), .ref (ra 1), .ref (ra 2), .ref (ra 3), .ref (ra 4), .ref (ra 5), .ref (ra 6), .int (nI n), .int (nI fo), .int (nI ch), .ref (ra 10), .ref (ra 11), .ref (ra 12), .ref (ra 13), .int (nI pt), .ref (ra 15), .ref (ra 16), .ref (ra 17), .ref (ra 18), .ref (ra 19), .int (nI wk), .ref (ra 21), .ref (ra 22), .ref (ra 23), .int (nI dn), .int (nI ap), .int lt, .ref (ra 27)])), ((ra 0), .inl (cI, 5200, .inl (g 0))), ((ra 1), .inl (cI, 5200, .inl (g 1))), ((ra 2), .inl (cI, 5200, .inl (g 2))), ((ra 3), .inl (cI, 5200, .inl (g 3))), ((ra 4), .inl (cI, 5200, .inl (g 4))), ((ra 5), .inl (cI, 5200, .inl (g 5))), ((ra 6), .inl (cI, 5200, .inl (g 6))), ((ra 10), .inl (cI, 20200, .inl (g 10))), ((ra 11), .inl (cI, 20200, .inl (g 11))), ((ra 12), .inl (cI, 20200, .inl (g 12))), ((ra 13), .inl (cI, 6500, .inl (g 13))), ((ra 15), .inl (cI, 512, .inl (g 15))), ((ra 16), .inl (cI, 64, .inl (g 16))), ((ra 17), .inl (cI, 64, .inl (g 17))), ((ra 18), .inl (cI, 512, .inl (g 18))), ((ra 19), .inl (cI, 64, .inl (g 19))), ((ra 21), .inl (cI, 201, .inl (g 21))), ((ra 22), .inl (cI, 201, .inl (g 22))), ((ra 23), .inl (cI, 201, .inl (g 23))), ((ra 27), .inl (cI, 4, .inl (g 27)))]) H locs → lv_has ls 3 [(2, .int (nI q)), (1, .int (nI v)), (0, .ref a)] → W p l e { frames := 0, cells := 0, slots := 0, locals := 0 } s m [.ref a].toArray below meth c H locs (0) (0) (MQ below (kQ D cI ([(a, .inr (4, [.ref (ra 0), .ref (ra 1), .ref (ra 2), .ref (ra 3), .ref (ra 4), .ref (ra 5), .ref (ra 6), .int (nI n), .int (nI fo), .int (nI ch), .ref (ra 10), .ref (ra 11), .ref (ra 12), .ref (ra 13), .int (nI pt), .ref (ra 15), .ref (ra 16), .ref (ra 17), .ref (ra 18), .ref (ra 19), .int (nI wk), .ref (ra 21), .ref (ra 22), .ref (ra 23), .int (nI dn), .int (nI ap), .int lt, .ref (ra 27)])), ((ra 0), .inl (cI, 5200, .inl (g 0))), ((ra 1), .inl (cI, 5200, .inl (g 1))), ((ra 2), .inl (cI, 5200, .inl (g 2))), ((ra 3), .inl (cI, 5200, .inl (g 3))), ((ra 4), .inl (cI, 5200, .inl (g 4))), ((ra 5), .inl (cI, 5200, .inl (g 5))), ((ra 6), .inl (cI, 5200, .inl (g 6))), ((ra 10), .inl (cI, 20200, .inl (g 10))), ((ra 11), .inl (cI, 20200, .inl (g 11))), ((ra 12), .inl (cI, 20200, .inl (g 12))), ((ra 13), .inl (cI, 6500, .inl (g 13))), ((ra 15), .inl (cI, 512, .inl (g 15))), ((ra 16), .inl (cI, 64, .inl (g 16))), ((ra 17), .inl (cI, 64, .inl (g 17))), ((ra 18), .inl (cI, 512, .inl (g 18))), ((ra 19), .inl (cI, 64, .inl (g 19))), ((ra 21), .inl (cI, 201, .inl (g 21))), ((ra 22), .inl (cI, 201, .inl (g 22))), ((ra 23), .inl (cI, 201, .inl (g 23))), ((ra 27), .inl (cI, 4, .inl (g 27)))]) s.heap.size (pI (fun (r : Int32) (u : Unit) => r = nI (lbM n B 64))) (fun (u : Unit) => [(a, .inr (4, [.ref (ra 0), .ref (ra 1), .ref (ra 2), .ref (ra 3), .ref (ra 4), .ref (ra 5), .ref (ra 6), .int (nI n), .int (nI fo), .int (nI ch), .ref (ra 10), .ref (ra 11), .ref (ra 12), .ref (ra 13), .int (nI pt), .ref (ra 15), .ref (ra 16), .ref (ra 17), .ref (ra 18), .ref (ra 19), .int (nI wk), .ref (ra 21), .ref (ra 22), .ref (ra 23), .int (nI dn), .int (nI ap), .int lt, .ref (ra 27)])), ((ra 0), .inl (cI, 5200, .inl (g 0))), ((ra 1), .inl (cI, 5200, .inl (g 1))), ((ra 2), .inl (cI, 5200, .inl (g 2))), ((ra 3), .inl (cI, 5200, .inl (g 3))), ((ra 4), .inl (cI, 5200, .inl (g 4))), ((ra 5), .inl (cI, 5200, .inl (g 5))), ((ra 6), .inl (cI, 5200, .inl (g 6))), ((ra 10), .inl (cI, 20200, .inl (g 10))), ((ra 11), .inl (cI, 20200, .inl (g 11))), ((ra 12), .inl (cI, 20200, .inl (g 12))), ((ra 13), .inl (cI, 6500, .inl (g 13))), ((ra 15), .inl (cI, 512, .inl (g 15))), ((ra 16), .inl (cI, 64, .inl (g 16))), ((ra 17), .inl (cI, 64, .inl (g 17))), ((ra 18), .inl (cI, 512, .inl (g 18))), ((ra 19), .inl (cI, 64, .inl (g 19))), ((ra 21), .inl (cI, 201, .inl (g 21))), ((ra 22), .inl (cI, 201, .inl (g 22))), ((ra 23), .inl (cI, 201, .inl (g 23))), ((ra 27), .inl (cI, 4, .inl (g 27)))])) [.ref a].toArray s (0) (0) (va_A ([(a, .inr (4, [.ref (ra 0), .ref (ra 1), .ref (ra 2), .ref (ra 3), .ref (ra 4), .ref (ra 5), .ref (ra 6), .int (nI n), .int (nI fo), .int (nI ch), .ref (ra 10), .ref (ra 11), .ref (ra 12), .ref (ra 13), .int (nI pt), .ref (ra 15), .ref (ra 16), .ref (ra 17), .ref (ra 18), .ref (ra 19), .int (nI wk), .ref (ra 21), .ref (ra 22), .ref (ra 23), .int (nI dn), .int (nI ap), .int lt, .ref (ra 27)])), ((ra 0), .inl (cI, 5200, .inl (g 0))), ((ra 1), .inl (cI, 5200, .inl (g 1))), ((ra 2), .inl (cI, 5200, .inl (g 2))), ((ra 3), .inl (cI, 5200, .inl (g 3))), ((ra 4), .inl (cI, 5200, .inl (g 4))), ((ra 5), .inl (cI, 5200, .inl (g 5))), ((ra 6), .inl (cI, 5200, .inl (g 6))), ((ra 10), .inl (cI, 20200, .inl (g 10))), ((ra 11), .inl (cI, 20200, .inl (g 11))), ((ra 12), .inl (cI, 20200, .inl (g 12))), ((ra 13), .inl (cI, 6500, .inl (g 13))), ((ra 15), .inl (cI, 512, .inl (g 15))), ((ra 16), .inl (cI, 64, .inl (g 16))), ((ra 17), .inl (cI, 64, .inl (g 17))), ((ra 18), .inl (cI, 512, .inl (g 18))), ((ra 19), .inl (cI, 64, .inl (g 19))), ((ra 21), .inl (cI, 201, .inl (g 21))), ((ra 22), .inl (cI, 201, .inl (g 22))), ((ra 23), .inl (cI, 201, .inl (g 23))), ((ra 27), .inl (cI, 4, .inl (g 27)))]) s.heap.size)) (F0 m 9 ls []) := by
    intro t
    induction t with
    | zero => intro q v H locs ls ht; exact absurd ht (Nat.not_lt_zero _)
    | succ t ih_9 =>
      intro q v H locs ls ht hq0 hv hvn hw hl
      refine lv_iload_n hx hb dX4_leastBase_9 rfl (lv_at hl 0 rfl) ?_
      refine lv_bipush (v := nI 64) hx hb dX4_leastBase_10 (by decide +kernel) ?_
      refine lv_icmp_ge (tgt := 52) hx hb dX4_leastBase_12 (by decide) (fun c_12 => ?_) (fun c_12 => ?_)
      · refine lv_iload_n hx hb dX4_leastBase_52 rfl (lv_at hl 1 rfl) ?_
        exact ww_iret (u := ()) hx hb hr hlk hw (by rw [hv, show q = 64 by simp (disch := omega) only [i_le, nI_toInt] at c_12; omega]) (Nat.le_of_ble_eq_true rfl) (Nat.le_of_ble_eq_true rfl) dX4_leastBase_53
      · have hq : q < 64 := by simp (disch := omega) only [i_le, nI_toInt] at c_12; omega
        have hbn := hBn q
        refine lv_aload_n hx hb dX4_leastBase_15 rfl (lv_at hl 2 rfl) ?_
        refine ww_get hx hb hts hin4 hown hw 0 rfl rfl 17 (by decide) k49 rfl dX4_leastBase_16 ?_
        refine lv_iload_n hx hb dX4_leastBase_19 rfl (lv_at hl 0 rfl) ?_
        refine ww_iald hx hb hw 14 rfl q rfl (by omega) (by omega) dX4_leastBase_20 ?_
        refine lv_eqi (show _ = bsI (B q) from hB q hq) ?_
        refine lv_iconst (v := (-1)) hx hb dX4_leastBase_21 (by decide +kernel) ?_
        refine lv_icmp_eq (tgt := 44) hx hb dX4_leastBase_22 (by decide) (fun c_22 => ?_) (fun c_22 => ?_)
        · refine lv_iload_n hx hb dX4_leastBase_44 rfl (lv_at hl 1 rfl) ?_
          refine lv_istore_n (lv' := [(1, .int (nI v)), (2, .int (nI q)), (0, .ref a)]) hx hb dX4_leastBase_45 rfl hl (by decide) rfl (fun ls hl => ?_)
          refine lv_iinc (v := nI (q + 1)) (lv' := [(2, .int (nI (q + 1))), (1, .int (nI v)), (0, .ref a)]) hx hb dX4_leastBase_46 hl (k := 1) rfl (nI_add _ _) (by decide) rfl (fun ls hl => ?_)
          refine lv_goto (tgt := 9) hx hb dX4_leastBase_49 (by decide) ?_
          exact ih_9 (q + 1) v _ _ _ (by omega) (by omega) (hv.trans (lbM_keep (hBn q) (by first | exact Or.inl ((bsI_0 (by omega)).mp c_22) | exact Or.inr (by rw [bsI_n hbq, nI_leI (by omega) (by omega)] at c_32; omega))).symm) hvn hw (lv_sub hl [0, 1, 2] rfl)
        · have hbq : B q ≠ 0 := fun z => c_22 ((bsI_0 (by omega)).mpr z)
          refine lv_aload_n hx hb dX4_leastBase_25 rfl (lv_at hl 2 rfl) ?_
          refine ww_get hx hb hts hin4 hown hw 0 rfl rfl 17 (by decide) k49 rfl dX4_leastBase_26 ?_
          refine lv_iload_n hx hb dX4_leastBase_29 rfl (lv_at hl 0 rfl) ?_
          refine ww_iald hx hb hw 14 rfl q rfl (by omega) (by omega) dX4_leastBase_30 ?_
          refine lv_eqi (show _ = bsI (B q) from hB q hq) ?_
          refine lv_iload_n hx hb dX4_leastBase_31 rfl (lv_at hl 1 rfl) ?_
          refine lv_icmp_ge (tgt := 44) hx hb dX4_leastBase_32 (by decide) (fun c_32 => ?_) (fun c_32 => ?_)
          · refine lv_iload_n hx hb dX4_leastBase_44 rfl (lv_at hl 1 rfl) ?_
            refine lv_istore_n (lv' := [(1, .int (nI v)), (2, .int (nI q)), (0, .ref a)]) hx hb dX4_leastBase_45 rfl hl (by decide) rfl (fun ls hl => ?_)
            refine lv_iinc (v := nI (q + 1)) (lv' := [(2, .int (nI (q + 1))), (1, .int (nI v)), (0, .ref a)]) hx hb dX4_leastBase_46 hl (k := 1) rfl (nI_add _ _) (by decide) rfl (fun ls hl => ?_)
            refine lv_goto (tgt := 9) hx hb dX4_leastBase_49 (by decide) ?_
            exact ih_9 (q + 1) v _ _ _ (by omega) (by omega) (hv.trans (lbM_keep (hBn q) (by first | exact Or.inl ((bsI_0 (by omega)).mp c_22) | exact Or.inr (by rw [bsI_n hbq, nI_leI (by omega) (by omega)] at c_32; omega))).symm) hvn hw (lv_sub hl [0, 1, 2] rfl)
          · refine lv_aload_n hx hb dX4_leastBase_35 rfl (lv_at hl 2 rfl) ?_
            refine ww_get hx hb hts hin4 hown hw 0 rfl rfl 17 (by decide) k49 rfl dX4_leastBase_36 ?_
            refine lv_iload_n hx hb dX4_leastBase_39 rfl (lv_at hl 0 rfl) ?_
            refine ww_iald hx hb hw 14 rfl q rfl (by omega) (by omega) dX4_leastBase_40 ?_
            refine lv_eqi (show _ = nI (B q) from (hB q hq).trans (bsI_n hbq)) ?_
            refine lv_goto (tgt := 45) hx hb dX4_leastBase_41 (by decide) ?_
            refine lv_istore_n (lv' := [(1, .int (nI (B q))), (2, .int (nI q)), (0, .ref a)]) hx hb dX4_leastBase_45 rfl hl (by decide) rfl (fun ls hl => ?_)
            refine lv_iinc (v := nI (q + 1)) (lv' := [(2, .int (nI (q + 1))), (1, .int (nI (B q))), (0, .ref a)]) hx hb dX4_leastBase_46 hl (k := 1) rfl (nI_add _ _) (by decide) rfl (fun ls hl => ?_)
            refine lv_goto (tgt := 9) hx hb dX4_leastBase_49 (by decide) ?_
            exact ih_9 (q + 1) (B q) _ _ _ (by omega) (by omega) ((lbM_take hbq (by rw [← hv]; rw [bsI_n hbq, nI_leI (by omega) (by omega)] at c_32; omega)).symm) (by omega) hw (lv_sub hl [0, 1, 2] rfl)
  exact lp ((64 - (0)) + 1) 0 (n + 1) _ _ _ (Nat.lt_succ_self _) (Nat.zero_le _) rfl (Nat.le_refl _) hw (lv_sub hl [0, 1, 2] rfl)
noncomputable def chD (T : TF) (dn m : Nat) : Nat := if dn = 3 then lwD T 4 m else wuD T m
theorem chD_le (T : TF) (dn m : Nat) : chD T dn m ≤ m := by rw [chD]; split; exact lwD_le _ _ _; exact wuD_le _ _
def chP (T : TF) (dn v q : Nat) : Prop := (if dn = 3 then (T q).1 = 4 else (T q).1 = 1 ∨ (T q).1 = 2) ∧ (v = 0 ∨ (dn = 4 ∧ (T v).2.2 < (T q).2.2))
theorem chD_take {T : TF} {dn q : Nat} (hd : dn = 3 ∨ dn = 4) (hq : 1 ≤ q) (h : chP T dn (chD T dn (q - 1)) q) : chD T dn q = q := by
  obtain ⟨m, rfl⟩ : ∃ m, q = m + 1 := ⟨q - 1, by omega⟩
  rw [Nat.add_sub_cancel] at h
  rcases hd with hd | hd <;> subst hd
  · have h : (T (m + 1)).1 = 4 ∧ (lwD T 4 m = 0 ∨ (3 = 4 ∧ _)) := h
    show lwD T 4 (m + 1) = m + 1
    rw [lwD, if_pos]
    exact ⟨h.2.resolve_right (fun z => absurd z.1 (by decide)), h.1⟩
  · have h : ((T (m + 1)).1 = 1 ∨ (T (m + 1)).1 = 2) ∧ (wuD T m = 0 ∨ (4 = 4 ∧ (T (wuD T m)).2.2 < (T (m + 1)).2.2)) := h
    exact wuD_pos ⟨h.1, h.2.imp id (fun z => z.2)⟩
theorem chD_keep {T : TF} {dn q : Nat} (hd : dn = 3 ∨ dn = 4) (hq : 1 ≤ q) (h : ¬ chP T dn (chD T dn (q - 1)) q) : chD T dn q = chD T dn (q - 1) := by
  obtain ⟨m, rfl⟩ : ∃ m, q = m + 1 := ⟨q - 1, by omega⟩
  rw [Nat.add_sub_cancel] at h ⊢
  rcases hd with hd | hd <;> subst hd
  · show lwD T 4 (m + 1) = lwD T 4 m
    rw [lwD, if_neg]
    exact fun z => h ⟨z.2, Or.inl z.1⟩
  · exact wuD_neg (fun z => h ⟨z.1, z.2.imp id (fun y => ⟨rfl, y⟩)⟩)
theorem chD_ext {T : TF} {dn wk : Nat} (hd : dn = 3 ∨ dn = 4) (h : ∀ w, wk < w → (T w).1 = 0) : ∀ m, wk ≤ m → chD T dn m = chD T dn wk := by
  intro m hm
  induction hm with
  | refl => rfl
  | step hm ih =>
    rename_i k
    have z := h (k + 1) (Nat.lt_succ_of_le hm)
    rw [chD_keep hd (by omega) (fun q => by
      have q1 := q.1
      rw [z] at q1
      split at q1
      · omega
      · omega)]
    exact ih
theorem chD_in {T : TF} {dn m : Nat} (hd : dn = 3 ∨ dn = 4) : chD T dn m = 0 ∨ (T (chD T dn m)).1 ≠ 0 := by
  rcases hd with hd | hd <;> subst hd
  · rcases lwD_in T 4 m with z | z
    · exact Or.inl z
    · exact Or.inr (by show (T (lwD T 4 m)).1 ≠ 0; omega)
  · rcases wuD_in (T := T) m with z | z
    · exact Or.inl z
    · exact Or.inr (by show (T (wuD T m)).1 ≠ 0; omega)
set_option maxHeartbeats 1000000 in
set_option maxRecDepth 100000 in
theorem cM_chosen (l : Launch) (D : va_G) (cI : ClassId) (a : Nat) (ra : Nat → Nat) (g : Nat → Nat → Int32) (n fo ch pt wk dn ap : Nat) (lt : Int32) (T : TF) (hT : MT g T 201) (hTB : TB T) (hwk : wk ≤ 200) (hpr : ∀ w, (T w).1 ≠ 0 → 1 ≤ w ∧ w ≤ wk) (hdn : dn = 3 ∨ dn = 4) : Kt l yX4_chosen wsX4_chosen 0 0 (0) (0) D cI [.ref a] ([(a, .inr (4, [.ref (ra 0), .ref (ra 1), .ref (ra 2), .ref (ra 3), .ref (ra 4), .ref (ra 5), .ref (ra 6), .int (nI n), .int (nI fo), .int (nI ch), .ref (ra 10), .ref (ra 11), .ref (ra 12), .ref (ra 13), .int (nI pt), .ref (ra 15), .ref (ra 16), .ref (ra 17), .ref (ra 18), .ref (ra 19), .int (nI wk), .ref (ra 21), .ref (ra 22), .ref (ra 23), .int (nI dn), .int (nI ap), .int lt, .ref (ra 27)])), ((ra 0), .inl (cI, 5200, .inl (g 0))), ((ra 1), .inl (cI, 5200, .inl (g 1))), ((ra 2), .inl (cI, 5200, .inl (g 2))), ((ra 3), .inl (cI, 5200, .inl (g 3))), ((ra 4), .inl (cI, 5200, .inl (g 4))), ((ra 5), .inl (cI, 5200, .inl (g 5))), ((ra 6), .inl (cI, 5200, .inl (g 6))), ((ra 10), .inl (cI, 20200, .inl (g 10))), ((ra 11), .inl (cI, 20200, .inl (g 11))), ((ra 12), .inl (cI, 20200, .inl (g 12))), ((ra 13), .inl (cI, 6500, .inl (g 13))), ((ra 15), .inl (cI, 512, .inl (g 15))), ((ra 16), .inl (cI, 64, .inl (g 16))), ((ra 17), .inl (cI, 64, .inl (g 17))), ((ra 18), .inl (cI, 512, .inl (g 18))), ((ra 19), .inl (cI, 64, .inl (g 19))), ((ra 21), .inl (cI, 201, .inl (g 21))), ((ra 22), .inl (cI, 201, .inl (g 22))), ((ra 23), .inl (cI, 201, .inl (g 23))), ((ra 27), .inl (cI, 4, .inl (g 27)))]) (pI (fun (r : Int32) (u : Unit) => r = nI (chD T dn 200))) (fun (u : Unit) => [(a, .inr (4, [.ref (ra 0), .ref (ra 1), .ref (ra 2), .ref (ra 3), .ref (ra 4), .ref (ra 5), .ref (ra 6), .int (nI n), .int (nI fo), .int (nI ch), .ref (ra 10), .ref (ra 11), .ref (ra 12), .ref (ra 13), .int (nI pt), .ref (ra 15), .ref (ra 16), .ref (ra 17), .ref (ra 18), .ref (ra 19), .int (nI wk), .ref (ra 21), .ref (ra 22), .ref (ra 23), .int (nI dn), .int (nI ap), .int lt, .ref (ra 27)])), ((ra 0), .inl (cI, 5200, .inl (g 0))), ((ra 1), .inl (cI, 5200, .inl (g 1))), ((ra 2), .inl (cI, 5200, .inl (g 2))), ((ra 3), .inl (cI, 5200, .inl (g 3))), ((ra 4), .inl (cI, 5200, .inl (g 4))), ((ra 5), .inl (cI, 5200, .inl (g 5))), ((ra 6), .inl (cI, 5200, .inl (g 6))), ((ra 10), .inl (cI, 20200, .inl (g 10))), ((ra 11), .inl (cI, 20200, .inl (g 11))), ((ra 12), .inl (cI, 20200, .inl (g 12))), ((ra 13), .inl (cI, 6500, .inl (g 13))), ((ra 15), .inl (cI, 512, .inl (g 15))), ((ra 16), .inl (cI, 64, .inl (g 16))), ((ra 17), .inl (cI, 64, .inl (g 17))), ((ra 18), .inl (cI, 512, .inl (g 18))), ((ra 19), .inl (cI, 64, .inl (g 19))), ((ra 21), .inl (cI, 201, .inl (g 21))), ((ra 22), .inl (cI, 201, .inl (g 22))), ((ra 23), .inl (cI, 201, .inl (g 23))), ((ra 27), .inl (cI, 4, .inl (g 27)))]) := by
  refine kt_start (cc := cX4_chosen) (maxL := 5) (ret := (some .int)) (by decide +kernel) rfl (Nat.le_of_ble_eq_true rfl) ?_
  intro p e s m below meth c hx hb hml hr hlk hown hnm hts ls hl hw
  have hown : s.vm.findClass RX4 = some m.cls := hown
  have hl : lv_has ls 5 [(0, .ref a)] := hl
  have k58 := hts (.fieldLink RX4 58 "RestartBookModel" "states" "[I") (by decide +kernel)
  have k64 := hts (.fieldLink RX4 64 "RestartBookModel" "nexts" "[I") (by decide +kernel)
  have k70 := hts (.fieldLink RX4 70 "RestartBookModel" "works" "I") (by decide +kernel)
  have k103 := hts (.fieldLink RX4 103 "RestartBookModel" "doing" "I") (by decide +kernel)
  have hin4 : ∀ w ∈ u_ws RX4 TX4 28, w ∈ wsX4_chosen := in_X4_chosen
  refine lv_iconst (v := nI 0) hx hb dX4_chosen_0 (by decide +kernel) ?_
  refine lv_istore_n (lv' := [(1, .int (nI 0)), (0, .ref a)]) hx hb dX4_chosen_1 rfl hl (by decide) rfl (fun ls hl => ?_)
  refine lv_iconst (v := nI 1) hx hb dX4_chosen_2 (by decide +kernel) ?_
  refine lv_istore_n (lv' := [(2, .int (nI 1)), (1, .int (nI 0)), (0, .ref a)]) hx hb dX4_chosen_3 rfl hl (by decide) rfl (fun ls hl => ?_)
  have lp : ∀ (t : Nat) (q : Nat) (v : Nat) (H : Heap) (locs : List Loc) (ls : Array Slot), wk + 1 - q < t → (1 ≤ q) → (q ≤ wk + 1) → (v = chD T dn (q - 1)) → ww D cI (va_A ([(a, .inr (4, [.ref (ra 0), .ref (ra 1), .ref (ra 2), .ref (ra 3), .ref (ra 4), .ref (ra 5), .ref (ra 6), .int (nI n), .int (nI fo), .int (nI ch), .ref (ra 10), .ref (ra 11), .ref (ra 12), .ref (ra 13), .int (nI pt), .ref (ra 15), .ref (ra 16), .ref (ra 17), .ref (ra 18), .ref (ra 19), .int (nI wk), .ref (ra 21), .ref (ra 22), .ref (ra 23), .int (nI dn), .int (nI ap), .int lt, .ref (ra 27)])), ((ra 0), .inl (cI, 5200, .inl (g 0))), ((ra 1), .inl (cI, 5200, .inl (g 1))), ((ra 2), .inl (cI, 5200, .inl (g 2))), ((ra 3), .inl (cI, 5200, .inl (g 3))), ((ra 4), .inl (cI, 5200, .inl (g 4))), ((ra 5), .inl (cI, 5200, .inl (g 5))), ((ra 6), .inl (cI, 5200, .inl (g 6))), ((ra 10), .inl (cI, 20200, .inl (g 10))), ((ra 11), .inl (cI, 20200, .inl (g 11))), ((ra 12), .inl (cI, 20200, .inl (g 12))), ((ra 13), .inl (cI, 6500, .inl (g 13))), ((ra 15), .inl (cI, 512, .inl (g 15))), ((ra 16), .inl (cI, 64, .inl (g 16))), ((ra 17), .inl (cI, 64, .inl (g 17))), ((ra 18), .inl (cI, 512, .inl (g 18))), ((ra 19), .inl (cI, 64, .inl (g 19))), ((ra 21), .inl (cI, 201, .inl (g 21))), ((ra 22), .inl (cI, 201, .inl (g 22))), ((ra 23), .inl (cI, 201, .inl (g 23))), ((ra 27), .inl (cI, 4, .inl (g 27)))]) s.heap.size) s.heap s ([(a, .inr (4, [.ref (ra 0), .ref (ra 1), .ref (ra 2), .ref (ra 3), .ref (ra 4), .ref (ra 5), .ref (ra 6), .int (nI n), .int (nI fo), .int (nI ch), .ref (ra 10), .ref (ra 11), .ref (ra 12), .ref (ra 13), .int (nI pt), .ref (ra 15), .ref (ra 16), .ref (ra 17), .ref (ra 18), .ref (ra 19), .int (nI wk), .ref (ra 21), .ref (ra 22), .ref (ra 23), .int (nI dn), .int (nI ap), .int lt, .ref (ra 27)])), ((ra 0), .inl (cI, 5200, .inl (g 0))), ((ra 1), .inl (cI, 5200, .inl (g 1))), ((ra 2), .inl (cI, 5200, .inl (g 2))), ((ra 3), .inl (cI, 5200, .inl (g 3))), ((ra 4), .inl (cI, 5200, .inl (g 4))), ((ra 5), .inl (cI, 5200, .inl (g 5))), ((ra 6), .inl (cI, 5200, .inl (g 6))), ((ra 10), .inl (cI, 20200, .inl (g 10))), ((ra 11), .inl (cI, 20200, .inl (g 11))), ((ra 12), .inl (cI, 20200, .inl (g 12))), ((ra 13), .inl (cI, 6500, .inl (g 13))), ((ra 15), .inl (cI, 512, .inl (g 15))), ((ra 16), .inl (cI, 64, .inl (g 16))), ((ra 17), .inl (cI, 64, .inl (g 17))), ((ra 18), .inl (cI, 512, .inl (g 18))), ((ra 19), .inl (cI, 64, .inl (g 19))), ((ra 21), .inl (cI, 201, .inl (g 21))), ((ra 22), .inl (cI, 201, .inl (g 22))), ((ra 23), .inl (cI, 201, .inl (g 23))), ((ra 27), .inl (cI, 4, .inl (g 27)))]) H locs → lv_has ls 5 [(2, .int (nI q)), (1, .int (nI v)), (0, .ref a)] → W p l e { frames := 0, cells := 0, slots := 0, locals := 0 } s m [.ref a].toArray below meth c H locs (0) (0) (MQ below (kQ D cI ([(a, .inr (4, [.ref (ra 0), .ref (ra 1), .ref (ra 2), .ref (ra 3), .ref (ra 4), .ref (ra 5), .ref (ra 6), .int (nI n), .int (nI fo), .int (nI ch), .ref (ra 10), .ref (ra 11), .ref (ra 12), .ref (ra 13), .int (nI pt), .ref (ra 15), .ref (ra 16), .ref (ra 17), .ref (ra 18), .ref (ra 19), .int (nI wk), .ref (ra 21), .ref (ra 22), .ref (ra 23), .int (nI dn), .int (nI ap), .int lt, .ref (ra 27)])), ((ra 0), .inl (cI, 5200, .inl (g 0))), ((ra 1), .inl (cI, 5200, .inl (g 1))), ((ra 2), .inl (cI, 5200, .inl (g 2))), ((ra 3), .inl (cI, 5200, .inl (g 3))), ((ra 4), .inl (cI, 5200, .inl (g 4))), ((ra 5), .inl (cI, 5200, .inl (g 5))), ((ra 6), .inl (cI, 5200, .inl (g 6))), ((ra 10), .inl (cI, 20200, .inl (g 10))), ((ra 11), .inl (cI, 20200, .inl (g 11))), ((ra 12), .inl (cI, 20200, .inl (g 12))), ((ra 13), .inl (cI, 6500, .inl (g 13))), ((ra 15), .inl (cI, 512, .inl (g 15))), ((ra 16), .inl (cI, 64, .inl (g 16))), ((ra 17), .inl (cI, 64, .inl (g 17))), ((ra 18), .inl (cI, 512, .inl (g 18))), ((ra 19), .inl (cI, 64, .inl (g 19))), ((ra 21), .inl (cI, 201, .inl (g 21))), ((ra 22), .inl (cI, 201, .inl (g 22))), ((ra 23), .inl (cI, 201, .inl (g 23))), ((ra 27), .inl (cI, 4, .inl (g 27)))]) s.heap.size (pI (fun (r : Int32) (u : Unit) => r = nI (chD T dn 200))) (fun (u : Unit) => [(a, .inr (4, [.ref (ra 0), .ref (ra 1), .ref (ra 2), .ref (ra 3), .ref (ra 4), .ref (ra 5), .ref (ra 6), .int (nI n), .int (nI fo), .int (nI ch), .ref (ra 10), .ref (ra 11), .ref (ra 12), .ref (ra 13), .int (nI pt), .ref (ra 15), .ref (ra 16), .ref (ra 17), .ref (ra 18), .ref (ra 19), .int (nI wk), .ref (ra 21), .ref (ra 22), .ref (ra 23), .int (nI dn), .int (nI ap), .int lt, .ref (ra 27)])), ((ra 0), .inl (cI, 5200, .inl (g 0))), ((ra 1), .inl (cI, 5200, .inl (g 1))), ((ra 2), .inl (cI, 5200, .inl (g 2))), ((ra 3), .inl (cI, 5200, .inl (g 3))), ((ra 4), .inl (cI, 5200, .inl (g 4))), ((ra 5), .inl (cI, 5200, .inl (g 5))), ((ra 6), .inl (cI, 5200, .inl (g 6))), ((ra 10), .inl (cI, 20200, .inl (g 10))), ((ra 11), .inl (cI, 20200, .inl (g 11))), ((ra 12), .inl (cI, 20200, .inl (g 12))), ((ra 13), .inl (cI, 6500, .inl (g 13))), ((ra 15), .inl (cI, 512, .inl (g 15))), ((ra 16), .inl (cI, 64, .inl (g 16))), ((ra 17), .inl (cI, 64, .inl (g 17))), ((ra 18), .inl (cI, 512, .inl (g 18))), ((ra 19), .inl (cI, 64, .inl (g 19))), ((ra 21), .inl (cI, 201, .inl (g 21))), ((ra 22), .inl (cI, 201, .inl (g 22))), ((ra 23), .inl (cI, 201, .inl (g 23))), ((ra 27), .inl (cI, 4, .inl (g 27)))])) [.ref a].toArray s (0) (0) (va_A ([(a, .inr (4, [.ref (ra 0), .ref (ra 1), .ref (ra 2), .ref (ra 3), .ref (ra 4), .ref (ra 5), .ref (ra 6), .int (nI n), .int (nI fo), .int (nI ch), .ref (ra 10), .ref (ra 11), .ref (ra 12), .ref (ra 13), .int (nI pt), .ref (ra 15), .ref (ra 16), .ref (ra 17), .ref (ra 18), .ref (ra 19), .int (nI wk), .ref (ra 21), .ref (ra 22), .ref (ra 23), .int (nI dn), .int (nI ap), .int lt, .ref (ra 27)])), ((ra 0), .inl (cI, 5200, .inl (g 0))), ((ra 1), .inl (cI, 5200, .inl (g 1))), ((ra 2), .inl (cI, 5200, .inl (g 2))), ((ra 3), .inl (cI, 5200, .inl (g 3))), ((ra 4), .inl (cI, 5200, .inl (g 4))), ((ra 5), .inl (cI, 5200, .inl (g 5))), ((ra 6), .inl (cI, 5200, .inl (g 6))), ((ra 10), .inl (cI, 20200, .inl (g 10))), ((ra 11), .inl (cI, 20200, .inl (g 11))), ((ra 12), .inl (cI, 20200, .inl (g 12))), ((ra 13), .inl (cI, 6500, .inl (g 13))), ((ra 15), .inl (cI, 512, .inl (g 15))), ((ra 16), .inl (cI, 64, .inl (g 16))), ((ra 17), .inl (cI, 64, .inl (g 17))), ((ra 18), .inl (cI, 512, .inl (g 18))), ((ra 19), .inl (cI, 64, .inl (g 19))), ((ra 21), .inl (cI, 201, .inl (g 21))), ((ra 22), .inl (cI, 201, .inl (g 22))), ((ra 23), .inl (cI, 201, .inl (g 23))), ((ra 27), .inl (cI, 4, .inl (g 27)))]) s.heap.size)) (F0 m 4 ls []) := by
    intro t
    induction t with
    | zero => intro q v H locs ls ht; exact absurd ht (Nat.not_lt_zero _)
    | succ t ih_4 =>
      intro q v H locs ls ht hq1 hq2 hv hw hl
      refine lv_iload_n hx hb dX4_chosen_4 rfl (lv_at hl 0 rfl) ?_
      refine lv_aload_n hx hb dX4_chosen_5 rfl (lv_at hl 2 rfl) ?_
      refine ww_get hx hb hts hin4 hown hw 0 rfl rfl 20 (by decide) k70 rfl dX4_chosen_6 ?_
      refine lv_icmp_gt (tgt := 119) hx hb dX4_chosen_9 (by decide) (fun c_9 => ?_) (fun c_9 => ?_)
      · refine lv_iload_n hx hb dX4_chosen_119 rfl (lv_at hl 1 rfl) ?_
        exact ww_iret (u := ()) hx hb hr hlk hw (by rw [hv, show q - 1 = wk by simp (disch := omega) only [i_lt, nI_toInt] at c_9; omega, ← chD_ext hdn (fun w hw => by by_cases z : (T w).1 = 0; exact z; have := (hpr w z).2; omega) 200 hwk]) (Nat.le_of_ble_eq_true rfl) (Nat.le_of_ble_eq_true rfl) dX4_chosen_120
      · have hqw : q ≤ wk := by simp (disch := omega) only [i_lt, nI_toInt] at c_9; omega
        have hvq : v ≤ q - 1 := by rw [hv]; exact chD_le _ _ _
        have hsq := (hT q (by omega)).1 (by omega)
        have htq := (hTB q).1
        have J_63 : ∀ (bv : Nat) (H : Heap) (locs : List Loc) (ls : Array Slot), ((bv = 1 ∧ (if dn = 3 then (T q).1 = 4 else (T q).1 = 1 ∨ (T q).1 = 2)) ∨ (bv = 0 ∧ ¬ (if dn = 3 then (T q).1 = 4 else (T q).1 = 1 ∨ (T q).1 = 2))) → ww D cI (va_A ([(a, .inr (4, [.ref (ra 0), .ref (ra 1), .ref (ra 2), .ref (ra 3), .ref (ra 4), .ref (ra 5), .ref (ra 6), .int (nI n), .int (nI fo), .int (nI ch), .ref (ra 10), .ref (ra 11), .ref (ra 12), .ref (ra 13), .int (nI pt), .ref (ra 15), .ref (ra 16), .ref (ra 17), .ref (ra 18), .ref (ra 19), .int (nI wk), .ref (ra 21), .ref (ra 22), .ref (ra 23), .int (nI dn), .int (nI ap), .int lt, .ref (ra 27)])), ((ra 0), .inl (cI, 5200, .inl (g 0))), ((ra 1), .inl (cI, 5200, .inl (g 1))), ((ra 2), .inl (cI, 5200, .inl (g 2))), ((ra 3), .inl (cI, 5200, .inl (g 3))), ((ra 4), .inl (cI, 5200, .inl (g 4))), ((ra 5), .inl (cI, 5200, .inl (g 5))), ((ra 6), .inl (cI, 5200, .inl (g 6))), ((ra 10), .inl (cI, 20200, .inl (g 10))), ((ra 11), .inl (cI, 20200, .inl (g 11))), ((ra 12), .inl (cI, 20200, .inl (g 12))), ((ra 13), .inl (cI, 6500, .inl (g 13))), ((ra 15), .inl (cI, 512, .inl (g 15))), ((ra 16), .inl (cI, 64, .inl (g 16))), ((ra 17), .inl (cI, 64, .inl (g 17))), ((ra 18), .inl (cI, 512, .inl (g 18))), ((ra 19), .inl (cI, 64, .inl (g 19))), ((ra 21), .inl (cI, 201, .inl (g 21))), ((ra 22), .inl (cI, 201, .inl (g 22))), ((ra 23), .inl (cI, 201, .inl (g 23))), ((ra 27), .inl (cI, 4, .inl (g 27)))]) s.heap.size) s.heap s ([(a, .inr (4, [.ref (ra 0), .ref (ra 1), .ref (ra 2), .ref (ra 3), .ref (ra 4), .ref (ra 5), .ref (ra 6), .int (nI n), .int (nI fo), .int (nI ch), .ref (ra 10), .ref (ra 11), .ref (ra 12), .ref (ra 13), .int (nI pt), .ref (ra 15), .ref (ra 16), .ref (ra 17), .ref (ra 18), .ref (ra 19), .int (nI wk), .ref (ra 21), .ref (ra 22), .ref (ra 23), .int (nI dn), .int (nI ap), .int lt, .ref (ra 27)])), ((ra 0), .inl (cI, 5200, .inl (g 0))), ((ra 1), .inl (cI, 5200, .inl (g 1))), ((ra 2), .inl (cI, 5200, .inl (g 2))), ((ra 3), .inl (cI, 5200, .inl (g 3))), ((ra 4), .inl (cI, 5200, .inl (g 4))), ((ra 5), .inl (cI, 5200, .inl (g 5))), ((ra 6), .inl (cI, 5200, .inl (g 6))), ((ra 10), .inl (cI, 20200, .inl (g 10))), ((ra 11), .inl (cI, 20200, .inl (g 11))), ((ra 12), .inl (cI, 20200, .inl (g 12))), ((ra 13), .inl (cI, 6500, .inl (g 13))), ((ra 15), .inl (cI, 512, .inl (g 15))), ((ra 16), .inl (cI, 64, .inl (g 16))), ((ra 17), .inl (cI, 64, .inl (g 17))), ((ra 18), .inl (cI, 512, .inl (g 18))), ((ra 19), .inl (cI, 64, .inl (g 19))), ((ra 21), .inl (cI, 201, .inl (g 21))), ((ra 22), .inl (cI, 201, .inl (g 22))), ((ra 23), .inl (cI, 201, .inl (g 23))), ((ra 27), .inl (cI, 4, .inl (g 27)))]) H locs → lv_has ls 5 [(2, .int (nI q)), (1, .int (nI v)), (0, .ref a)] → W p l e { frames := 0, cells := 0, slots := 0, locals := 0 } s m [.ref a].toArray below meth c H locs (0) (0) (MQ below (kQ D cI ([(a, .inr (4, [.ref (ra 0), .ref (ra 1), .ref (ra 2), .ref (ra 3), .ref (ra 4), .ref (ra 5), .ref (ra 6), .int (nI n), .int (nI fo), .int (nI ch), .ref (ra 10), .ref (ra 11), .ref (ra 12), .ref (ra 13), .int (nI pt), .ref (ra 15), .ref (ra 16), .ref (ra 17), .ref (ra 18), .ref (ra 19), .int (nI wk), .ref (ra 21), .ref (ra 22), .ref (ra 23), .int (nI dn), .int (nI ap), .int lt, .ref (ra 27)])), ((ra 0), .inl (cI, 5200, .inl (g 0))), ((ra 1), .inl (cI, 5200, .inl (g 1))), ((ra 2), .inl (cI, 5200, .inl (g 2))), ((ra 3), .inl (cI, 5200, .inl (g 3))), ((ra 4), .inl (cI, 5200, .inl (g 4))), ((ra 5), .inl (cI, 5200, .inl (g 5))), ((ra 6), .inl (cI, 5200, .inl (g 6))), ((ra 10), .inl (cI, 20200, .inl (g 10))), ((ra 11), .inl (cI, 20200, .inl (g 11))), ((ra 12), .inl (cI, 20200, .inl (g 12))), ((ra 13), .inl (cI, 6500, .inl (g 13))), ((ra 15), .inl (cI, 512, .inl (g 15))), ((ra 16), .inl (cI, 64, .inl (g 16))), ((ra 17), .inl (cI, 64, .inl (g 17))), ((ra 18), .inl (cI, 512, .inl (g 18))), ((ra 19), .inl (cI, 64, .inl (g 19))), ((ra 21), .inl (cI, 201, .inl (g 21))), ((ra 22), .inl (cI, 201, .inl (g 22))), ((ra 23), .inl (cI, 201, .inl (g 23))), ((ra 27), .inl (cI, 4, .inl (g 27)))]) s.heap.size (pI (fun (r : Int32) (u : Unit) => r = nI (chD T dn 200))) (fun (u : Unit) => [(a, .inr (4, [.ref (ra 0), .ref (ra 1), .ref (ra 2), .ref (ra 3), .ref (ra 4), .ref (ra 5), .ref (ra 6), .int (nI n), .int (nI fo), .int (nI ch), .ref (ra 10), .ref (ra 11), .ref (ra 12), .ref (ra 13), .int (nI pt), .ref (ra 15), .ref (ra 16), .ref (ra 17), .ref (ra 18), .ref (ra 19), .int (nI wk), .ref (ra 21), .ref (ra 22), .ref (ra 23), .int (nI dn), .int (nI ap), .int lt, .ref (ra 27)])), ((ra 0), .inl (cI, 5200, .inl (g 0))), ((ra 1), .inl (cI, 5200, .inl (g 1))), ((ra 2), .inl (cI, 5200, .inl (g 2))), ((ra 3), .inl (cI, 5200, .inl (g 3))), ((ra 4), .inl (cI, 5200, .inl (g 4))), ((ra 5), .inl (cI, 5200, .inl (g 5))), ((ra 6), .inl (cI, 5200, .inl (g 6))), ((ra 10), .inl (cI, 20200, .inl (g 10))), ((ra 11), .inl (cI, 20200, .inl (g 11))), ((ra 12), .inl (cI, 20200, .inl (g 12))), ((ra 13), .inl (cI, 6500, .inl (g 13))), ((ra 15), .inl (cI, 512, .inl (g 15))), ((ra 16), .inl (cI, 64, .inl (g 16))), ((ra 17), .inl (cI, 64, .inl (g 17))), ((ra 18), .inl (cI, 512, .inl (g 18))), ((ra 19), .inl (cI, 64, .inl (g 19))), ((ra 21), .inl (cI, 201, .inl (g 21))), ((ra 22), .inl (cI, 201, .inl (g 22))), ((ra 23), .inl (cI, 201, .inl (g 23))), ((ra 27), .inl (cI, 4, .inl (g 27)))])) [.ref a].toArray s (0) (0) (va_A ([(a, .inr (4, [.ref (ra 0), .ref (ra 1), .ref (ra 2), .ref (ra 3), .ref (ra 4), .ref (ra 5), .ref (ra 6), .int (nI n), .int (nI fo), .int (nI ch), .ref (ra 10), .ref (ra 11), .ref (ra 12), .ref (ra 13), .int (nI pt), .ref (ra 15), .ref (ra 16), .ref (ra 17), .ref (ra 18), .ref (ra 19), .int (nI wk), .ref (ra 21), .ref (ra 22), .ref (ra 23), .int (nI dn), .int (nI ap), .int lt, .ref (ra 27)])), ((ra 0), .inl (cI, 5200, .inl (g 0))), ((ra 1), .inl (cI, 5200, .inl (g 1))), ((ra 2), .inl (cI, 5200, .inl (g 2))), ((ra 3), .inl (cI, 5200, .inl (g 3))), ((ra 4), .inl (cI, 5200, .inl (g 4))), ((ra 5), .inl (cI, 5200, .inl (g 5))), ((ra 6), .inl (cI, 5200, .inl (g 6))), ((ra 10), .inl (cI, 20200, .inl (g 10))), ((ra 11), .inl (cI, 20200, .inl (g 11))), ((ra 12), .inl (cI, 20200, .inl (g 12))), ((ra 13), .inl (cI, 6500, .inl (g 13))), ((ra 15), .inl (cI, 512, .inl (g 15))), ((ra 16), .inl (cI, 64, .inl (g 16))), ((ra 17), .inl (cI, 64, .inl (g 17))), ((ra 18), .inl (cI, 512, .inl (g 18))), ((ra 19), .inl (cI, 64, .inl (g 19))), ((ra 21), .inl (cI, 201, .inl (g 21))), ((ra 22), .inl (cI, 201, .inl (g 22))), ((ra 23), .inl (cI, 201, .inl (g 23))), ((ra 27), .inl (cI, 4, .inl (g 27)))]) s.heap.size)) (F0 m 63 ls [.int (nI bv)]) := by
          intro bv H locs ls hbv hw hl
          refine lv_istore_n (lv' := [(3, .int (nI bv)), (2, .int (nI q)), (1, .int (nI v)), (0, .ref a)]) hx hb dX4_chosen_63 rfl hl (by decide) rfl (fun ls hl => ?_)
          refine lv_iload_n hx hb dX4_chosen_64 rfl (lv_at hl 2 rfl) ?_
          refine lv_if_eq (tgt := 91) hx hb dX4_chosen_65 (by decide) (fun c_65 => ?_) (fun c_65 => ?_)
          · refine lv_iconst (v := nI 1) hx hb dX4_chosen_91 (by decide +kernel) ?_
            refine lv_goto (tgt := 96) hx hb dX4_chosen_92 (by decide) ?_
            rcases hbv with ⟨rfl, his⟩ | ⟨rfl, hnis⟩
            · have hbt : (v = 0 ∨ (dn = 4 ∧ (T v).2.2 < (T q).2.2)) := by first | exact Or.inl ((nI_eq (by omega) (by omega)).mp (c_65.trans nI_0.symm)) | exact Or.inr ⟨nI_q (by omega) (by omega) c_73, by have hv0 : v ≠ 0 := fun z => c_65 (by rw [z]; exact nI_0); have hvp : (T v).1 ≠ 0 := (by rw [hv]; exact (chD_in hdn).resolve_left (by rw [← hv]; exact hv0)); have hqp : (T q).1 ≠ 0 := (by intro z; rw [z] at his; split at his <;> omega); rw [((hT q (by omega)).2 hqp).2, ((hT v (by omega)).2 hvp).2, nI_leI (hTB _).2.2 (hTB _).2.2] at c_88; omega⟩
              refine lv_istore (lv' := [(4, .int (nI 1)), (3, .int (nI 1)), (2, .int (nI q)), (1, .int (nI v)), (0, .ref a)]) hx hb dX4_chosen_96 hl (by decide) rfl (fun ls hl => ?_)
              refine lv_iload_n hx hb dX4_chosen_98 rfl (lv_at hl 1 rfl) ?_
              refine lv_if_eq (tgt := 111) hx hb dX4_chosen_99 (by decide) (fun c_99 => absurd c_99 (by decide)) (fun c_99 => ?_)
              refine lv_iload hx hb dX4_chosen_102 (lv_at hl 0 rfl) ?_
              refine lv_if_eq (tgt := 111) hx hb dX4_chosen_104 (by decide) (fun c_104 => absurd c_104 (by decide)) (fun c_104 => ?_)
              refine lv_iload_n hx hb dX4_chosen_107 rfl (lv_at hl 2 rfl) ?_
              refine lv_goto (tgt := 112) hx hb dX4_chosen_108 (by decide) ?_
              refine lv_istore_n (lv' := [(1, .int (nI q)), (4, .int (nI 1)), (3, .int (nI 1)), (2, .int (nI q)), (0, .ref a)]) hx hb dX4_chosen_112 rfl hl (by decide) rfl (fun ls hl => ?_)
              refine lv_iinc (v := nI (q + 1)) (lv' := [(2, .int (nI (q + 1))), (1, .int (nI q)), (4, .int (nI 1)), (3, .int (nI 1)), (0, .ref a)]) hx hb dX4_chosen_113 hl (k := 3) rfl (nI_add _ _) (by decide) rfl (fun ls hl => ?_)
              refine lv_goto (tgt := 4) hx hb dX4_chosen_116 (by decide) ?_
              exact ih_4 (q + 1) q _ _ _ (by omega) (by omega) (by omega) (by rw [Nat.add_sub_cancel, chD_take hdn hq1 (by rw [← hv]; exact ⟨his, hbt⟩)]) hw (lv_sub hl [0, 1, 4] rfl)
            · skip
              refine lv_istore (lv' := [(4, .int (nI 1)), (3, .int (nI 0)), (2, .int (nI q)), (1, .int (nI v)), (0, .ref a)]) hx hb dX4_chosen_96 hl (by decide) rfl (fun ls hl => ?_)
              refine lv_iload_n hx hb dX4_chosen_98 rfl (lv_at hl 1 rfl) ?_
              refine lv_if_eq (tgt := 111) hx hb dX4_chosen_99 (by decide) (fun c_99 => ?_) (fun c_99 => absurd (by decide) c_99)
              refine lv_iload_n hx hb dX4_chosen_111 rfl (lv_at hl 3 rfl) ?_
              refine lv_istore_n (lv' := [(1, .int (nI v)), (4, .int (nI 1)), (3, .int (nI 0)), (2, .int (nI q)), (0, .ref a)]) hx hb dX4_chosen_112 rfl hl (by decide) rfl (fun ls hl => ?_)
              refine lv_iinc (v := nI (q + 1)) (lv' := [(2, .int (nI (q + 1))), (1, .int (nI v)), (4, .int (nI 1)), (3, .int (nI 0)), (0, .ref a)]) hx hb dX4_chosen_113 hl (k := 3) rfl (nI_add _ _) (by decide) rfl (fun ls hl => ?_)
              refine lv_goto (tgt := 4) hx hb dX4_chosen_116 (by decide) ?_
              exact ih_4 (q + 1) v _ _ _ (by omega) (by omega) (by omega) (by rw [Nat.add_sub_cancel, chD_keep hdn hq1 (by rw [← hv]; first | exact fun z => hnis z.1 | exact fun z => hnbt z.2)]; exact hv) hw (lv_sub hl [0, 1, 4] rfl)
          · refine lv_aload_n hx hb dX4_chosen_68 rfl (lv_at hl 3 rfl) ?_
            refine ww_get hx hb hts hin4 hown hw 0 rfl rfl 24 (by decide) k103 rfl dX4_chosen_69 ?_
            refine lv_iconst (v := nI 4) hx hb dX4_chosen_72 (by decide +kernel) ?_
            refine lv_icmp_ne (tgt := 95) hx hb dX4_chosen_73 (by decide) (fun c_73 => ?_) (fun c_73 => ?_)
            · refine lv_iconst (v := nI 0) hx hb dX4_chosen_95 (by decide +kernel) ?_
              rcases hbv with ⟨rfl, his⟩ | ⟨rfl, hnis⟩
              · have hnbt : ¬ (v = 0 ∨ (dn = 4 ∧ (T v).2.2 < (T q).2.2)) := by first | exact fun z => z.elim (fun z => c_65 (by rw [z]; exact nI_0)) (fun z => c_73 (by rw [z.1])) | exact fun z => z.elim (fun z => c_65 (by rw [z]; exact nI_0)) (fun z2 => by have hv0 : v ≠ 0 := fun z => c_65 (by rw [z]; exact nI_0); have hvp : (T v).1 ≠ 0 := (by rw [hv]; exact (chD_in hdn).resolve_left (by rw [← hv]; exact hv0)); have hqp : (T q).1 ≠ 0 := (by intro z; rw [z] at his; split at his <;> omega); rw [((hT q (by omega)).2 hqp).2, ((hT v (by omega)).2 hvp).2, nI_leI (hTB _).2.2 (hTB _).2.2] at c_88; have := z2.2; omega)
                refine lv_istore (lv' := [(4, .int (nI 0)), (3, .int (nI 1)), (2, .int (nI q)), (1, .int (nI v)), (0, .ref a)]) hx hb dX4_chosen_96 hl (by decide) rfl (fun ls hl => ?_)
                refine lv_iload_n hx hb dX4_chosen_98 rfl (lv_at hl 1 rfl) ?_
                refine lv_if_eq (tgt := 111) hx hb dX4_chosen_99 (by decide) (fun c_99 => absurd c_99 (by decide)) (fun c_99 => ?_)
                refine lv_iload hx hb dX4_chosen_102 (lv_at hl 0 rfl) ?_
                refine lv_if_eq (tgt := 111) hx hb dX4_chosen_104 (by decide) (fun c_104 => ?_) (fun c_104 => absurd (by decide) c_104)
                refine lv_iload_n hx hb dX4_chosen_111 rfl (lv_at hl 3 rfl) ?_
                refine lv_istore_n (lv' := [(1, .int (nI v)), (4, .int (nI 0)), (3, .int (nI 1)), (2, .int (nI q)), (0, .ref a)]) hx hb dX4_chosen_112 rfl hl (by decide) rfl (fun ls hl => ?_)
                refine lv_iinc (v := nI (q + 1)) (lv' := [(2, .int (nI (q + 1))), (1, .int (nI v)), (4, .int (nI 0)), (3, .int (nI 1)), (0, .ref a)]) hx hb dX4_chosen_113 hl (k := 3) rfl (nI_add _ _) (by decide) rfl (fun ls hl => ?_)
                refine lv_goto (tgt := 4) hx hb dX4_chosen_116 (by decide) ?_
                exact ih_4 (q + 1) v _ _ _ (by omega) (by omega) (by omega) (by rw [Nat.add_sub_cancel, chD_keep hdn hq1 (by rw [← hv]; first | exact fun z => hnis z.1 | exact fun z => hnbt z.2)]; exact hv) hw (lv_sub hl [0, 1, 4] rfl)
              · skip
                refine lv_istore (lv' := [(4, .int (nI 0)), (3, .int (nI 0)), (2, .int (nI q)), (1, .int (nI v)), (0, .ref a)]) hx hb dX4_chosen_96 hl (by decide) rfl (fun ls hl => ?_)
                refine lv_iload_n hx hb dX4_chosen_98 rfl (lv_at hl 1 rfl) ?_
                refine lv_if_eq (tgt := 111) hx hb dX4_chosen_99 (by decide) (fun c_99 => ?_) (fun c_99 => absurd (by decide) c_99)
                refine lv_iload_n hx hb dX4_chosen_111 rfl (lv_at hl 3 rfl) ?_
                refine lv_istore_n (lv' := [(1, .int (nI v)), (4, .int (nI 0)), (3, .int (nI 0)), (2, .int (nI q)), (0, .ref a)]) hx hb dX4_chosen_112 rfl hl (by decide) rfl (fun ls hl => ?_)
                refine lv_iinc (v := nI (q + 1)) (lv' := [(2, .int (nI (q + 1))), (1, .int (nI v)), (4, .int (nI 0)), (3, .int (nI 0)), (0, .ref a)]) hx hb dX4_chosen_113 hl (k := 3) rfl (nI_add _ _) (by decide) rfl (fun ls hl => ?_)
                refine lv_goto (tgt := 4) hx hb dX4_chosen_116 (by decide) ?_
                exact ih_4 (q + 1) v _ _ _ (by omega) (by omega) (by omega) (by rw [Nat.add_sub_cancel, chD_keep hdn hq1 (by rw [← hv]; first | exact fun z => hnis z.1 | exact fun z => hnbt z.2)]; exact hv) hw (lv_sub hl [0, 1, 4] rfl)
            · refine lv_aload_n hx hb dX4_chosen_76 rfl (lv_at hl 3 rfl) ?_
              refine ww_get hx hb hts hin4 hown hw 0 rfl rfl 23 (by decide) k64 rfl dX4_chosen_77 ?_
              refine lv_iload_n hx hb dX4_chosen_80 rfl (lv_at hl 1 rfl) ?_
              refine ww_iald hx hb hw 19 rfl q rfl (by omega) (by omega) dX4_chosen_81 ?_
              refine lv_aload_n hx hb dX4_chosen_82 rfl (lv_at hl 3 rfl) ?_
              refine ww_get hx hb hts hin4 hown hw 0 rfl rfl 23 (by decide) k64 rfl dX4_chosen_83 ?_
              refine lv_iload_n hx hb dX4_chosen_86 rfl (lv_at hl 2 rfl) ?_
              refine ww_iald hx hb hw 19 rfl v rfl (by omega) (by omega) dX4_chosen_87 ?_
              refine lv_icmp_le (tgt := 95) hx hb dX4_chosen_88 (by decide) (fun c_88 => ?_) (fun c_88 => ?_)
              · refine lv_iconst (v := nI 0) hx hb dX4_chosen_95 (by decide +kernel) ?_
                rcases hbv with ⟨rfl, his⟩ | ⟨rfl, hnis⟩
                · have hnbt : ¬ (v = 0 ∨ (dn = 4 ∧ (T v).2.2 < (T q).2.2)) := by first | exact fun z => z.elim (fun z => c_65 (by rw [z]; exact nI_0)) (fun z => c_73 (by rw [z.1])) | exact fun z => z.elim (fun z => c_65 (by rw [z]; exact nI_0)) (fun z2 => by have hv0 : v ≠ 0 := fun z => c_65 (by rw [z]; exact nI_0); have hvp : (T v).1 ≠ 0 := (by rw [hv]; exact (chD_in hdn).resolve_left (by rw [← hv]; exact hv0)); have hqp : (T q).1 ≠ 0 := (by intro z; rw [z] at his; split at his <;> omega); rw [((hT q (by omega)).2 hqp).2, ((hT v (by omega)).2 hvp).2, nI_leI (hTB _).2.2 (hTB _).2.2] at c_88; have := z2.2; omega)
                  refine lv_istore (lv' := [(4, .int (nI 0)), (3, .int (nI 1)), (2, .int (nI q)), (1, .int (nI v)), (0, .ref a)]) hx hb dX4_chosen_96 hl (by decide) rfl (fun ls hl => ?_)
                  refine lv_iload_n hx hb dX4_chosen_98 rfl (lv_at hl 1 rfl) ?_
                  refine lv_if_eq (tgt := 111) hx hb dX4_chosen_99 (by decide) (fun c_99 => absurd c_99 (by decide)) (fun c_99 => ?_)
                  refine lv_iload hx hb dX4_chosen_102 (lv_at hl 0 rfl) ?_
                  refine lv_if_eq (tgt := 111) hx hb dX4_chosen_104 (by decide) (fun c_104 => ?_) (fun c_104 => absurd (by decide) c_104)
                  refine lv_iload_n hx hb dX4_chosen_111 rfl (lv_at hl 3 rfl) ?_
                  refine lv_istore_n (lv' := [(1, .int (nI v)), (4, .int (nI 0)), (3, .int (nI 1)), (2, .int (nI q)), (0, .ref a)]) hx hb dX4_chosen_112 rfl hl (by decide) rfl (fun ls hl => ?_)
                  refine lv_iinc (v := nI (q + 1)) (lv' := [(2, .int (nI (q + 1))), (1, .int (nI v)), (4, .int (nI 0)), (3, .int (nI 1)), (0, .ref a)]) hx hb dX4_chosen_113 hl (k := 3) rfl (nI_add _ _) (by decide) rfl (fun ls hl => ?_)
                  refine lv_goto (tgt := 4) hx hb dX4_chosen_116 (by decide) ?_
                  exact ih_4 (q + 1) v _ _ _ (by omega) (by omega) (by omega) (by rw [Nat.add_sub_cancel, chD_keep hdn hq1 (by rw [← hv]; first | exact fun z => hnis z.1 | exact fun z => hnbt z.2)]; exact hv) hw (lv_sub hl [0, 1, 4] rfl)
                · skip
                  refine lv_istore (lv' := [(4, .int (nI 0)), (3, .int (nI 0)), (2, .int (nI q)), (1, .int (nI v)), (0, .ref a)]) hx hb dX4_chosen_96 hl (by decide) rfl (fun ls hl => ?_)
                  refine lv_iload_n hx hb dX4_chosen_98 rfl (lv_at hl 1 rfl) ?_
                  refine lv_if_eq (tgt := 111) hx hb dX4_chosen_99 (by decide) (fun c_99 => ?_) (fun c_99 => absurd (by decide) c_99)
                  refine lv_iload_n hx hb dX4_chosen_111 rfl (lv_at hl 3 rfl) ?_
                  refine lv_istore_n (lv' := [(1, .int (nI v)), (4, .int (nI 0)), (3, .int (nI 0)), (2, .int (nI q)), (0, .ref a)]) hx hb dX4_chosen_112 rfl hl (by decide) rfl (fun ls hl => ?_)
                  refine lv_iinc (v := nI (q + 1)) (lv' := [(2, .int (nI (q + 1))), (1, .int (nI v)), (4, .int (nI 0)), (3, .int (nI 0)), (0, .ref a)]) hx hb dX4_chosen_113 hl (k := 3) rfl (nI_add _ _) (by decide) rfl (fun ls hl => ?_)
                  refine lv_goto (tgt := 4) hx hb dX4_chosen_116 (by decide) ?_
                  exact ih_4 (q + 1) v _ _ _ (by omega) (by omega) (by omega) (by rw [Nat.add_sub_cancel, chD_keep hdn hq1 (by rw [← hv]; first | exact fun z => hnis z.1 | exact fun z => hnbt z.2)]; exact hv) hw (lv_sub hl [0, 1, 4] rfl)
              · refine lv_iconst (v := nI 1) hx hb dX4_chosen_91 (by decide +kernel) ?_
                refine lv_goto (tgt := 96) hx hb dX4_chosen_92 (by decide) ?_
                rcases hbv with ⟨rfl, his⟩ | ⟨rfl, hnis⟩
                · have hbt : (v = 0 ∨ (dn = 4 ∧ (T v).2.2 < (T q).2.2)) := by first | exact Or.inl ((nI_eq (by omega) (by omega)).mp (c_65.trans nI_0.symm)) | exact Or.inr ⟨nI_q (by omega) (by omega) c_73, by have hv0 : v ≠ 0 := fun z => c_65 (by rw [z]; exact nI_0); have hvp : (T v).1 ≠ 0 := (by rw [hv]; exact (chD_in hdn).resolve_left (by rw [← hv]; exact hv0)); have hqp : (T q).1 ≠ 0 := (by intro z; rw [z] at his; split at his <;> omega); rw [((hT q (by omega)).2 hqp).2, ((hT v (by omega)).2 hvp).2, nI_leI (hTB _).2.2 (hTB _).2.2] at c_88; omega⟩
                  refine lv_istore (lv' := [(4, .int (nI 1)), (3, .int (nI 1)), (2, .int (nI q)), (1, .int (nI v)), (0, .ref a)]) hx hb dX4_chosen_96 hl (by decide) rfl (fun ls hl => ?_)
                  refine lv_iload_n hx hb dX4_chosen_98 rfl (lv_at hl 1 rfl) ?_
                  refine lv_if_eq (tgt := 111) hx hb dX4_chosen_99 (by decide) (fun c_99 => absurd c_99 (by decide)) (fun c_99 => ?_)
                  refine lv_iload hx hb dX4_chosen_102 (lv_at hl 0 rfl) ?_
                  refine lv_if_eq (tgt := 111) hx hb dX4_chosen_104 (by decide) (fun c_104 => absurd c_104 (by decide)) (fun c_104 => ?_)
                  refine lv_iload_n hx hb dX4_chosen_107 rfl (lv_at hl 2 rfl) ?_
                  refine lv_goto (tgt := 112) hx hb dX4_chosen_108 (by decide) ?_
                  refine lv_istore_n (lv' := [(1, .int (nI q)), (4, .int (nI 1)), (3, .int (nI 1)), (2, .int (nI q)), (0, .ref a)]) hx hb dX4_chosen_112 rfl hl (by decide) rfl (fun ls hl => ?_)
                  refine lv_iinc (v := nI (q + 1)) (lv' := [(2, .int (nI (q + 1))), (1, .int (nI q)), (4, .int (nI 1)), (3, .int (nI 1)), (0, .ref a)]) hx hb dX4_chosen_113 hl (k := 3) rfl (nI_add _ _) (by decide) rfl (fun ls hl => ?_)
                  refine lv_goto (tgt := 4) hx hb dX4_chosen_116 (by decide) ?_
                  exact ih_4 (q + 1) q _ _ _ (by omega) (by omega) (by omega) (by rw [Nat.add_sub_cancel, chD_take hdn hq1 (by rw [← hv]; exact ⟨his, hbt⟩)]) hw (lv_sub hl [0, 1, 4] rfl)
                · skip
                  refine lv_istore (lv' := [(4, .int (nI 1)), (3, .int (nI 0)), (2, .int (nI q)), (1, .int (nI v)), (0, .ref a)]) hx hb dX4_chosen_96 hl (by decide) rfl (fun ls hl => ?_)
                  refine lv_iload_n hx hb dX4_chosen_98 rfl (lv_at hl 1 rfl) ?_
                  refine lv_if_eq (tgt := 111) hx hb dX4_chosen_99 (by decide) (fun c_99 => ?_) (fun c_99 => absurd (by decide) c_99)
                  refine lv_iload_n hx hb dX4_chosen_111 rfl (lv_at hl 3 rfl) ?_
                  refine lv_istore_n (lv' := [(1, .int (nI v)), (4, .int (nI 1)), (3, .int (nI 0)), (2, .int (nI q)), (0, .ref a)]) hx hb dX4_chosen_112 rfl hl (by decide) rfl (fun ls hl => ?_)
                  refine lv_iinc (v := nI (q + 1)) (lv' := [(2, .int (nI (q + 1))), (1, .int (nI v)), (4, .int (nI 1)), (3, .int (nI 0)), (0, .ref a)]) hx hb dX4_chosen_113 hl (k := 3) rfl (nI_add _ _) (by decide) rfl (fun ls hl => ?_)
                  refine lv_goto (tgt := 4) hx hb dX4_chosen_116 (by decide) ?_
                  exact ih_4 (q + 1) v _ _ _ (by omega) (by omega) (by omega) (by rw [Nat.add_sub_cancel, chD_keep hdn hq1 (by rw [← hv]; first | exact fun z => hnis z.1 | exact fun z => hnbt z.2)]; exact hv) hw (lv_sub hl [0, 1, 4] rfl)
        refine lv_aload_n hx hb dX4_chosen_12 rfl (lv_at hl 2 rfl) ?_
        refine ww_get hx hb hts hin4 hown hw 0 rfl rfl 24 (by decide) k103 rfl dX4_chosen_13 ?_
        refine lv_iconst (v := nI 3) hx hb dX4_chosen_16 (by decide +kernel) ?_
        refine lv_icmp_ne (tgt := 38) hx hb dX4_chosen_17 (by decide) (fun c_17 => ?_) (fun c_17 => ?_)
        · refine lv_aload_n hx hb dX4_chosen_38 rfl (lv_at hl 2 rfl) ?_
          refine ww_get hx hb hts hin4 hown hw 0 rfl rfl 21 (by decide) k58 rfl dX4_chosen_39 ?_
          refine lv_iload_n hx hb dX4_chosen_42 rfl (lv_at hl 0 rfl) ?_
          refine ww_iald hx hb hw 17 rfl q rfl (by omega) (by omega) dX4_chosen_43 ?_
          refine lv_eqi (show _ = nI (T q).1 from hsq) ?_
          refine lv_iconst (v := nI 1) hx hb dX4_chosen_44 (by decide +kernel) ?_
          refine lv_icmp_eq (tgt := 58) hx hb dX4_chosen_45 (by decide) (fun c_45 => ?_) (fun c_45 => ?_)
          · refine lv_iconst (v := nI 1) hx hb dX4_chosen_58 (by decide +kernel) ?_
            refine lv_goto (tgt := 63) hx hb dX4_chosen_59 (by decide) ?_
            exact J_63 1 _ _ _ (Or.inl ⟨rfl, by first | (rw [if_pos (nI_q (by omega) (by omega) c_17)]; exact nI_q (by omega) (by omega) c_27) | (rw [if_neg (nI_ne (by omega) (by omega) c_17)]; first | exact Or.inl (nI_q (by omega) (by omega) c_45) | exact Or.inr (nI_q (by omega) (by omega) c_55))⟩) hw (lv_sub hl [0, 1, 2] rfl)
          · refine lv_aload_n hx hb dX4_chosen_48 rfl (lv_at hl 2 rfl) ?_
            refine ww_get hx hb hts hin4 hown hw 0 rfl rfl 21 (by decide) k58 rfl dX4_chosen_49 ?_
            refine lv_iload_n hx hb dX4_chosen_52 rfl (lv_at hl 0 rfl) ?_
            refine ww_iald hx hb hw 17 rfl q rfl (by omega) (by omega) dX4_chosen_53 ?_
            refine lv_eqi (show _ = nI (T q).1 from hsq) ?_
            refine lv_iconst (v := nI 2) hx hb dX4_chosen_54 (by decide +kernel) ?_
            refine lv_icmp_ne (tgt := 62) hx hb dX4_chosen_55 (by decide) (fun c_55 => ?_) (fun c_55 => ?_)
            · refine lv_iconst (v := nI 0) hx hb dX4_chosen_62 (by decide +kernel) ?_
              exact J_63 0 _ _ _ (Or.inr ⟨rfl, by first | (rw [if_pos (nI_q (by omega) (by omega) c_17)]; exact nI_ne (by omega) (by omega) c_27) | (rw [if_neg (nI_ne (by omega) (by omega) c_17)]; exact fun z => z.elim (nI_ne (by omega) (by omega) c_45) (nI_ne (by omega) (by omega) c_55))⟩) hw (lv_sub hl [0, 1, 2] rfl)
            · refine lv_iconst (v := nI 1) hx hb dX4_chosen_58 (by decide +kernel) ?_
              refine lv_goto (tgt := 63) hx hb dX4_chosen_59 (by decide) ?_
              exact J_63 1 _ _ _ (Or.inl ⟨rfl, by first | (rw [if_pos (nI_q (by omega) (by omega) c_17)]; exact nI_q (by omega) (by omega) c_27) | (rw [if_neg (nI_ne (by omega) (by omega) c_17)]; first | exact Or.inl (nI_q (by omega) (by omega) c_45) | exact Or.inr (nI_q (by omega) (by omega) c_55))⟩) hw (lv_sub hl [0, 1, 2] rfl)
        · refine lv_aload_n hx hb dX4_chosen_20 rfl (lv_at hl 2 rfl) ?_
          refine ww_get hx hb hts hin4 hown hw 0 rfl rfl 21 (by decide) k58 rfl dX4_chosen_21 ?_
          refine lv_iload_n hx hb dX4_chosen_24 rfl (lv_at hl 0 rfl) ?_
          refine ww_iald hx hb hw 17 rfl q rfl (by omega) (by omega) dX4_chosen_25 ?_
          refine lv_eqi (show _ = nI (T q).1 from hsq) ?_
          refine lv_iconst (v := nI 4) hx hb dX4_chosen_26 (by decide +kernel) ?_
          refine lv_icmp_ne (tgt := 34) hx hb dX4_chosen_27 (by decide) (fun c_27 => ?_) (fun c_27 => ?_)
          · refine lv_iconst (v := nI 0) hx hb dX4_chosen_34 (by decide +kernel) ?_
            refine lv_goto (tgt := 63) hx hb dX4_chosen_35 (by decide) ?_
            exact J_63 0 _ _ _ (Or.inr ⟨rfl, by first | (rw [if_pos (nI_q (by omega) (by omega) c_17)]; exact nI_ne (by omega) (by omega) c_27) | (rw [if_neg (nI_ne (by omega) (by omega) c_17)]; exact fun z => z.elim (nI_ne (by omega) (by omega) c_45) (nI_ne (by omega) (by omega) c_55))⟩) hw (lv_sub hl [0, 1, 2] rfl)
          · refine lv_iconst (v := nI 1) hx hb dX4_chosen_30 (by decide +kernel) ?_
            refine lv_goto (tgt := 63) hx hb dX4_chosen_31 (by decide) ?_
            exact J_63 1 _ _ _ (Or.inl ⟨rfl, by first | (rw [if_pos (nI_q (by omega) (by omega) c_17)]; exact nI_q (by omega) (by omega) c_27) | (rw [if_neg (nI_ne (by omega) (by omega) c_17)]; first | exact Or.inl (nI_q (by omega) (by omega) c_45) | exact Or.inr (nI_q (by omega) (by omega) c_55))⟩) hw (lv_sub hl [0, 1, 2] rfl)
  exact lp ((wk + 1 - (1)) + 1) 1 0 _ _ _ (Nat.lt_succ_self _) (Nat.le_refl _) (by omega) (by rw [chD]; split <;> rfl) hw (lv_sub hl [0, 1, 2] rfl)
