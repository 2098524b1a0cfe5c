/-! RestartBook.Pages -/
set_option maxRecDepth 20000 in
theorem in_X1_valueOf : ∀ w ∈ u_ws RX1 TX1 4, w ∈ wsX1_valueOf := by
  intro w h
  show w ∈ wsX1_valueOf
  simp only [wsX1_valueOf, List.mem_cons, List.mem_append]
  simp only [h, true_or, or_true]
set_option maxRecDepth 20000 in
theorem in_X1_markOf : ∀ w ∈ u_ws RX1 TX1 4, w ∈ wsX1_markOf := by
  intro w h
  show w ∈ wsX1_markOf
  simp only [wsX1_markOf, List.mem_cons, List.mem_append]
  simp only [h, true_or, or_true]
set_option maxRecDepth 20000 in
theorem in_X1_mediumMarkOf : ∀ w ∈ u_ws RX1 TX1 4, w ∈ wsX1_mediumMarkOf := by
  intro w h
  show w ∈ wsX1_mediumMarkOf
  simp only [wsX1_mediumMarkOf, List.mem_cons, List.mem_append]
  simp only [h, true_or, or_true]
set_option maxRecDepth 20000 in
theorem in_X1_change : ∀ w ∈ u_ws RX1 TX1 4, w ∈ wsX1_change := by
  intro w h
  show w ∈ wsX1_change
  simp only [wsX1_change, List.mem_cons, List.mem_append]
  simp only [h, true_or, or_true]
set_option maxRecDepth 20000 in
theorem in_X1_copyToMedium : ∀ w ∈ u_ws RX1 TX1 4, w ∈ wsX1_copyToMedium := by
  intro w h
  show w ∈ wsX1_copyToMedium
  simp only [wsX1_copyToMedium, List.mem_cons, List.mem_append]
  simp only [h, true_or, or_true]
set_option maxRecDepth 20000 in
theorem in_X1_readAllFromMedium : ∀ w ∈ u_ws RX1 TX1 4, w ∈ wsX1_readAllFromMedium := by
  intro w h
  show w ∈ wsX1_readAllFromMedium
  simp only [wsX1_readAllFromMedium, List.mem_cons, List.mem_append]
  simp only [h, true_or, or_true]
set_option maxRecDepth 20000 in
theorem in_X1_init : ∀ w ∈ u_ws RX1 TX1 4, w ∈ wsX1_init := by
  intro w h
  show w ∈ wsX1_init
  simp only [wsX1_init, List.mem_cons, List.mem_append]
  simp only [h, true_or, or_true]
theorem hd_X1_valueOf : yX1_valueOf.cls = RX1 ∧ yX1_valueOf.cls ≠ "java/lang/invoke/MethodHandle" ∧ yX1_valueOf.cls ≠ "java/lang/invoke/VarHandle" ∧ (parseMethodDescriptor yX1_valueOf.desc).map (fun d => d.parameters.length) = some 2 := by decide +kernel
theorem hd_X1_markOf : yX1_markOf.cls = RX1 ∧ yX1_markOf.cls ≠ "java/lang/invoke/MethodHandle" ∧ yX1_markOf.cls ≠ "java/lang/invoke/VarHandle" ∧ (parseMethodDescriptor yX1_markOf.desc).map (fun d => d.parameters.length) = some 1 := by decide +kernel
theorem hd_X1_mediumMarkOf : yX1_mediumMarkOf.cls = RX1 ∧ yX1_mediumMarkOf.cls ≠ "java/lang/invoke/MethodHandle" ∧ yX1_mediumMarkOf.cls ≠ "java/lang/invoke/VarHandle" ∧ (parseMethodDescriptor yX1_mediumMarkOf.desc).map (fun d => d.parameters.length) = some 1 := by decide +kernel
theorem hd_X1_change : yX1_change.cls = RX1 ∧ yX1_change.cls ≠ "java/lang/invoke/MethodHandle" ∧ yX1_change.cls ≠ "java/lang/invoke/VarHandle" ∧ (parseMethodDescriptor yX1_change.desc).map (fun d => d.parameters.length) = some 4 := by decide +kernel
theorem hd_X1_copyToMedium : yX1_copyToMedium.cls = RX1 ∧ yX1_copyToMedium.cls ≠ "java/lang/invoke/MethodHandle" ∧ yX1_copyToMedium.cls ≠ "java/lang/invoke/VarHandle" ∧ (parseMethodDescriptor yX1_copyToMedium.desc).map (fun d => d.parameters.length) = some 1 := by decide +kernel
theorem hd_X1_readAllFromMedium : yX1_readAllFromMedium.cls = RX1 ∧ yX1_readAllFromMedium.cls ≠ "java/lang/invoke/MethodHandle" ∧ yX1_readAllFromMedium.cls ≠ "java/lang/invoke/VarHandle" ∧ (parseMethodDescriptor yX1_readAllFromMedium.desc).map (fun d => d.parameters.length) = some 0 := by decide +kernel
theorem hd_X1_hasPage : yX1_hasPage.cls ≠ "java/lang/invoke/MethodHandle" ∧ yX1_hasPage.cls ≠ "java/lang/invoke/VarHandle" ∧ (parseMethodDescriptor yX1_hasPage.desc).map (fun d => d.parameters.length) = some 1 := by decide +kernel
theorem hd_X1_hasPlace : yX1_hasPlace.cls ≠ "java/lang/invoke/MethodHandle" ∧ yX1_hasPlace.cls ≠ "java/lang/invoke/VarHandle" ∧ (parseMethodDescriptor yX1_hasPlace.desc).map (fun d => d.parameters.length) = some 2 := by decide +kernel
theorem ix_y {x : Int32} {n : Nat} (hn : n < 2 ^ 31) (h1 : ¬ x < 0) (h2 : ¬ nI n ≤ x) : ∃ j : Nat, j < n ∧ x = nI j := ((pk_ix x hn).resolve_left h1).resolve_left h2
theorem ix_n {x : Int32} {n : Nat} (hn : n < 2 ^ 31) (h : x < 0 ∨ nI n ≤ x) : ¬ ∃ j : Nat, j < n ∧ x = nI j := by
  rintro ⟨j, hj, rfl⟩
  rcases h with h | h
  · exact nI_pos (by omega) h
  · exact nI_ge hj hn h
set_option maxHeartbeats 4000000 in
set_option maxRecDepth 100000 in
theorem cP_hasPage (l : Launch) (D : va_G) (cI : ClassId) (x : Int32) : Kt l yX1_hasPage wsX1_hasPage 0 0 (0) (0) D cI [.int x] ([]) (pI (fun (r : Int32) (u : Unit) => (r = 1 ∧ ∃ j : Nat, j < 64 ∧ x = nI j) ∨ (r = 0 ∧ ¬ ∃ j : Nat, j < 64 ∧ x = nI j))) (fun (u : Unit) => []) := by
  refine kt_start (cc := cX1_hasPage) (maxL := 1) (ret := (some .boolean)) (by decide +kernel) rfl (Nat.le_of_ble_eq_true rfl) ?_
  intro p e s m below meth c hx hb hml hr hlk hown hnm hts ls hl hw
  have hown : s.vm.findClass RX1 = some m.cls := hown
  have hl : lv_has ls 1 [(0, .int x)] := hl
  refine lv_iload_n hx hb dX1_hasPage_0 rfl (lv_at hl 0 rfl) ?_
  refine lv_if_lt (tgt := 14) hx hb dX1_hasPage_1 (by decide) (fun c_1 => ?_) (fun c_1 => ?_)
  · refine lv_iconst (v := nI 0) hx hb dX1_hasPage_14 (by decide +kernel) ?_
    exact ww_zret (u := ()) hx hb hr hlk (by decide +kernel) hw (Or.inr ⟨by decide, ix_n (by omega) (by first | exact Or.inl c_1 | exact Or.inr c_7)⟩) (Nat.le_of_ble_eq_true rfl) (Nat.le_of_ble_eq_true rfl) dX1_hasPage_15
  · refine lv_iload_n hx hb dX1_hasPage_4 rfl (lv_at hl 0 rfl) ?_
    refine lv_bipush (v := nI 64) hx hb dX1_hasPage_5 (by decide +kernel) ?_
    refine lv_icmp_ge (tgt := 14) hx hb dX1_hasPage_7 (by decide) (fun c_7 => ?_) (fun c_7 => ?_)
    · refine lv_iconst (v := nI 0) hx hb dX1_hasPage_14 (by decide +kernel) ?_
      exact ww_zret (u := ()) hx hb hr hlk (by decide +kernel) hw (Or.inr ⟨by decide, ix_n (by omega) (by first | exact Or.inl c_1 | exact Or.inr c_7)⟩) (Nat.le_of_ble_eq_true rfl) (Nat.le_of_ble_eq_true rfl) dX1_hasPage_15
    · refine lv_iconst (v := nI 1) hx hb dX1_hasPage_10 (by decide +kernel) ?_
      refine lv_goto (tgt := 15) hx hb dX1_hasPage_11 (by decide) ?_
      exact ww_zret (u := ()) hx hb hr hlk (by decide +kernel) hw (Or.inl ⟨by decide, ix_y (by omega) c_1 c_7⟩) (Nat.le_of_ble_eq_true rfl) (Nat.le_of_ble_eq_true rfl) dX1_hasPage_15
set_option maxHeartbeats 4000000 in
set_option maxRecDepth 100000 in
theorem cP_hasPlace (l : Launch) (D : va_G) (cI : ClassId) (x y : Int32) : Kt l yX1_hasPlace wsX1_hasPlace 0 0 (0) (0) D cI [.int x, .int y] ([]) (pI (fun (r : Int32) (u : Unit) => (r = 1 ∧ (∃ j : Nat, j < 64 ∧ x = nI j) ∧ (∃ k : Nat, k < 8 ∧ y = nI k)) ∨ (r = 0 ∧ ¬ ((∃ j : Nat, j < 64 ∧ x = nI j) ∧ (∃ k : Nat, k < 8 ∧ y = nI k))))) (fun (u : Unit) => []) := by
  refine kt_start (cc := cX1_hasPlace) (maxL := 2) (ret := (some .boolean)) (by decide +kernel) rfl (Nat.le_of_ble_eq_true rfl) ?_
  intro p e s m below meth c hx hb hml hr hlk hown hnm hts ls hl hw
  have hown : s.vm.findClass RX1 = some m.cls := hown
  have hl : lv_has ls 2 [(0, .int x), (1, .int y)] := hl
  refine lv_iload_n hx hb dX1_hasPlace_0 rfl (lv_at hl 0 rfl) ?_
  refine lv_if_lt (tgt := 24) hx hb dX1_hasPlace_1 (by decide) (fun c_1 => ?_) (fun c_1 => ?_)
  · refine lv_iconst (v := nI 0) hx hb dX1_hasPlace_24 (by decide +kernel) ?_
    exact ww_zret (u := ()) hx hb hr hlk (by decide +kernel) hw (Or.inr ⟨by decide, fun h => by first | exact ix_n (by omega) (Or.inl c_1) h.1 | exact ix_n (by omega) (Or.inr c_7) h.1 | exact ix_n (by omega) (Or.inl c_11) h.2 | exact ix_n (by omega) (Or.inr c_17) h.2⟩) (Nat.le_of_ble_eq_true rfl) (Nat.le_of_ble_eq_true rfl) dX1_hasPlace_25
  · refine lv_iload_n hx hb dX1_hasPlace_4 rfl (lv_at hl 0 rfl) ?_
    refine lv_bipush (v := nI 64) hx hb dX1_hasPlace_5 (by decide +kernel) ?_
    refine lv_icmp_ge (tgt := 24) hx hb dX1_hasPlace_7 (by decide) (fun c_7 => ?_) (fun c_7 => ?_)
    · refine lv_iconst (v := nI 0) hx hb dX1_hasPlace_24 (by decide +kernel) ?_
      exact ww_zret (u := ()) hx hb hr hlk (by decide +kernel) hw (Or.inr ⟨by decide, fun h => by first | exact ix_n (by omega) (Or.inl c_1) h.1 | exact ix_n (by omega) (Or.inr c_7) h.1 | exact ix_n (by omega) (Or.inl c_11) h.2 | exact ix_n (by omega) (Or.inr c_17) h.2⟩) (Nat.le_of_ble_eq_true rfl) (Nat.le_of_ble_eq_true rfl) dX1_hasPlace_25
    · refine lv_iload_n hx hb dX1_hasPlace_10 rfl (lv_at hl 1 rfl) ?_
      refine lv_if_lt (tgt := 24) hx hb dX1_hasPlace_11 (by decide) (fun c_11 => ?_) (fun c_11 => ?_)
      · refine lv_iconst (v := nI 0) hx hb dX1_hasPlace_24 (by decide +kernel) ?_
        exact ww_zret (u := ()) hx hb hr hlk (by decide +kernel) hw (Or.inr ⟨by decide, fun h => by first | exact ix_n (by omega) (Or.inl c_1) h.1 | exact ix_n (by omega) (Or.inr c_7) h.1 | exact ix_n (by omega) (Or.inl c_11) h.2 | exact ix_n (by omega) (Or.inr c_17) h.2⟩) (Nat.le_of_ble_eq_true rfl) (Nat.le_of_ble_eq_true rfl) dX1_hasPlace_25
      · refine lv_iload_n hx hb dX1_hasPlace_14 rfl (lv_at hl 1 rfl) ?_
        refine lv_bipush (v := nI 8) hx hb dX1_hasPlace_15 (by decide +kernel) ?_
        refine lv_icmp_ge (tgt := 24) hx hb dX1_hasPlace_17 (by decide) (fun c_17 => ?_) (fun c_17 => ?_)
        · refine lv_iconst (v := nI 0) hx hb dX1_hasPlace_24 (by decide +kernel) ?_
          exact ww_zret (u := ()) hx hb hr hlk (by decide +kernel) hw (Or.inr ⟨by decide, fun h => by first | exact ix_n (by omega) (Or.inl c_1) h.1 | exact ix_n (by omega) (Or.inr c_7) h.1 | exact ix_n (by omega) (Or.inl c_11) h.2 | exact ix_n (by omega) (Or.inr c_17) h.2⟩) (Nat.le_of_ble_eq_true rfl) (Nat.le_of_ble_eq_true rfl) dX1_hasPlace_25
        · refine lv_iconst (v := nI 1) hx hb dX1_hasPlace_20 (by decide +kernel) ?_
          refine lv_goto (tgt := 25) hx hb dX1_hasPlace_21 (by decide) ?_
          exact ww_zret (u := ()) hx hb hr hlk (by decide +kernel) hw (Or.inl ⟨by decide, ix_y (by omega) c_1 c_7, ix_y (by omega) c_11 c_17⟩) (Nat.le_of_ble_eq_true rfl) (Nat.le_of_ble_eq_true rfl) dX1_hasPlace_25
set_option maxHeartbeats 4000000 in
set_option maxRecDepth 100000 in
theorem cP_valueOf (l : Launch) (D : va_G) (cI : ClassId) (a a1 a2 a3 a4 : Nat) (fm fk gm gk : Nat → Int32) (x y : Int32) : Kt l yX1_valueOf wsX1_valueOf 1 21 (0) (0) D cI [.ref a, .int x, .int y] ([(a, .inr (1, [.ref a1, .ref a2, .ref a3, .ref a4])), (a1, .inl (cI, 512, .inl fm)), (a2, .inl (cI, 64, .inl fk)), (a3, .inl (cI, 512, .inl gm)), (a4, .inl (cI, 64, .inl gk))]) (pI (fun (r : Int32) (u : Unit) => (∃ i j : Nat, i < 64 ∧ j < 8 ∧ x = nI i ∧ y = nI j ∧ r = fm (i * 8 + j)) ∨ (¬ ((∃ j : Nat, j < 64 ∧ x = nI j) ∧ (∃ k : Nat, k < 8 ∧ y = nI k)) ∧ r = 0))) (fun (u : Unit) => [(a, .inr (1, [.ref a1, .ref a2, .ref a3, .ref a4])), (a1, .inl (cI, 512, .inl fm)), (a2, .inl (cI, 64, .inl fk)), (a3, .inl (cI, 512, .inl gm)), (a4, .inl (cI, 64, .inl gk))]) := by
  refine kt_start (cc := cX1_valueOf) (maxL := 3) (ret := (some .int)) (by decide +kernel) rfl (Nat.le_of_ble_eq_true rfl) ?_
  intro p e s m below meth c hx hb hml hr hlk hown hnm hts ls hl hw
  have hown : s.vm.findClass RX1 = some m.cls := hown
  have hl : lv_has ls 3 [(0, .ref a), (1, .int x), (2, .int y)] := hl
  have k9 := hts (.fieldLink RX1 9 "RestartBook$Pages" "words" "[I") (by decide +kernel)
  have hin1 : ∀ w ∈ u_ws RX1 TX1 4, w ∈ wsX1_valueOf := in_X1_valueOf
  refine lv_iload_n hx hb dX1_valueOf_0 rfl (lv_at hl 1 rfl) ?_
  refine lv_iload_n hx hb dX1_valueOf_1 rfl (lv_at hl 2 rfl) ?_
  refine ww_callS ([]) ([(a, .inr (1, [.ref a1, .ref a2, .ref a3, .ref a4])), (a1, .inl (cI, 512, .inl fm)), (a2, .inl (cI, 64, .inl fk)), (a3, .inl (cI, 512, .inl gm)), (a4, .inl (cI, 64, .inl gk))]) (As := [.int x, .int y]) (rest := []) ⟨hx, hb, hml, hown, hts⟩ (cP_hasPlace l D cI x y) gX1_valueOf_X1_hasPlace rfl hd_X1_hasPlace ⟨Nat.le_of_ble_eq_true rfl, Nat.le_of_ble_eq_true rfl⟩ hw rfl rfl rfl hl.1 (Nat.le_of_ble_eq_true rfl) dX1_valueOf_2 ⟨Nat.le_of_ble_eq_true rfl, Nat.le_of_ble_eq_true rfl⟩ (fun v u H locs hq hw => ?_)
  obtain ⟨r, rfl, hq⟩ := hq
  have hw : ww D cI _ _ s ([(a, .inr (1, [.ref a1, .ref a2, .ref a3, .ref a4])), (a1, .inl (cI, 512, .inl fm)), (a2, .inl (cI, 64, .inl fk)), (a3, .inl (cI, 512, .inl gm)), (a4, .inl (cI, 64, .inl gk))]) H locs := hw
  refine W.eq (g2 := F0 m 5 ls [.int (r)]) rfl ?_
  rcases hq with ⟨rfl, hq⟩ | ⟨rfl, hq⟩
  · obtain ⟨⟨i, hi, rfl⟩, ⟨j, hj, rfl⟩⟩ := hq
    refine lv_if_eq (tgt := 22) hx hb dX1_valueOf_5 (by decide) (fun c_5 => absurd c_5 (by decide)) (fun c_5 => ?_)
    refine lv_aload_n hx hb dX1_valueOf_8 rfl (lv_at hl 0 rfl) ?_
    refine ww_get hx hb hts hin1 hown hw 0 rfl rfl 0 (by decide) k9 rfl dX1_valueOf_9 ?_
    refine lv_iload_n hx hb dX1_valueOf_12 rfl (lv_at hl 1 rfl) ?_
    refine lv_bipush (v := nI 8) hx hb dX1_valueOf_13 (by decide +kernel) ?_
    refine lv_imul hx hb dX1_valueOf_15 ?_
    refine lv_eqi (show _ = nI (i * 8) from pk_mul _ _) ?_
    refine lv_iload_n hx hb dX1_valueOf_16 rfl (lv_at hl 2 rfl) ?_
    refine lv_iadd hx hb dX1_valueOf_17 ?_
    refine lv_eqi (show _ = nI ((i * 8) + j) from nI_add _ _) ?_
    refine ww_iald hx hb hw 1 rfl ((i * 8) + j) rfl (by omega) (by omega) dX1_valueOf_18 ?_
    refine lv_goto (tgt := 23) hx hb dX1_valueOf_19 (by decide) ?_
    exact ww_iret (u := ()) hx hb hr hlk hw (Or.inl ⟨i, j, hi, hj, rfl, rfl, rfl⟩) (Nat.le_of_ble_eq_true rfl) (Nat.le_of_ble_eq_true rfl) dX1_valueOf_23
  · skip
    refine lv_if_eq (tgt := 22) hx hb dX1_valueOf_5 (by decide) (fun c_5 => ?_) (fun c_5 => absurd (rfl) c_5)
    refine lv_iconst (v := nI 0) hx hb dX1_valueOf_22 (by decide +kernel) ?_
    exact ww_iret (u := ()) hx hb hr hlk hw (Or.inr ⟨hq, by decide⟩) (Nat.le_of_ble_eq_true rfl) (Nat.le_of_ble_eq_true rfl) dX1_valueOf_23
set_option maxHeartbeats 4000000 in
set_option maxRecDepth 100000 in
theorem cP_markOf (l : Launch) (D : va_G) (cI : ClassId) (a a1 a2 a3 a4 : Nat) (fm fk gm gk : Nat → Int32) (i : Nat) (hi : i < 64) : Kt l yX1_markOf wsX1_markOf 1 20 (0) (0) D cI [.ref a, .int (nI i)] ([(a, .inr (1, [.ref a1, .ref a2, .ref a3, .ref a4])), (a1, .inl (cI, 512, .inl fm)), (a2, .inl (cI, 64, .inl fk)), (a3, .inl (cI, 512, .inl gm)), (a4, .inl (cI, 64, .inl gk))]) (pI (fun (r : Int32) (u : Unit) => r = fk i)) (fun (u : Unit) => [(a, .inr (1, [.ref a1, .ref a2, .ref a3, .ref a4])), (a1, .inl (cI, 512, .inl fm)), (a2, .inl (cI, 64, .inl fk)), (a3, .inl (cI, 512, .inl gm)), (a4, .inl (cI, 64, .inl gk))]) := by
  refine kt_start (cc := cX1_markOf) (maxL := 2) (ret := (some .int)) (by decide +kernel) rfl (Nat.le_of_ble_eq_true rfl) ?_
  intro p e s m below meth c hx hb hml hr hlk hown hnm hts ls hl hw
  have hown : s.vm.findClass RX1 = some m.cls := hown
  have hl : lv_has ls 2 [(0, .ref a), (1, .int (nI i))] := hl
  have k13 := hts (.fieldLink RX1 13 "RestartBook$Pages" "marks" "[I") (by decide +kernel)
  have hin1 : ∀ w ∈ u_ws RX1 TX1 4, w ∈ wsX1_markOf := in_X1_markOf
  refine lv_iload_n hx hb dX1_markOf_0 rfl (lv_at hl 1 rfl) ?_
  refine ww_callS ([]) ([(a, .inr (1, [.ref a1, .ref a2, .ref a3, .ref a4])), (a1, .inl (cI, 512, .inl fm)), (a2, .inl (cI, 64, .inl fk)), (a3, .inl (cI, 512, .inl gm)), (a4, .inl (cI, 64, .inl gk))]) (As := [.int (nI i)]) (rest := []) ⟨hx, hb, hml, hown, hts⟩ (cP_hasPage l D cI (nI i)) gX1_markOf_X1_hasPage rfl hd_X1_hasPage ⟨Nat.le_of_ble_eq_true rfl, Nat.le_of_ble_eq_true rfl⟩ hw rfl rfl rfl hl.1 (Nat.le_of_ble_eq_true rfl) dX1_markOf_1 ⟨Nat.le_of_ble_eq_true rfl, Nat.le_of_ble_eq_true rfl⟩ (fun v u H locs hq hw => ?_)
  obtain ⟨r, rfl, hq⟩ := hq
  obtain ⟨rfl, -⟩ := hq.resolve_right (fun h => h.2 ⟨i, hi, rfl⟩)
  have hw : ww D cI _ _ s ([(a, .inr (1, [.ref a1, .ref a2, .ref a3, .ref a4])), (a1, .inl (cI, 512, .inl fm)), (a2, .inl (cI, 64, .inl fk)), (a3, .inl (cI, 512, .inl gm)), (a4, .inl (cI, 64, .inl gk))]) H locs := hw
  refine W.eq (g2 := F0 m 4 ls [.int (1)]) rfl ?_
  refine lv_if_eq (tgt := 16) hx hb dX1_markOf_4 (by decide) (fun c_4 => absurd c_4 (by decide)) (fun c_4 => ?_)
  refine lv_aload_n hx hb dX1_markOf_7 rfl (lv_at hl 0 rfl) ?_
  refine ww_get hx hb hts hin1 hown hw 0 rfl rfl 1 (by decide) k13 rfl dX1_markOf_8 ?_
  refine lv_iload_n hx hb dX1_markOf_11 rfl (lv_at hl 1 rfl) ?_
  refine ww_iald hx hb hw 2 rfl i rfl (by omega) (by omega) dX1_markOf_12 ?_
  refine lv_goto (tgt := 17) hx hb dX1_markOf_13 (by decide) ?_
  exact ww_iret (u := ()) hx hb hr hlk hw (rfl) (Nat.le_of_ble_eq_true rfl) (Nat.le_of_ble_eq_true rfl) dX1_markOf_17
set_option maxHeartbeats 4000000 in
set_option maxRecDepth 100000 in
theorem cP_mediumMarkOf (l : Launch) (D : va_G) (cI : ClassId) (a a1 a2 a3 a4 : Nat) (fm fk gm gk : Nat → Int32) (i : Nat) (hi : i < 64) : Kt l yX1_mediumMarkOf wsX1_mediumMarkOf 1 20 (0) (0) D cI [.ref a, .int (nI i)] ([(a, .inr (1, [.ref a1, .ref a2, .ref a3, .ref a4])), (a1, .inl (cI, 512, .inl fm)), (a2, .inl (cI, 64, .inl fk)), (a3, .inl (cI, 512, .inl gm)), (a4, .inl (cI, 64, .inl gk))]) (pI (fun (r : Int32) (u : Unit) => r = gk i)) (fun (u : Unit) => [(a, .inr (1, [.ref a1, .ref a2, .ref a3, .ref a4])), (a1, .inl (cI, 512, .inl fm)), (a2, .inl (cI, 64, .inl fk)), (a3, .inl (cI, 512, .inl gm)), (a4, .inl (cI, 64, .inl gk))]) := by
  refine kt_start (cc := cX1_mediumMarkOf) (maxL := 2) (ret := (some .int)) (by decide +kernel) rfl (Nat.le_of_ble_eq_true rfl) ?_
  intro p e s m below meth c hx hb hml hr hlk hown hnm hts ls hl hw
  have hown : s.vm.findClass RX1 = some m.cls := hown
  have hl : lv_has ls 2 [(0, .ref a), (1, .int (nI i))] := hl
  have k19 := hts (.fieldLink RX1 19 "RestartBook$Pages" "mediumMarks" "[I") (by decide +kernel)
  have hin1 : ∀ w ∈ u_ws RX1 TX1 4, w ∈ wsX1_mediumMarkOf := in_X1_mediumMarkOf
  refine lv_iload_n hx hb dX1_mediumMarkOf_0 rfl (lv_at hl 1 rfl) ?_
  refine ww_callS ([]) ([(a, .inr (1, [.ref a1, .ref a2, .ref a3, .ref a4])), (a1, .inl (cI, 512, .inl fm)), (a2, .inl (cI, 64, .inl fk)), (a3, .inl (cI, 512, .inl gm)), (a4, .inl (cI, 64, .inl gk))]) (As := [.int (nI i)]) (rest := []) ⟨hx, hb, hml, hown, hts⟩ (cP_hasPage l D cI (nI i)) gX1_mediumMarkOf_X1_hasPage rfl hd_X1_hasPage ⟨Nat.le_of_ble_eq_true rfl, Nat.le_of_ble_eq_true rfl⟩ hw rfl rfl rfl hl.1 (Nat.le_of_ble_eq_true rfl) dX1_mediumMarkOf_1 ⟨Nat.le_of_ble_eq_true rfl, Nat.le_of_ble_eq_true rfl⟩ (fun v u H locs hq hw => ?_)
  obtain ⟨r, rfl, hq⟩ := hq
  obtain ⟨rfl, -⟩ := hq.resolve_right (fun h => h.2 ⟨i, hi, rfl⟩)
  have hw : ww D cI _ _ s ([(a, .inr (1, [.ref a1, .ref a2, .ref a3, .ref a4])), (a1, .inl (cI, 512, .inl fm)), (a2, .inl (cI, 64, .inl fk)), (a3, .inl (cI, 512, .inl gm)), (a4, .inl (cI, 64, .inl gk))]) H locs := hw
  refine W.eq (g2 := F0 m 4 ls [.int (1)]) rfl ?_
  refine lv_if_eq (tgt := 16) hx hb dX1_mediumMarkOf_4 (by decide) (fun c_4 => absurd c_4 (by decide)) (fun c_4 => ?_)
  refine lv_aload_n hx hb dX1_mediumMarkOf_7 rfl (lv_at hl 0 rfl) ?_
  refine ww_get hx hb hts hin1 hown hw 0 rfl rfl 3 (by decide) k19 rfl dX1_mediumMarkOf_8 ?_
  refine lv_iload_n hx hb dX1_mediumMarkOf_11 rfl (lv_at hl 1 rfl) ?_
  refine ww_iald hx hb hw 4 rfl i rfl (by omega) (by omega) dX1_mediumMarkOf_12 ?_
  refine lv_goto (tgt := 17) hx hb dX1_mediumMarkOf_13 (by decide) ?_
  exact ww_iret (u := ()) hx hb hr hlk hw (rfl) (Nat.le_of_ble_eq_true rfl) (Nat.le_of_ble_eq_true rfl) dX1_mediumMarkOf_17
set_option maxHeartbeats 4000000 in
set_option maxRecDepth 100000 in
theorem cP_change (l : Launch) (D : va_G) (cI : ClassId) (a a1 a2 a3 a4 : Nat) (fm fk gm gk : Nat → Int32) (i j : Nat) (x y : Int32) (hi : i < 64) (hj : j < 8) : Kt l yX1_change wsX1_change 1 21 (0) (0) D cI [.ref a, .int (nI i), .int (nI j), .int x, .int y] ([(a, .inr (1, [.ref a1, .ref a2, .ref a3, .ref a4])), (a1, .inl (cI, 512, .inl fm)), (a2, .inl (cI, 64, .inl fk)), (a3, .inl (cI, 512, .inl gm)), (a4, .inl (cI, 64, .inl gk))]) (pV (fun (u : Unit) => True)) (fun (u : Unit) => [(a, .inr (1, [.ref a1, .ref a2, .ref a3, .ref a4])), (a1, .inl (cI, 512, .inl (upd fm (i * 8 + j) (fm (i * 8 + j) + x)))), (a2, .inl (cI, 64, .inl (upd fk i y))), (a3, .inl (cI, 512, .inl gm)), (a4, .inl (cI, 64, .inl gk))]) := by
  refine kt_start (cc := cX1_change) (maxL := 5) (ret := none) (by decide +kernel) rfl (Nat.le_of_ble_eq_true rfl) ?_
  intro p e s m below meth c hx hb hml hr hlk hown hnm hts ls hl hw
  have hown : s.vm.findClass RX1 = some m.cls := hown
  have hl : lv_has ls 5 [(0, .ref a), (1, .int (nI i)), (2, .int (nI j)), (3, .int x), (4, .int y)] := hl
  have k9 := hts (.fieldLink RX1 9 "RestartBook$Pages" "words" "[I") (by decide +kernel)
  have k13 := hts (.fieldLink RX1 13 "RestartBook$Pages" "marks" "[I") (by decide +kernel)
  have hin1 : ∀ w ∈ u_ws RX1 TX1 4, w ∈ wsX1_change := in_X1_change
  refine lv_iload_n hx hb dX1_change_0 rfl (lv_at hl 1 rfl) ?_
  refine lv_iload_n hx hb dX1_change_1 rfl (lv_at hl 2 rfl) ?_
  refine ww_callS ([]) ([(a, .inr (1, [.ref a1, .ref a2, .ref a3, .ref a4])), (a1, .inl (cI, 512, .inl fm)), (a2, .inl (cI, 64, .inl fk)), (a3, .inl (cI, 512, .inl gm)), (a4, .inl (cI, 64, .inl gk))]) (As := [.int (nI i), .int (nI j)]) (rest := []) ⟨hx, hb, hml, hown, hts⟩ (cP_hasPlace l D cI (nI i) (nI j)) gX1_change_X1_hasPlace rfl hd_X1_hasPlace ⟨Nat.le_of_ble_eq_true rfl, Nat.le_of_ble_eq_true rfl⟩ hw rfl rfl rfl hl.1 (Nat.le_of_ble_eq_true rfl) dX1_change_2 ⟨Nat.le_of_ble_eq_true rfl, Nat.le_of_ble_eq_true rfl⟩ (fun v u H locs hq hw => ?_)
  obtain ⟨r, rfl, hq⟩ := hq
  obtain ⟨rfl, -⟩ := hq.resolve_right (fun h => h.2 ⟨⟨i, hi, rfl⟩, ⟨j, hj, rfl⟩⟩)
  have hw : ww D cI _ _ s ([(a, .inr (1, [.ref a1, .ref a2, .ref a3, .ref a4])), (a1, .inl (cI, 512, .inl fm)), (a2, .inl (cI, 64, .inl fk)), (a3, .inl (cI, 512, .inl gm)), (a4, .inl (cI, 64, .inl gk))]) H locs := hw
  refine W.eq (g2 := F0 m 5 ls [.int (1)]) rfl ?_
  refine lv_if_eq (tgt := 31) hx hb dX1_change_5 (by decide) (fun c_5 => absurd c_5 (by decide)) (fun c_5 => ?_)
  refine lv_aload_n hx hb dX1_change_8 rfl (lv_at hl 0 rfl) ?_
  refine ww_get hx hb hts hin1 hown hw 0 rfl rfl 0 (by decide) k9 rfl dX1_change_9 ?_
  refine lv_iload_n hx hb dX1_change_12 rfl (lv_at hl 1 rfl) ?_
  refine lv_bipush (v := nI 8) hx hb dX1_change_13 (by decide +kernel) ?_
  refine lv_imul hx hb dX1_change_15 ?_
  refine lv_eqi (show _ = nI (i * 8) from pk_mul _ _) ?_
  refine lv_iload_n hx hb dX1_change_16 rfl (lv_at hl 2 rfl) ?_
  refine lv_iadd hx hb dX1_change_17 ?_
  refine lv_eqi (show _ = nI ((i * 8) + j) from nI_add _ _) ?_
  refine lv_dup2_11 hx hb dX1_change_18 rfl rfl ?_
  refine W.eq (g2 := F0 m 19 ls [.int (nI ((i * 8) + j)), .ref a1, .int (nI ((i * 8) + j)), .ref a1]) rfl ?_
  refine ww_iald hx hb hw 1 rfl ((i * 8) + j) rfl (by omega) (by omega) dX1_change_19 ?_
  refine lv_iload_n hx hb dX1_change_20 rfl (lv_at hl 3 rfl) ?_
  refine lv_iadd hx hb dX1_change_21 ?_
  refine ww_iast (ws' := [(a, .inr (1, [.ref a1, .ref a2, .ref a3, .ref a4])), (a1, .inl (cI, 512, .inl (upd fm ((i * 8) + j) ((fm ((i * 8) + j)) + x)))), (a2, .inl (cI, 64, .inl fk)), (a3, .inl (cI, 512, .inl gm)), (a4, .inl (cI, 64, .inl gk))]) hx hb hw 1 rfl ((i * 8) + j) rfl (by omega) (by omega) rfl dX1_change_22 (fun H locs hw => ?_)
  refine lv_aload_n hx hb dX1_change_23 rfl (lv_at hl 0 rfl) ?_
  refine ww_get hx hb hts hin1 hown hw 0 rfl rfl 1 (by decide) k13 rfl dX1_change_24 ?_
  refine lv_iload_n hx hb dX1_change_27 rfl (lv_at hl 1 rfl) ?_
  refine lv_iload hx hb dX1_change_28 (lv_at hl 4 rfl) ?_
  refine ww_iast (ws' := [(a, .inr (1, [.ref a1, .ref a2, .ref a3, .ref a4])), (a1, .inl (cI, 512, .inl (upd fm ((i * 8) + j) ((fm ((i * 8) + j)) + x)))), (a2, .inl (cI, 64, .inl (upd fk i y))), (a3, .inl (cI, 512, .inl gm)), (a4, .inl (cI, 64, .inl gk))]) hx hb hw 2 rfl i rfl (by omega) (by omega) rfl dX1_change_30 (fun H locs hw => ?_)
  exact ww_vret (u := ()) hx hb hr hlk hw (trivial) (Nat.le_of_ble_eq_true rfl) (Nat.le_of_ble_eq_true rfl) rfl dX1_change_31
set_option maxHeartbeats 4000000 in
set_option maxRecDepth 100000 in
theorem cP_copyToMedium (l : Launch) (D : va_G) (cI : ClassId) (a a1 a2 a3 a4 : Nat) (fm fk gm gk : Nat → Int32) (i : Nat) (hi : i < 64) : Kt l yX1_copyToMedium wsX1_copyToMedium 1 20 (0) (0) D cI [.ref a, .int (nI i)] ([(a, .inr (1, [.ref a1, .ref a2, .ref a3, .ref a4])), (a1, .inl (cI, 512, .inl fm)), (a2, .inl (cI, 64, .inl fk)), (a3, .inl (cI, 512, .inl gm)), (a4, .inl (cI, 64, .inl gk))]) (pV (fun (u : Unit) => True)) (fun (u : Unit) => [(a, .inr (1, [.ref a1, .ref a2, .ref a3, .ref a4])), (a1, .inl (cI, 512, .inl fm)), (a2, .inl (cI, 64, .inl fk)), (a3, .inl (cI, 512, .inl (va_cpy fm gm (i * 8) (i * 8) 8))), (a4, .inl (cI, 64, .inl (upd gk i (fk i))))]) := by
  refine kt_start (cc := cX1_copyToMedium) (maxL := 2) (ret := none) (by decide +kernel) rfl (Nat.le_of_ble_eq_true rfl) ?_
  intro p e s m below meth c hx hb hml hr hlk hown hnm hts ls hl hw
  have hown : s.vm.findClass RX1 = some m.cls := hown
  have hl : lv_has ls 2 [(0, .ref a), (1, .int (nI i))] := hl
  have k9 := hts (.fieldLink RX1 9 "RestartBook$Pages" "words" "[I") (by decide +kernel)
  have k13 := hts (.fieldLink RX1 13 "RestartBook$Pages" "marks" "[I") (by decide +kernel)
  have k16 := hts (.fieldLink RX1 16 "RestartBook$Pages" "mediumWords" "[I") (by decide +kernel)
  have k19 := hts (.fieldLink RX1 19 "RestartBook$Pages" "mediumMarks" "[I") (by decide +kernel)
  have hin1 : ∀ w ∈ u_ws RX1 TX1 4, w ∈ wsX1_copyToMedium := in_X1_copyToMedium
  refine lv_iload_n hx hb dX1_copyToMedium_0 rfl (lv_at hl 1 rfl) ?_
  refine ww_callS ([]) ([(a, .inr (1, [.ref a1, .ref a2, .ref a3, .ref a4])), (a1, .inl (cI, 512, .inl fm)), (a2, .inl (cI, 64, .inl fk)), (a3, .inl (cI, 512, .inl gm)), (a4, .inl (cI, 64, .inl gk))]) (As := [.int (nI i)]) (rest := []) ⟨hx, hb, hml, hown, hts⟩ (cP_hasPage l D cI (nI i)) gX1_copyToMedium_X1_hasPage rfl hd_X1_hasPage ⟨Nat.le_of_ble_eq_true rfl, Nat.le_of_ble_eq_true rfl⟩ hw rfl rfl rfl hl.1 (Nat.le_of_ble_eq_true rfl) dX1_copyToMedium_1 ⟨Nat.le_of_ble_eq_true rfl, Nat.le_of_ble_eq_true rfl⟩ (fun v u H locs hq hw => ?_)
  obtain ⟨r, rfl, hq⟩ := hq
  obtain ⟨rfl, -⟩ := hq.resolve_right (fun h => h.2 ⟨i, hi, rfl⟩)
  have hw : ww D cI _ _ s ([(a, .inr (1, [.ref a1, .ref a2, .ref a3, .ref a4])), (a1, .inl (cI, 512, .inl fm)), (a2, .inl (cI, 64, .inl fk)), (a3, .inl (cI, 512, .inl gm)), (a4, .inl (cI, 64, .inl gk))]) H locs := hw
  refine W.eq (g2 := F0 m 4 ls [.int (1)]) rfl ?_
  refine lv_if_eq (tgt := 40) hx hb dX1_copyToMedium_4 (by decide) (fun c_4 => absurd c_4 (by decide)) (fun c_4 => ?_)
  refine lv_aload_n hx hb dX1_copyToMedium_7 rfl (lv_at hl 0 rfl) ?_
  refine ww_get hx hb hts hin1 hown hw 0 rfl rfl 0 (by decide) k9 rfl dX1_copyToMedium_8 ?_
  refine lv_iload_n hx hb dX1_copyToMedium_11 rfl (lv_at hl 1 rfl) ?_
  refine lv_bipush (v := nI 8) hx hb dX1_copyToMedium_12 (by decide +kernel) ?_
  refine lv_imul hx hb dX1_copyToMedium_14 ?_
  refine lv_eqi (show _ = nI (i * 8) from pk_mul _ _) ?_
  refine lv_aload_n hx hb dX1_copyToMedium_15 rfl (lv_at hl 0 rfl) ?_
  refine ww_get hx hb hts hin1 hown hw 0 rfl rfl 2 (by decide) k16 rfl dX1_copyToMedium_16 ?_
  refine lv_iload_n hx hb dX1_copyToMedium_19 rfl (lv_at hl 1 rfl) ?_
  refine lv_bipush (v := nI 8) hx hb dX1_copyToMedium_20 (by decide +kernel) ?_
  refine W.eq (g2 := F0 m 22 ls [.int (nI 8), .int (nI i), .ref a3, .int (nI (i * 8)), .ref a1]) rfl ?_
  refine lv_imul hx hb dX1_copyToMedium_22 ?_
  refine lv_eqi (show _ = nI (i * 8) from pk_mul _ _) ?_
  refine lv_bipush (v := nI 8) hx hb dX1_copyToMedium_23 (by decide +kernel) ?_
  refine ww_copy (ws' := [(a, .inr (1, [.ref a1, .ref a2, .ref a3, .ref a4])), (a1, .inl (cI, 512, .inl fm)), (a2, .inl (cI, 64, .inl fk)), (a3, .inl (cI, 512, .inl (va_cpy fm gm (i * 8) (i * 8) 8))), (a4, .inl (cI, 64, .inl gk))]) hx hb (hml.trans hl.1.symm) hown (hts (.methodLink RX1 30 arraycopyName) (by decide +kernel)) (hts (.native arraycopyName) (by decide +kernel)) (hts (.static arraycopyName) (by decide +kernel)) (hts (.initialized "java/lang/System") (by decide +kernel)) hw 1 3 rfl rfl (i * 8) (i * 8) 8 rfl rfl rfl (by omega) (by omega) (by omega) (by omega) rfl (Nat.le_of_ble_eq_true rfl) (Nat.le_of_ble_eq_true rfl) dX1_copyToMedium_25 (fun H locs hw => ?_)
  refine lv_aload_n hx hb dX1_copyToMedium_28 rfl (lv_at hl 0 rfl) ?_
  refine ww_get hx hb hts hin1 hown hw 0 rfl rfl 3 (by decide) k19 rfl dX1_copyToMedium_29 ?_
  refine lv_iload_n hx hb dX1_copyToMedium_32 rfl (lv_at hl 1 rfl) ?_
  refine lv_aload_n hx hb dX1_copyToMedium_33 rfl (lv_at hl 0 rfl) ?_
  refine ww_get hx hb hts hin1 hown hw 0 rfl rfl 1 (by decide) k13 rfl dX1_copyToMedium_34 ?_
  refine lv_iload_n hx hb dX1_copyToMedium_37 rfl (lv_at hl 1 rfl) ?_
  refine ww_iald hx hb hw 2 rfl i rfl (by omega) (by omega) dX1_copyToMedium_38 ?_
  refine ww_iast (ws' := [(a, .inr (1, [.ref a1, .ref a2, .ref a3, .ref a4])), (a1, .inl (cI, 512, .inl fm)), (a2, .inl (cI, 64, .inl fk)), (a3, .inl (cI, 512, .inl (va_cpy fm gm (i * 8) (i * 8) 8))), (a4, .inl (cI, 64, .inl (upd gk i (fk i))))]) hx hb hw 4 rfl i rfl (by omega) (by omega) rfl dX1_copyToMedium_39 (fun H locs hw => ?_)
  exact ww_vret (u := ()) hx hb hr hlk hw (trivial) (Nat.le_of_ble_eq_true rfl) (Nat.le_of_ble_eq_true rfl) rfl dX1_copyToMedium_40
set_option maxHeartbeats 4000000 in
set_option maxRecDepth 100000 in
theorem cP_readAll (l : Launch) (D : va_G) (cI : ClassId) (a a1 a2 a3 a4 : Nat) (fm fk gm gk : Nat → Int32) : Kt l yX1_readAllFromMedium wsX1_readAllFromMedium 1 18 (0) (0) D cI [.ref a] ([(a, .inr (1, [.ref a1, .ref a2, .ref a3, .ref a4])), (a1, .inl (cI, 512, .inl fm)), (a2, .inl (cI, 64, .inl fk)), (a3, .inl (cI, 512, .inl gm)), (a4, .inl (cI, 64, .inl gk))]) (pV (fun (u : Unit) => True)) (fun (u : Unit) => [(a, .inr (1, [.ref a1, .ref a2, .ref a3, .ref a4])), (a1, .inl (cI, 512, .inl (va_cpy gm fm 0 0 512))), (a2, .inl (cI, 64, .inl (va_cpy gk fk 0 0 64))), (a3, .inl (cI, 512, .inl gm)), (a4, .inl (cI, 64, .inl gk))]) := by
  refine kt_start (cc := cX1_readAllFromMedium) (maxL := 1) (ret := none) (by decide +kernel) rfl (Nat.le_of_ble_eq_true rfl) ?_
  intro p e s m below meth c hx hb hml hr hlk hown hnm hts ls hl hw
  have hown : s.vm.findClass RX1 = some m.cls := hown
  have hl : lv_has ls 1 [(0, .ref a)] := hl
  have k9 := hts (.fieldLink RX1 9 "RestartBook$Pages" "words" "[I") (by decide +kernel)
  have k13 := hts (.fieldLink RX1 13 "RestartBook$Pages" "marks" "[I") (by decide +kernel)
  have k16 := hts (.fieldLink RX1 16 "RestartBook$Pages" "mediumWords" "[I") (by decide +kernel)
  have k19 := hts (.fieldLink RX1 19 "RestartBook$Pages" "mediumMarks" "[I") (by decide +kernel)
  have hin1 : ∀ w ∈ u_ws RX1 TX1 4, w ∈ wsX1_readAllFromMedium := in_X1_readAllFromMedium
  refine lv_aload_n hx hb dX1_readAllFromMedium_0 rfl (lv_at hl 0 rfl) ?_
  refine ww_get hx hb hts hin1 hown hw 0 rfl rfl 2 (by decide) k16 rfl dX1_readAllFromMedium_1 ?_
  refine lv_iconst (v := nI 0) hx hb dX1_readAllFromMedium_4 (by decide +kernel) ?_
  refine lv_aload_n hx hb dX1_readAllFromMedium_5 rfl (lv_at hl 0 rfl) ?_
  refine ww_get hx hb hts hin1 hown hw 0 rfl rfl 0 (by decide) k9 rfl dX1_readAllFromMedium_6 ?_
  refine lv_iconst (v := nI 0) hx hb dX1_readAllFromMedium_9 (by decide +kernel) ?_
  refine lv_sipush (v := nI 512) hx hb dX1_readAllFromMedium_10 (by decide +kernel) ?_
  refine ww_copy (ws' := [(a, .inr (1, [.ref a1, .ref a2, .ref a3, .ref a4])), (a1, .inl (cI, 512, .inl (va_cpy gm fm 0 0 512))), (a2, .inl (cI, 64, .inl fk)), (a3, .inl (cI, 512, .inl gm)), (a4, .inl (cI, 64, .inl gk))]) hx hb (hml.trans hl.1.symm) hown (hts (.methodLink RX1 30 arraycopyName) (by decide +kernel)) (hts (.native arraycopyName) (by decide +kernel)) (hts (.static arraycopyName) (by decide +kernel)) (hts (.initialized "java/lang/System") (by decide +kernel)) hw 3 1 rfl rfl 0 0 512 rfl rfl rfl (by omega) (by omega) (by omega) (by omega) rfl (Nat.le_of_ble_eq_true rfl) (Nat.le_of_ble_eq_true rfl) dX1_readAllFromMedium_13 (fun H locs hw => ?_)
  refine lv_aload_n hx hb dX1_readAllFromMedium_16 rfl (lv_at hl 0 rfl) ?_
  refine ww_get hx hb hts hin1 hown hw 0 rfl rfl 3 (by decide) k19 rfl dX1_readAllFromMedium_17 ?_
  refine lv_iconst (v := nI 0) hx hb dX1_readAllFromMedium_20 (by decide +kernel) ?_
  refine W.eq (g2 := F0 m 21 ls [.int (nI 0), .ref a4]) rfl ?_
  refine lv_aload_n hx hb dX1_readAllFromMedium_21 rfl (lv_at hl 0 rfl) ?_
  refine ww_get hx hb hts hin1 hown hw 0 rfl rfl 1 (by decide) k13 rfl dX1_readAllFromMedium_22 ?_
  refine lv_iconst (v := nI 0) hx hb dX1_readAllFromMedium_25 (by decide +kernel) ?_
  refine lv_bipush (v := nI 64) hx hb dX1_readAllFromMedium_26 (by decide +kernel) ?_
  refine ww_copy (ws' := [(a, .inr (1, [.ref a1, .ref a2, .ref a3, .ref a4])), (a1, .inl (cI, 512, .inl (va_cpy gm fm 0 0 512))), (a2, .inl (cI, 64, .inl (va_cpy gk fk 0 0 64))), (a3, .inl (cI, 512, .inl gm)), (a4, .inl (cI, 64, .inl gk))]) hx hb (hml.trans hl.1.symm) hown (hts (.methodLink RX1 30 arraycopyName) (by decide +kernel)) (hts (.native arraycopyName) (by decide +kernel)) (hts (.static arraycopyName) (by decide +kernel)) (hts (.initialized "java/lang/System") (by decide +kernel)) hw 4 2 rfl rfl 0 0 64 rfl rfl rfl (by omega) (by omega) (by omega) (by omega) rfl (Nat.le_of_ble_eq_true rfl) (Nat.le_of_ble_eq_true rfl) dX1_readAllFromMedium_28 (fun H locs hw => ?_)
  exact ww_vret (u := ()) hx hb hr hlk hw (trivial) (Nat.le_of_ble_eq_true rfl) (Nat.le_of_ble_eq_true rfl) rfl dX1_readAllFromMedium_31
set_option maxHeartbeats 4000000 in
set_option maxRecDepth 100000 in
theorem cP_init (l : Launch) (D : va_G) (cI : ClassId) (a : Nat) : Kt l yX1_init wsX1_init 1 12 (4) (1152) D cI [.ref a] ([(a, .inr (1, [.null, .null, .null, .null]))]) (pV (fun (u : Nat × Nat × Nat × Nat) => True)) (fun (u : Nat × Nat × Nat × Nat) => [(a, .inr (1, [.ref u.1, .ref u.2.1, .ref u.2.2.1, .ref u.2.2.2])), (u.1, .inl (cI, 512, .inl (fun _ => 0))), (u.2.1, .inl (cI, 64, .inl (fun _ => 0))), (u.2.2.1, .inl (cI, 512, .inl (fun _ => 0))), (u.2.2.2, .inl (cI, 64, .inl (fun _ => 0)))]) := by
  refine kt_start (cc := cX1_init) (maxL := 1) (ret := none) (by decide +kernel) rfl (Nat.le_of_ble_eq_true rfl) ?_
  intro p e s m below meth c hx hb hml hr hlk hown hnm hts ls hl hw
  have hown : s.vm.findClass RX1 = some m.cls := hown
  have hl : lv_has ls 1 [(0, .ref a)] := hl
  have k9 := hts (.fieldLink RX1 9 "RestartBook$Pages" "words" "[I") (by decide +kernel)
  have k13 := hts (.fieldLink RX1 13 "RestartBook$Pages" "marks" "[I") (by decide +kernel)
  have k16 := hts (.fieldLink RX1 16 "RestartBook$Pages" "mediumWords" "[I") (by decide +kernel)
  have k19 := hts (.fieldLink RX1 19 "RestartBook$Pages" "mediumMarks" "[I") (by decide +kernel)
  have hin1 : ∀ w ∈ u_ws RX1 TX1 4, w ∈ wsX1_init := in_X1_init
  have harr := hts (.arrayClass .int) (by decide +kernel)
  refine lv_aload_n hx hb dX1_init_0 rfl (lv_at hl 0 rfl) ?_
  refine W.objInit hx hb hown (hts (.methodLink RX1 1 objectInit) (by decide +kernel)) (hts (.instanceMethod objectInit) (by decide +kernel)) (hts _ (List.mem_of_getElem? (l := wsX1_init) (i := 3) rfl)) rfl (by rw [hml]; exact hl.1) rfl dX1_init_1 (Nat.le_of_ble_eq_true rfl) (Nat.le_of_ble_eq_true rfl) ?_
  refine W.eq (g2 := F0 m 4 ls []) rfl ?_
  refine lv_aload_n hx hb dX1_init_4 rfl (lv_at hl 0 rfl) ?_
  refine lv_sipush (v := nI 512) hx hb dX1_init_5 (by decide +kernel) ?_
  refine ww_newa (N := 512) hx hb harr hw rfl (by omega) (Nat.le_of_ble_eq_true rfl) (Nat.le_of_ble_eq_true rfl) dX1_init_8 (fun q8 H hw => ?_)
  have hw : ww D cI _ _ s ([(a, .inr (1, [.null, .null, .null, .null])), (q8, .inl (cI, 512, .inl (fun _ => 0)))]) H _ := hw
  refine ww_putF (ws' := [(a, .inr (1, [.ref q8, .null, .null, .null])), (q8, .inl (cI, 512, .inl (fun _ => 0)))]) hx hb hts hin1 tyX1 tyX1_ok nmX1 hown hw 0 rfl rfl 0 (by decide) k9 rfl hnm rfl rfl rfl (Nat.le_of_ble_eq_true rfl) rfl dX1_init_10 (fun H locs hw => ?_)
  refine lv_aload_n hx hb dX1_init_13 rfl (lv_at hl 0 rfl) ?_
  refine lv_bipush (v := nI 64) hx hb dX1_init_14 (by decide +kernel) ?_
  refine ww_newa (N := 64) hx hb harr hw rfl (by omega) (Nat.le_of_ble_eq_true rfl) (Nat.le_of_ble_eq_true rfl) dX1_init_16 (fun q16 H hw => ?_)
  have hw : ww D cI _ _ s ([(a, .inr (1, [.ref q8, .null, .null, .null])), (q8, .inl (cI, 512, .inl (fun _ => 0))), (q16, .inl (cI, 64, .inl (fun _ => 0)))]) H _ := hw
  refine ww_putF (ws' := [(a, .inr (1, [.ref q8, .ref q16, .null, .null])), (q8, .inl (cI, 512, .inl (fun _ => 0))), (q16, .inl (cI, 64, .inl (fun _ => 0)))]) hx hb hts hin1 tyX1 tyX1_ok nmX1 hown hw 0 rfl rfl 1 (by decide) k13 rfl hnm rfl rfl rfl (Nat.le_of_ble_eq_true rfl) rfl dX1_init_18 (fun H locs hw => ?_)
  refine lv_aload_n hx hb dX1_init_21 rfl (lv_at hl 0 rfl) ?_
  refine W.eq (g2 := F0 m 22 ls [.ref a]) rfl ?_
  refine lv_sipush (v := nI 512) hx hb dX1_init_22 (by decide +kernel) ?_
  refine ww_newa (N := 512) hx hb harr hw rfl (by omega) (Nat.le_of_ble_eq_true rfl) (Nat.le_of_ble_eq_true rfl) dX1_init_25 (fun q25 H hw => ?_)
  have hw : ww D cI _ _ s ([(a, .inr (1, [.ref q8, .ref q16, .null, .null])), (q8, .inl (cI, 512, .inl (fun _ => 0))), (q16, .inl (cI, 64, .inl (fun _ => 0))), (q25, .inl (cI, 512, .inl (fun _ => 0)))]) H _ := hw
  refine ww_putF (ws' := [(a, .inr (1, [.ref q8, .ref q16, .ref q25, .null])), (q8, .inl (cI, 512, .inl (fun _ => 0))), (q16, .inl (cI, 64, .inl (fun _ => 0))), (q25, .inl (cI, 512, .inl (fun _ => 0)))]) hx hb hts hin1 tyX1 tyX1_ok nmX1 hown hw 0 rfl rfl 2 (by decide) k16 rfl hnm rfl rfl rfl (Nat.le_of_ble_eq_true rfl) rfl dX1_init_27 (fun H locs hw => ?_)
  refine lv_aload_n hx hb dX1_init_30 rfl (lv_at hl 0 rfl) ?_
  refine lv_bipush (v := nI 64) hx hb dX1_init_31 (by decide +kernel) ?_
  refine ww_newa (N := 64) hx hb harr hw rfl (by omega) (Nat.le_of_ble_eq_true rfl) (Nat.le_of_ble_eq_true rfl) dX1_init_33 (fun q33 H hw => ?_)
  have hw : ww D cI _ _ s ([(a, .inr (1, [.ref q8, .ref q16, .ref q25, .null])), (q8, .inl (cI, 512, .inl (fun _ => 0))), (q16, .inl (cI, 64, .inl (fun _ => 0))), (q25, .inl (cI, 512, .inl (fun _ => 0))), (q33, .inl (cI, 64, .inl (fun _ => 0)))]) H _ := hw
  refine ww_putF (ws' := [(a, .inr (1, [.ref q8, .ref q16, .ref q25, .ref q33])), (q8, .inl (cI, 512, .inl (fun _ => 0))), (q16, .inl (cI, 64, .inl (fun _ => 0))), (q25, .inl (cI, 512, .inl (fun _ => 0))), (q33, .inl (cI, 64, .inl (fun _ => 0)))]) hx hb hts hin1 tyX1 tyX1_ok nmX1 hown hw 0 rfl rfl 3 (by decide) k19 rfl hnm rfl rfl rfl (Nat.le_of_ble_eq_true rfl) rfl dX1_init_35 (fun H locs hw => ?_)
  exact ww_vret (u := (q8, q16, q25, q33)) hx hb hr hlk hw (trivial) (Nat.le_of_ble_eq_true rfl) (Nat.le_of_ble_eq_true rfl) rfl dX1_init_38
