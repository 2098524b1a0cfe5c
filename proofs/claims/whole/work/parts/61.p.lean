set_option maxHeartbeats 1000000 in
set_option maxRecDepth 100000 in
theorem lw_table {p : Program} {l : Launch} {e : Env} {s : State} {m : MethodId} {below : List Frame} {meth : Method} {c : Code} {b L : Nat} {xs : Nat → Int32} (C0 : lw_At p s m meth c b L xs) (hL : L ≤ 2560) (D : va_G) (cI : ClassId) (a aL : Nat) (pa : A5) (ta da : A6) (am : Nat) (ra : Nat → Nat) (S : SS) (x : XG) (g : Nat → Nat → Int32) (lt : Int32) (n : Nat) (hn : 5 * n + 5 ≤ L) (hF : InvF (2 * n) S) (hc9 : 896 ≤ sCap S) (hrx : RX S x) (hm : RM S g lt 201) {H : Heap} {locs : List Loc} {ls : Array Slot} (hw : ww D cI (fun q : Nat => s.heap.size ≤ q) s.heap s (wXS cI a aL pa ta da S x ++ (wMS cI am ra S g lt ++ [])) H locs) (hl : lv_has ls 4 [(3, .int (nI (5 * n))), (0, .ref b), (1, .ref a), (2, .ref am)]) (K : ∀ (S' : SS) (x' : XG) (g' : Nat → Nat → Int32) (lt' : Int32) (H : Heap) (locs : List Loc) (ls : Array Slot), Kp (2 * n) S S' → RX S' x' → RM S' g' lt' 201 → ww D cI (fun q : Nat => s.heap.size ≤ q) s.heap s (wXS cI a aL pa ta da S' x' ++ (wMS cI am ra S' g' lt' ++ [])) H locs → lv_has ls 4 [(3, .int (nI (5 * n))), (0, .ref b), (1, .ref a), (2, .ref am)] → W p l e room_1 s m #[Value.ref b] below meth c H locs (41 + (sCap S' - 896)) (107688 + 2 * (sCap S' - 896)) (lw_Z below #[Value.ref b] s) (F0 m 557 ls [])) : W p l e room_1 s m #[Value.ref b] below meth c H locs (41 + (sCap S - 896)) (107688 + 2 * (sCap S - 896)) (lw_Z below #[Value.ref b] s) (F0 m 468 ls []) := by
  obtain ⟨hx, hb, hr, hml, hown, hts0, hX, hbl, hlocks, hgv⟩ := id C0
  have hbA : ¬ (fun q : Nat => s.heap.size ≤ q) b := Nat.not_le.mpr hbl
  have hts : ∀ w ∈ wsL_law, w.before #[Value.ref b] s = true := fun w h => hts0 w (wsL_law_in w h)
  have hown : s.vm.findClass RL = some m.cls := hown
  have hI0 := hF.1
  have hI := hI0.1
  have h5 := hF.2.1
  have hcp : sCap S ≤ 14 * (2 * n) + 2000 := hI.1.2.2.2.2.2
  refine lv_aload_n hx hb dL_law_468 rfl (lv_at hl 2 rfl) ?_
  refine lv_aload_n hx hb dL_law_469 rfl (lv_at hl 1 rfl) ?_
  refine lv_iload_n hx hb dL_law_470 rfl (lv_at hl 0 rfl) ?_
  refine lv_iconst (v := nI 1) hx hb dL_law_471 (by decide +kernel) ?_
  refine lv_iadd hx hb dL_law_472 ?_
  refine lv_eqi (show _ = nI ((5 * n) + 1) from nI_add _ _) ?_
  refine va_sld hx hb hX hbl hbA hw.2.2.2.1 (i := nI ((5 * n) + 1)) (vp_in_nI (by omega) (by omega)) dL_law_473 ?_
  refine lv_eqi (show _ = xs ((5 * n) + 1) from by rw [show (nI ((5 * n) + 1)).toNatClampNeg = ((5 * n) + 1) from cl_nI (by omega)]) ?_
  refine lv_aload_n hx hb dL_law_474 rfl (lv_at hl 1 rfl) ?_
  refine lv_iload_n hx hb dL_law_475 rfl (lv_at hl 0 rfl) ?_
  refine lv_iconst (v := nI 2) hx hb dL_law_476 (by decide +kernel) ?_
  refine lv_iadd hx hb dL_law_477 ?_
  refine lv_eqi (show _ = nI ((5 * n) + 2) from nI_add _ _) ?_
  refine va_sld hx hb hX hbl hbA hw.2.2.2.1 (i := nI ((5 * n) + 2)) (vp_in_nI (by omega) (by omega)) dL_law_478 ?_
  refine lv_eqi (show _ = xs ((5 * n) + 2) from by rw [show (nI ((5 * n) + 2)).toNatClampNeg = ((5 * n) + 2) from cl_nI (by omega)]) ?_
  refine ww_callV ([]) (wMS cI am ra S g lt ++ []) (As := [.int (xs ((5 * n) + 1)), .int (xs ((5 * n) + 2))]) (rest := []) ⟨hx, hb, hml, hown, hts⟩ (cF_table l D cI a aL pa ta da S x (2 * n) hI0 h5 (by omega) hrx (xs (5 * n + 1)) (xs (5 * n + 2))) gL_law_X3_table rfl hd_X3_table ⟨Nat.le_of_ble_eq_true rfl, Nat.le_of_ble_eq_true rfl⟩ hw rfl rfl rfl rfl rfl hl.1 (Nat.le_of_ble_eq_true rfl) dL_law_479 ⟨by show _ ≤ 600000; omega, by show _ ≤ 7302250; omega⟩ (fun rv u H locs hq hw => ?_)
  obtain ⟨rr, rfl, rfl, hu⟩ := hq
  have hu := hu.symm
  subst hu
  have hw : ww D cI _ _ s (wXS cI a aL pa ta da S x ++ (wMS cI am ra S g lt ++ [])) H locs := hw
  refine W.eq (g2 := F0 m 482 ls [.int (oTable S (xs (5 * n + 1)) (xs (5 * n + 2)))]) rfl ?_
  refine W.eq (g2 := F0 m 482 ls [.int (oTable S (xs (5 * n + 1)) (xs (5 * n + 2)))]) rfl ?_
  refine lv_aload_n hx hb dL_law_482 rfl (lv_at hl 3 rfl) ?_
  refine lv_aload_n hx hb dL_law_483 rfl (lv_at hl 1 rfl) ?_
  refine lv_iload_n hx hb dL_law_484 rfl (lv_at hl 0 rfl) ?_
  refine lv_iconst (v := nI 1) hx hb dL_law_485 (by decide +kernel) ?_
  refine lv_iadd hx hb dL_law_486 ?_
  refine lv_eqi (show _ = nI ((5 * n) + 1) from nI_add _ _) ?_
  refine va_sld hx hb hX hbl hbA hw.2.2.2.1 (i := nI ((5 * n) + 1)) (vp_in_nI (by omega) (by omega)) dL_law_487 ?_
  refine lv_eqi (show _ = xs ((5 * n) + 1) from by rw [show (nI ((5 * n) + 1)).toNatClampNeg = ((5 * n) + 1) from cl_nI (by omega)]) ?_
  refine lv_aload_n hx hb dL_law_488 rfl (lv_at hl 1 rfl) ?_
  refine lv_iload_n hx hb dL_law_489 rfl (lv_at hl 0 rfl) ?_
  refine lv_iconst (v := nI 2) hx hb dL_law_490 (by decide +kernel) ?_
  refine lv_iadd hx hb dL_law_491 ?_
  refine lv_eqi (show _ = nI ((5 * n) + 2) from nI_add _ _) ?_
  refine va_sld hx hb hX hbl hbA hw.2.2.2.1 (i := nI ((5 * n) + 2)) (vp_in_nI (by omega) (by omega)) dL_law_492 ?_
  refine lv_eqi (show _ = xs ((5 * n) + 2) from by rw [show (nI ((5 * n) + 2)).toNatClampNeg = ((5 * n) + 2) from cl_nI (by omega)]) ?_
  refine ww_callV (wXS cI a aL pa ta da S x) ([]) (As := [.int (xs ((5 * n) + 1)), .int (xs ((5 * n) + 2))]) (rest := [.int (oTable S (xs (5 * n + 1)) (xs (5 * n + 2)))]) ⟨hx, hb, hml, hown, hts⟩ (cG_table l D cI am ra S g lt (2 * n) hI (by omega) hm (xs (5 * n + 1)) (xs (5 * n + 2))) gL_law_X4_table rfl hd_X4_table ⟨Nat.le_of_ble_eq_true rfl, Nat.le_of_ble_eq_true rfl⟩ hw rfl rfl rfl rfl rfl hl.1 (Nat.le_of_ble_eq_true rfl) dL_law_493 ⟨by show _ ≤ 600000; omega, by show _ ≤ 7302250; omega⟩ (fun rv u H locs hq hw => ?_)
  obtain ⟨rr, rfl, rfl⟩ := hq
  have hw : ww D cI _ _ s (wXS cI a aL pa ta da S x ++ (wMS cI am ra S g lt ++ [])) H locs := hw
  refine W.eq (g2 := F0 m 496 ls [.int (oTable S (xs (5 * n + 1)) (xs (5 * n + 2))), .int (oTable S (xs (5 * n + 1)) (xs (5 * n + 2)))]) rfl ?_
  refine lv_icmp_eq (tgt := 557) hx hb dL_law_496 (by decide) (fun c_496 => ?_) (fun c_496 => absurd (rfl) c_496)
  refine W.widen (k := 41 + (sCap S - 896)) (n := 107688 + 2 * (sCap S - 896)) (by omega) (by omega) ?_
  exact K S x g lt _ _ _ (Kp_rf hF) hrx hm hw (lv_sub hl [0, 1, 2, 3] rfl)
