set_option maxHeartbeats 1000000 in
set_option maxRecDepth 100000 in
theorem lw_part {p : Program} {l : Launch} {e : Env} {s : State} {m : MethodId} {below : List Frame} {meth : Method} {c : Code} {b L : Nat} {xs : Nat → Int32} (C0 : lw_At p s m meth c b L xs) (hL : L ≤ 2560) (D : va_G) (cI : ClassId) (a aL : Nat) (pa : A5) (ta da : A6) (am : Nat) (ra : Nat → Nat) (S : SS) (x : XG) (g : Nat → Nat → Int32) (lt : Int32) (n : Nat) (hn : 5 * n + 5 ≤ L) (hF : InvF (2 * n) S) (hc9 : 896 ≤ sCap S) (hrx : RX S x) (hm : RM S g lt 201) {H : Heap} {locs : List Loc} {ls : Array Slot} (hw : ww D cI (fun q : Nat => s.heap.size ≤ q) s.heap s (wXS cI a aL pa ta da S x ++ (wMS cI am ra S g lt ++ [])) H locs) (hl : lv_has ls 4 [(3, .int (nI (5 * n))), (0, .ref b), (1, .ref a), (2, .ref am)]) (K : ∀ (S' : SS) (x' : XG) (g' : Nat → Nat → Int32) (lt' : Int32) (H : Heap) (locs : List Loc) (ls : Array Slot), Kp (2 * n) S S' → RX S' x' → RM S' g' lt' 201 → ww D cI (fun q : Nat => s.heap.size ≤ q) s.heap s (wXS cI a aL pa ta da S' x' ++ (wMS cI am ra S' g' lt' ++ [])) H locs → lv_has ls 4 [(3, .int (nI (5 * n))), (0, .ref b), (1, .ref a), (2, .ref am)] → W p l e room_1 s m #[Value.ref b] below meth c H locs (41 + (sCap S' - 896)) (107688 + 2 * (sCap S' - 896)) (lw_Z below #[Value.ref b] s) (F0 m 557 ls [])) : W p l e room_1 s m #[Value.ref b] below meth c H locs (41 + (sCap S - 896)) (107688 + 2 * (sCap S - 896)) (lw_Z below #[Value.ref b] s) (F0 m 389 ls []) := by
  obtain ⟨hx, hb, hr, hml, hown, hts0, hX, hbl, hlocks, hgv⟩ := id C0
  have hbA : ¬ (fun q : Nat => s.heap.size ≤ q) b := Nat.not_le.mpr hbl
  have hts : ∀ w ∈ wsL_law, w.before #[Value.ref b] s = true := fun w h => hts0 w (wsL_law_in w h)
  have hown : s.vm.findClass RL = some m.cls := hown
  have hI0 := hF.1
  have hI := hI0.1
  have h5 := hF.2.1
  have hcp : sCap S ≤ 14 * (2 * n) + 2000 := hI.1.2.2.2.2.2
  refine lv_aload_n hx hb dL_law_389 rfl (lv_at hl 2 rfl) ?_
  refine ww_callV ([]) (wMS cI am ra S g lt ++ []) (As := []) (rest := []) ⟨hx, hb, hml, hown, hts⟩ (cF_part l D cI a aL pa ta da S x (2 * n) hI0 h5 (by omega) hrx ) gL_law_X3_part rfl hd_X3_part ⟨Nat.le_of_ble_eq_true rfl, Nat.le_of_ble_eq_true rfl⟩ hw rfl rfl rfl rfl rfl hl.1 (Nat.le_of_ble_eq_true rfl) dL_law_390 ⟨by show _ ≤ 600000; omega, by show _ ≤ 7302250; omega⟩ (fun rv u H locs hq hw => ?_)
  obtain ⟨rr, rfl, rfl, hu⟩ := hq
  have hu := hu.symm
  subst hu
  have hw : ww D cI _ _ s (wXS cI a aL pa ta da S x ++ (wMS cI am ra S g lt ++ [])) H locs := hw
  refine W.eq (g2 := F0 m 393 ls [.int (nI (sDo S))]) rfl ?_
  refine lv_aload_n hx hb dL_law_393 rfl (lv_at hl 3 rfl) ?_
  refine ww_callV (wXS cI a aL pa ta da S x) ([]) (As := []) (rest := [.int (nI (sDo S))]) ⟨hx, hb, hml, hown, hts⟩ (cG_part l D cI am ra S g lt (2 * n) hI (by omega) hm ) gL_law_X4_part rfl hd_X4_part ⟨Nat.le_of_ble_eq_true rfl, Nat.le_of_ble_eq_true rfl⟩ hw rfl rfl rfl rfl rfl hl.1 (Nat.le_of_ble_eq_true rfl) dL_law_394 ⟨by show _ ≤ 600000; omega, by show _ ≤ 7302250; omega⟩ (fun rv u H locs hq hw => ?_)
  obtain ⟨rr, rfl, rfl⟩ := hq
  have hw : ww D cI _ _ s (wXS cI a aL pa ta da S x ++ (wMS cI am ra S g lt ++ [])) H locs := hw
  refine W.eq (g2 := F0 m 397 ls [.int (nI (sDo S)), .int (nI (sDo S))]) rfl ?_
  refine lv_icmp_eq (tgt := 557) hx hb dL_law_397 (by decide) (fun c_397 => ?_) (fun c_397 => absurd (rfl) c_397)
  refine W.widen (k := 41 + (sCap S - 896)) (n := 107688 + 2 * (sCap S - 896)) (by omega) (by omega) ?_
  exact K S x g lt _ _ _ (Kp_rf hF) hrx hm hw (lv_sub hl [0, 1, 2, 3] rfl)
