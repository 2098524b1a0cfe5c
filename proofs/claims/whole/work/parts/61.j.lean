set_option maxHeartbeats 1000000 in
set_option maxRecDepth 100000 in
theorem lw_point {p : Program} {l : Launch} {e : Env} {s : State} {m : MethodId} {below : List Frame} {meth : Method} {c : Code} {b L : Nat} {xs : Nat → Int32} (C0 : lw_At p s m meth c b L xs) (hL : L ≤ 2560) (D : va_G) (cI : ClassId) (a aL : Nat) (pa : A5) (ta da : A6) (am : Nat) (ra : Nat → Nat) (S : SS) (x : XG) (g : Nat → Nat → Int32) (lt : Int32) (n : Nat) (hn : 5 * n + 5 ≤ L) (hF : InvF (2 * n) S) (hc9 : 896 ≤ sCap S) (hrx : RX S x) (hm : RM S g lt 201) {H : Heap} {locs : List Loc} {ls : Array Slot} (hw : ww D cI (fun q : Nat => s.heap.size ≤ q) s.heap s (wXS cI a aL pa ta da S x ++ (wMS cI am ra S g lt ++ [])) H locs) (hl : lv_has ls 4 [(3, .int (nI (5 * n))), (0, .ref b), (1, .ref a), (2, .ref am)]) (K : ∀ (S' : SS) (x' : XG) (g' : Nat → Nat → Int32) (lt' : Int32) (H : Heap) (locs : List Loc) (ls : Array Slot), Kp (2 * n) S S' → RX S' x' → RM S' g' lt' 201 → ww D cI (fun q : Nat => s.heap.size ≤ q) s.heap s (wXS cI a aL pa ta da S' x' ++ (wMS cI am ra S' g' lt' ++ [])) H locs → lv_has ls 4 [(3, .int (nI (5 * n))), (0, .ref b), (1, .ref a), (2, .ref am)] → W p l e room_1 s m #[Value.ref b] below meth c H locs (41 + (sCap S' - 896)) (107688 + 2 * (sCap S' - 896)) (lw_Z below #[Value.ref b] s) (F0 m 557 ls [])) : W p l e room_1 s m #[Value.ref b] below meth c H locs (41 + (sCap S - 896)) (107688 + 2 * (sCap S - 896)) (lw_Z below #[Value.ref b] s) (F0 m 330 ls []) := by
  obtain ⟨hx, hb, hr, hml, hown, hts0, hX, hbl, hlocks, hgv⟩ := id C0
  have hbA : ¬ (fun q : Nat => s.heap.size ≤ q) b := Nat.not_le.mpr hbl
  have hts : ∀ w ∈ wsL_law, w.before #[Value.ref b] s = true := fun w h => hts0 w (wsL_law_in w h)
  have hown : s.vm.findClass RL = some m.cls := hown
  have hI0 := hF.1
  have hI := hI0.1
  have h5 := hF.2.1
  have hcp : sCap S ≤ 14 * (2 * n) + 2000 := hI.1.2.2.2.2.2
  have hkp := kO_point hF 
  have hcm := hkp.2
  have hcp2 : sCap ((oPoint S).2) ≤ 14 * (2 * n + 2) + 2000 := hkp.1.1.1.1.2.2.2.2.2
  refine lv_aload_n hx hb dL_law_330 rfl (lv_at hl 2 rfl) ?_
  refine ww_callV ([]) (wMS cI am ra S g lt ++ []) (As := []) (rest := []) ⟨hx, hb, hml, hown, hts⟩ (cF_point l D cI a aL pa ta da S x (2 * n) hI0 h5 (by omega) hrx ) gL_law_X3_point rfl hd_X3_point ⟨Nat.le_of_ble_eq_true rfl, Nat.le_of_ble_eq_true rfl⟩ hw rfl rfl rfl rfl rfl hl.1 (Nat.le_of_ble_eq_true rfl) dL_law_331 ⟨by show _ ≤ 600000; omega, by show _ ≤ 7302250; omega⟩ (fun rv u H locs hq hw => ?_)
  obtain ⟨x1, rfl⟩ : ∃ q, q = u := ⟨_, rfl⟩
  obtain ⟨rr, rfl, rfl, hrx1⟩ := hq
  have hw : ww D cI _ _ s (wXS cI a aL pa ta da ((oPoint S).2) x1 ++ (wMS cI am ra S g lt ++ [])) H locs := hw
  refine W.eq (g2 := F0 m 334 ls [.int ((oPoint S).1)]) rfl ?_
  refine lv_aload_n hx hb dL_law_334 rfl (lv_at hl 3 rfl) ?_
  refine ww_callV (wXS cI a aL pa ta da ((oPoint S).2) x1) ([]) (As := []) (rest := [.int ((oPoint S).1)]) ⟨hx, hb, hml, hown, hts⟩ (cG_point l D cI am ra S g lt (2 * n) hI (by omega) hm ) gL_law_X4_point rfl hd_X4_point ⟨Nat.le_of_ble_eq_true rfl, Nat.le_of_ble_eq_true rfl⟩ hw rfl rfl rfl rfl rfl hl.1 (Nat.le_of_ble_eq_true rfl) dL_law_335 ⟨by show _ ≤ 600000; omega, by show _ ≤ 7302250; omega⟩ (fun rv u H locs hq hw => ?_)
  obtain ⟨m1, rfl⟩ : ∃ q, q = u := ⟨_, rfl⟩
  obtain ⟨rr, rfl, rfl, hm1⟩ := hq
  have hw : ww D cI _ _ s (wXS cI a aL pa ta da ((oPoint S).2) x1 ++ (wMS cI am ra ((oPoint S).2) m1.1 m1.2 ++ [])) H locs := hw
  refine W.eq (g2 := F0 m 338 ls [.int ((oPoint S).1), .int ((oPoint S).1)]) rfl ?_
  refine lv_icmp_eq (tgt := 557) hx hb dL_law_338 (by decide) (fun c_338 => ?_) (fun c_338 => absurd (rfl) c_338)
  refine W.widen (k := 41 + (sCap ((oPoint S).2) - 896)) (n := 107688 + 2 * (sCap ((oPoint S).2) - 896)) (by omega) (by omega) ?_
  exact K ((oPoint S).2) x1 m1.1 m1.2 _ _ _ hkp hrx1 hm1 hw (lv_sub hl [0, 1, 2, 3] rfl)
