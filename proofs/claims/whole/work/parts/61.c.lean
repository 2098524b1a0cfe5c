set_option maxHeartbeats 1000000 in
set_option maxRecDepth 100000 in
theorem lw_add {p : Program} {l : Launch} {e : Env} {s : State} {m : MethodId} {below : List Frame} {meth : Method} {c : Code} {b L : Nat} {xs : Nat → Int32} (C0 : lw_At p s m meth c b L xs) (hL : L ≤ 2560) (D : va_G) (cI : ClassId) (a aL : Nat) (pa : A5) (ta da : A6) (am : Nat) (ra : Nat → Nat) (S : SS) (x : XG) (g : Nat → Nat → Int32) (lt : Int32) (n : Nat) (hn : 5 * n + 5 ≤ L) (hF : InvF (2 * n) S) (hc9 : 896 ≤ sCap S) (hrx : RX S x) (hm : RM S g lt 201) {H : Heap} {locs : List Loc} {ls : Array Slot} (hw : ww D cI (fun q : Nat => s.heap.size ≤ q) s.heap s (wXS cI a aL pa ta da S x ++ (wMS cI am ra S g lt ++ [])) H locs) (hl : lv_has ls 4 [(3, .int (nI (5 * n))), (0, .ref b), (1, .ref a), (2, .ref am)]) (K : ∀ (S' : SS) (x' : XG) (g' : Nat → Nat → Int32) (lt' : Int32) (H : Heap) (locs : List Loc) (ls : Array Slot), Kp (2 * n) S S' → RX S' x' → RM S' g' lt' 201 → ww D cI (fun q : Nat => s.heap.size ≤ q) s.heap s (wXS cI a aL pa ta da S' x' ++ (wMS cI am ra S' g' lt' ++ [])) H locs → lv_has ls 4 [(3, .int (nI (5 * n))), (0, .ref b), (1, .ref a), (2, .ref am)] → W p l e room_1 s m #[Value.ref b] below meth c H locs (41 + (sCap S' - 896)) (107688 + 2 * (sCap S' - 896)) (lw_Z below #[Value.ref b] s) (F0 m 557 ls [])) : W p l e room_1 s m #[Value.ref b] below meth c H locs (41 + (sCap S - 896)) (107688 + 2 * (sCap S - 896)) (lw_Z below #[Value.ref b] s) (F0 m 129 ls []) := by
  obtain ⟨hx, hb, hr, hml, hown, hts0, hX, hbl, hlocks, hgv⟩ := id C0
  have hbA : ¬ (fun q : Nat => s.heap.size ≤ q) b := Nat.not_le.mpr hbl
  have hts : ∀ w ∈ wsL_law, w.before #[Value.ref b] s = true := fun w h => hts0 w (wsL_law_in w h)
  have hown : s.vm.findClass RL = some m.cls := hown
  have hI0 := hF.1
  have hI := hI0.1
  have h5 := hF.2.1
  have hcp : sCap S ≤ 14 * (2 * n) + 2000 := hI.1.2.2.2.2.2
  have hkp := kO_add hF (xs (5 * n + 1)) (xs (5 * n + 2)) (xs (5 * n + 3)) (xs (5 * n + 4))
  have hcm := hkp.2
  have hcp2 : sCap ((oAdd S (xs (5 * n + 1)) (xs (5 * n + 2)) (xs (5 * n + 3)) (xs (5 * n + 4))).2) ≤ 14 * (2 * n + 2) + 2000 := hkp.1.1.1.1.2.2.2.2.2
  refine lv_aload_n hx hb dL_law_129 rfl (lv_at hl 2 rfl) ?_
  refine lv_aload_n hx hb dL_law_130 rfl (lv_at hl 1 rfl) ?_
  refine lv_iload_n hx hb dL_law_131 rfl (lv_at hl 0 rfl) ?_
  refine lv_iconst (v := nI 1) hx hb dL_law_132 (by decide +kernel) ?_
  refine lv_iadd hx hb dL_law_133 ?_
  refine lv_eqi (show _ = nI ((5 * n) + 1) from nI_add _ _) ?_
  refine va_sld hx hb hX hbl hbA hw.2.2.2.1 (i := nI ((5 * n) + 1)) (vp_in_nI (by omega) (by omega)) dL_law_134 ?_
  refine lv_eqi (show _ = xs ((5 * n) + 1) from by rw [show (nI ((5 * n) + 1)).toNatClampNeg = ((5 * n) + 1) from cl_nI (by omega)]) ?_
  refine lv_aload_n hx hb dL_law_135 rfl (lv_at hl 1 rfl) ?_
  refine lv_iload_n hx hb dL_law_136 rfl (lv_at hl 0 rfl) ?_
  refine lv_iconst (v := nI 2) hx hb dL_law_137 (by decide +kernel) ?_
  refine lv_iadd hx hb dL_law_138 ?_
  refine lv_eqi (show _ = nI ((5 * n) + 2) from nI_add _ _) ?_
  refine va_sld hx hb hX hbl hbA hw.2.2.2.1 (i := nI ((5 * n) + 2)) (vp_in_nI (by omega) (by omega)) dL_law_139 ?_
  refine lv_eqi (show _ = xs ((5 * n) + 2) from by rw [show (nI ((5 * n) + 2)).toNatClampNeg = ((5 * n) + 2) from cl_nI (by omega)]) ?_
  refine W.eq (g2 := F0 m 140 ls [.int (xs ((5 * n) + 2)), .int (xs ((5 * n) + 1)), .ref a]) rfl ?_
  refine lv_aload_n hx hb dL_law_140 rfl (lv_at hl 1 rfl) ?_
  refine lv_iload_n hx hb dL_law_141 rfl (lv_at hl 0 rfl) ?_
  refine lv_iconst (v := nI 3) hx hb dL_law_142 (by decide +kernel) ?_
  refine lv_iadd hx hb dL_law_143 ?_
  refine lv_eqi (show _ = nI ((5 * n) + 3) from nI_add _ _) ?_
  refine va_sld hx hb hX hbl hbA hw.2.2.2.1 (i := nI ((5 * n) + 3)) (vp_in_nI (by omega) (by omega)) dL_law_144 ?_
  refine lv_eqi (show _ = xs ((5 * n) + 3) from by rw [show (nI ((5 * n) + 3)).toNatClampNeg = ((5 * n) + 3) from cl_nI (by omega)]) ?_
  refine lv_aload_n hx hb dL_law_145 rfl (lv_at hl 1 rfl) ?_
  refine lv_iload_n hx hb dL_law_146 rfl (lv_at hl 0 rfl) ?_
  refine lv_iconst (v := nI 4) hx hb dL_law_147 (by decide +kernel) ?_
  refine lv_iadd hx hb dL_law_148 ?_
  refine lv_eqi (show _ = nI ((5 * n) + 4) from nI_add _ _) ?_
  refine va_sld hx hb hX hbl hbA hw.2.2.2.1 (i := nI ((5 * n) + 4)) (vp_in_nI (by omega) (by omega)) dL_law_149 ?_
  refine lv_eqi (show _ = xs ((5 * n) + 4) from by rw [show (nI ((5 * n) + 4)).toNatClampNeg = ((5 * n) + 4) from cl_nI (by omega)]) ?_
  refine ww_callV ([]) (wMS cI am ra S g lt ++ []) (As := [.int (xs ((5 * n) + 1)), .int (xs ((5 * n) + 2)), .int (xs ((5 * n) + 3)), .int (xs ((5 * n) + 4))]) (rest := []) ⟨hx, hb, hml, hown, hts⟩ (cF_add l D cI a aL pa ta da S x (2 * n) hI0 h5 (by omega) hrx (xs (5 * n + 1)) (xs (5 * n + 2)) (xs (5 * n + 3)) (xs (5 * n + 4))) gL_law_X3_add rfl hd_X3_add ⟨Nat.le_of_ble_eq_true rfl, Nat.le_of_ble_eq_true rfl⟩ hw rfl rfl rfl rfl rfl hl.1 (Nat.le_of_ble_eq_true rfl) dL_law_150 ⟨by show _ ≤ 600000; omega, by show _ ≤ 7302250; omega⟩ (fun rv u H locs hq hw => ?_)
  obtain ⟨x1, rfl⟩ : ∃ q, q = u := ⟨_, rfl⟩
  obtain ⟨rr, rfl, rfl, hrx1⟩ := hq
  have hw : ww D cI _ _ s (wXS cI a aL pa ta da ((oAdd S (xs (5 * n + 1)) (xs (5 * n + 2)) (xs (5 * n + 3)) (xs (5 * n + 4))).2) x1 ++ (wMS cI am ra S g lt ++ [])) H locs := hw
  refine W.eq (g2 := F0 m 153 ls [.int ((oAdd S (xs (5 * n + 1)) (xs (5 * n + 2)) (xs (5 * n + 3)) (xs (5 * n + 4))).1)]) rfl ?_
  refine lv_aload_n hx hb dL_law_153 rfl (lv_at hl 3 rfl) ?_
  refine lv_aload_n hx hb dL_law_154 rfl (lv_at hl 1 rfl) ?_
  refine W.eq (g2 := F0 m 155 ls [.ref b, .ref am, .int ((oAdd S (xs (5 * n + 1)) (xs (5 * n + 2)) (xs (5 * n + 3)) (xs (5 * n + 4))).1)]) rfl ?_
  refine lv_iload_n hx hb dL_law_155 rfl (lv_at hl 0 rfl) ?_
  refine lv_iconst (v := nI 1) hx hb dL_law_156 (by decide +kernel) ?_
  refine lv_iadd hx hb dL_law_157 ?_
  refine lv_eqi (show _ = nI ((5 * n) + 1) from nI_add _ _) ?_
  refine va_sld hx hb hX hbl hbA hw.2.2.2.1 (i := nI ((5 * n) + 1)) (vp_in_nI (by omega) (by omega)) dL_law_158 ?_
  refine lv_eqi (show _ = xs ((5 * n) + 1) from by rw [show (nI ((5 * n) + 1)).toNatClampNeg = ((5 * n) + 1) from cl_nI (by omega)]) ?_
  refine lv_aload_n hx hb dL_law_159 rfl (lv_at hl 1 rfl) ?_
  refine lv_iload_n hx hb dL_law_160 rfl (lv_at hl 0 rfl) ?_
  refine lv_iconst (v := nI 2) hx hb dL_law_161 (by decide +kernel) ?_
  refine lv_iadd hx hb dL_law_162 ?_
  refine lv_eqi (show _ = nI ((5 * n) + 2) from nI_add _ _) ?_
  refine va_sld hx hb hX hbl hbA hw.2.2.2.1 (i := nI ((5 * n) + 2)) (vp_in_nI (by omega) (by omega)) dL_law_163 ?_
  refine lv_eqi (show _ = xs ((5 * n) + 2) from by rw [show (nI ((5 * n) + 2)).toNatClampNeg = ((5 * n) + 2) from cl_nI (by omega)]) ?_
  refine lv_aload_n hx hb dL_law_164 rfl (lv_at hl 1 rfl) ?_
  refine lv_iload_n hx hb dL_law_165 rfl (lv_at hl 0 rfl) ?_
  refine lv_iconst (v := nI 3) hx hb dL_law_166 (by decide +kernel) ?_
  refine W.eq (g2 := F0 m 167 ls [.int (nI 3), .int (nI (5 * n)), .ref b, .int (xs ((5 * n) + 2)), .int (xs ((5 * n) + 1)), .ref am, .int ((oAdd S (xs (5 * n + 1)) (xs (5 * n + 2)) (xs (5 * n + 3)) (xs (5 * n + 4))).1)]) rfl ?_
  refine lv_iadd hx hb dL_law_167 ?_
  refine lv_eqi (show _ = nI ((5 * n) + 3) from nI_add _ _) ?_
  refine va_sld hx hb hX hbl hbA hw.2.2.2.1 (i := nI ((5 * n) + 3)) (vp_in_nI (by omega) (by omega)) dL_law_168 ?_
  refine lv_eqi (show _ = xs ((5 * n) + 3) from by rw [show (nI ((5 * n) + 3)).toNatClampNeg = ((5 * n) + 3) from cl_nI (by omega)]) ?_
  refine lv_aload_n hx hb dL_law_169 rfl (lv_at hl 1 rfl) ?_
  refine lv_iload_n hx hb dL_law_170 rfl (lv_at hl 0 rfl) ?_
  refine lv_iconst (v := nI 4) hx hb dL_law_171 (by decide +kernel) ?_
  refine lv_iadd hx hb dL_law_172 ?_
  refine lv_eqi (show _ = nI ((5 * n) + 4) from nI_add _ _) ?_
  refine va_sld hx hb hX hbl hbA hw.2.2.2.1 (i := nI ((5 * n) + 4)) (vp_in_nI (by omega) (by omega)) dL_law_173 ?_
  refine lv_eqi (show _ = xs ((5 * n) + 4) from by rw [show (nI ((5 * n) + 4)).toNatClampNeg = ((5 * n) + 4) from cl_nI (by omega)]) ?_
  refine ww_callV (wXS cI a aL pa ta da ((oAdd S (xs (5 * n + 1)) (xs (5 * n + 2)) (xs (5 * n + 3)) (xs (5 * n + 4))).2) x1) ([]) (As := [.int (xs ((5 * n) + 1)), .int (xs ((5 * n) + 2)), .int (xs ((5 * n) + 3)), .int (xs ((5 * n) + 4))]) (rest := [.int ((oAdd S (xs (5 * n + 1)) (xs (5 * n + 2)) (xs (5 * n + 3)) (xs (5 * n + 4))).1)]) ⟨hx, hb, hml, hown, hts⟩ (cG_add l D cI am ra S g lt (2 * n) hI (by omega) hm (xs (5 * n + 1)) (xs (5 * n + 2)) (xs (5 * n + 3)) (xs (5 * n + 4))) gL_law_X4_add rfl hd_X4_add ⟨Nat.le_of_ble_eq_true rfl, Nat.le_of_ble_eq_true rfl⟩ hw rfl rfl rfl rfl rfl hl.1 (Nat.le_of_ble_eq_true rfl) dL_law_174 ⟨by show _ ≤ 600000; omega, by show _ ≤ 7302250; omega⟩ (fun rv u H locs hq hw => ?_)
  obtain ⟨m1, rfl⟩ : ∃ q, q = u := ⟨_, rfl⟩
  obtain ⟨rr, rfl, rfl, hm1⟩ := hq
  have hw : ww D cI _ _ s (wXS cI a aL pa ta da ((oAdd S (xs (5 * n + 1)) (xs (5 * n + 2)) (xs (5 * n + 3)) (xs (5 * n + 4))).2) x1 ++ (wMS cI am ra ((oAdd S (xs (5 * n + 1)) (xs (5 * n + 2)) (xs (5 * n + 3)) (xs (5 * n + 4))).2) m1.1 m1.2 ++ [])) H locs := hw
  refine W.eq (g2 := F0 m 177 ls [.int ((oAdd S (xs (5 * n + 1)) (xs (5 * n + 2)) (xs (5 * n + 3)) (xs (5 * n + 4))).1), .int ((oAdd S (xs (5 * n + 1)) (xs (5 * n + 2)) (xs (5 * n + 3)) (xs (5 * n + 4))).1)]) rfl ?_
  refine lv_icmp_eq (tgt := 557) hx hb dL_law_177 (by decide) (fun c_177 => ?_) (fun c_177 => absurd (rfl) c_177)
  refine W.widen (k := 41 + (sCap ((oAdd S (xs (5 * n + 1)) (xs (5 * n + 2)) (xs (5 * n + 3)) (xs (5 * n + 4))).2) - 896)) (n := 107688 + 2 * (sCap ((oAdd S (xs (5 * n + 1)) (xs (5 * n + 2)) (xs (5 * n + 3)) (xs (5 * n + 4))).2) - 896)) (by omega) (by omega) ?_
  exact K ((oAdd S (xs (5 * n + 1)) (xs (5 * n + 2)) (xs (5 * n + 3)) (xs (5 * n + 4))).2) x1 m1.1 m1.2 _ _ _ hkp hrx1 hm1 hw (lv_sub hl [0, 1, 2, 3] rfl)
