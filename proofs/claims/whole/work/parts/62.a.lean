/-! the law: its loop -/
theorem swo17 {k : Int32} (h0 : ¬ k = nI 0) (h1 : ¬ k = nI 1) (h2 : ¬ k = nI 2) (h3 : ¬ k = nI 3) (h4 : ¬ k = nI 4) (h5 : ¬ k = nI 5) (h6 : ¬ k = nI 6) (h7 : ¬ k = nI 7) (h8 : ¬ k = nI 8) (h9 : ¬ k = nI 9) (h10 : ¬ k = nI 10) (h11 : ¬ k = nI 11) (h12 : ¬ k = nI 12) (h13 : ¬ k = nI 13) (h14 : ¬ k = nI 14) (h15 : ¬ k = nI 15) (h16 : ¬ k = nI 16) : k.toInt < 0 ∨ 16 < k.toInt := by
  simp (disch := omega) only [i_eq, nI_toInt] at h0 h1 h2 h3 h4 h5 h6 h7 h8 h9 h10 h11 h12 h13 h14 h15 h16; omega
theorem lw_go {L n : Nat} (hL : L ≤ 2560) (hn : 5 * n ≤ L) (h : ¬ nI L - nI 5 < nI (5 * n)) : 5 * n + 5 ≤ L := by
  by_cases z : 5 ≤ L
  · rw [nI_sub z] at h
    simp (disch := omega) only [i_lt, nI_toInt] at h
    omega
  · have e : n = 0 := by omega
    subst e
    refine absurd ?_ h
    have : L = 0 ∨ L = 1 ∨ L = 2 ∨ L = 3 ∨ L = 4 := by omega
    rcases this with rfl | rfl | rfl | rfl | rfl <;> decide +kernel
set_option maxHeartbeats 1000000 in
set_option maxRecDepth 100000 in
theorem lw_sw {p : Program} {l : Launch} {e : Env} {s : State} {m : MethodId} {below : List Frame} {meth : Method} {c : Code} {b L : Nat} {xs : Nat → Int32} (C0 : lw_At p s m meth c b L xs) (hL : L ≤ 2560) (D : va_G) (cI : ClassId) (a aL : Nat) (pa : A5) (ta da : A6) (am : Nat) (ra : Nat → Nat) (S : SS) (x : XG) (g : Nat → Nat → Int32) (lt : Int32) (n : Nat) (hn : 5 * n + 5 ≤ L) (hF : InvF (2 * n) S) (hc9 : 896 ≤ sCap S) (hrx : RX S x) (hm : RM S g lt 201) {H : Heap} {locs : List Loc} {ls : Array Slot} (hw : ww D cI (fun q : Nat => s.heap.size ≤ q) s.heap s (wXS cI a aL pa ta da S x ++ (wMS cI am ra S g lt ++ [])) H locs) (hl : lv_has ls 4 [(3, .int (nI (5 * n))), (0, .ref b), (1, .ref a), (2, .ref am)]) (K : ∀ (S' : SS) (x' : XG) (g' : Nat → Nat → Int32) (lt' : Int32) (H : Heap) (locs : List Loc) (ls : Array Slot), Kp (2 * n) S S' → RX S' x' → RM S' g' lt' 201 → ww D cI (fun q : Nat => s.heap.size ≤ q) s.heap s (wXS cI a aL pa ta da S' x' ++ (wMS cI am ra S' g' lt' ++ [])) H locs → lv_has ls 4 [(3, .int (nI (5 * n))), (0, .ref b), (1, .ref a), (2, .ref am)] → W p l e room_1 s m #[Value.ref b] below meth c H locs (41 + (sCap S' - 896)) (107688 + 2 * (sCap S' - 896)) (lw_Z below #[Value.ref b] s) (F0 m 557 ls [])) (k : Int32) : W p l e room_1 s m #[Value.ref b] below meth c H locs (41 + (sCap S - 896)) (107688 + 2 * (sCap S - 896)) (lw_Z below #[Value.ref b] s) (F0 m 32 ls [.int k]) := by
  obtain ⟨hx, hb, hr, hml, hown, hts0, hX, hbl, hlocks, hgv⟩ := id C0
  by_cases c0 : k = nI 0
  · refine lv_tableIn (tgt := 116) (off := 84) hx hb dL_law_32 (by rw [c0]; decide +kernel) (by rw [c0]; decide +kernel) (by rw [c0]; decide +kernel) (by decide) ?_
    exact lw_begin C0 hL D cI a aL pa ta da am ra S x g lt n hn hF hc9 hrx hm hw hl K
  by_cases c1 : k = nI 1
  · refine lv_tableIn (tgt := 129) (off := 97) hx hb dL_law_32 (by rw [c1]; decide +kernel) (by rw [c1]; decide +kernel) (by rw [c1]; decide +kernel) (by decide) ?_
    exact lw_add C0 hL D cI a aL pa ta da am ra S x g lt n hn hF hc9 hrx hm hw hl K
  by_cases c2 : k = nI 2
  · refine lv_tableIn (tgt := 182) (off := 150) hx hb dL_law_32 (by rw [c2]; decide +kernel) (by rw [c2]; decide +kernel) (by rw [c2]; decide +kernel) (by decide) ?_
    exact lw_back C0 hL D cI a aL pa ta da am ra S x g lt n hn hF hc9 hrx hm hw hl K
  by_cases c3 : k = nI 3
  · refine lv_tableIn (tgt := 215) (off := 183) hx hb dL_law_32 (by rw [c3]; decide +kernel) (by rw [c3]; decide +kernel) (by rw [c3]; decide +kernel) (by decide) ?_
    exact lw_prepare C0 hL D cI a aL pa ta da am ra S x g lt n hn hF hc9 hrx hm hw hl K
  by_cases c4 : k = nI 4
  · refine lv_tableIn (tgt := 238) (off := 206) hx hb dL_law_32 (by rw [c4]; decide +kernel) (by rw [c4]; decide +kernel) (by rw [c4]; decide +kernel) (by decide) ?_
    exact lw_commit C0 hL D cI a aL pa ta da am ra S x g lt n hn hF hc9 hrx hm hw hl K
  by_cases c5 : k = nI 5
  · refine lv_tableIn (tgt := 261) (off := 229) hx hb dL_law_32 (by rw [c5]; decide +kernel) (by rw [c5]; decide +kernel) (by rw [c5]; decide +kernel) (by decide) ?_
    exact lw_abort C0 hL D cI a aL pa ta da am ra S x g lt n hn hF hc9 hrx hm hw hl K
  by_cases c6 : k = nI 6
  · refine lv_tableIn (tgt := 284) (off := 252) hx hb dL_law_32 (by rw [c6]; decide +kernel) (by rw [c6]; decide +kernel) (by rw [c6]; decide +kernel) (by decide) ?_
    exact lw_write C0 hL D cI a aL pa ta da am ra S x g lt n hn hF hc9 hrx hm hw hl K
  by_cases c7 : k = nI 7
  · refine lv_tableIn (tgt := 307) (off := 275) hx hb dL_law_32 (by rw [c7]; decide +kernel) (by rw [c7]; decide +kernel) (by rw [c7]; decide +kernel) (by decide) ?_
    exact lw_force C0 hL D cI a aL pa ta da am ra S x g lt n hn hF hc9 hrx hm hw hl K
  by_cases c8 : k = nI 8
  · refine lv_tableIn (tgt := 330) (off := 298) hx hb dL_law_32 (by rw [c8]; decide +kernel) (by rw [c8]; decide +kernel) (by rw [c8]; decide +kernel) (by decide) ?_
    exact lw_point C0 hL D cI a aL pa ta da am ra S x g lt n hn hF hc9 hrx hm hw hl K
  by_cases c9 : k = nI 9
  · refine lv_tableIn (tgt := 343) (off := 311) hx hb dL_law_32 (by rw [c9]; decide +kernel) (by rw [c9]; decide +kernel) (by rw [c9]; decide +kernel) (by decide) ?_
    exact lw_loss C0 hL D cI a aL pa ta da am ra S x g lt n hn hF hc9 hrx hm hw hl K
  by_cases c10 : k = nI 10
  · refine lv_tableIn (tgt := 366) (off := 334) hx hb dL_law_32 (by rw [c10]; decide +kernel) (by rw [c10]; decide +kernel) (by rw [c10]; decide +kernel) (by decide) ?_
    exact lw_restart C0 hL D cI a aL pa ta da am ra S x g lt n hn hF hc9 hrx hm hw hl K
  by_cases c11 : k = nI 11
  · refine lv_tableIn (tgt := 389) (off := 357) hx hb dL_law_32 (by rw [c11]; decide +kernel) (by rw [c11]; decide +kernel) (by rw [c11]; decide +kernel) (by decide) ?_
    exact lw_part C0 hL D cI a aL pa ta da am ra S x g lt n hn hF hc9 hrx hm hw hl K
  by_cases c12 : k = nI 12
  · refine lv_tableIn (tgt := 402) (off := 370) hx hb dL_law_32 (by rw [c12]; decide +kernel) (by rw [c12]; decide +kernel) (by rw [c12]; decide +kernel) (by decide) ?_
    exact lw_word C0 hL D cI a aL pa ta da am ra S x g lt n hn hF hc9 hrx hm hw hl K
  by_cases c13 : k = nI 13
  · refine lv_tableIn (tgt := 435) (off := 403) hx hb dL_law_32 (by rw [c13]; decide +kernel) (by rw [c13]; decide +kernel) (by rw [c13]; decide +kernel) (by decide) ?_
    exact lw_page C0 hL D cI a aL pa ta da am ra S x g lt n hn hF hc9 hrx hm hw hl K
  by_cases c14 : k = nI 14
  · refine lv_tableIn (tgt := 468) (off := 436) hx hb dL_law_32 (by rw [c14]; decide +kernel) (by rw [c14]; decide +kernel) (by rw [c14]; decide +kernel) (by decide) ?_
    exact lw_table C0 hL D cI a aL pa ta da am ra S x g lt n hn hF hc9 hrx hm hw hl K
  by_cases c15 : k = nI 15
  · refine lv_tableIn (tgt := 501) (off := 469) hx hb dL_law_32 (by rw [c15]; decide +kernel) (by rw [c15]; decide +kernel) (by rw [c15]; decide +kernel) (by decide) ?_
    exact lw_record C0 hL D cI a aL pa ta da am ra S x g lt n hn hF hc9 hrx hm hw hl K
  by_cases c16 : k = nI 16
  · refine lv_tableIn (tgt := 534) (off := 502) hx hb dL_law_32 (by rw [c16]; decide +kernel) (by rw [c16]; decide +kernel) (by rw [c16]; decide +kernel) (by decide) ?_
    exact lw_count C0 hL D cI a aL pa ta da am ra S x g lt n hn hF hc9 hrx hm hw hl K
  refine lv_tableOut (tgt := 557) hx hb dL_law_32 (swo17 c0 c1 c2 c3 c4 c5 c6 c7 c8 c9 c10 c11 c12 c13 c14 c15 c16) (by decide) ?_
  exact K S x g lt _ _ _ (Kp_rf hF) hrx hm hw hl
set_option maxHeartbeats 1000000 in
set_option maxRecDepth 100000 in
theorem lw_loop {p : Program} {l : Launch} {e : Env} {s : State} {m : MethodId} {below : List Frame} {meth : Method} {c : Code} {b L : Nat} {xs : Nat → Int32} (C0 : lw_At p s m meth c b L xs) (hL : L ≤ 2560) (D : va_G) (cI : ClassId) (a aL : Nat) (pa : A5) (ta da : A6) (am : Nat) (ra : Nat → Nat) : ∀ (t : Nat) (S : SS) (x : XG) (g : Nat → Nat → Int32) (lt : Int32) (n : Nat) (H : Heap) (locs : List Loc) (ls : Array Slot), L - 5 * n < t → 5 * n ≤ L → InvF (2 * n) S → 896 ≤ sCap S → RX S x → RM S g lt 201 → ww D cI (fun q : Nat => s.heap.size ≤ q) s.heap s (wXS cI a aL pa ta da S x ++ (wMS cI am ra S g lt ++ [])) H locs → lv_has ls 4 [(3, .int (nI (5 * n))), (0, .ref b), (1, .ref a), (2, .ref am)] → W p l e room_1 s m #[Value.ref b] below meth c H locs (41 + (sCap S - 896)) (107688 + 2 * (sCap S - 896)) (lw_Z below #[Value.ref b] s) (F0 m 18 ls []) := by
  obtain ⟨hx, hb, hr, hml, hown, hts0, hX, hbl, hlocks, hgv⟩ := id C0
  have hbA : ¬ (fun q : Nat => s.heap.size ≤ q) b := Nat.not_le.mpr hbl
  intro t
  induction t with
  | zero => intro S x g lt n H locs ls ht; exact absurd ht (Nat.not_lt_zero _)
  | succ t ih =>
    intro S x g lt n H locs ls ht hn hF hc9 hrx hm hw hl
    refine lv_iload_n hx hb dL_law_18 rfl (lv_at hl 0 rfl) ?_
    refine lv_aload_n hx hb dL_law_19 rfl (lv_at hl 1 rfl) ?_
    refine va_slen hx hb hX hbl hbA hw.2.2.2.1 dL_law_20 ?_
    refine lv_iconst (v := nI 5) hx hb dL_law_21 (by decide +kernel) ?_
    refine lv_isub hx hb dL_law_22 ?_
    refine lv_eqi (show _ = nI L - nI 5 from rfl) ?_
    refine lv_icmp_gt (tgt := 563) hx hb dL_law_23 (by decide) (fun c_23 => ?_) (fun c_23 => ?_)
    · have hcp : sCap S ≤ 14 * (2 * n) + 2000 := hF.1.1.1.2.2.2.2.2
      refine W.widen (k := 600000) (n := 7302250) (by omega) (by omega) ?_
      refine va_forget (fun q hq => hw.2.2.2.1.2.2 q hq) ?_
      refine lv_iconst (v := 1) hx hb dL_law_563 (by decide +kernel) ?_
      exact lw_ret hx hb hr hlocks dL_law_564
    · have hn5 : 5 * n + 5 ≤ L := lw_go hL hn c_23
      refine lv_aload_n hx hb dL_law_26 rfl (lv_at hl 1 rfl) ?_
      refine lv_iload_n hx hb dL_law_27 rfl (lv_at hl 0 rfl) ?_
      refine va_sld hx hb hX hbl hbA hw.2.2.2.1 (i := nI (5 * n)) (vp_in_nI (by omega) (by omega)) dL_law_28 ?_
      refine lv_bipush (v := nI 31) hx hb dL_law_29 (by decide +kernel) ?_
      refine lv_iand hx hb dL_law_31 ?_
      refine lw_sw C0 hL D cI a aL pa ta da am ra S x g lt n hn5 hF hc9 hrx hm hw hl (fun S' x' g' lt' H locs ls hk hrx hm hw hl => ?_) _
      refine lv_iinc (v := nI (5 * n + 5)) (lv' := [(3, .int (nI (5 * n + 5))), (0, .ref b), (1, .ref a), (2, .ref am)]) hx hb dL_law_557 hl (k := 0) rfl (nI_add _ _) (by decide) rfl (fun ls hl => ?_)
      refine lv_goto (tgt := 18) hx hb dL_law_560 (by decide) ?_
      exact ih S' x' g' lt' (n + 1) _ _ _ (by omega) (by omega) hk.1 (Nat.le_trans hc9 hk.2) hrx hm hw hl
