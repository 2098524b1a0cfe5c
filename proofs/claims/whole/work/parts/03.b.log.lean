/-! Arrays.copyOf; RestartBook.Log: append, the constructor -/
theorem hd_J7_copyOf_59c91 : yJ7_copyOf_59c91.cls ≠ "java/lang/invoke/MethodHandle" ∧ yJ7_copyOf_59c91.cls ≠ "java/lang/invoke/VarHandle" ∧ (parseMethodDescriptor yJ7_copyOf_59c91.desc).map (fun d => d.parameters.length) = some 2 := by decide +kernel
set_option maxHeartbeats 4000000 in
set_option maxRecDepth 100000 in
theorem cJ_copyOf (l : Launch) (D : va_G) (cI : ClassId) (b cap N : Nat) (f : Nat → Int32) (h1 : cap < N) (h2 : N < 2 ^ 27) : Kt l yJ7_copyOf_59c91 wsJ7_copyOf_59c91 1 18 (1) (N) D cI [.ref b, .int (nI N)] ([(b, .inl (cI, cap, .inl f))]) (fun (v : Option Value) (u : Nat) => v = some (.ref u)) (fun (u : Nat) => [(b, .inl (cI, cap, .inl f)), (u, .inl (cI, N, .inl (va_cpy f (fun _ => 0) 0 0 cap)))]) := by
  refine kt_start (cc := cJ7_copyOf_59c91) (maxL := 3) (ret := (some (.array .int))) (by decide +kernel) rfl (Nat.le_of_ble_eq_true rfl) ?_
  intro p e s m below meth c hx hb hml hr hlk hown hnm hts ls hl hw
  have hown : s.vm.findClass RJ7 = some m.cls := hown
  have hl : lv_has ls 3 [(0, .ref b), (1, .int (nI N))] := hl
  have harr := hts (.arrayClass .int) (by decide +kernel)
  refine lv_iload_n hx hb dJ7_copyOf_59c91_0 rfl (lv_at hl 1 rfl) ?_
  refine lv_aload_n hx hb dJ7_copyOf_59c91_1 rfl (lv_at hl 0 rfl) ?_
  refine ww_alen hx hb hw 0 rfl dJ7_copyOf_59c91_2 ?_
  refine lv_icmp_ne (tgt := 14) hx hb dJ7_copyOf_59c91_3 (by decide) (fun c_3 => ?_) (fun c_3 => absurd c_3 (fun h => absurd ((nI_eq (by omega) (by omega)).mp h) (by omega)))
  refine lv_iload_n hx hb dJ7_copyOf_59c91_14 rfl (lv_at hl 1 rfl) ?_
  refine ww_newa (N := N) hx hb harr hw rfl (by omega) (Nat.le_of_ble_eq_true rfl) (by show 0 + N ≤ N; omega) dJ7_copyOf_59c91_15 (fun q15 H hw => ?_)
  have hw : ww D cI _ _ s ([(b, .inl (cI, cap, .inl f)), (q15, .inl (cI, N, .inl (fun _ => 0)))]) H _ := hw
  refine lv_astore_n (lv' := [(2, .ref q15), (0, .ref b), (1, .int (nI N))]) hx hb dJ7_copyOf_59c91_17 rfl hl (by decide) rfl (fun ls hl => ?_)
  refine lv_aload_n hx hb dJ7_copyOf_59c91_18 rfl (lv_at hl 1 rfl) ?_
  refine lv_iconst (v := nI 0) hx hb dJ7_copyOf_59c91_19 (by decide +kernel) ?_
  refine lv_aload_n hx hb dJ7_copyOf_59c91_20 rfl (lv_at hl 0 rfl) ?_
  refine lv_iconst (v := nI 0) hx hb dJ7_copyOf_59c91_21 (by decide +kernel) ?_
  refine W.eq (g2 := F0 m 22 ls [.int (nI 0), .ref q15, .int (nI 0), .ref b]) rfl ?_
  refine lv_aload_n hx hb dJ7_copyOf_59c91_22 rfl (lv_at hl 1 rfl) ?_
  refine ww_alen hx hb hw 0 rfl dJ7_copyOf_59c91_23 ?_
  refine lv_iload_n hx hb dJ7_copyOf_59c91_24 rfl (lv_at hl 2 rfl) ?_
  refine va_mmin hx hb (hml.trans hl.1.symm) hown (hts (.methodLink RJ7 304 Lib.Math.min.name) (by decide +kernel)) (hts (.static Lib.Math.min.name) (by decide +kernel)) (hts (.initialized "java/lang/Math") (by decide +kernel)) (hts _ (List.mem_of_getElem? (l := wsJ7_copyOf_59c91) (i := 11) rfl)) (Nat.le_of_ble_eq_true rfl) (Nat.le_of_ble_eq_true rfl) (Nat.le_of_ble_eq_true rfl) (by show 0 + N ≤ N; omega) dJ7_copyOf_59c91_25 ?_
  refine lv_eqi (show _ = nI cap from (nI_min (by omega) (by omega)).trans (by rw [Nat.min_eq_left (by omega)])) ?_
  refine ww_copy (ws' := [(b, .inl (cI, cap, .inl f)), (q15, .inl (cI, N, .inl (va_cpy f (fun _ => 0) 0 0 cap)))]) hx hb (hml.trans hl.1.symm) hown (hts (.methodLink RJ7 150 arraycopyName) (by decide +kernel)) (hts (.native arraycopyName) (by decide +kernel)) (hts (.static arraycopyName) (by decide +kernel)) (hts (.initialized "java/lang/System") (by decide +kernel)) hw 0 1 rfl rfl 0 0 cap rfl rfl rfl (by omega) (by omega) (by omega) (by omega) rfl (Nat.le_of_ble_eq_true rfl) (Nat.le_of_ble_eq_true rfl) dJ7_copyOf_59c91_28 (fun H locs hw => ?_)
  refine lv_aload_n hx hb dJ7_copyOf_59c91_31 rfl (lv_at hl 0 rfl) ?_
  exact ww_aret (u := q15) hx hb hr hlk hw (rfl) (Nat.le_refl _) (by omega) dJ7_copyOf_59c91_32
set_option maxHeartbeats 4000000 in
set_option maxRecDepth 100000 in
theorem cL_append (l : Launch) (D : va_G) (cI : ClassId) (a b cap n fo ch : Nat) (f : Nat → Int32) (kd : Nat) (x1 x2 x3 x4 x5 x6 : Int32) (hn : n * 7 ≤ cap) (h0 : 7 ≤ cap) (hcap : cap < 2 ^ 26) (hkd : kd < 2 ^ 31) : Kt l yX0_append wsX0_append 2 40 (if cap < n * 7 + 7 then 1 else 0) (if cap < n * 7 + 7 then cap * 2 else 0) D cI [.ref a, .int (nI kd), .int x1, .int x2, .int x3, .int x4, .int x5, .int x6] ([(a, .inr (0, [.ref b, .int (nI n), .int (nI fo), .int (nI ch)])), (b, .inl (cI, cap, .inl f))]) (pI (fun (r : Int32) (u : Nat × Nat × Nat × (Nat → Int32)) => r = nI (n + 1) ∧ u.1 = ch + (if kd = 1 then 1 else 0) ∧ u.2.2.1 = (if cap < n * 7 + 7 then cap * 2 else cap) ∧ (∀ i, i < n * 7 → u.2.2.2 i = f i) ∧ u.2.2.2 (n * 7) = nI kd ∧ u.2.2.2 (n * 7 + 1) = x1 ∧ u.2.2.2 (n * 7 + 2) = x2 ∧ u.2.2.2 (n * 7 + 3) = x3 ∧ u.2.2.2 (n * 7 + 4) = x4 ∧ u.2.2.2 (n * 7 + 5) = x5 ∧ u.2.2.2 (n * 7 + 6) = x6)) (fun (u : Nat × Nat × Nat × (Nat → Int32)) => [(a, .inr (0, [.ref u.2.1, .int (nI (n + 1)), .int (nI fo), .int (nI u.1)])), (u.2.1, .inl (cI, u.2.2.1, .inl u.2.2.2))]) := by
  refine kt_start (cc := cX0_append) (maxL := 9) (ret := (some .int)) (by decide +kernel) rfl (Nat.le_of_ble_eq_true rfl) ?_
  intro p e s m below meth c hx hb hml hr hlk hown hnm hts ls hl hw
  have hown : s.vm.findClass RX0 = some m.cls := hown
  have hl : lv_has ls 9 [(0, .ref a), (1, .int (nI kd)), (2, .int x1), (3, .int x2), (4, .int x3), (5, .int x4), (6, .int x5), (7, .int x6)] := hl
  have k9 := hts (.fieldLink RX0 9 "RestartBook$Log" "cells" "[I") (by decide +kernel)
  have k13 := hts (.fieldLink RX0 13 "RestartBook$Log" "records" "I") (by decide +kernel)
  have k20 := hts (.fieldLink RX0 20 "RestartBook$Log" "changes" "I") (by decide +kernel)
  have hin0 : ∀ w ∈ u_ws RX0 TX0 4, w ∈ wsX0_append := in_X0_append
  refine lv_aload_n hx hb dX0_append_0 rfl (lv_at hl 0 rfl) ?_
  refine ww_get hx hb hts hin0 hown hw 0 rfl rfl 1 (by decide) k13 rfl dX0_append_1 ?_
  refine lv_bipush (v := nI 7) hx hb dX0_append_4 (by decide +kernel) ?_
  refine lv_imul hx hb dX0_append_6 ?_
  refine lv_eqi (show _ = nI (n * 7) from pk_mul _ _) ?_
  refine lv_istore (lv' := [(8, .int (nI (n * 7))), (0, .ref a), (1, .int (nI kd)), (2, .int x1), (3, .int x2), (4, .int x3), (5, .int x4), (6, .int x5), (7, .int x6)]) hx hb dX0_append_7 hl (by decide) rfl (fun ls hl => ?_)
  refine lv_iload hx hb dX0_append_9 (lv_at hl 0 rfl) ?_
  refine lv_bipush (v := nI 7) hx hb dX0_append_11 (by decide +kernel) ?_
  refine lv_iadd hx hb dX0_append_13 ?_
  refine lv_eqi (show _ = nI ((n * 7) + 7) from nI_add _ _) ?_
  refine lv_aload_n hx hb dX0_append_14 rfl (lv_at hl 1 rfl) ?_
  refine ww_get hx hb hts hin0 hown hw 0 rfl rfl 0 (by decide) k9 rfl dX0_append_15 ?_
  refine ww_alen hx hb hw 1 rfl dX0_append_18 ?_
  refine W.eq (g2 := F0 m 19 ls [.int (nI cap), .int (nI ((n * 7) + 7))]) rfl ?_
  refine lv_icmp_le (tgt := 40) hx hb dX0_append_19 (by decide) (fun c_19 => ?_) (fun c_19 => ?_)
  · have hg : ¬ cap < n * 7 + 7 := by simp (disch := omega) only [i_le, nI_toInt] at c_19; omega
    have hcp : n * 7 + 7 ≤ cap := by omega
    refine lv_aload_n hx hb dX0_append_40 rfl (lv_at hl 1 rfl) ?_
    refine ww_get hx hb hts hin0 hown hw 0 rfl rfl 0 (by decide) k9 rfl dX0_append_41 ?_
    refine lv_iload hx hb dX0_append_44 (lv_at hl 0 rfl) ?_
    refine lv_iconst (v := nI 0) hx hb dX0_append_46 (by decide +kernel) ?_
    refine lv_iadd hx hb dX0_append_47 ?_
    refine lv_eqi (show _ = nI ((n * 7) + 0) from nI_add _ _) ?_
    refine lv_iload_n hx hb dX0_append_48 rfl (lv_at hl 2 rfl) ?_
    refine ww_iast (ws' := [(a, .inr (0, [.ref b, .int (nI n), .int (nI fo), .int (nI ch)])), (b, .inl (cI, cap, .inl (upd f ((n * 7) + 0) (nI kd))))]) hx hb hw 1 rfl ((n * 7) + 0) rfl (by omega) (by omega) rfl dX0_append_49 (fun H locs hw => ?_)
    refine lv_aload_n hx hb dX0_append_50 rfl (lv_at hl 1 rfl) ?_
    refine ww_get hx hb hts hin0 hown hw 0 rfl rfl 0 (by decide) k9 rfl dX0_append_51 ?_
    refine lv_iload hx hb dX0_append_54 (lv_at hl 0 rfl) ?_
    refine lv_iconst (v := nI 1) hx hb dX0_append_56 (by decide +kernel) ?_
    refine W.eq (g2 := F0 m 57 ls [.int (nI 1), .int (nI (n * 7)), .ref b]) rfl ?_
    refine lv_iadd hx hb dX0_append_57 ?_
    refine lv_eqi (show _ = nI ((n * 7) + 1) from nI_add _ _) ?_
    refine lv_iload_n hx hb dX0_append_58 rfl (lv_at hl 3 rfl) ?_
    refine ww_iast (ws' := [(a, .inr (0, [.ref b, .int (nI n), .int (nI fo), .int (nI ch)])), (b, .inl (cI, cap, .inl (upd (upd f ((n * 7) + 0) (nI kd)) ((n * 7) + 1) x1)))]) hx hb hw 1 rfl ((n * 7) + 1) rfl (by omega) (by omega) rfl dX0_append_59 (fun H locs hw => ?_)
    refine lv_aload_n hx hb dX0_append_60 rfl (lv_at hl 1 rfl) ?_
    refine ww_get hx hb hts hin0 hown hw 0 rfl rfl 0 (by decide) k9 rfl dX0_append_61 ?_
    refine lv_iload hx hb dX0_append_64 (lv_at hl 0 rfl) ?_
    refine lv_iconst (v := nI 2) hx hb dX0_append_66 (by decide +kernel) ?_
    refine lv_iadd hx hb dX0_append_67 ?_
    refine lv_eqi (show _ = nI ((n * 7) + 2) from nI_add _ _) ?_
    refine lv_iload_n hx hb dX0_append_68 rfl (lv_at hl 4 rfl) ?_
    refine ww_iast (ws' := [(a, .inr (0, [.ref b, .int (nI n), .int (nI fo), .int (nI ch)])), (b, .inl (cI, cap, .inl (upd (upd (upd f ((n * 7) + 0) (nI kd)) ((n * 7) + 1) x1) ((n * 7) + 2) x2)))]) hx hb hw 1 rfl ((n * 7) + 2) rfl (by omega) (by omega) rfl dX0_append_69 (fun H locs hw => ?_)
    refine lv_aload_n hx hb dX0_append_70 rfl (lv_at hl 1 rfl) ?_
    refine ww_get hx hb hts hin0 hown hw 0 rfl rfl 0 (by decide) k9 rfl dX0_append_71 ?_
    refine W.eq (g2 := F0 m 74 ls [.ref b]) rfl ?_
    refine lv_iload hx hb dX0_append_74 (lv_at hl 0 rfl) ?_
    refine lv_iconst (v := nI 3) hx hb dX0_append_76 (by decide +kernel) ?_
    refine lv_iadd hx hb dX0_append_77 ?_
    refine lv_eqi (show _ = nI ((n * 7) + 3) from nI_add _ _) ?_
    refine lv_iload hx hb dX0_append_78 (lv_at hl 5 rfl) ?_
    refine ww_iast (ws' := [(a, .inr (0, [.ref b, .int (nI n), .int (nI fo), .int (nI ch)])), (b, .inl (cI, cap, .inl (upd (upd (upd (upd f ((n * 7) + 0) (nI kd)) ((n * 7) + 1) x1) ((n * 7) + 2) x2) ((n * 7) + 3) x3)))]) hx hb hw 1 rfl ((n * 7) + 3) rfl (by omega) (by omega) rfl dX0_append_80 (fun H locs hw => ?_)
    refine lv_aload_n hx hb dX0_append_81 rfl (lv_at hl 1 rfl) ?_
    refine ww_get hx hb hts hin0 hown hw 0 rfl rfl 0 (by decide) k9 rfl dX0_append_82 ?_
    refine lv_iload hx hb dX0_append_85 (lv_at hl 0 rfl) ?_
    refine lv_iconst (v := nI 4) hx hb dX0_append_87 (by decide +kernel) ?_
    refine lv_iadd hx hb dX0_append_88 ?_
    refine lv_eqi (show _ = nI ((n * 7) + 4) from nI_add _ _) ?_
    refine lv_iload hx hb dX0_append_89 (lv_at hl 6 rfl) ?_
    refine ww_iast (ws' := [(a, .inr (0, [.ref b, .int (nI n), .int (nI fo), .int (nI ch)])), (b, .inl (cI, cap, .inl (upd (upd (upd (upd (upd f ((n * 7) + 0) (nI kd)) ((n * 7) + 1) x1) ((n * 7) + 2) x2) ((n * 7) + 3) x3) ((n * 7) + 4) x4)))]) hx hb hw 1 rfl ((n * 7) + 4) rfl (by omega) (by omega) rfl dX0_append_91 (fun H locs hw => ?_)
    refine W.eq (g2 := F0 m 92 ls []) rfl ?_
    refine lv_aload_n hx hb dX0_append_92 rfl (lv_at hl 1 rfl) ?_
    refine ww_get hx hb hts hin0 hown hw 0 rfl rfl 0 (by decide) k9 rfl dX0_append_93 ?_
    refine lv_iload hx hb dX0_append_96 (lv_at hl 0 rfl) ?_
    refine lv_iconst (v := nI 5) hx hb dX0_append_98 (by decide +kernel) ?_
    refine lv_iadd hx hb dX0_append_99 ?_
    refine lv_eqi (show _ = nI ((n * 7) + 5) from nI_add _ _) ?_
    refine lv_iload hx hb dX0_append_100 (lv_at hl 7 rfl) ?_
    refine ww_iast (ws' := [(a, .inr (0, [.ref b, .int (nI n), .int (nI fo), .int (nI ch)])), (b, .inl (cI, cap, .inl (upd (upd (upd (upd (upd (upd f ((n * 7) + 0) (nI kd)) ((n * 7) + 1) x1) ((n * 7) + 2) x2) ((n * 7) + 3) x3) ((n * 7) + 4) x4) ((n * 7) + 5) x5)))]) hx hb hw 1 rfl ((n * 7) + 5) rfl (by omega) (by omega) rfl dX0_append_102 (fun H locs hw => ?_)
    refine lv_aload_n hx hb dX0_append_103 rfl (lv_at hl 1 rfl) ?_
    refine ww_get hx hb hts hin0 hown hw 0 rfl rfl 0 (by decide) k9 rfl dX0_append_104 ?_
    refine lv_iload hx hb dX0_append_107 (lv_at hl 0 rfl) ?_
    refine lv_bipush (v := nI 6) hx hb dX0_append_109 (by decide +kernel) ?_
    refine lv_iadd hx hb dX0_append_111 ?_
    refine lv_eqi (show _ = nI ((n * 7) + 6) from nI_add _ _) ?_
    refine W.eq (g2 := F0 m 112 ls [.int (nI ((n * 7) + 6)), .ref b]) rfl ?_
    refine lv_iload hx hb dX0_append_112 (lv_at hl 8 rfl) ?_
    refine ww_iast (ws' := [(a, .inr (0, [.ref b, .int (nI n), .int (nI fo), .int (nI ch)])), (b, .inl (cI, cap, .inl (upd (upd (upd (upd (upd (upd (upd f ((n * 7) + 0) (nI kd)) ((n * 7) + 1) x1) ((n * 7) + 2) x2) ((n * 7) + 3) x3) ((n * 7) + 4) x4) ((n * 7) + 5) x5) ((n * 7) + 6) x6)))]) hx hb hw 1 rfl ((n * 7) + 6) rfl (by omega) (by omega) rfl dX0_append_114 (fun H locs hw => ?_)
    refine lv_aload_n hx hb dX0_append_115 rfl (lv_at hl 1 rfl) ?_
    refine lv_dup hx hb dX0_append_116 rfl ?_
    refine ww_get hx hb hts hin0 hown hw 0 rfl rfl 1 (by decide) k13 rfl dX0_append_117 ?_
    refine lv_iconst (v := nI 1) hx hb dX0_append_120 (by decide +kernel) ?_
    refine lv_iadd hx hb dX0_append_121 ?_
    refine lv_eqi (show _ = nI (n + 1) from nI_add _ _) ?_
    refine ww_put (ws' := [(a, .inr (0, [.ref b, .int (nI (n + 1)), .int (nI fo), .int (nI ch)])), (b, .inl (cI, cap, .inl (upd (upd (upd (upd (upd (upd (upd f ((n * 7) + 0) (nI kd)) ((n * 7) + 1) x1) ((n * 7) + 2) x2) ((n * 7) + 3) x3) ((n * 7) + 4) x4) ((n * 7) + 5) x5) ((n * 7) + 6) x6)))]) hx hb hts hin0 tyX0 tyX0_ok nmX0 hown hw 0 rfl rfl 1 (by decide) k13 rfl rfl rfl (Nat.le_of_ble_eq_true rfl) rfl dX0_append_122 (fun H locs hw => ?_)
    refine lv_iload_n hx hb dX0_append_125 rfl (lv_at hl 2 rfl) ?_
    refine lv_iconst (v := nI 1) hx hb dX0_append_126 (by decide +kernel) ?_
    refine lv_icmp_ne (tgt := 140) hx hb dX0_append_127 (by decide) (fun c_127 => ?_) (fun c_127 => ?_)
    · refine lv_aload_n hx hb dX0_append_140 rfl (lv_at hl 1 rfl) ?_
      refine ww_get hx hb hts hin0 hown hw 0 rfl rfl 1 (by decide) k13 rfl dX0_append_141 ?_
      exact ww_iret (u := (ch, b, cap, (upd (upd (upd (upd (upd (upd (upd f ((n * 7) + 0) (nI kd)) ((n * 7) + 1) x1) ((n * 7) + 2) x2) ((n * 7) + 3) x3) ((n * 7) + 4) x4) ((n * 7) + 5) x5) ((n * 7) + 6) x6))) hx hb hr hlk hw (⟨rfl, (by rw [if_neg (fun h => c_127 ((nI_eq (by omega) (by omega)).mpr h))]; rfl), (if_neg hg).symm, (upd7 f (n * 7) (nI kd) x1 x2 x3 x4 x5 x6 rfl).1, (upd7 f (n * 7) (nI kd) x1 x2 x3 x4 x5 x6 rfl).2⟩) (by first | exact Nat.zero_le _ | (rw [if_pos hg]; exact Nat.le_refl _)) (by first | exact Nat.zero_le _ | (rw [if_pos hg]; omega)) dX0_append_144
    · refine lv_aload_n hx hb dX0_append_130 rfl (lv_at hl 1 rfl) ?_
      refine lv_dup hx hb dX0_append_131 rfl ?_
      refine ww_get hx hb hts hin0 hown hw 0 rfl rfl 3 (by decide) k20 rfl dX0_append_132 ?_
      refine lv_iconst (v := nI 1) hx hb dX0_append_135 (by decide +kernel) ?_
      refine lv_iadd hx hb dX0_append_136 ?_
      refine lv_eqi (show _ = nI (ch + 1) from nI_add _ _) ?_
      refine ww_put (ws' := [(a, .inr (0, [.ref b, .int (nI (n + 1)), .int (nI fo), .int (nI (ch + 1))])), (b, .inl (cI, cap, .inl (upd (upd (upd (upd (upd (upd (upd f ((n * 7) + 0) (nI kd)) ((n * 7) + 1) x1) ((n * 7) + 2) x2) ((n * 7) + 3) x3) ((n * 7) + 4) x4) ((n * 7) + 5) x5) ((n * 7) + 6) x6)))]) hx hb hts hin0 tyX0 tyX0_ok nmX0 hown hw 0 rfl rfl 3 (by decide) k20 rfl rfl rfl (Nat.le_of_ble_eq_true rfl) rfl dX0_append_137 (fun H locs hw => ?_)
      refine lv_aload_n hx hb dX0_append_140 rfl (lv_at hl 1 rfl) ?_
      refine ww_get hx hb hts hin0 hown hw 0 rfl rfl 1 (by decide) k13 rfl dX0_append_141 ?_
      exact ww_iret (u := ((ch + 1), b, cap, (upd (upd (upd (upd (upd (upd (upd f ((n * 7) + 0) (nI kd)) ((n * 7) + 1) x1) ((n * 7) + 2) x2) ((n * 7) + 3) x3) ((n * 7) + 4) x4) ((n * 7) + 5) x5) ((n * 7) + 6) x6))) hx hb hr hlk hw (⟨rfl, (by rw [if_pos ((nI_eq (by omega) (by omega)).mp c_127)]), (if_neg hg).symm, (upd7 f (n * 7) (nI kd) x1 x2 x3 x4 x5 x6 rfl).1, (upd7 f (n * 7) (nI kd) x1 x2 x3 x4 x5 x6 rfl).2⟩) (by first | exact Nat.zero_le _ | (rw [if_pos hg]; exact Nat.le_refl _)) (by first | exact Nat.zero_le _ | (rw [if_pos hg]; omega)) dX0_append_144
  · refine lv_aload_n hx hb dX0_append_22 rfl (lv_at hl 1 rfl) ?_
    refine lv_aload_n hx hb dX0_append_23 rfl (lv_at hl 1 rfl) ?_
    refine ww_get hx hb hts hin0 hown hw 0 rfl rfl 0 (by decide) k9 rfl dX0_append_24 ?_
    refine lv_aload_n hx hb dX0_append_27 rfl (lv_at hl 1 rfl) ?_
    refine ww_get hx hb hts hin0 hown hw 0 rfl rfl 0 (by decide) k9 rfl dX0_append_28 ?_
    refine ww_alen hx hb hw 1 rfl dX0_append_31 ?_
    refine lv_iconst (v := nI 2) hx hb dX0_append_32 (by decide +kernel) ?_
    refine lv_imul hx hb dX0_append_33 ?_
    refine lv_eqi (show _ = nI (cap * 2) from pk_mul _ _) ?_
    have hg : cap < n * 7 + 7 := by simp (disch := omega) only [i_le, nI_toInt] at c_19; omega
    refine ww_callS ([(a, .inr (0, [.ref b, .int (nI n), .int (nI fo), .int (nI ch)]))]) ([]) (As := [.ref b, .int (nI (cap * 2))]) (rest := [.ref a]) ⟨hx, hb, hml, hown, hts⟩ (cJ_copyOf l D cI b cap (cap * 2) f (by omega) (by omega)) gX0_append_J7_copyOf_59c91 rfl hd_J7_copyOf_59c91 ⟨Nat.le_of_ble_eq_true rfl, Nat.le_of_ble_eq_true rfl⟩ hw rfl rfl rfl hl.1 (Nat.le_of_ble_eq_true rfl) dX0_append_34 ⟨by show 0 + 1 ≤ (if cap < n * 7 + 7 then 1 else 0); rw [if_pos hg]; exact Nat.le_refl _, by show 0 + cap * 2 ≤ (if cap < n * 7 + 7 then cap * 2 else 0); rw [if_pos hg]; omega⟩ (fun v q H locs hq hw => ?_)
    subst hq
    have hw : ww D cI _ _ s ([(a, .inr (0, [.ref b, .int (nI n), .int (nI fo), .int (nI ch)])), (b, .inl (cI, cap, .inl f)), (q, .inl (cI, (cap * 2), .inl (va_cpy f (fun _ => 0) 0 0 cap)))]) H locs := hw
    refine W.eq (g2 := F0 m 37 ls [.ref q, .ref a]) rfl ?_
    refine ww_put (ws' := [(a, .inr (0, [.ref q, .int (nI n), .int (nI fo), .int (nI ch)])), (b, .inl (cI, cap, .inl f)), (q, .inl (cI, (cap * 2), .inl (va_cpy f (fun _ => 0) 0 0 cap)))]) hx hb hts hin0 tyX0 tyX0_ok nmX0 hown hw 0 rfl rfl 0 (by decide) k9 rfl rfl rfl (Nat.le_of_ble_eq_true rfl) rfl dX0_append_37 (fun H locs hw => ?_)
    have hw : ww D cI _ _ s ([(a, .inr (0, [.ref q, .int (nI n), .int (nI fo), .int (nI ch)])), (q, .inl (cI, (cap * 2), .inl (va_cpy f (fun _ => 0) 0 0 cap)))]) H locs := ww_sub hw [0, 2] rfl rfl
    have hcp : n * 7 + 7 ≤ cap * 2 := by omega
    refine lv_aload_n hx hb dX0_append_40 rfl (lv_at hl 1 rfl) ?_
    refine ww_get hx hb hts hin0 hown hw 0 rfl rfl 0 (by decide) k9 rfl dX0_append_41 ?_
    refine W.eq (g2 := F0 m 44 ls [.ref q]) rfl ?_
    refine lv_iload hx hb dX0_append_44 (lv_at hl 0 rfl) ?_
    refine lv_iconst (v := nI 0) hx hb dX0_append_46 (by decide +kernel) ?_
    refine lv_iadd hx hb dX0_append_47 ?_
    refine lv_eqi (show _ = nI ((n * 7) + 0) from nI_add _ _) ?_
    refine lv_iload_n hx hb dX0_append_48 rfl (lv_at hl 2 rfl) ?_
    refine ww_iast (ws' := [(a, .inr (0, [.ref q, .int (nI n), .int (nI fo), .int (nI ch)])), (q, .inl (cI, (cap * 2), .inl (upd (va_cpy f (fun _ => 0) 0 0 cap) ((n * 7) + 0) (nI kd))))]) hx hb hw 1 rfl ((n * 7) + 0) rfl (by omega) (by omega) rfl dX0_append_49 (fun H locs hw => ?_)
    refine lv_aload_n hx hb dX0_append_50 rfl (lv_at hl 1 rfl) ?_
    refine ww_get hx hb hts hin0 hown hw 0 rfl rfl 0 (by decide) k9 rfl dX0_append_51 ?_
    refine lv_iload hx hb dX0_append_54 (lv_at hl 0 rfl) ?_
    refine lv_iconst (v := nI 1) hx hb dX0_append_56 (by decide +kernel) ?_
    refine lv_iadd hx hb dX0_append_57 ?_
    refine lv_eqi (show _ = nI ((n * 7) + 1) from nI_add _ _) ?_
    refine lv_iload_n hx hb dX0_append_58 rfl (lv_at hl 3 rfl) ?_
    refine ww_iast (ws' := [(a, .inr (0, [.ref q, .int (nI n), .int (nI fo), .int (nI ch)])), (q, .inl (cI, (cap * 2), .inl (upd (upd (va_cpy f (fun _ => 0) 0 0 cap) ((n * 7) + 0) (nI kd)) ((n * 7) + 1) x1)))]) hx hb hw 1 rfl ((n * 7) + 1) rfl (by omega) (by omega) rfl dX0_append_59 (fun H locs hw => ?_)
    refine W.eq (g2 := F0 m 60 ls []) rfl ?_
    refine lv_aload_n hx hb dX0_append_60 rfl (lv_at hl 1 rfl) ?_
    refine ww_get hx hb hts hin0 hown hw 0 rfl rfl 0 (by decide) k9 rfl dX0_append_61 ?_
    refine lv_iload hx hb dX0_append_64 (lv_at hl 0 rfl) ?_
    refine lv_iconst (v := nI 2) hx hb dX0_append_66 (by decide +kernel) ?_
    refine lv_iadd hx hb dX0_append_67 ?_
    refine lv_eqi (show _ = nI ((n * 7) + 2) from nI_add _ _) ?_
    refine lv_iload_n hx hb dX0_append_68 rfl (lv_at hl 4 rfl) ?_
    refine ww_iast (ws' := [(a, .inr (0, [.ref q, .int (nI n), .int (nI fo), .int (nI ch)])), (q, .inl (cI, (cap * 2), .inl (upd (upd (upd (va_cpy f (fun _ => 0) 0 0 cap) ((n * 7) + 0) (nI kd)) ((n * 7) + 1) x1) ((n * 7) + 2) x2)))]) hx hb hw 1 rfl ((n * 7) + 2) rfl (by omega) (by omega) rfl dX0_append_69 (fun H locs hw => ?_)
    refine lv_aload_n hx hb dX0_append_70 rfl (lv_at hl 1 rfl) ?_
    refine ww_get hx hb hts hin0 hown hw 0 rfl rfl 0 (by decide) k9 rfl dX0_append_71 ?_
    refine lv_iload hx hb dX0_append_74 (lv_at hl 0 rfl) ?_
    refine lv_iconst (v := nI 3) hx hb dX0_append_76 (by decide +kernel) ?_
    refine lv_iadd hx hb dX0_append_77 ?_
    refine lv_eqi (show _ = nI ((n * 7) + 3) from nI_add _ _) ?_
    refine W.eq (g2 := F0 m 78 ls [.int (nI ((n * 7) + 3)), .ref q]) rfl ?_
    refine lv_iload hx hb dX0_append_78 (lv_at hl 5 rfl) ?_
    refine ww_iast (ws' := [(a, .inr (0, [.ref q, .int (nI n), .int (nI fo), .int (nI ch)])), (q, .inl (cI, (cap * 2), .inl (upd (upd (upd (upd (va_cpy f (fun _ => 0) 0 0 cap) ((n * 7) + 0) (nI kd)) ((n * 7) + 1) x1) ((n * 7) + 2) x2) ((n * 7) + 3) x3)))]) hx hb hw 1 rfl ((n * 7) + 3) rfl (by omega) (by omega) rfl dX0_append_80 (fun H locs hw => ?_)
    refine lv_aload_n hx hb dX0_append_81 rfl (lv_at hl 1 rfl) ?_
    refine ww_get hx hb hts hin0 hown hw 0 rfl rfl 0 (by decide) k9 rfl dX0_append_82 ?_
    refine lv_iload hx hb dX0_append_85 (lv_at hl 0 rfl) ?_
    refine lv_iconst (v := nI 4) hx hb dX0_append_87 (by decide +kernel) ?_
    refine lv_iadd hx hb dX0_append_88 ?_
    refine lv_eqi (show _ = nI ((n * 7) + 4) from nI_add _ _) ?_
    refine lv_iload hx hb dX0_append_89 (lv_at hl 6 rfl) ?_
    refine ww_iast (ws' := [(a, .inr (0, [.ref q, .int (nI n), .int (nI fo), .int (nI ch)])), (q, .inl (cI, (cap * 2), .inl (upd (upd (upd (upd (upd (va_cpy f (fun _ => 0) 0 0 cap) ((n * 7) + 0) (nI kd)) ((n * 7) + 1) x1) ((n * 7) + 2) x2) ((n * 7) + 3) x3) ((n * 7) + 4) x4)))]) hx hb hw 1 rfl ((n * 7) + 4) rfl (by omega) (by omega) rfl dX0_append_91 (fun H locs hw => ?_)
    refine lv_aload_n hx hb dX0_append_92 rfl (lv_at hl 1 rfl) ?_
    refine ww_get hx hb hts hin0 hown hw 0 rfl rfl 0 (by decide) k9 rfl dX0_append_93 ?_
    refine lv_iload hx hb dX0_append_96 (lv_at hl 0 rfl) ?_
    refine W.eq (g2 := F0 m 98 ls [.int (nI (n * 7)), .ref q]) rfl ?_
    refine lv_iconst (v := nI 5) hx hb dX0_append_98 (by decide +kernel) ?_
    refine lv_iadd hx hb dX0_append_99 ?_
    refine lv_eqi (show _ = nI ((n * 7) + 5) from nI_add _ _) ?_
    refine lv_iload hx hb dX0_append_100 (lv_at hl 7 rfl) ?_
    refine ww_iast (ws' := [(a, .inr (0, [.ref q, .int (nI n), .int (nI fo), .int (nI ch)])), (q, .inl (cI, (cap * 2), .inl (upd (upd (upd (upd (upd (upd (va_cpy f (fun _ => 0) 0 0 cap) ((n * 7) + 0) (nI kd)) ((n * 7) + 1) x1) ((n * 7) + 2) x2) ((n * 7) + 3) x3) ((n * 7) + 4) x4) ((n * 7) + 5) x5)))]) hx hb hw 1 rfl ((n * 7) + 5) rfl (by omega) (by omega) rfl dX0_append_102 (fun H locs hw => ?_)
    refine lv_aload_n hx hb dX0_append_103 rfl (lv_at hl 1 rfl) ?_
    refine ww_get hx hb hts hin0 hown hw 0 rfl rfl 0 (by decide) k9 rfl dX0_append_104 ?_
    refine lv_iload hx hb dX0_append_107 (lv_at hl 0 rfl) ?_
    refine lv_bipush (v := nI 6) hx hb dX0_append_109 (by decide +kernel) ?_
    refine lv_iadd hx hb dX0_append_111 ?_
    refine lv_eqi (show _ = nI ((n * 7) + 6) from nI_add _ _) ?_
    refine lv_iload hx hb dX0_append_112 (lv_at hl 8 rfl) ?_
    refine ww_iast (ws' := [(a, .inr (0, [.ref q, .int (nI n), .int (nI fo), .int (nI ch)])), (q, .inl (cI, (cap * 2), .inl (upd (upd (upd (upd (upd (upd (upd (va_cpy f (fun _ => 0) 0 0 cap) ((n * 7) + 0) (nI kd)) ((n * 7) + 1) x1) ((n * 7) + 2) x2) ((n * 7) + 3) x3) ((n * 7) + 4) x4) ((n * 7) + 5) x5) ((n * 7) + 6) x6)))]) hx hb hw 1 rfl ((n * 7) + 6) rfl (by omega) (by omega) rfl dX0_append_114 (fun H locs hw => ?_)
    refine lv_aload_n hx hb dX0_append_115 rfl (lv_at hl 1 rfl) ?_
    refine W.eq (g2 := F0 m 116 ls [.ref a]) rfl ?_
    refine lv_dup hx hb dX0_append_116 rfl ?_
    refine ww_get hx hb hts hin0 hown hw 0 rfl rfl 1 (by decide) k13 rfl dX0_append_117 ?_
    refine lv_iconst (v := nI 1) hx hb dX0_append_120 (by decide +kernel) ?_
    refine lv_iadd hx hb dX0_append_121 ?_
    refine lv_eqi (show _ = nI (n + 1) from nI_add _ _) ?_
    refine ww_put (ws' := [(a, .inr (0, [.ref q, .int (nI (n + 1)), .int (nI fo), .int (nI ch)])), (q, .inl (cI, (cap * 2), .inl (upd (upd (upd (upd (upd (upd (upd (va_cpy f (fun _ => 0) 0 0 cap) ((n * 7) + 0) (nI kd)) ((n * 7) + 1) x1) ((n * 7) + 2) x2) ((n * 7) + 3) x3) ((n * 7) + 4) x4) ((n * 7) + 5) x5) ((n * 7) + 6) x6)))]) hx hb hts hin0 tyX0 tyX0_ok nmX0 hown hw 0 rfl rfl 1 (by decide) k13 rfl rfl rfl (Nat.le_of_ble_eq_true rfl) rfl dX0_append_122 (fun H locs hw => ?_)
    refine lv_iload_n hx hb dX0_append_125 rfl (lv_at hl 2 rfl) ?_
    refine lv_iconst (v := nI 1) hx hb dX0_append_126 (by decide +kernel) ?_
    refine lv_icmp_ne (tgt := 140) hx hb dX0_append_127 (by decide) (fun c_127 => ?_) (fun c_127 => ?_)
    · refine lv_aload_n hx hb dX0_append_140 rfl (lv_at hl 1 rfl) ?_
      refine ww_get hx hb hts hin0 hown hw 0 rfl rfl 1 (by decide) k13 rfl dX0_append_141 ?_
      exact ww_iret (u := (ch, q, (cap * 2), (upd (upd (upd (upd (upd (upd (upd (va_cpy f (fun _ => 0) 0 0 cap) ((n * 7) + 0) (nI kd)) ((n * 7) + 1) x1) ((n * 7) + 2) x2) ((n * 7) + 3) x3) ((n * 7) + 4) x4) ((n * 7) + 5) x5) ((n * 7) + 6) x6))) hx hb hr hlk hw (⟨rfl, (by rw [if_neg (fun h => c_127 ((nI_eq (by omega) (by omega)).mpr h))]; rfl), (if_pos hg).symm, fun i hi => ((upd7 (va_cpy f (fun _ => 0) 0 0 cap) (n * 7) (nI kd) x1 x2 x3 x4 x5 x6 rfl).1 i hi).trans (cpy0 (by omega)), (upd7 (va_cpy f (fun _ => 0) 0 0 cap) (n * 7) (nI kd) x1 x2 x3 x4 x5 x6 rfl).2⟩) (by first | exact Nat.zero_le _ | (rw [if_pos hg]; exact Nat.le_refl _)) (by first | exact Nat.zero_le _ | (rw [if_pos hg]; omega)) dX0_append_144
    · refine lv_aload_n hx hb dX0_append_130 rfl (lv_at hl 1 rfl) ?_
      refine lv_dup hx hb dX0_append_131 rfl ?_
      refine ww_get hx hb hts hin0 hown hw 0 rfl rfl 3 (by decide) k20 rfl dX0_append_132 ?_
      refine lv_iconst (v := nI 1) hx hb dX0_append_135 (by decide +kernel) ?_
      refine lv_iadd hx hb dX0_append_136 ?_
      refine lv_eqi (show _ = nI (ch + 1) from nI_add _ _) ?_
      refine ww_put (ws' := [(a, .inr (0, [.ref q, .int (nI (n + 1)), .int (nI fo), .int (nI (ch + 1))])), (q, .inl (cI, (cap * 2), .inl (upd (upd (upd (upd (upd (upd (upd (va_cpy f (fun _ => 0) 0 0 cap) ((n * 7) + 0) (nI kd)) ((n * 7) + 1) x1) ((n * 7) + 2) x2) ((n * 7) + 3) x3) ((n * 7) + 4) x4) ((n * 7) + 5) x5) ((n * 7) + 6) x6)))]) hx hb hts hin0 tyX0 tyX0_ok nmX0 hown hw 0 rfl rfl 3 (by decide) k20 rfl rfl rfl (Nat.le_of_ble_eq_true rfl) rfl dX0_append_137 (fun H locs hw => ?_)
      refine lv_aload_n hx hb dX0_append_140 rfl (lv_at hl 1 rfl) ?_
      refine ww_get hx hb hts hin0 hown hw 0 rfl rfl 1 (by decide) k13 rfl dX0_append_141 ?_
      exact ww_iret (u := ((ch + 1), q, (cap * 2), (upd (upd (upd (upd (upd (upd (upd (va_cpy f (fun _ => 0) 0 0 cap) ((n * 7) + 0) (nI kd)) ((n * 7) + 1) x1) ((n * 7) + 2) x2) ((n * 7) + 3) x3) ((n * 7) + 4) x4) ((n * 7) + 5) x5) ((n * 7) + 6) x6))) hx hb hr hlk hw (⟨rfl, (by rw [if_pos ((nI_eq (by omega) (by omega)).mp c_127)]), (if_pos hg).symm, fun i hi => ((upd7 (va_cpy f (fun _ => 0) 0 0 cap) (n * 7) (nI kd) x1 x2 x3 x4 x5 x6 rfl).1 i hi).trans (cpy0 (by omega)), (upd7 (va_cpy f (fun _ => 0) 0 0 cap) (n * 7) (nI kd) x1 x2 x3 x4 x5 x6 rfl).2⟩) (by first | exact Nat.zero_le _ | (rw [if_pos hg]; exact Nat.le_refl _)) (by first | exact Nat.zero_le _ | (rw [if_pos hg]; omega)) dX0_append_144
set_option maxHeartbeats 4000000 in
set_option maxRecDepth 100000 in
theorem cL_init (l : Launch) (D : va_G) (cI : ClassId) (a : Nat) : Kt l yX0_init wsX0_init 1 12 (1) (896) D cI [.ref a] ([(a, .inr (0, [.null, .int 0, .int 0, .int 0]))]) (pV (fun (u : Nat) => True)) (fun (u : Nat) => [(a, .inr (0, [.ref u, .int (nI 0), .int (nI 0), .int (nI 0)])), (u, .inl (cI, 896, .inl (fun _ => 0)))]) := by
  refine kt_start (cc := cX0_init) (maxL := 1) (ret := none) (by decide +kernel) rfl (Nat.le_of_ble_eq_true rfl) ?_
  intro p e s m below meth c hx hb hml hr hlk hown hnm hts ls hl hw
  have hown : s.vm.findClass RX0 = some m.cls := hown
  have hl : lv_has ls 1 [(0, .ref a)] := hl
  have k9 := hts (.fieldLink RX0 9 "RestartBook$Log" "cells" "[I") (by decide +kernel)
  have k13 := hts (.fieldLink RX0 13 "RestartBook$Log" "records" "I") (by decide +kernel)
  have k17 := hts (.fieldLink RX0 17 "RestartBook$Log" "forced" "I") (by decide +kernel)
  have k20 := hts (.fieldLink RX0 20 "RestartBook$Log" "changes" "I") (by decide +kernel)
  have hin0 : ∀ w ∈ u_ws RX0 TX0 4, w ∈ wsX0_init := in_X0_init
  have harr := hts (.arrayClass .int) (by decide +kernel)
  refine lv_aload_n hx hb dX0_init_0 rfl (lv_at hl 0 rfl) ?_
  refine W.objInit hx hb hown (hts (.methodLink RX0 1 objectInit) (by decide +kernel)) (hts (.instanceMethod objectInit) (by decide +kernel)) (hts _ (List.mem_of_getElem? (l := wsX0_init) (i := 3) rfl)) rfl (by rw [hml]; exact hl.1) rfl dX0_init_1 (Nat.le_of_ble_eq_true rfl) (Nat.le_of_ble_eq_true rfl) ?_
  refine W.eq (g2 := F0 m 4 ls []) rfl ?_
  refine lv_aload_n hx hb dX0_init_4 rfl (lv_at hl 0 rfl) ?_
  refine lv_sipush (v := nI 896) hx hb dX0_init_5 (by decide +kernel) ?_
  refine ww_newa (N := 896) hx hb harr hw rfl (by omega) (Nat.le_of_ble_eq_true rfl) (Nat.le_of_ble_eq_true rfl) dX0_init_8 (fun q8 H hw => ?_)
  have hw : ww D cI _ _ s ([(a, .inr (0, [.null, .int 0, .int 0, .int 0])), (q8, .inl (cI, 896, .inl (fun _ => 0)))]) H _ := hw
  refine ww_put (ws' := [(a, .inr (0, [.ref q8, .int 0, .int 0, .int 0])), (q8, .inl (cI, 896, .inl (fun _ => 0)))]) hx hb hts hin0 tyX0 tyX0_ok nmX0 hown hw 0 rfl rfl 0 (by decide) k9 rfl rfl rfl (Nat.le_of_ble_eq_true rfl) rfl dX0_init_10 (fun H locs hw => ?_)
  refine lv_aload_n hx hb dX0_init_13 rfl (lv_at hl 0 rfl) ?_
  refine lv_iconst (v := nI 0) hx hb dX0_init_14 (by decide +kernel) ?_
  refine ww_put (ws' := [(a, .inr (0, [.ref q8, .int (nI 0), .int 0, .int 0])), (q8, .inl (cI, 896, .inl (fun _ => 0)))]) hx hb hts hin0 tyX0 tyX0_ok nmX0 hown hw 0 rfl rfl 1 (by decide) k13 rfl rfl rfl (Nat.le_of_ble_eq_true rfl) rfl dX0_init_15 (fun H locs hw => ?_)
  refine lv_aload_n hx hb dX0_init_18 rfl (lv_at hl 0 rfl) ?_
  refine lv_iconst (v := nI 0) hx hb dX0_init_19 (by decide +kernel) ?_
  refine W.eq (g2 := F0 m 20 ls [.int (nI 0), .ref a]) rfl ?_
  refine ww_put (ws' := [(a, .inr (0, [.ref q8, .int (nI 0), .int (nI 0), .int 0])), (q8, .inl (cI, 896, .inl (fun _ => 0)))]) hx hb hts hin0 tyX0 tyX0_ok nmX0 hown hw 0 rfl rfl 2 (by decide) k17 rfl rfl rfl (Nat.le_of_ble_eq_true rfl) rfl dX0_init_20 (fun H locs hw => ?_)
  refine lv_aload_n hx hb dX0_init_23 rfl (lv_at hl 0 rfl) ?_
  refine lv_iconst (v := nI 0) hx hb dX0_init_24 (by decide +kernel) ?_
  refine ww_put (ws' := [(a, .inr (0, [.ref q8, .int (nI 0), .int (nI 0), .int (nI 0)])), (q8, .inl (cI, 896, .inl (fun _ => 0)))]) hx hb hts hin0 tyX0 tyX0_ok nmX0 hown hw 0 rfl rfl 3 (by decide) k20 rfl rfl rfl (Nat.le_of_ble_eq_true rfl) rfl dX0_init_25 (fun H locs hw => ?_)
  exact ww_vret (u := q8) hx hb hr hlk hw (trivial) (Nat.le_refl _) (Nat.le_refl _) rfl dX0_init_28
