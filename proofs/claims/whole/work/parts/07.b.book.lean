/-! RestartBook: a record of a work; a change is undone -/
theorem gr_c {L : LG} {x : Rc} (h : 7 ≤ L.2.2.2.1) : 0 + (if L.2.2.2.1 < L.1 * 7 + 7 then 1 else 0) ≤ (apL L x).2.2.2.1 - L.2.2.2.1 := by
  show 0 + (if L.2.2.2.1 < L.1 * 7 + 7 then 1 else 0) ≤ (if L.2.2.2.1 < L.1 * 7 + 7 then L.2.2.2.1 * 2 else L.2.2.2.1) - L.2.2.2.1
  split <;> omega
theorem gr_s {L : LG} {x : Rc} : 0 + (if L.2.2.2.1 < L.1 * 7 + 7 then L.2.2.2.1 * 2 else 0) ≤ 2 * ((apL L x).2.2.2.1 - L.2.2.2.1) := by
  show 0 + (if L.2.2.2.1 < L.1 * 7 + 7 then L.2.2.2.1 * 2 else 0) ≤ 2 * ((if L.2.2.2.1 < L.1 * 7 + 7 then L.2.2.2.1 * 2 else L.2.2.2.1) - L.2.2.2.1)
  split <;> omega
theorem LOk_add {L : LG} {f f2 : Nat → Int32} {x : Rc} (h : LOk L f) (hn : L.1 < 2 ^ 20) (g : (∀ i, i < L.1 * 7 → f2 i = f i) ∧ f2 (L.1 * 7) = nI (rK x) ∧ f2 (L.1 * 7 + 1) = nI (rW x) ∧ f2 (L.1 * 7 + 2) = nI (rB x) ∧ f2 (L.1 * 7 + 3) = nI (rP x) ∧ f2 (L.1 * 7 + 4) = nI (rD x) ∧ f2 (L.1 * 7 + 5) = rM x ∧ f2 (L.1 * 7 + 6) = nI (rG x)) : LOk (apL L x) f2 := by
  obtain ⟨a1, a2, a3, a4, a5⟩ := h
  refine ⟨LRep_add a1 x g, ?_, ?_, ?_, ?_⟩
  · show (L.1 + 1) * 7 ≤ (if L.2.2.2.1 < L.1 * 7 + 7 then L.2.2.2.1 * 2 else L.2.2.2.1)
    split <;> omega
  · show 7 ≤ (if L.2.2.2.1 < L.1 * 7 + 7 then L.2.2.2.1 * 2 else L.2.2.2.1)
    split <;> omega
  · show (if L.2.2.2.1 < L.1 * 7 + 7 then L.2.2.2.1 * 2 else L.2.2.2.1) < 2 ^ 25
    split <;> omega
  · show L.2.1 ≤ L.1 + 1
    omega
theorem ub_rd {f : Nat → Int32} {n c bf : Nat} {R : Nat → Rc} (h : LRep f n R) (hb : rB (R c) = bf) (hbn : bf ≤ n) (hn : n < 2 ^ 31) (hK : ∀ r, 1 ≤ r → r ≤ n → rK (R r) ≤ 8) : (if lrd f n bf 0 = nI 2 then lrd f n bf 6 else nI bf) = nI (ub R c) := by
  by_cases z : bf = 0
  · have e : lrd f n bf 0 = 0 := by rw [lrd, if_neg (by omega)]
    rw [e, if_neg (by decide), ub, if_neg (by rw [hb]; exact fun q => q.1 z), hb]
  · have h1 : 1 ≤ bf := by omega
    rw [LRep_rd h h1 hbn (by omega), LRep_rd h h1 hbn (by omega)]
    have hk := hK bf h1 hbn
    by_cases q : rK (R bf) = 2
    · rw [if_pos (show rcF (R bf) 0 = nI 2 by show nI (rK (R bf)) = nI 2; rw [q]), ub, if_pos (by rw [hb]; exact ⟨z, q⟩), hb]
      rfl
    · rw [if_neg (show ¬ rcF (R bf) 0 = nI 2 from fun k => q ((nI_eq (by omega) (by omega)).mp k)), ub, if_neg (by rw [hb]; exact fun k => q k.2), hb]
set_option maxHeartbeats 4000000 in
set_option maxRecDepth 100000 in
theorem cB_appendOfWork (l : Launch) (D : va_G) (cI : ClassId) (a aL b : Nat) (pa : A5) (ta da : A6) (C : CX) (L : LG) (f : Nat → Int32) (G : PG) (v v2 : TW) (fb fb2 : Nat → Int32) (k w : Nat) (T : TF) (B : Nat → Nat) (hL : LOk L f) (hn : L.1 < 2 ^ 20) (h : TR v T) (hB : BR fb B) (hp : (T w).1 ≠ 0) (hk1 : 3 ≤ k) (hk2 : k ≤ 6) : Kt l yX3_appendOfWork wsX3_appendOfWork 3 68 ((apL L (k, w, (T w).2.1, 0, 0, 0, 0)).2.2.2.1 - L.2.2.2.1) (2 * ((apL L (k, w, (T w).2.1, 0, 0, 0, 0)).2.2.2.1 - L.2.2.2.1)) D cI [.ref a, .int (nI k), .int (nI w)] ([(a, .inr (3, [.ref aL, .ref pa.1, .ref ta.1, .ref da.1, .int (nI C.1), .int (nI C.2.1), .int (nI C.2.2.1), .int (nI C.2.2.2.1), .int (nI C.2.2.2.2.1), .int C.2.2.2.2.2.1, .int C.2.2.2.2.2.2.1, .int C.2.2.2.2.2.2.2.1, .int C.2.2.2.2.2.2.2.2]))] ++ (wL cI aL b L f ++ (wG cI pa G ++ (wT cI ta v fb ++ wT cI da v2 fb2)))) (pI (fun (r : Int32) (u : Nat × (Nat → Int32) × TW × (Nat → Int32)) => r = nI (L.1 + 1) ∧ LOk (apL L (k, w, (T w).2.1, 0, 0, 0, 0)) u.2.1 ∧ TR u.2.2.1 (tkT T (L.1 + 1) (k, w, (T w).2.1, 0, 0, 0, 0)) ∧ BR u.2.2.2 (tkB B (L.1 + 1) (k, w, (T w).2.1, 0, 0, 0, 0)))) (fun (u : Nat × (Nat → Int32) × TW × (Nat → Int32)) => [(a, .inr (3, [.ref aL, .ref pa.1, .ref ta.1, .ref da.1, .int (nI C.1), .int (nI C.2.1), .int (nI C.2.2.1), .int (nI C.2.2.2.1), .int (nI C.2.2.2.2.1), .int C.2.2.2.2.2.1, .int C.2.2.2.2.2.2.1, .int C.2.2.2.2.2.2.2.1, .int C.2.2.2.2.2.2.2.2]))] ++ (wL cI aL u.1 (apL L (k, w, (T w).2.1, 0, 0, 0, 0)) u.2.1 ++ (wG cI pa G ++ (wT cI ta u.2.2.1 u.2.2.2 ++ wT cI da v2 fb2)))) := by
  refine kt_start (cc := cX3_appendOfWork) (maxL := 4) (ret := (some .int)) (by decide +kernel) rfl (Nat.le_of_ble_eq_true rfl) ?_
  intro p e s m below meth c hx hb hml hr hlk hown hnm hts ls hl hw
  have hown : s.vm.findClass RX3 = some m.cls := hown
  have hl : lv_has ls 4 [(0, .ref a), (1, .int (nI k)), (2, .int (nI w))] := hl
  have k10 := hts (.fieldLink RX3 10 "RestartBook" "log" "LRestartBook$Log;") (by decide +kernel)
  have k26 := hts (.fieldLink RX3 26 "RestartBook" "tables" "LRestartBook$Tables;") (by decide +kernel)
  have hin3 : ∀ w ∈ u_ws RX3 TX3 13, w ∈ wsX3_appendOfWork := in_X3_appendOfWork
  have hw200 := (TR_some h hp).2.1
  refine lv_aload_n hx hb dX3_appendOfWork_0 rfl (lv_at hl 0 rfl) ?_
  refine ww_get hx hb hts hin3 hown hw 0 rfl rfl 0 (by decide) k10 rfl dX3_appendOfWork_1 ?_
  refine lv_iload_n hx hb dX3_appendOfWork_4 rfl (lv_at hl 1 rfl) ?_
  refine lv_iload_n hx hb dX3_appendOfWork_5 rfl (lv_at hl 2 rfl) ?_
  refine lv_aload_n hx hb dX3_appendOfWork_6 rfl (lv_at hl 0 rfl) ?_
  refine ww_get hx hb hts hin3 hown hw 0 rfl rfl 2 (by decide) k26 rfl dX3_appendOfWork_7 ?_
  refine lv_iload_n hx hb dX3_appendOfWork_10 rfl (lv_at hl 2 rfl) ?_
  refine ww_callV ([(a, .inr (3, [.ref aL, .ref pa.1, .ref ta.1, .ref da.1, .int (nI C.1), .int (nI C.2.1), .int (nI C.2.2.1), .int (nI C.2.2.2.1), .int (nI C.2.2.2.2.1), .int C.2.2.2.2.2.1, .int C.2.2.2.2.2.2.1, .int C.2.2.2.2.2.2.2.1, .int C.2.2.2.2.2.2.2.2]))] ++ (wL cI aL b L f ++ wG cI pa G)) (wT cI da v2 fb2) (As := [.int (nI w)]) (rest := [.int (nI w), .int (nI k), .ref aL]) ⟨hx, hb, hml, hown, hts⟩ (cT_lastOf l D cI ta.1 ta.2.1 ta.2.2.1 ta.2.2.2.1 ta.2.2.2.2.1 ta.2.2.2.2.2 v fb T h w (by omega) hp) gX3_appendOfWork_X2_lastOf rfl hd_X2_lastOf ⟨Nat.le_of_ble_eq_true rfl, Nat.le_of_ble_eq_true rfl⟩ hw rfl rfl rfl rfl rfl hl.1 (Nat.le_of_ble_eq_true rfl) dX3_appendOfWork_11 ⟨Nat.le_of_ble_eq_true rfl, Nat.le_of_ble_eq_true rfl⟩ (fun rv u H locs hq hw => ?_)
  obtain ⟨rr, rfl, hq⟩ := hq
  subst hq
  have hw : ww D cI _ _ s ([(a, .inr (3, [.ref aL, .ref pa.1, .ref ta.1, .ref da.1, .int (nI C.1), .int (nI C.2.1), .int (nI C.2.2.1), .int (nI C.2.2.2.1), .int (nI C.2.2.2.2.1), .int C.2.2.2.2.2.1, .int C.2.2.2.2.2.2.1, .int C.2.2.2.2.2.2.2.1, .int C.2.2.2.2.2.2.2.2]))] ++ (wL cI aL b L f ++ (wG cI pa G ++ (wT cI ta v fb ++ wT cI da v2 fb2)))) H locs := hw
  refine W.eq (g2 := F0 m 14 ls [.int (nI (T w).2.1), .int (nI w), .int (nI k), .ref aL]) rfl ?_
  refine lv_iconst (v := nI 0) hx hb dX3_appendOfWork_14 (by decide +kernel) ?_
  refine lv_iconst (v := nI 0) hx hb dX3_appendOfWork_15 (by decide +kernel) ?_
  refine lv_iconst (v := nI 0) hx hb dX3_appendOfWork_16 (by decide +kernel) ?_
  refine lv_iconst (v := nI 0) hx hb dX3_appendOfWork_17 (by decide +kernel) ?_
  refine ww_callV ([(a, .inr (3, [.ref aL, .ref pa.1, .ref ta.1, .ref da.1, .int (nI C.1), .int (nI C.2.1), .int (nI C.2.2.1), .int (nI C.2.2.2.1), .int (nI C.2.2.2.2.1), .int C.2.2.2.2.2.1, .int C.2.2.2.2.2.2.1, .int C.2.2.2.2.2.2.2.1, .int C.2.2.2.2.2.2.2.2]))]) (wG cI pa G ++ (wT cI ta v fb ++ wT cI da v2 fb2)) (As := [.int (nI k), .int (nI w), .int (nI (T w).2.1), .int (nI 0), .int (nI 0), .int (nI 0), .int (nI 0)]) (rest := []) ⟨hx, hb, hml, hown, hts⟩ (cL_append l D cI aL b L.2.2.2.1 L.1 L.2.1 L.2.2.1 f k (nI w) (nI (T w).2.1) (nI 0) (nI 0) (nI 0) (nI 0) hL.2.1 hL.2.2.1 (by have := hL.2.2.2.1; omega) (by omega)) gX3_appendOfWork_X0_append rfl hd_X0_append ⟨Nat.le_of_ble_eq_true rfl, Nat.le_of_ble_eq_true rfl⟩ hw rfl rfl rfl rfl rfl hl.1 (Nat.le_of_ble_eq_true rfl) dX3_appendOfWork_18 ⟨gr_c hL.2.2.1, gr_s⟩ (fun rv u H locs hq hw => ?_)
  obtain ⟨ch2, b2, cap2, f2⟩ := u
  obtain ⟨rr, rfl, hq⟩ := hq
  dsimp only at hq
  obtain ⟨rfl, rfl, rfl, hq⟩ := hq
  have hw : ww D cI _ _ s ([(a, .inr (3, [.ref aL, .ref pa.1, .ref ta.1, .ref da.1, .int (nI C.1), .int (nI C.2.1), .int (nI C.2.2.1), .int (nI C.2.2.2.1), .int (nI C.2.2.2.2.1), .int C.2.2.2.2.2.1, .int C.2.2.2.2.2.2.1, .int C.2.2.2.2.2.2.2.1, .int C.2.2.2.2.2.2.2.2]))] ++ (wL cI aL b2 (apL L (k, w, (T w).2.1, 0, 0, 0, 0)) f2 ++ (wG cI pa G ++ (wT cI ta v fb ++ wT cI da v2 fb2)))) H locs := hw
  refine W.eq (g2 := F0 m 21 ls [.int (nI (L.1 + 1))]) rfl ?_
  have hL2 : LOk (apL L (k, w, (T w).2.1, 0, 0, 0, 0)) f2 := LOk_add hL hn ⟨hq.1, hq.2.1, hq.2.2.1, hq.2.2.2.1, hq.2.2.2.2.1, hq.2.2.2.2.2.1, hq.2.2.2.2.2.2.1.trans nI_0, hq.2.2.2.2.2.2.2⟩
  have hxr : (apL L (k, w, (T w).2.1, 0, 0, 0, 0)).2.2.2.2 (L.1 + 1) = (k, w, (T w).2.1, 0, 0, 0, 0) := by simp [apL, va_up]
  refine W.eq (g2 := F0 m 21 ls [.int (nI (L.1 + 1))]) rfl ?_
  refine lv_istore_n (lv' := [(3, .int (nI (L.1 + 1))), (0, .ref a), (1, .int (nI k)), (2, .int (nI w))]) hx hb dX3_appendOfWork_21 rfl hl (by decide) rfl (fun ls hl => ?_)
  refine lv_aload_n hx hb dX3_appendOfWork_22 rfl (lv_at hl 1 rfl) ?_
  refine lv_iload_n hx hb dX3_appendOfWork_23 rfl (lv_at hl 0 rfl) ?_
  refine ww_callA (As := [.int (nI (L.1 + 1))]) (rest := []) ⟨hx, hb, hml, hown, hts⟩ (cB_takeIntoTables l D cI a aL b2 pa ta da C (apL L (k, w, (T w).2.1, 0, 0, 0, 0)) f2 G v v2 fb fb2 (L.1 + 1) (k, w, (T w).2.1, 0, 0, 0, 0) T B hL2 (by omega) (Nat.le_refl _) hxr h hB (by show 1 ≤ (k, w, (T w).2.1, 0, 0, 0, 0).1; omega) (by show (k, w, (T w).2.1, 0, 0, 0, 0).1 ≤ 8; omega) hw200 (Or.inr (Or.inl hp)) (by show 0 < 64; omega) (by show 0 < 2 ^ 31; omega)) gX3_appendOfWork_X3_takeIntoTables rfl hd_X3_takeIntoTables ⟨Nat.le_of_ble_eq_true rfl, Nat.le_of_ble_eq_true rfl⟩ hw rfl rfl rfl rfl hl.1 (Nat.le_of_ble_eq_true rfl) dX3_appendOfWork_24 ⟨gr_c hL.2.2.1, gr_s⟩ (fun rv u H locs hq hw => ?_)
  obtain ⟨rfl, hT3, hB3⟩ := hq
  have hw : ww D cI _ _ s ([(a, .inr (3, [.ref aL, .ref pa.1, .ref ta.1, .ref da.1, .int (nI C.1), .int (nI C.2.1), .int (nI C.2.2.1), .int (nI C.2.2.2.1), .int (nI C.2.2.2.2.1), .int C.2.2.2.2.2.1, .int C.2.2.2.2.2.2.1, .int C.2.2.2.2.2.2.2.1, .int C.2.2.2.2.2.2.2.2]))] ++ (wL cI aL b2 (apL L (k, w, (T w).2.1, 0, 0, 0, 0)) f2 ++ (wG cI pa G ++ (wT cI ta u.1 u.2 ++ wT cI da v2 fb2)))) H locs := hw
  refine W.eq (g2 := F0 m 27 ls []) rfl ?_
  refine lv_iload_n hx hb dX3_appendOfWork_27 rfl (lv_at hl 0 rfl) ?_
  exact ww_iret (u := (b2, f2, u.1, u.2)) hx hb hr hlk hw (⟨rfl, hL2, hT3, hB3⟩) (gr_c hL.2.2.1) (gr_s) dX3_appendOfWork_28
set_option maxHeartbeats 4000000 in
set_option maxRecDepth 100000 in
theorem cB_undoNext (l : Launch) (D : va_G) (cI : ClassId) (a aL b : Nat) (pa : A5) (ta da : A6) (C : CX) (L : LG) (f : Nat → Int32) (G : PG) (v v2 : TW) (fb fb2 : Nat → Int32) (w cn : Nat) (xc : Rc) (T : TF) (B : Nat → Nat) (hL : LOk L f) (hn : L.1 < 2 ^ 20) (h : TR v T) (hB : BR fb B) (hp : (T w).1 ≠ 0) (hce : (T w).2.2 = cn) (hxc : L.2.2.2.2 cn = xc) (hc1 : 1 ≤ cn) (hc2 : cn ≤ L.1) (hpg : rP xc < 64) (hwd : rD xc < 8) (hbf : rB xc ≤ L.1) (hub : ub L.2.2.2.2 cn < 2 ^ 31) (hK8 : ∀ r, 1 ≤ r → r ≤ L.1 → rK (L.2.2.2.2 r) ≤ 8) : Kt l yX3_undoNext wsX3_undoNext 3 68 ((apL L (2, w, (T w).2.1, rP xc, rD xc, -(rM xc), ub L.2.2.2.2 cn)).2.2.2.1 - L.2.2.2.1) (2 * ((apL L (2, w, (T w).2.1, rP xc, rD xc, -(rM xc), ub L.2.2.2.2 cn)).2.2.2.1 - L.2.2.2.1)) D cI [.ref a, .int (nI w)] ([(a, .inr (3, [.ref aL, .ref pa.1, .ref ta.1, .ref da.1, .int (nI C.1), .int (nI C.2.1), .int (nI C.2.2.1), .int (nI C.2.2.2.1), .int (nI C.2.2.2.2.1), .int C.2.2.2.2.2.1, .int C.2.2.2.2.2.2.1, .int C.2.2.2.2.2.2.2.1, .int C.2.2.2.2.2.2.2.2]))] ++ (wL cI aL b L f ++ (wG cI pa G ++ (wT cI ta v fb ++ wT cI da v2 fb2)))) (pV (fun (u : Nat × (Nat → Int32) × TW × (Nat → Int32)) => LOk (apL L (2, w, (T w).2.1, rP xc, rD xc, -(rM xc), ub L.2.2.2.2 cn)) u.2.1 ∧ TR u.2.2.1 (tkT T (L.1 + 1) (2, w, (T w).2.1, rP xc, rD xc, -(rM xc), ub L.2.2.2.2 cn)) ∧ BR u.2.2.2 (tkB B (L.1 + 1) (2, w, (T w).2.1, rP xc, rD xc, -(rM xc), ub L.2.2.2.2 cn)))) (fun (u : Nat × (Nat → Int32) × TW × (Nat → Int32)) => [(a, .inr (3, [.ref aL, .ref pa.1, .ref ta.1, .ref da.1, .int (nI C.1), .int (nI C.2.1), .int (nI C.2.2.1), .int (nI C.2.2.2.1), .int (nI C.2.2.2.2.1), .int C.2.2.2.2.2.1, .int C.2.2.2.2.2.2.1, .int C.2.2.2.2.2.2.2.1, .int C.2.2.2.2.2.2.2.2]))] ++ (wL cI aL u.1 (apL L (2, w, (T w).2.1, rP xc, rD xc, -(rM xc), ub L.2.2.2.2 cn)) u.2.1 ++ (wG cI pa (apP G (L.1 + 1) (2, w, (T w).2.1, rP xc, rD xc, -(rM xc), ub L.2.2.2.2 cn)) ++ (wT cI ta u.2.2.1 u.2.2.2 ++ wT cI da v2 fb2)))) := by
  refine kt_start (cc := cX3_undoNext) (maxL := 4) (ret := none) (by decide +kernel) rfl (Nat.le_of_ble_eq_true rfl) ?_
  intro p e s m below meth c hx hb hml hr hlk hown hnm hts ls hl hw
  have hown : s.vm.findClass RX3 = some m.cls := hown
  have hl : lv_has ls 4 [(0, .ref a), (1, .int (nI w))] := hl
  have k10 := hts (.fieldLink RX3 10 "RestartBook" "log" "LRestartBook$Log;") (by decide +kernel)
  have k26 := hts (.fieldLink RX3 26 "RestartBook" "tables" "LRestartBook$Tables;") (by decide +kernel)
  have hin3 : ∀ w ∈ u_ws RX3 TX3 13, w ∈ wsX3_undoNext := in_X3_undoNext
  have hw200 := (TR_some h hp).2.1
  refine lv_aload_n hx hb dX3_undoNext_0 rfl (lv_at hl 0 rfl) ?_
  refine ww_get hx hb hts hin3 hown hw 0 rfl rfl 2 (by decide) k26 rfl dX3_undoNext_1 ?_
  refine lv_iload_n hx hb dX3_undoNext_4 rfl (lv_at hl 1 rfl) ?_
  refine ww_callV ([(a, .inr (3, [.ref aL, .ref pa.1, .ref ta.1, .ref da.1, .int (nI C.1), .int (nI C.2.1), .int (nI C.2.2.1), .int (nI C.2.2.2.1), .int (nI C.2.2.2.2.1), .int C.2.2.2.2.2.1, .int C.2.2.2.2.2.2.1, .int C.2.2.2.2.2.2.2.1, .int C.2.2.2.2.2.2.2.2]))] ++ (wL cI aL b L f ++ wG cI pa G)) (wT cI da v2 fb2) (As := [.int (nI w)]) (rest := []) ⟨hx, hb, hml, hown, hts⟩ (cT_nextOf l D cI ta.1 ta.2.1 ta.2.2.1 ta.2.2.2.1 ta.2.2.2.2.1 ta.2.2.2.2.2 v fb T h w (by omega) hp) gX3_undoNext_X2_nextOf rfl hd_X2_nextOf ⟨Nat.le_of_ble_eq_true rfl, Nat.le_of_ble_eq_true rfl⟩ hw rfl rfl rfl rfl rfl hl.1 (Nat.le_of_ble_eq_true rfl) dX3_undoNext_5 ⟨Nat.le_of_ble_eq_true rfl, Nat.le_of_ble_eq_true rfl⟩ (fun rv u H locs hq hw => ?_)
  obtain ⟨rr, rfl, hq⟩ := hq
  rw [hce] at hq
  subst hq
  have hw : ww D cI _ _ s ([(a, .inr (3, [.ref aL, .ref pa.1, .ref ta.1, .ref da.1, .int (nI C.1), .int (nI C.2.1), .int (nI C.2.2.1), .int (nI C.2.2.2.1), .int (nI C.2.2.2.2.1), .int C.2.2.2.2.2.1, .int C.2.2.2.2.2.2.1, .int C.2.2.2.2.2.2.2.1, .int C.2.2.2.2.2.2.2.2]))] ++ (wL cI aL b L f ++ (wG cI pa G ++ (wT cI ta v fb ++ wT cI da v2 fb2)))) H locs := hw
  refine W.eq (g2 := F0 m 8 ls [.int (nI cn)]) rfl ?_
  refine lv_istore_n (lv' := [(2, .int (nI cn)), (0, .ref a), (1, .int (nI w))]) hx hb dX3_undoNext_8 rfl hl (by decide) rfl (fun ls hl => ?_)
  refine lv_aload_n hx hb dX3_undoNext_9 rfl (lv_at hl 1 rfl) ?_
  refine ww_get hx hb hts hin3 hown hw 0 rfl rfl 0 (by decide) k10 rfl dX3_undoNext_10 ?_
  refine lv_iconst (v := nI 2) hx hb dX3_undoNext_13 (by decide +kernel) ?_
  refine lv_iload_n hx hb dX3_undoNext_14 rfl (lv_at hl 2 rfl) ?_
  refine lv_aload_n hx hb dX3_undoNext_15 rfl (lv_at hl 1 rfl) ?_
  refine ww_get hx hb hts hin3 hown hw 0 rfl rfl 2 (by decide) k26 rfl dX3_undoNext_16 ?_
  refine lv_iload_n hx hb dX3_undoNext_19 rfl (lv_at hl 2 rfl) ?_
  refine ww_callV ([(a, .inr (3, [.ref aL, .ref pa.1, .ref ta.1, .ref da.1, .int (nI C.1), .int (nI C.2.1), .int (nI C.2.2.1), .int (nI C.2.2.2.1), .int (nI C.2.2.2.2.1), .int C.2.2.2.2.2.1, .int C.2.2.2.2.2.2.1, .int C.2.2.2.2.2.2.2.1, .int C.2.2.2.2.2.2.2.2]))] ++ (wL cI aL b L f ++ wG cI pa G)) (wT cI da v2 fb2) (As := [.int (nI w)]) (rest := [.int (nI w), .int (nI 2), .ref aL]) ⟨hx, hb, hml, hown, hts⟩ (cT_lastOf l D cI ta.1 ta.2.1 ta.2.2.1 ta.2.2.2.1 ta.2.2.2.2.1 ta.2.2.2.2.2 v fb T h w (by omega) hp) gX3_undoNext_X2_lastOf rfl hd_X2_lastOf ⟨Nat.le_of_ble_eq_true rfl, Nat.le_of_ble_eq_true rfl⟩ hw rfl rfl rfl rfl rfl hl.1 (Nat.le_of_ble_eq_true rfl) dX3_undoNext_20 ⟨Nat.le_of_ble_eq_true rfl, Nat.le_of_ble_eq_true rfl⟩ (fun rv u H locs hq hw => ?_)
  obtain ⟨rr, rfl, hq⟩ := hq
  subst hq
  have hw : ww D cI _ _ s ([(a, .inr (3, [.ref aL, .ref pa.1, .ref ta.1, .ref da.1, .int (nI C.1), .int (nI C.2.1), .int (nI C.2.2.1), .int (nI C.2.2.2.1), .int (nI C.2.2.2.2.1), .int C.2.2.2.2.2.1, .int C.2.2.2.2.2.2.1, .int C.2.2.2.2.2.2.2.1, .int C.2.2.2.2.2.2.2.2]))] ++ (wL cI aL b L f ++ (wG cI pa G ++ (wT cI ta v fb ++ wT cI da v2 fb2)))) H locs := hw
  refine W.eq (g2 := F0 m 23 ls [.int (nI (T w).2.1), .int (nI w), .int (nI 2), .ref aL]) rfl ?_
  refine W.eq (g2 := F0 m 23 ls [.int (nI (T w).2.1), .int (nI w), .int (nI 2), .ref aL]) rfl ?_
  refine lv_aload_n hx hb dX3_undoNext_23 rfl (lv_at hl 1 rfl) ?_
  refine ww_get hx hb hts hin3 hown hw 0 rfl rfl 0 (by decide) k10 rfl dX3_undoNext_24 ?_
  refine lv_iload_n hx hb dX3_undoNext_27 rfl (lv_at hl 0 rfl) ?_
  refine lv_iconst (v := nI 3) hx hb dX3_undoNext_28 (by decide +kernel) ?_
  refine ww_callV ([(a, .inr (3, [.ref aL, .ref pa.1, .ref ta.1, .ref da.1, .int (nI C.1), .int (nI C.2.1), .int (nI C.2.2.1), .int (nI C.2.2.2.1), .int (nI C.2.2.2.2.1), .int C.2.2.2.2.2.1, .int C.2.2.2.2.2.2.1, .int C.2.2.2.2.2.2.2.1, .int C.2.2.2.2.2.2.2.2]))]) (wG cI pa G ++ (wT cI ta v fb ++ wT cI da v2 fb2)) (As := [.int (nI cn), .int (nI 3)]) (rest := [.int (nI (T w).2.1), .int (nI w), .int (nI 2), .ref aL]) ⟨hx, hb, hml, hown, hts⟩ (cL_read l D cI aL b L.2.2.2.1 L.1 L.2.1 L.2.2.1 f cn 3 hL.2.1 (by have := hL.2.2.2.1; omega) (by have := hL.2.1; have := hL.2.2.2.1; omega) (by omega)) gX3_undoNext_X0_read rfl hd_X0_read ⟨Nat.le_of_ble_eq_true rfl, Nat.le_of_ble_eq_true rfl⟩ hw rfl rfl rfl rfl rfl hl.1 (Nat.le_of_ble_eq_true rfl) dX3_undoNext_29 ⟨Nat.le_of_ble_eq_true rfl, Nat.le_of_ble_eq_true rfl⟩ (fun rv u H locs hq hw => ?_)
  obtain ⟨rr, rfl, hq⟩ := hq
  have hw : ww D cI _ _ s ([(a, .inr (3, [.ref aL, .ref pa.1, .ref ta.1, .ref da.1, .int (nI C.1), .int (nI C.2.1), .int (nI C.2.2.1), .int (nI C.2.2.2.1), .int (nI C.2.2.2.2.1), .int C.2.2.2.2.2.1, .int C.2.2.2.2.2.2.1, .int C.2.2.2.2.2.2.2.1, .int C.2.2.2.2.2.2.2.2]))] ++ (wL cI aL b L f ++ (wG cI pa G ++ (wT cI ta v fb ++ wT cI da v2 fb2)))) H locs := hw
  refine W.eq (g2 := F0 m 32 ls [.int (rr), .int (nI (T w).2.1), .int (nI w), .int (nI 2), .ref aL]) rfl ?_
  refine lv_eqi (show _ = nI (rP xc) from hq.trans ((LRep_rd hL.1 hc1 hc2 (by omega)).trans (by rw [hxc]; rfl))) ?_
  refine lv_aload_n hx hb dX3_undoNext_32 rfl (lv_at hl 1 rfl) ?_
  refine ww_get hx hb hts hin3 hown hw 0 rfl rfl 0 (by decide) k10 rfl dX3_undoNext_33 ?_
  refine lv_iload_n hx hb dX3_undoNext_36 rfl (lv_at hl 0 rfl) ?_
  refine lv_iconst (v := nI 4) hx hb dX3_undoNext_37 (by decide +kernel) ?_
  refine ww_callV ([(a, .inr (3, [.ref aL, .ref pa.1, .ref ta.1, .ref da.1, .int (nI C.1), .int (nI C.2.1), .int (nI C.2.2.1), .int (nI C.2.2.2.1), .int (nI C.2.2.2.2.1), .int C.2.2.2.2.2.1, .int C.2.2.2.2.2.2.1, .int C.2.2.2.2.2.2.2.1, .int C.2.2.2.2.2.2.2.2]))]) (wG cI pa G ++ (wT cI ta v fb ++ wT cI da v2 fb2)) (As := [.int (nI cn), .int (nI 4)]) (rest := [.int (nI (rP xc)), .int (nI (T w).2.1), .int (nI w), .int (nI 2), .ref aL]) ⟨hx, hb, hml, hown, hts⟩ (cL_read l D cI aL b L.2.2.2.1 L.1 L.2.1 L.2.2.1 f cn 4 hL.2.1 (by have := hL.2.2.2.1; omega) (by have := hL.2.1; have := hL.2.2.2.1; omega) (by omega)) gX3_undoNext_X0_read rfl hd_X0_read ⟨Nat.le_of_ble_eq_true rfl, Nat.le_of_ble_eq_true rfl⟩ hw rfl rfl rfl rfl rfl hl.1 (Nat.le_of_ble_eq_true rfl) dX3_undoNext_38 ⟨Nat.le_of_ble_eq_true rfl, Nat.le_of_ble_eq_true rfl⟩ (fun rv u H locs hq hw => ?_)
  obtain ⟨rr, rfl, hq⟩ := hq
  have hw : ww D cI _ _ s ([(a, .inr (3, [.ref aL, .ref pa.1, .ref ta.1, .ref da.1, .int (nI C.1), .int (nI C.2.1), .int (nI C.2.2.1), .int (nI C.2.2.2.1), .int (nI C.2.2.2.2.1), .int C.2.2.2.2.2.1, .int C.2.2.2.2.2.2.1, .int C.2.2.2.2.2.2.2.1, .int C.2.2.2.2.2.2.2.2]))] ++ (wL cI aL b L f ++ (wG cI pa G ++ (wT cI ta v fb ++ wT cI da v2 fb2)))) H locs := hw
  refine W.eq (g2 := F0 m 41 ls [.int (rr), .int (nI (rP xc)), .int (nI (T w).2.1), .int (nI w), .int (nI 2), .ref aL]) rfl ?_
  refine lv_eqi (show _ = nI (rD xc) from hq.trans ((LRep_rd hL.1 hc1 hc2 (by omega)).trans (by rw [hxc]; rfl))) ?_
  refine lv_aload_n hx hb dX3_undoNext_41 rfl (lv_at hl 1 rfl) ?_
  refine ww_get hx hb hts hin3 hown hw 0 rfl rfl 0 (by decide) k10 rfl dX3_undoNext_42 ?_
  refine lv_iload_n hx hb dX3_undoNext_45 rfl (lv_at hl 0 rfl) ?_
  refine lv_iconst (v := nI 5) hx hb dX3_undoNext_46 (by decide +kernel) ?_
  refine ww_callV ([(a, .inr (3, [.ref aL, .ref pa.1, .ref ta.1, .ref da.1, .int (nI C.1), .int (nI C.2.1), .int (nI C.2.2.1), .int (nI C.2.2.2.1), .int (nI C.2.2.2.2.1), .int C.2.2.2.2.2.1, .int C.2.2.2.2.2.2.1, .int C.2.2.2.2.2.2.2.1, .int C.2.2.2.2.2.2.2.2]))]) (wG cI pa G ++ (wT cI ta v fb ++ wT cI da v2 fb2)) (As := [.int (nI cn), .int (nI 5)]) (rest := [.int (nI (rD xc)), .int (nI (rP xc)), .int (nI (T w).2.1), .int (nI w), .int (nI 2), .ref aL]) ⟨hx, hb, hml, hown, hts⟩ (cL_read l D cI aL b L.2.2.2.1 L.1 L.2.1 L.2.2.1 f cn 5 hL.2.1 (by have := hL.2.2.2.1; omega) (by have := hL.2.1; have := hL.2.2.2.1; omega) (by omega)) gX3_undoNext_X0_read rfl hd_X0_read ⟨Nat.le_of_ble_eq_true rfl, Nat.le_of_ble_eq_true rfl⟩ hw rfl rfl rfl rfl rfl hl.1 (Nat.le_of_ble_eq_true rfl) dX3_undoNext_47 ⟨Nat.le_of_ble_eq_true rfl, Nat.le_of_ble_eq_true rfl⟩ (fun rv u H locs hq hw => ?_)
  obtain ⟨rr, rfl, hq⟩ := hq
  have hw : ww D cI _ _ s ([(a, .inr (3, [.ref aL, .ref pa.1, .ref ta.1, .ref da.1, .int (nI C.1), .int (nI C.2.1), .int (nI C.2.2.1), .int (nI C.2.2.2.1), .int (nI C.2.2.2.2.1), .int C.2.2.2.2.2.1, .int C.2.2.2.2.2.2.1, .int C.2.2.2.2.2.2.2.1, .int C.2.2.2.2.2.2.2.2]))] ++ (wL cI aL b L f ++ (wG cI pa G ++ (wT cI ta v fb ++ wT cI da v2 fb2)))) H locs := hw
  refine W.eq (g2 := F0 m 50 ls [.int (rr), .int (nI (rD xc)), .int (nI (rP xc)), .int (nI (T w).2.1), .int (nI w), .int (nI 2), .ref aL]) rfl ?_
  refine lv_eqi (show _ = rM xc from hq.trans ((LRep_rd hL.1 hc1 hc2 (by omega)).trans (by rw [hxc]; rfl))) ?_
  refine W.eq (g2 := F0 m 50 ls [.int (rM xc), .int (nI (rD xc)), .int (nI (rP xc)), .int (nI (T w).2.1), .int (nI w), .int (nI 2), .ref aL]) rfl ?_
  refine lv_ineg hx hb dX3_undoNext_50 ?_
  refine lv_aload_n hx hb dX3_undoNext_51 rfl (lv_at hl 1 rfl) ?_
  refine ww_get hx hb hts hin3 hown hw 0 rfl rfl 0 (by decide) k10 rfl dX3_undoNext_52 ?_
  refine lv_iload_n hx hb dX3_undoNext_55 rfl (lv_at hl 0 rfl) ?_
  refine ww_callV ([(a, .inr (3, [.ref aL, .ref pa.1, .ref ta.1, .ref da.1, .int (nI C.1), .int (nI C.2.1), .int (nI C.2.2.1), .int (nI C.2.2.2.1), .int (nI C.2.2.2.2.1), .int C.2.2.2.2.2.1, .int C.2.2.2.2.2.2.1, .int C.2.2.2.2.2.2.2.1, .int C.2.2.2.2.2.2.2.2]))]) (wG cI pa G ++ (wT cI ta v fb ++ wT cI da v2 fb2)) (As := [.int (nI cn)]) (rest := [.int (-(rM xc)), .int (nI (rD xc)), .int (nI (rP xc)), .int (nI (T w).2.1), .int (nI w), .int (nI 2), .ref aL]) ⟨hx, hb, hml, hown, hts⟩ (cL_undoingBehind l D cI aL b L.2.2.2.1 L.1 L.2.1 L.2.2.1 f cn (rB xc) hL.2.1 (by have := hL.2.2.2.1; omega) (by have := hL.2.1; have := hL.2.2.2.1; omega) ((LRep_rd hL.1 hc1 hc2 (by omega)).trans (by rw [hxc]; rfl)) (by omega)) gX3_undoNext_X0_undoingBehind rfl hd_X0_undoingBehind ⟨Nat.le_of_ble_eq_true rfl, Nat.le_of_ble_eq_true rfl⟩ hw rfl rfl rfl rfl rfl hl.1 (Nat.le_of_ble_eq_true rfl) dX3_undoNext_56 ⟨Nat.le_of_ble_eq_true rfl, Nat.le_of_ble_eq_true rfl⟩ (fun rv u H locs hq hw => ?_)
  obtain ⟨rr, rfl, hq⟩ := hq
  rw [ub_rd hL.1 (by rw [hxc]) (by omega) (by have := hL.2.1; have := hL.2.2.2.1; omega) hK8] at hq
  subst hq
  have hw : ww D cI _ _ s ([(a, .inr (3, [.ref aL, .ref pa.1, .ref ta.1, .ref da.1, .int (nI C.1), .int (nI C.2.1), .int (nI C.2.2.1), .int (nI C.2.2.2.1), .int (nI C.2.2.2.2.1), .int C.2.2.2.2.2.1, .int C.2.2.2.2.2.2.1, .int C.2.2.2.2.2.2.2.1, .int C.2.2.2.2.2.2.2.2]))] ++ (wL cI aL b L f ++ (wG cI pa G ++ (wT cI ta v fb ++ wT cI da v2 fb2)))) H locs := hw
  refine W.eq (g2 := F0 m 59 ls [.int (nI (ub L.2.2.2.2 cn)), .int (-(rM xc)), .int (nI (rD xc)), .int (nI (rP xc)), .int (nI (T w).2.1), .int (nI w), .int (nI 2), .ref aL]) rfl ?_
  refine ww_callV ([(a, .inr (3, [.ref aL, .ref pa.1, .ref ta.1, .ref da.1, .int (nI C.1), .int (nI C.2.1), .int (nI C.2.2.1), .int (nI C.2.2.2.1), .int (nI C.2.2.2.2.1), .int C.2.2.2.2.2.1, .int C.2.2.2.2.2.2.1, .int C.2.2.2.2.2.2.2.1, .int C.2.2.2.2.2.2.2.2]))]) (wG cI pa G ++ (wT cI ta v fb ++ wT cI da v2 fb2)) (As := [.int (nI 2), .int (nI w), .int (nI (T w).2.1), .int (nI (rP xc)), .int (nI (rD xc)), .int (-(rM xc)), .int (nI (ub L.2.2.2.2 cn))]) (rest := []) ⟨hx, hb, hml, hown, hts⟩ (cL_append l D cI aL b L.2.2.2.1 L.1 L.2.1 L.2.2.1 f 2 (nI w) (nI (T w).2.1) (nI (rP xc)) (nI (rD xc)) (-(rM xc)) (nI (ub L.2.2.2.2 cn)) hL.2.1 hL.2.2.1 (by have := hL.2.2.2.1; omega) (by omega)) gX3_undoNext_X0_append rfl hd_X0_append ⟨Nat.le_of_ble_eq_true rfl, Nat.le_of_ble_eq_true rfl⟩ hw rfl rfl rfl rfl rfl hl.1 (Nat.le_of_ble_eq_true rfl) dX3_undoNext_59 ⟨gr_c hL.2.2.1, gr_s⟩ (fun rv u H locs hq hw => ?_)
  obtain ⟨ch2, b2, cap2, f2⟩ := u
  obtain ⟨rr, rfl, hq⟩ := hq
  dsimp only at hq
  obtain ⟨rfl, rfl, rfl, hq⟩ := hq
  have hw : ww D cI _ _ s ([(a, .inr (3, [.ref aL, .ref pa.1, .ref ta.1, .ref da.1, .int (nI C.1), .int (nI C.2.1), .int (nI C.2.2.1), .int (nI C.2.2.2.1), .int (nI C.2.2.2.2.1), .int C.2.2.2.2.2.1, .int C.2.2.2.2.2.2.1, .int C.2.2.2.2.2.2.2.1, .int C.2.2.2.2.2.2.2.2]))] ++ (wL cI aL b2 (apL L (2, w, (T w).2.1, rP xc, rD xc, -(rM xc), ub L.2.2.2.2 cn)) f2 ++ (wG cI pa G ++ (wT cI ta v fb ++ wT cI da v2 fb2)))) H locs := hw
  refine W.eq (g2 := F0 m 62 ls [.int (nI (L.1 + 1))]) rfl ?_
  have hL2 : LOk (apL L (2, w, (T w).2.1, rP xc, rD xc, -(rM xc), ub L.2.2.2.2 cn)) f2 := LOk_add hL hn ⟨hq.1, hq.2.1, hq.2.2.1, hq.2.2.2.1, hq.2.2.2.2.1, hq.2.2.2.2.2.1, hq.2.2.2.2.2.2.1, hq.2.2.2.2.2.2.2⟩
  have hxr : (apL L (2, w, (T w).2.1, rP xc, rD xc, -(rM xc), ub L.2.2.2.2 cn)).2.2.2.2 (L.1 + 1) = (2, w, (T w).2.1, rP xc, rD xc, -(rM xc), ub L.2.2.2.2 cn) := by simp [apL, va_up]
  refine lv_istore_n (lv' := [(3, .int (nI (L.1 + 1))), (2, .int (nI cn)), (0, .ref a), (1, .int (nI w))]) hx hb dX3_undoNext_62 rfl hl (by decide) rfl (fun ls hl => ?_)
  refine lv_aload_n hx hb dX3_undoNext_63 rfl (lv_at hl 2 rfl) ?_
  refine lv_iload_n hx hb dX3_undoNext_64 rfl (lv_at hl 0 rfl) ?_
  refine ww_callA (As := [.int (nI (L.1 + 1))]) (rest := []) ⟨hx, hb, hml, hown, hts⟩ (cB_takeIntoTables l D cI a aL b2 pa ta da C (apL L (2, w, (T w).2.1, rP xc, rD xc, -(rM xc), ub L.2.2.2.2 cn)) f2 G v v2 fb fb2 (L.1 + 1) (2, w, (T w).2.1, rP xc, rD xc, -(rM xc), ub L.2.2.2.2 cn) T B hL2 (by omega) (Nat.le_refl _) hxr h hB (by show 1 ≤ (2, w, (T w).2.1, rP xc, rD xc, -(rM xc), ub L.2.2.2.2 cn).1; omega) (by show (2, w, (T w).2.1, rP xc, rD xc, -(rM xc), ub L.2.2.2.2 cn).1 ≤ 8; omega) hw200 (Or.inr (Or.inl hp)) hpg hub) gX3_undoNext_X3_takeIntoTables rfl hd_X3_takeIntoTables ⟨Nat.le_of_ble_eq_true rfl, Nat.le_of_ble_eq_true rfl⟩ hw rfl rfl rfl rfl hl.1 (Nat.le_of_ble_eq_true rfl) dX3_undoNext_65 ⟨gr_c hL.2.2.1, gr_s⟩ (fun rv u H locs hq hw => ?_)
  obtain ⟨rfl, hT3, hB3⟩ := hq
  have hw : ww D cI _ _ s ([(a, .inr (3, [.ref aL, .ref pa.1, .ref ta.1, .ref da.1, .int (nI C.1), .int (nI C.2.1), .int (nI C.2.2.1), .int (nI C.2.2.2.1), .int (nI C.2.2.2.2.1), .int C.2.2.2.2.2.1, .int C.2.2.2.2.2.2.1, .int C.2.2.2.2.2.2.2.1, .int C.2.2.2.2.2.2.2.2]))] ++ (wL cI aL b2 (apL L (2, w, (T w).2.1, rP xc, rD xc, -(rM xc), ub L.2.2.2.2 cn)) f2 ++ (wG cI pa G ++ (wT cI ta u.1 u.2 ++ wT cI da v2 fb2)))) H locs := hw
  refine W.eq (g2 := F0 m 68 ls []) rfl ?_
  refine lv_aload_n hx hb dX3_undoNext_68 rfl (lv_at hl 2 rfl) ?_
  refine lv_iload_n hx hb dX3_undoNext_69 rfl (lv_at hl 0 rfl) ?_
  refine ww_callA (As := [.int (nI (L.1 + 1))]) (rest := []) ⟨hx, hb, hml, hown, hts⟩ (cB_carryOut l D cI a aL b2 pa ta da C (apL L (2, w, (T w).2.1, rP xc, rD xc, -(rM xc), ub L.2.2.2.2 cn)) f2 G u.1 v2 u.2 fb2 (L.1 + 1) (2, w, (T w).2.1, rP xc, rD xc, -(rM xc), ub L.2.2.2.2 cn) hL2 (by omega) (Nat.le_refl _) hxr hpg hwd) gX3_undoNext_X3_carryOut rfl hd_X3_carryOut ⟨Nat.le_of_ble_eq_true rfl, Nat.le_of_ble_eq_true rfl⟩ hw rfl rfl rfl rfl hl.1 (Nat.le_of_ble_eq_true rfl) dX3_undoNext_70 ⟨gr_c hL.2.2.1, gr_s⟩ (fun rv u9 H locs hq hw => ?_)
  obtain ⟨rfl, -⟩ := hq
  have hw : ww D cI _ _ s ([(a, .inr (3, [.ref aL, .ref pa.1, .ref ta.1, .ref da.1, .int (nI C.1), .int (nI C.2.1), .int (nI C.2.2.1), .int (nI C.2.2.2.1), .int (nI C.2.2.2.2.1), .int C.2.2.2.2.2.1, .int C.2.2.2.2.2.2.1, .int C.2.2.2.2.2.2.2.1, .int C.2.2.2.2.2.2.2.2]))] ++ (wL cI aL b2 (apL L (2, w, (T w).2.1, rP xc, rD xc, -(rM xc), ub L.2.2.2.2 cn)) f2 ++ (wG cI pa (apP G (L.1 + 1) (2, w, (T w).2.1, rP xc, rD xc, -(rM xc), ub L.2.2.2.2 cn)) ++ (wT cI ta u.1 u.2 ++ wT cI da v2 fb2)))) H locs := hw
  refine W.eq (g2 := F0 m 73 ls []) rfl ?_
  exact ww_vret (u := (b2, f2, u.1, u.2)) hx hb hr hlk hw (⟨hL2, hT3, hB3⟩) (gr_c hL.2.2.1) (gr_s) rfl dX3_undoNext_73
