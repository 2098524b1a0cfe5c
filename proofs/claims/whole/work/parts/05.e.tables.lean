/-! RestartBook.Tables: one table into another; the constructor -/
theorem TR_ext {v : TW} {F T : TF} (h : TR v F) (h1 : ∀ w, (F w).1 ≠ 0 → F w = T w) (h2 : ∀ w, (F w).1 = 0 → (T w).1 = 0) : TR v T := by
  obtain ⟨g0, wl, g1, g2, g3⟩ := h
  refine ⟨g0, wl, fun i hi => ?_, g2, fun w hw => g3 w (fun q => hw (h2 w q))⟩
  have := g1 i hi
  rw [h1 _ this.2.2.2] at this
  exact this
theorem TR_inj {v : TW} {T : TF} (h : TR v T) {i j : Nat} (hi : i < v.1) (hj : j < v.1) (he : v.2.1 i = v.2.1 j) : i = j := by
  obtain ⟨-, wl, g1, g2, -⟩ := h
  have e : wl i = wl j := (nI_eq (by have := (g1 i hi).2.2.1; omega) (by have := (g1 j hj).2.2.1; omega)).mp ((g1 i hi).1.1.symm.trans (he.trans (g1 j hj).1.1))
  rcases Nat.lt_trichotomy i j with q | q | q
  · have := g2 i j q hj; omega
  · exact q
  · have := g2 j i q hi; omega
theorem TR_0 {v : TW} (h : v.1 = 0) : TR v (fun _ => (0, 0, 0)) := ⟨by omega, fun _ => 0, fun i hi => absurd hi (by omega), fun i j _ hj => absurd hj (by omega), fun w hw => absurd rfl hw⟩
theorem up4 (F : TF) (w : Nat) (x : Nat × Nat × Nat) (y : Nat × Nat × Nat → Nat × Nat × Nat) : va_up (va_up F w x) w (y (va_up F w x w)) = va_up F w (y x) := by
  funext k
  by_cases e : k = w <;> simp [va_up, e]
theorem nI_200 {v : TW} {T : TF} (h : TR v T) {i w w2 : Nat} (hi : i < v.1) (h2 : v.2.1 i = nI w2) (h1 : v.2.1 i = nI w) (hw : w ≤ 200) (hwb : w2 < 2 ^ 31 := by omega) : w2 = w := (nI_eq hwb (by omega)).mp (h2.symm.trans h1)
set_option maxHeartbeats 4000000 in
set_option maxRecDepth 100000 in
theorem cT_bringInMissing (l : Launch) (D : va_G) (cI : ClassId) (a a1 a2 a3 a4 a5 b b1 b2 b3 b4 b5 : Nat) (v o : TW) (fb ob : Nat → Int32) (T : TF) (h : TR o T) (hb2 : TB T) (hv0 : v.1 = 0) (hfb : ∀ p, p < 64 → fb p = nI 0) : Kt l yX2_bringInMissing wsX2_bringInMissing 2 45 (0) (0) D cI [.ref a, .ref b] ([(a, .inr (2, [.int (nI v.1), .ref a1, .ref a2, .ref a3, .ref a4, .ref a5])), (a1, .inl (cI, 16, .inl v.2.1)), (a2, .inl (cI, 16, .inl v.2.2.1)), (a3, .inl (cI, 16, .inl v.2.2.2.1)), (a4, .inl (cI, 16, .inl v.2.2.2.2)), (a5, .inl (cI, 64, .inl fb)), (b, .inr (2, [.int (nI o.1), .ref b1, .ref b2, .ref b3, .ref b4, .ref b5])), (b1, .inl (cI, 16, .inl o.2.1)), (b2, .inl (cI, 16, .inl o.2.2.1)), (b3, .inl (cI, 16, .inl o.2.2.2.1)), (b4, .inl (cI, 16, .inl o.2.2.2.2)), (b5, .inl (cI, 64, .inl ob))]) (pV (fun (u : TW × (Nat → Int32)) => TR u.1 T ∧ ∀ p, p < 64 → u.2 p = ob p)) (fun (u : TW × (Nat → Int32)) => [(a, .inr (2, [.int (nI u.1.1), .ref a1, .ref a2, .ref a3, .ref a4, .ref a5])), (a1, .inl (cI, 16, .inl u.1.2.1)), (a2, .inl (cI, 16, .inl u.1.2.2.1)), (a3, .inl (cI, 16, .inl u.1.2.2.2.1)), (a4, .inl (cI, 16, .inl u.1.2.2.2.2)), (a5, .inl (cI, 64, .inl u.2)), (b, .inr (2, [.int (nI o.1), .ref b1, .ref b2, .ref b3, .ref b4, .ref b5])), (b1, .inl (cI, 16, .inl o.2.1)), (b2, .inl (cI, 16, .inl o.2.2.1)), (b3, .inl (cI, 16, .inl o.2.2.2.1)), (b4, .inl (cI, 16, .inl o.2.2.2.2)), (b5, .inl (cI, 64, .inl ob))]) := by
  refine kt_start (cc := cX2_bringInMissing) (maxL := 4) (ret := none) (by decide +kernel) rfl (Nat.le_of_ble_eq_true rfl) ?_
  intro p e s m below meth c hx hb hml hr hlk hown hnm hts ls hl hw
  have hown : s.vm.findClass RX2 = some m.cls := hown
  have hl : lv_has ls 4 [(0, .ref a), (1, .ref b)] := hl
  have k7 := hts (.fieldLink RX2 7 "RestartBook$Tables" "size" "I") (by decide +kernel)
  have k13 := hts (.fieldLink RX2 13 "RestartBook$Tables" "works" "[I") (by decide +kernel)
  have k17 := hts (.fieldLink RX2 17 "RestartBook$Tables" "states" "[I") (by decide +kernel)
  have k20 := hts (.fieldLink RX2 20 "RestartBook$Tables" "lasts" "[I") (by decide +kernel)
  have k23 := hts (.fieldLink RX2 23 "RestartBook$Tables" "nexts" "[I") (by decide +kernel)
  have k28 := hts (.fieldLink RX2 28 "RestartBook$Tables" "bases" "[I") (by decide +kernel)
  have hin2 : ∀ w ∈ u_ws RX2 TX2 6, w ∈ wsX2_bringInMissing := in_X2_bringInMissing
  have ho16 := TR_le h
  refine lv_aload_n hx hb dX2_bringInMissing_0 rfl (lv_at hl 1 rfl) ?_
  refine lv_ifnonnull (tgt := 5) hx hb dX2_bringInMissing_1 (by decide) ?_
  refine lv_iconst (v := nI 0) hx hb dX2_bringInMissing_5 (by decide +kernel) ?_
  refine lv_istore_n (lv' := [(2, .int (nI 0)), (0, .ref a), (1, .ref b)]) hx hb dX2_bringInMissing_6 rfl hl (by decide) rfl (fun ls hl => ?_)
  have lp : ∀ (t : Nat) (i : Nat) (g : TW) (F : TF) (H : Heap) (locs : List Loc) (ls : Array Slot), o.1 - i < t → (i ≤ o.1) → (g.1 = i) → (TR g F) → (∀ j, j < i → ∀ w, w ≤ 200 → o.2.1 j = nI w → F w = T w) → (∀ w, (∀ j, j < i → o.2.1 j ≠ nI w) → (F w).1 = 0) → ww D cI (va_A ([(a, .inr (2, [.int (nI v.1), .ref a1, .ref a2, .ref a3, .ref a4, .ref a5])), (a1, .inl (cI, 16, .inl v.2.1)), (a2, .inl (cI, 16, .inl v.2.2.1)), (a3, .inl (cI, 16, .inl v.2.2.2.1)), (a4, .inl (cI, 16, .inl v.2.2.2.2)), (a5, .inl (cI, 64, .inl fb)), (b, .inr (2, [.int (nI o.1), .ref b1, .ref b2, .ref b3, .ref b4, .ref b5])), (b1, .inl (cI, 16, .inl o.2.1)), (b2, .inl (cI, 16, .inl o.2.2.1)), (b3, .inl (cI, 16, .inl o.2.2.2.1)), (b4, .inl (cI, 16, .inl o.2.2.2.2)), (b5, .inl (cI, 64, .inl ob))]) s.heap.size) s.heap s ([(a, .inr (2, [.int (nI g.1), .ref a1, .ref a2, .ref a3, .ref a4, .ref a5])), (a1, .inl (cI, 16, .inl g.2.1)), (a2, .inl (cI, 16, .inl g.2.2.1)), (a3, .inl (cI, 16, .inl g.2.2.2.1)), (a4, .inl (cI, 16, .inl g.2.2.2.2)), (a5, .inl (cI, 64, .inl fb)), (b, .inr (2, [.int (nI o.1), .ref b1, .ref b2, .ref b3, .ref b4, .ref b5])), (b1, .inl (cI, 16, .inl o.2.1)), (b2, .inl (cI, 16, .inl o.2.2.1)), (b3, .inl (cI, 16, .inl o.2.2.2.1)), (b4, .inl (cI, 16, .inl o.2.2.2.2)), (b5, .inl (cI, 64, .inl ob))]) H locs → lv_has ls 4 [(2, .int (nI i)), (0, .ref a), (1, .ref b)] → W p l e { frames := 2, cells := 0, slots := 0, locals := 45 } s m [.ref a, .ref b].toArray below meth c H locs (0) (0) (MQ below (kQ D cI ([(a, .inr (2, [.int (nI v.1), .ref a1, .ref a2, .ref a3, .ref a4, .ref a5])), (a1, .inl (cI, 16, .inl v.2.1)), (a2, .inl (cI, 16, .inl v.2.2.1)), (a3, .inl (cI, 16, .inl v.2.2.2.1)), (a4, .inl (cI, 16, .inl v.2.2.2.2)), (a5, .inl (cI, 64, .inl fb)), (b, .inr (2, [.int (nI o.1), .ref b1, .ref b2, .ref b3, .ref b4, .ref b5])), (b1, .inl (cI, 16, .inl o.2.1)), (b2, .inl (cI, 16, .inl o.2.2.1)), (b3, .inl (cI, 16, .inl o.2.2.2.1)), (b4, .inl (cI, 16, .inl o.2.2.2.2)), (b5, .inl (cI, 64, .inl ob))]) s.heap.size (pV (fun (u : TW × (Nat → Int32)) => TR u.1 T ∧ ∀ p, p < 64 → u.2 p = ob p)) (fun (u : TW × (Nat → Int32)) => [(a, .inr (2, [.int (nI u.1.1), .ref a1, .ref a2, .ref a3, .ref a4, .ref a5])), (a1, .inl (cI, 16, .inl u.1.2.1)), (a2, .inl (cI, 16, .inl u.1.2.2.1)), (a3, .inl (cI, 16, .inl u.1.2.2.2.1)), (a4, .inl (cI, 16, .inl u.1.2.2.2.2)), (a5, .inl (cI, 64, .inl u.2)), (b, .inr (2, [.int (nI o.1), .ref b1, .ref b2, .ref b3, .ref b4, .ref b5])), (b1, .inl (cI, 16, .inl o.2.1)), (b2, .inl (cI, 16, .inl o.2.2.1)), (b3, .inl (cI, 16, .inl o.2.2.2.1)), (b4, .inl (cI, 16, .inl o.2.2.2.2)), (b5, .inl (cI, 64, .inl ob))])) [.ref a, .ref b].toArray s (0) (0) (va_A ([(a, .inr (2, [.int (nI v.1), .ref a1, .ref a2, .ref a3, .ref a4, .ref a5])), (a1, .inl (cI, 16, .inl v.2.1)), (a2, .inl (cI, 16, .inl v.2.2.1)), (a3, .inl (cI, 16, .inl v.2.2.2.1)), (a4, .inl (cI, 16, .inl v.2.2.2.2)), (a5, .inl (cI, 64, .inl fb)), (b, .inr (2, [.int (nI o.1), .ref b1, .ref b2, .ref b3, .ref b4, .ref b5])), (b1, .inl (cI, 16, .inl o.2.1)), (b2, .inl (cI, 16, .inl o.2.2.1)), (b3, .inl (cI, 16, .inl o.2.2.2.1)), (b4, .inl (cI, 16, .inl o.2.2.2.2)), (b5, .inl (cI, 64, .inl ob))]) s.heap.size)) (F0 m 7 ls []) := by
    intro t
    induction t with
    | zero => intro i g F H locs ls ht; exact absurd ht (Nat.not_lt_zero _)
    | succ t ih_7 =>
      intro i g F H locs ls ht hi0 hg1 hF hF1 hF2 hw hl
      refine lv_iload_n hx hb dX2_bringInMissing_7 rfl (lv_at hl 0 rfl) ?_
      refine lv_aload_n hx hb dX2_bringInMissing_8 rfl (lv_at hl 2 rfl) ?_
      refine ww_get hx hb hts hin2 hown hw 6 rfl rfl 0 (by decide) k7 rfl dX2_bringInMissing_9 ?_
      refine lv_icmp_ge (tgt := 74) hx hb dX2_bringInMissing_12 (by decide) (fun c_12 => ?_) (fun c_12 => ?_)
      · have hie : i = o.1 := by have := TR_le h; simp (disch := omega) only [i_le, nI_toInt] at c_12; omega
        have hT : TR g T := TR_ext hF (fun w hw => by
            by_cases q : ∃ j, j < i ∧ o.2.1 j = nI w
            · obtain ⟨j, q1, q2⟩ := q; exact hF1 j q1 w (TR_some hF hw).2.1 q2
            · exact absurd (hF2 w (fun j hj e => q ⟨j, hj, e⟩)) hw) (fun w hw => by
            by_cases z : (T w).1 = 0
            · exact z
            · obtain ⟨-, q0, j, hj, q2⟩ := TR_some h z
              rw [hF1 j (by omega) w q0 q2] at hw
              exact hw)
        refine lv_iconst (v := nI 0) hx hb dX2_bringInMissing_74 (by decide +kernel) ?_
        refine lv_istore_n (lv' := [(2, .int (nI 0)), (0, .ref a), (1, .ref b)]) hx hb dX2_bringInMissing_75 rfl hl (by decide) rfl (fun ls hl => ?_)
        have lp2 : ∀ (t : Nat) (q : Nat) (gb : Nat → Int32) (H : Heap) (locs : List Loc) (ls : Array Slot), 64 - q < t → (q ≤ 64) → (∀ p, p < q → gb p = ob p) → (∀ p, q ≤ p → p < 64 → gb p = 0) → ww D cI (va_A ([(a, .inr (2, [.int (nI v.1), .ref a1, .ref a2, .ref a3, .ref a4, .ref a5])), (a1, .inl (cI, 16, .inl v.2.1)), (a2, .inl (cI, 16, .inl v.2.2.1)), (a3, .inl (cI, 16, .inl v.2.2.2.1)), (a4, .inl (cI, 16, .inl v.2.2.2.2)), (a5, .inl (cI, 64, .inl fb)), (b, .inr (2, [.int (nI o.1), .ref b1, .ref b2, .ref b3, .ref b4, .ref b5])), (b1, .inl (cI, 16, .inl o.2.1)), (b2, .inl (cI, 16, .inl o.2.2.1)), (b3, .inl (cI, 16, .inl o.2.2.2.1)), (b4, .inl (cI, 16, .inl o.2.2.2.2)), (b5, .inl (cI, 64, .inl ob))]) s.heap.size) s.heap s ([(a, .inr (2, [.int (nI g.1), .ref a1, .ref a2, .ref a3, .ref a4, .ref a5])), (a1, .inl (cI, 16, .inl g.2.1)), (a2, .inl (cI, 16, .inl g.2.2.1)), (a3, .inl (cI, 16, .inl g.2.2.2.1)), (a4, .inl (cI, 16, .inl g.2.2.2.2)), (a5, .inl (cI, 64, .inl gb)), (b, .inr (2, [.int (nI o.1), .ref b1, .ref b2, .ref b3, .ref b4, .ref b5])), (b1, .inl (cI, 16, .inl o.2.1)), (b2, .inl (cI, 16, .inl o.2.2.1)), (b3, .inl (cI, 16, .inl o.2.2.2.1)), (b4, .inl (cI, 16, .inl o.2.2.2.2)), (b5, .inl (cI, 64, .inl ob))]) H locs → lv_has ls 4 [(2, .int (nI q)), (0, .ref a), (1, .ref b)] → W p l e { frames := 2, cells := 0, slots := 0, locals := 45 } s m [.ref a, .ref b].toArray below meth c H locs (0) (0) (MQ below (kQ D cI ([(a, .inr (2, [.int (nI v.1), .ref a1, .ref a2, .ref a3, .ref a4, .ref a5])), (a1, .inl (cI, 16, .inl v.2.1)), (a2, .inl (cI, 16, .inl v.2.2.1)), (a3, .inl (cI, 16, .inl v.2.2.2.1)), (a4, .inl (cI, 16, .inl v.2.2.2.2)), (a5, .inl (cI, 64, .inl fb)), (b, .inr (2, [.int (nI o.1), .ref b1, .ref b2, .ref b3, .ref b4, .ref b5])), (b1, .inl (cI, 16, .inl o.2.1)), (b2, .inl (cI, 16, .inl o.2.2.1)), (b3, .inl (cI, 16, .inl o.2.2.2.1)), (b4, .inl (cI, 16, .inl o.2.2.2.2)), (b5, .inl (cI, 64, .inl ob))]) s.heap.size (pV (fun (u : TW × (Nat → Int32)) => TR u.1 T ∧ ∀ p, p < 64 → u.2 p = ob p)) (fun (u : TW × (Nat → Int32)) => [(a, .inr (2, [.int (nI u.1.1), .ref a1, .ref a2, .ref a3, .ref a4, .ref a5])), (a1, .inl (cI, 16, .inl u.1.2.1)), (a2, .inl (cI, 16, .inl u.1.2.2.1)), (a3, .inl (cI, 16, .inl u.1.2.2.2.1)), (a4, .inl (cI, 16, .inl u.1.2.2.2.2)), (a5, .inl (cI, 64, .inl u.2)), (b, .inr (2, [.int (nI o.1), .ref b1, .ref b2, .ref b3, .ref b4, .ref b5])), (b1, .inl (cI, 16, .inl o.2.1)), (b2, .inl (cI, 16, .inl o.2.2.1)), (b3, .inl (cI, 16, .inl o.2.2.2.1)), (b4, .inl (cI, 16, .inl o.2.2.2.2)), (b5, .inl (cI, 64, .inl ob))])) [.ref a, .ref b].toArray s (0) (0) (va_A ([(a, .inr (2, [.int (nI v.1), .ref a1, .ref a2, .ref a3, .ref a4, .ref a5])), (a1, .inl (cI, 16, .inl v.2.1)), (a2, .inl (cI, 16, .inl v.2.2.1)), (a3, .inl (cI, 16, .inl v.2.2.2.1)), (a4, .inl (cI, 16, .inl v.2.2.2.2)), (a5, .inl (cI, 64, .inl fb)), (b, .inr (2, [.int (nI o.1), .ref b1, .ref b2, .ref b3, .ref b4, .ref b5])), (b1, .inl (cI, 16, .inl o.2.1)), (b2, .inl (cI, 16, .inl o.2.2.1)), (b3, .inl (cI, 16, .inl o.2.2.2.1)), (b4, .inl (cI, 16, .inl o.2.2.2.2)), (b5, .inl (cI, 64, .inl ob))]) s.heap.size)) (F0 m 76 ls []) := by
          intro t
          induction t with
          | zero => intro q gb H locs ls ht; exact absurd ht (Nat.not_lt_zero _)
          | succ t ih_76 =>
            intro q gb H locs ls ht hq0 hd1 hd2 hw hl
            refine lv_iload_n hx hb dX2_bringInMissing_76 rfl (lv_at hl 0 rfl) ?_
            refine lv_aload_n hx hb dX2_bringInMissing_77 rfl (lv_at hl 2 rfl) ?_
            refine ww_get hx hb hts hin2 hown hw 6 rfl rfl 5 (by decide) k28 rfl dX2_bringInMissing_78 ?_
            refine ww_alen hx hb hw 11 rfl dX2_bringInMissing_81 ?_
            refine lv_icmp_ge (tgt := 102) hx hb dX2_bringInMissing_82 (by decide) (fun c_82 => ?_) (fun c_82 => ?_)
            · exact ww_vret (u := (g, gb)) hx hb hr hlk hw (⟨hT, fun p hp => hd1 p (by simp (disch := omega) only [i_le, nI_toInt] at c_82; omega)⟩) (Nat.le_of_ble_eq_true rfl) (Nat.le_of_ble_eq_true rfl) rfl dX2_bringInMissing_102
            · have hq : q < 64 := by simp (disch := omega) only [i_le, nI_toInt] at c_82; omega
              refine lv_aload_n hx hb dX2_bringInMissing_85 rfl (lv_at hl 1 rfl) ?_
              refine lv_iload_n hx hb dX2_bringInMissing_86 rfl (lv_at hl 0 rfl) ?_
              refine lv_aload_n hx hb dX2_bringInMissing_87 rfl (lv_at hl 2 rfl) ?_
              refine ww_get hx hb hts hin2 hown hw 6 rfl rfl 5 (by decide) k28 rfl dX2_bringInMissing_88 ?_
              refine lv_iload_n hx hb dX2_bringInMissing_91 rfl (lv_at hl 0 rfl) ?_
              refine ww_iald hx hb hw 11 rfl q rfl (by omega) (by omega) dX2_bringInMissing_92 ?_
              refine ww_callV ([]) ([(b, .inr (2, [.int (nI o.1), .ref b1, .ref b2, .ref b3, .ref b4, .ref b5])), (b1, .inl (cI, 16, .inl o.2.1)), (b2, .inl (cI, 16, .inl o.2.2.1)), (b3, .inl (cI, 16, .inl o.2.2.2.1)), (b4, .inl (cI, 16, .inl o.2.2.2.2)), (b5, .inl (cI, 64, .inl ob))]) (As := [.int (nI q), .int (ob q)]) (rest := []) ⟨hx, hb, hml, hown, hts⟩ (cT_makeDirty l D cI a a1 a2 a3 a4 a5 g gb q (ob q) hq) gX2_bringInMissing_X2_makeDirty rfl hd_X2_makeDirty ⟨Nat.le_of_ble_eq_true rfl, Nat.le_of_ble_eq_true rfl⟩ hw rfl rfl rfl rfl rfl hl.1 (Nat.le_of_ble_eq_true rfl) dX2_bringInMissing_93 ⟨Nat.le_of_ble_eq_true rfl, Nat.le_of_ble_eq_true rfl⟩ (fun v2 u H locs hq2 hw => ?_)
              obtain ⟨u5, rfl⟩ : ∃ q, q = u := ⟨_, rfl⟩
              obtain ⟨rfl, hu5⟩ := hq2
              have hw : ww D cI _ _ s ([(a, .inr (2, [.int (nI g.1), .ref a1, .ref a2, .ref a3, .ref a4, .ref a5])), (a1, .inl (cI, 16, .inl g.2.1)), (a2, .inl (cI, 16, .inl g.2.2.1)), (a3, .inl (cI, 16, .inl g.2.2.2.1)), (a4, .inl (cI, 16, .inl g.2.2.2.2)), (a5, .inl (cI, 64, .inl u5)), (b, .inr (2, [.int (nI o.1), .ref b1, .ref b2, .ref b3, .ref b4, .ref b5])), (b1, .inl (cI, 16, .inl o.2.1)), (b2, .inl (cI, 16, .inl o.2.2.1)), (b3, .inl (cI, 16, .inl o.2.2.2.1)), (b4, .inl (cI, 16, .inl o.2.2.2.2)), (b5, .inl (cI, 64, .inl ob))]) H locs := hw
              refine W.eq (g2 := F0 m 96 ls []) rfl ?_
              rw [if_pos (hd2 q (Nat.le_refl _) hq)] at hu5
              refine lv_iinc (v := nI (q + 1)) (lv' := [(2, .int (nI (q + 1))), (0, .ref a), (1, .ref b)]) hx hb dX2_bringInMissing_96 hl (k := 0) rfl (nI_add _ _) (by decide) rfl (fun ls hl => ?_)
              refine lv_goto (tgt := 76) hx hb dX2_bringInMissing_99 (by decide) ?_
              exact ih_76 (q + 1) u5 _ _ _ (by omega) (by omega) (fun p hp => by rw [hu5]; by_cases e : p = q; (rw [e]; simp [upd]); (simp only [upd, if_neg e]; exact hd1 p (by omega))) (fun p p1 p2 => by rw [hu5]; simp only [upd, if_neg (show p ≠ q by omega)]; exact hd2 p (by omega) p2) hw (lv_sub hl [0, 1, 2] rfl)
        exact lp2 ((64 - (0)) + 1) 0 fb _ _ _ (Nat.lt_succ_self _) (Nat.zero_le _) (fun p hp => absurd hp (Nat.not_lt_zero _)) (fun p _ p2 => (hfb p p2).trans nI_0) hw (lv_sub hl [0, 1, 2] rfl)
      · have hi : i < o.1 := by simp (disch := omega) only [i_le, nI_toInt] at c_12; omega
        have hi16 : i < 16 := by have := TR_le h; omega
        obtain ⟨w, hw1, hw2, hw3⟩ := TR_mem h hi
        have hat := TR_at h (by omega) hi hw2
        have hFz : (F w).1 = 0 := hF2 w (fun j hj q => by have := TR_inj h (show j < o.1 by omega) hi (q.trans hw2.symm); omega)
        refine lv_aload_n hx hb dX2_bringInMissing_15 rfl (lv_at hl 2 rfl) ?_
        refine ww_get hx hb hts hin2 hown hw 6 rfl rfl 1 (by decide) k13 rfl dX2_bringInMissing_16 ?_
        refine lv_iload_n hx hb dX2_bringInMissing_19 rfl (lv_at hl 0 rfl) ?_
        refine ww_iald hx hb hw 7 rfl i rfl (by omega) (by omega) dX2_bringInMissing_20 ?_
        refine lv_eqi (show _ = nI w from hw2) ?_
        refine lv_istore_n (lv' := [(3, .int (nI w)), (2, .int (nI i)), (0, .ref a), (1, .ref b)]) hx hb dX2_bringInMissing_21 rfl hl (by decide) rfl (fun ls hl => ?_)
        refine lv_aload_n hx hb dX2_bringInMissing_22 rfl (lv_at hl 2 rfl) ?_
        refine lv_iload_n hx hb dX2_bringInMissing_23 rfl (lv_at hl 0 rfl) ?_
        refine ww_callV ([]) ([(b, .inr (2, [.int (nI o.1), .ref b1, .ref b2, .ref b3, .ref b4, .ref b5])), (b1, .inl (cI, 16, .inl o.2.1)), (b2, .inl (cI, 16, .inl o.2.2.1)), (b3, .inl (cI, 16, .inl o.2.2.2.1)), (b4, .inl (cI, 16, .inl o.2.2.2.2)), (b5, .inl (cI, 64, .inl ob))]) (As := [.int (nI w)]) (rest := []) ⟨hx, hb, hml, hown, hts⟩ (cT_holds l D cI a a1 a2 a3 a4 a5 g fb F hF (nI w)) gX2_bringInMissing_X2_holds rfl hd_X2_holds ⟨Nat.le_of_ble_eq_true rfl, Nat.le_of_ble_eq_true rfl⟩ hw rfl rfl rfl rfl rfl hl.1 (Nat.le_of_ble_eq_true rfl) dX2_bringInMissing_24 ⟨Nat.le_of_ble_eq_true rfl, Nat.le_of_ble_eq_true rfl⟩ (fun v2 u H locs hq hw => ?_)
        obtain ⟨r, rfl, hq⟩ := hq
        obtain ⟨rfl, -⟩ := hq.resolve_left (fun q => by obtain ⟨-, w2, q1, q2, q3⟩ := q; exact q3 (by rw [← (nI_eq (by omega) (by omega)).mp q2]; exact hFz))
        have hw : ww D cI _ _ s ([(a, .inr (2, [.int (nI g.1), .ref a1, .ref a2, .ref a3, .ref a4, .ref a5])), (a1, .inl (cI, 16, .inl g.2.1)), (a2, .inl (cI, 16, .inl g.2.2.1)), (a3, .inl (cI, 16, .inl g.2.2.2.1)), (a4, .inl (cI, 16, .inl g.2.2.2.2)), (a5, .inl (cI, 64, .inl fb)), (b, .inr (2, [.int (nI o.1), .ref b1, .ref b2, .ref b3, .ref b4, .ref b5])), (b1, .inl (cI, 16, .inl o.2.1)), (b2, .inl (cI, 16, .inl o.2.2.1)), (b3, .inl (cI, 16, .inl o.2.2.2.1)), (b4, .inl (cI, 16, .inl o.2.2.2.2)), (b5, .inl (cI, 64, .inl ob))]) H locs := hw
        refine W.eq (g2 := F0 m 27 ls [.int (0)]) rfl ?_
        refine lv_if_ne (tgt := 68) hx hb dX2_bringInMissing_27 (by decide) (fun c_27 => absurd c_27 (fun q => q rfl)) (fun c_27 => ?_)
        refine lv_aload_n hx hb dX2_bringInMissing_30 rfl (lv_at hl 2 rfl) ?_
        refine lv_iload_n hx hb dX2_bringInMissing_31 rfl (lv_at hl 0 rfl) ?_
        refine ww_callV ([]) ([(b, .inr (2, [.int (nI o.1), .ref b1, .ref b2, .ref b3, .ref b4, .ref b5])), (b1, .inl (cI, 16, .inl o.2.1)), (b2, .inl (cI, 16, .inl o.2.2.1)), (b3, .inl (cI, 16, .inl o.2.2.2.1)), (b4, .inl (cI, 16, .inl o.2.2.2.2)), (b5, .inl (cI, 64, .inl ob))]) (As := [.int (nI w)]) (rest := []) ⟨hx, hb, hml, hown, hts⟩ (cT_bringIn l D cI a a1 a2 a3 a4 a5 g fb F hF w hat.1 hw1 (Or.inr (by omega))) gX2_bringInMissing_X2_bringIn rfl hd_X2_bringIn ⟨Nat.le_of_ble_eq_true rfl, Nat.le_of_ble_eq_true rfl⟩ hw rfl rfl rfl rfl rfl hl.1 (Nat.le_of_ble_eq_true rfl) dX2_bringInMissing_32 ⟨Nat.le_of_ble_eq_true rfl, Nat.le_of_ble_eq_true rfl⟩ (fun v2 u H locs hq hw => ?_)
        obtain ⟨g2, rfl⟩ : ∃ q, q = u := ⟨_, rfl⟩
        obtain ⟨rfl, hg2, hF3⟩ := hq
        have hw : ww D cI _ _ s ([(a, .inr (2, [.int (nI g2.1), .ref a1, .ref a2, .ref a3, .ref a4, .ref a5])), (a1, .inl (cI, 16, .inl g2.2.1)), (a2, .inl (cI, 16, .inl g2.2.2.1)), (a3, .inl (cI, 16, .inl g2.2.2.2.1)), (a4, .inl (cI, 16, .inl g2.2.2.2.2)), (a5, .inl (cI, 64, .inl fb)), (b, .inr (2, [.int (nI o.1), .ref b1, .ref b2, .ref b3, .ref b4, .ref b5])), (b1, .inl (cI, 16, .inl o.2.1)), (b2, .inl (cI, 16, .inl o.2.2.1)), (b3, .inl (cI, 16, .inl o.2.2.2.1)), (b4, .inl (cI, 16, .inl o.2.2.2.2)), (b5, .inl (cI, 64, .inl ob))]) H locs := hw
        refine W.eq (g2 := F0 m 35 ls []) rfl ?_
        rw [if_pos hFz] at hg2 hF3
        rw [hg1] at hg2
        refine lv_aload_n hx hb dX2_bringInMissing_35 rfl (lv_at hl 2 rfl) ?_
        refine W.eq (g2 := F0 m 36 ls [.ref a]) rfl ?_
        refine lv_iload_n hx hb dX2_bringInMissing_36 rfl (lv_at hl 0 rfl) ?_
        refine lv_aload_n hx hb dX2_bringInMissing_37 rfl (lv_at hl 3 rfl) ?_
        refine ww_get hx hb hts hin2 hown hw 6 rfl rfl 2 (by decide) k17 rfl dX2_bringInMissing_38 ?_
        refine lv_iload_n hx hb dX2_bringInMissing_41 rfl (lv_at hl 1 rfl) ?_
        refine ww_iald hx hb hw 8 rfl i rfl (by omega) (by omega) dX2_bringInMissing_42 ?_
        refine lv_eqi (show _ = nI (T w).1 from hat.2.2.2.1) ?_
        refine ww_callV ([]) ([(b, .inr (2, [.int (nI o.1), .ref b1, .ref b2, .ref b3, .ref b4, .ref b5])), (b1, .inl (cI, 16, .inl o.2.1)), (b2, .inl (cI, 16, .inl o.2.2.1)), (b3, .inl (cI, 16, .inl o.2.2.2.1)), (b4, .inl (cI, 16, .inl o.2.2.2.2)), (b5, .inl (cI, 64, .inl ob))]) (As := [.int (nI w), .int (nI (T w).1)]) (rest := []) ⟨hx, hb, hml, hown, hts⟩ (cT_setState l D cI a a1 a2 a3 a4 a5 g2 fb _ hF3 w (T w).1 (by omega) (by simp [va_up]) hw3) gX2_bringInMissing_X2_setState rfl hd_X2_setState ⟨Nat.le_of_ble_eq_true rfl, Nat.le_of_ble_eq_true rfl⟩ hw rfl rfl rfl rfl rfl hl.1 (Nat.le_of_ble_eq_true rfl) dX2_bringInMissing_43 ⟨Nat.le_of_ble_eq_true rfl, Nat.le_of_ble_eq_true rfl⟩ (fun v2 u H locs hq hw => ?_)
        obtain ⟨u2, rfl⟩ : ∃ q, q = u := ⟨_, rfl⟩
        obtain ⟨rfl, hF4⟩ := hq
        have hw : ww D cI _ _ s ([(a, .inr (2, [.int (nI g2.1), .ref a1, .ref a2, .ref a3, .ref a4, .ref a5])), (a1, .inl (cI, 16, .inl g2.2.1)), (a2, .inl (cI, 16, .inl u2)), (a3, .inl (cI, 16, .inl g2.2.2.2.1)), (a4, .inl (cI, 16, .inl g2.2.2.2.2)), (a5, .inl (cI, 64, .inl fb)), (b, .inr (2, [.int (nI o.1), .ref b1, .ref b2, .ref b3, .ref b4, .ref b5])), (b1, .inl (cI, 16, .inl o.2.1)), (b2, .inl (cI, 16, .inl o.2.2.1)), (b3, .inl (cI, 16, .inl o.2.2.2.1)), (b4, .inl (cI, 16, .inl o.2.2.2.2)), (b5, .inl (cI, 64, .inl ob))]) H locs := hw
        refine W.eq (g2 := F0 m 46 ls []) rfl ?_
        rw [up4 F w (1, 0, 0) (fun q => ((T w).1, q.2.1, q.2.2))] at hF4
        dsimp only at hF4
        refine lv_aload_n hx hb dX2_bringInMissing_46 rfl (lv_at hl 2 rfl) ?_
        refine lv_iload_n hx hb dX2_bringInMissing_47 rfl (lv_at hl 0 rfl) ?_
        refine lv_aload_n hx hb dX2_bringInMissing_48 rfl (lv_at hl 3 rfl) ?_
        refine ww_get hx hb hts hin2 hown hw 6 rfl rfl 3 (by decide) k20 rfl dX2_bringInMissing_49 ?_
        refine lv_iload_n hx hb dX2_bringInMissing_52 rfl (lv_at hl 1 rfl) ?_
        refine ww_iald hx hb hw 9 rfl i rfl (by omega) (by omega) dX2_bringInMissing_53 ?_
        refine lv_eqi (show _ = nI (T w).2.1 from hat.2.2.2.2.1) ?_
        refine ww_callV ([]) ([(b, .inr (2, [.int (nI o.1), .ref b1, .ref b2, .ref b3, .ref b4, .ref b5])), (b1, .inl (cI, 16, .inl o.2.1)), (b2, .inl (cI, 16, .inl o.2.2.1)), (b3, .inl (cI, 16, .inl o.2.2.2.1)), (b4, .inl (cI, 16, .inl o.2.2.2.2)), (b5, .inl (cI, 64, .inl ob))]) (As := [.int (nI w), .int (nI (T w).2.1)]) (rest := []) ⟨hx, hb, hml, hown, hts⟩ (cT_setLast l D cI a a1 a2 a3 a4 a5 (g2.1, g2.2.1, u2, g2.2.2.2.1, g2.2.2.2.2) fb _ hF4 w (T w).2.1 (by omega) (by simp [va_up]; exact hw3)) gX2_bringInMissing_X2_setLast rfl hd_X2_setLast ⟨Nat.le_of_ble_eq_true rfl, Nat.le_of_ble_eq_true rfl⟩ hw rfl rfl rfl rfl rfl hl.1 (Nat.le_of_ble_eq_true rfl) dX2_bringInMissing_54 ⟨Nat.le_of_ble_eq_true rfl, Nat.le_of_ble_eq_true rfl⟩ (fun v2 u H locs hq hw => ?_)
        obtain ⟨u3, rfl⟩ : ∃ q, q = u := ⟨_, rfl⟩
        obtain ⟨rfl, hF4⟩ := hq
        have hw : ww D cI _ _ s ([(a, .inr (2, [.int (nI g2.1), .ref a1, .ref a2, .ref a3, .ref a4, .ref a5])), (a1, .inl (cI, 16, .inl g2.2.1)), (a2, .inl (cI, 16, .inl u2)), (a3, .inl (cI, 16, .inl u3)), (a4, .inl (cI, 16, .inl g2.2.2.2.2)), (a5, .inl (cI, 64, .inl fb)), (b, .inr (2, [.int (nI o.1), .ref b1, .ref b2, .ref b3, .ref b4, .ref b5])), (b1, .inl (cI, 16, .inl o.2.1)), (b2, .inl (cI, 16, .inl o.2.2.1)), (b3, .inl (cI, 16, .inl o.2.2.2.1)), (b4, .inl (cI, 16, .inl o.2.2.2.2)), (b5, .inl (cI, 64, .inl ob))]) H locs := hw
        refine W.eq (g2 := F0 m 57 ls []) rfl ?_
        rw [up4 F w ((T w).1, 0, 0) (fun q => (q.1, (T w).2.1, q.2.2))] at hF4
        dsimp only at hF4
        refine lv_aload_n hx hb dX2_bringInMissing_57 rfl (lv_at hl 2 rfl) ?_
        refine W.eq (g2 := F0 m 58 ls [.ref a]) rfl ?_
        refine lv_iload_n hx hb dX2_bringInMissing_58 rfl (lv_at hl 0 rfl) ?_
        refine lv_aload_n hx hb dX2_bringInMissing_59 rfl (lv_at hl 3 rfl) ?_
        refine ww_get hx hb hts hin2 hown hw 6 rfl rfl 4 (by decide) k23 rfl dX2_bringInMissing_60 ?_
        refine lv_iload_n hx hb dX2_bringInMissing_63 rfl (lv_at hl 1 rfl) ?_
        refine ww_iald hx hb hw 10 rfl i rfl (by omega) (by omega) dX2_bringInMissing_64 ?_
        refine lv_eqi (show _ = nI (T w).2.2 from hat.2.2.2.2.2) ?_
        refine ww_callV ([]) ([(b, .inr (2, [.int (nI o.1), .ref b1, .ref b2, .ref b3, .ref b4, .ref b5])), (b1, .inl (cI, 16, .inl o.2.1)), (b2, .inl (cI, 16, .inl o.2.2.1)), (b3, .inl (cI, 16, .inl o.2.2.2.1)), (b4, .inl (cI, 16, .inl o.2.2.2.2)), (b5, .inl (cI, 64, .inl ob))]) (As := [.int (nI w), .int (nI (T w).2.2)]) (rest := []) ⟨hx, hb, hml, hown, hts⟩ (cT_setNext l D cI a a1 a2 a3 a4 a5 (g2.1, g2.2.1, u2, u3, g2.2.2.2.2) fb _ hF4 w (T w).2.2 (by omega) (by simp [va_up]; exact hw3)) gX2_bringInMissing_X2_setNext rfl hd_X2_setNext ⟨Nat.le_of_ble_eq_true rfl, Nat.le_of_ble_eq_true rfl⟩ hw rfl rfl rfl rfl rfl hl.1 (Nat.le_of_ble_eq_true rfl) dX2_bringInMissing_65 ⟨Nat.le_of_ble_eq_true rfl, Nat.le_of_ble_eq_true rfl⟩ (fun v2 u H locs hq hw => ?_)
        obtain ⟨u4, rfl⟩ : ∃ q, q = u := ⟨_, rfl⟩
        obtain ⟨rfl, hF5⟩ := hq
        have hw : ww D cI _ _ s ([(a, .inr (2, [.int (nI g2.1), .ref a1, .ref a2, .ref a3, .ref a4, .ref a5])), (a1, .inl (cI, 16, .inl g2.2.1)), (a2, .inl (cI, 16, .inl u2)), (a3, .inl (cI, 16, .inl u3)), (a4, .inl (cI, 16, .inl u4)), (a5, .inl (cI, 64, .inl fb)), (b, .inr (2, [.int (nI o.1), .ref b1, .ref b2, .ref b3, .ref b4, .ref b5])), (b1, .inl (cI, 16, .inl o.2.1)), (b2, .inl (cI, 16, .inl o.2.2.1)), (b3, .inl (cI, 16, .inl o.2.2.2.1)), (b4, .inl (cI, 16, .inl o.2.2.2.2)), (b5, .inl (cI, 64, .inl ob))]) H locs := hw
        refine W.eq (g2 := F0 m 68 ls []) rfl ?_
        rw [up4 F w ((T w).1, (T w).2.1, 0) (fun q => (q.1, q.2.1, (T w).2.2))] at hF5
        dsimp only at hF5
        refine lv_iinc (v := nI (i + 1)) (lv' := [(2, .int (nI (i + 1))), (3, .int (nI w)), (0, .ref a), (1, .ref b)]) hx hb dX2_bringInMissing_68 hl (k := 1) rfl (nI_add _ _) (by decide) rfl (fun ls hl => ?_)
        refine lv_goto (tgt := 7) hx hb dX2_bringInMissing_71 (by decide) ?_
        exact ih_7 (i + 1) (g2.1, g2.2.1, u2, u3, u4) (va_up F w (T w)) _ _ _ (by omega) (by omega) hg2 hF5 (fun j hj w2 hw2b he2 => by by_cases e : w2 = w; (rw [e]; simp [va_up]); (simp only [va_up, if_neg e]; rcases Nat.lt_succ_iff_lt_or_eq.mp hj with q | q; exact hF1 j q w2 hw2b he2; (subst q; exact absurd (nI_200 h hi he2 hw2 hw1) e))) (fun w2 hn => by have e : w2 ≠ w := fun e => hn i (Nat.lt_succ_self _) (by rw [e]; exact hw2); simp only [va_up, if_neg e]; exact hF2 w2 (fun j hj => hn j (Nat.lt_succ_of_lt hj))) hw (lv_sub hl [0, 2, 3] rfl)
  exact lp ((o.1 - (0)) + 1) 0 v (fun _ => (0, 0, 0)) _ _ _ (Nat.lt_succ_self _) (Nat.zero_le _) hv0 (TR_0 hv0) (fun j hj => absurd hj (Nat.not_lt_zero _)) (fun _ _ => rfl) hw (lv_sub hl [0, 1, 2] rfl)
set_option maxHeartbeats 4000000 in
set_option maxRecDepth 100000 in
theorem cT_becomeLike (l : Launch) (D : va_G) (cI : ClassId) (a a1 a2 a3 a4 a5 b b1 b2 b3 b4 b5 : Nat) (v o : TW) (fb ob : Nat → Int32) (T : TF) (h : TR o T) (hb2 : TB T) : Kt l yX2_becomeLike wsX2_becomeLike 3 68 (0) (0) D cI [.ref a, .ref b] ([(a, .inr (2, [.int (nI v.1), .ref a1, .ref a2, .ref a3, .ref a4, .ref a5])), (a1, .inl (cI, 16, .inl v.2.1)), (a2, .inl (cI, 16, .inl v.2.2.1)), (a3, .inl (cI, 16, .inl v.2.2.2.1)), (a4, .inl (cI, 16, .inl v.2.2.2.2)), (a5, .inl (cI, 64, .inl fb)), (b, .inr (2, [.int (nI o.1), .ref b1, .ref b2, .ref b3, .ref b4, .ref b5])), (b1, .inl (cI, 16, .inl o.2.1)), (b2, .inl (cI, 16, .inl o.2.2.1)), (b3, .inl (cI, 16, .inl o.2.2.2.1)), (b4, .inl (cI, 16, .inl o.2.2.2.2)), (b5, .inl (cI, 64, .inl ob))]) (pV (fun (u : TW × (Nat → Int32)) => TR u.1 T ∧ ∀ p, p < 64 → u.2 p = ob p)) (fun (u : TW × (Nat → Int32)) => [(a, .inr (2, [.int (nI u.1.1), .ref a1, .ref a2, .ref a3, .ref a4, .ref a5])), (a1, .inl (cI, 16, .inl u.1.2.1)), (a2, .inl (cI, 16, .inl u.1.2.2.1)), (a3, .inl (cI, 16, .inl u.1.2.2.2.1)), (a4, .inl (cI, 16, .inl u.1.2.2.2.2)), (a5, .inl (cI, 64, .inl u.2)), (b, .inr (2, [.int (nI o.1), .ref b1, .ref b2, .ref b3, .ref b4, .ref b5])), (b1, .inl (cI, 16, .inl o.2.1)), (b2, .inl (cI, 16, .inl o.2.2.1)), (b3, .inl (cI, 16, .inl o.2.2.2.1)), (b4, .inl (cI, 16, .inl o.2.2.2.2)), (b5, .inl (cI, 64, .inl ob))]) := by
  refine kt_start (cc := cX2_becomeLike) (maxL := 2) (ret := none) (by decide +kernel) rfl (Nat.le_of_ble_eq_true rfl) ?_
  intro p e s m below meth c hx hb hml hr hlk hown hnm hts ls hl hw
  have hown : s.vm.findClass RX2 = some m.cls := hown
  have hl : lv_has ls 2 [(0, .ref a), (1, .ref b)] := hl
  refine lv_aload_n hx hb dX2_becomeLike_0 rfl (lv_at hl 0 rfl) ?_
  refine ww_callV ([]) ([(b, .inr (2, [.int (nI o.1), .ref b1, .ref b2, .ref b3, .ref b4, .ref b5])), (b1, .inl (cI, 16, .inl o.2.1)), (b2, .inl (cI, 16, .inl o.2.2.1)), (b3, .inl (cI, 16, .inl o.2.2.2.1)), (b4, .inl (cI, 16, .inl o.2.2.2.2)), (b5, .inl (cI, 64, .inl ob))]) (As := []) (rest := []) ⟨hx, hb, hml, hown, hts⟩ (cT_makeEmpty l D cI a a1 a2 a3 a4 a5 v fb) gX2_becomeLike_X2_makeEmpty rfl hd_X2_makeEmpty ⟨Nat.le_of_ble_eq_true rfl, Nat.le_of_ble_eq_true rfl⟩ hw rfl rfl rfl rfl rfl hl.1 (Nat.le_of_ble_eq_true rfl) dX2_becomeLike_1 ⟨Nat.le_of_ble_eq_true rfl, Nat.le_of_ble_eq_true rfl⟩ (fun v2 u H locs hq hw => ?_)
  obtain ⟨u5, rfl⟩ : ∃ q, q = u := ⟨_, rfl⟩
  obtain ⟨rfl, hu5⟩ := hq
  have hw : ww D cI _ _ s ([(a, .inr (2, [.int (nI 0), .ref a1, .ref a2, .ref a3, .ref a4, .ref a5])), (a1, .inl (cI, 16, .inl v.2.1)), (a2, .inl (cI, 16, .inl v.2.2.1)), (a3, .inl (cI, 16, .inl v.2.2.2.1)), (a4, .inl (cI, 16, .inl v.2.2.2.2)), (a5, .inl (cI, 64, .inl u5)), (b, .inr (2, [.int (nI o.1), .ref b1, .ref b2, .ref b3, .ref b4, .ref b5])), (b1, .inl (cI, 16, .inl o.2.1)), (b2, .inl (cI, 16, .inl o.2.2.1)), (b3, .inl (cI, 16, .inl o.2.2.2.1)), (b4, .inl (cI, 16, .inl o.2.2.2.2)), (b5, .inl (cI, 64, .inl ob))]) H locs := hw
  refine W.eq (g2 := F0 m 4 ls []) rfl ?_
  refine lv_aload_n hx hb dX2_becomeLike_4 rfl (lv_at hl 0 rfl) ?_
  refine lv_aload_n hx hb dX2_becomeLike_5 rfl (lv_at hl 1 rfl) ?_
  refine ww_callV ([]) ([]) (As := [.ref b]) (rest := []) ⟨hx, hb, hml, hown, hts⟩ (cT_bringInMissing l D cI a a1 a2 a3 a4 a5 b b1 b2 b3 b4 b5 (0, v.2.1, v.2.2.1, v.2.2.2.1, v.2.2.2.2) o u5 ob T h hb2 rfl hu5) gX2_becomeLike_X2_bringInMissing rfl hd_X2_bringInMissing ⟨Nat.le_of_ble_eq_true rfl, Nat.le_of_ble_eq_true rfl⟩ hw rfl rfl rfl rfl rfl hl.1 (Nat.le_of_ble_eq_true rfl) dX2_becomeLike_6 ⟨Nat.le_of_ble_eq_true rfl, Nat.le_of_ble_eq_true rfl⟩ (fun v2 u H locs hq hw => ?_)
  obtain ⟨rfl, hq⟩ := hq
  have hw : ww D cI _ _ s ([(a, .inr (2, [.int (nI u.1.1), .ref a1, .ref a2, .ref a3, .ref a4, .ref a5])), (a1, .inl (cI, 16, .inl u.1.2.1)), (a2, .inl (cI, 16, .inl u.1.2.2.1)), (a3, .inl (cI, 16, .inl u.1.2.2.2.1)), (a4, .inl (cI, 16, .inl u.1.2.2.2.2)), (a5, .inl (cI, 64, .inl u.2)), (b, .inr (2, [.int (nI o.1), .ref b1, .ref b2, .ref b3, .ref b4, .ref b5])), (b1, .inl (cI, 16, .inl o.2.1)), (b2, .inl (cI, 16, .inl o.2.2.1)), (b3, .inl (cI, 16, .inl o.2.2.2.1)), (b4, .inl (cI, 16, .inl o.2.2.2.2)), (b5, .inl (cI, 64, .inl ob))]) H locs := hw
  refine W.eq (g2 := F0 m 9 ls []) rfl ?_
  exact ww_vret (u := u) hx hb hr hlk hw (hq) (Nat.le_of_ble_eq_true rfl) (Nat.le_of_ble_eq_true rfl) rfl dX2_becomeLike_9
set_option maxHeartbeats 4000000 in
set_option maxRecDepth 100000 in
theorem cT_init (l : Launch) (D : va_G) (cI : ClassId) (a : Nat) : Kt l yX2_init wsX2_init 1 12 (5) (128) D cI [.ref a] ([(a, .inr (2, [.int 0, .null, .null, .null, .null, .null]))]) (pV (fun (u : Nat × Nat × Nat × Nat × Nat) => True)) (fun (u : Nat × Nat × Nat × Nat × Nat) => [(a, .inr (2, [.int (nI 0), .ref u.1, .ref u.2.1, .ref u.2.2.1, .ref u.2.2.2.1, .ref u.2.2.2.2])), (u.1, .inl (cI, 16, .inl (fun _ => 0))), (u.2.1, .inl (cI, 16, .inl (fun _ => 0))), (u.2.2.1, .inl (cI, 16, .inl (fun _ => 0))), (u.2.2.2.1, .inl (cI, 16, .inl (fun _ => 0))), (u.2.2.2.2, .inl (cI, 64, .inl (fun _ => 0)))]) := by
  refine kt_start (cc := cX2_init) (maxL := 1) (ret := none) (by decide +kernel) rfl (Nat.le_of_ble_eq_true rfl) ?_
  intro p e s m below meth c hx hb hml hr hlk hown hnm hts ls hl hw
  have hown : s.vm.findClass RX2 = some m.cls := hown
  have hl : lv_has ls 1 [(0, .ref a)] := hl
  have k7 := hts (.fieldLink RX2 7 "RestartBook$Tables" "size" "I") (by decide +kernel)
  have k13 := hts (.fieldLink RX2 13 "RestartBook$Tables" "works" "[I") (by decide +kernel)
  have k17 := hts (.fieldLink RX2 17 "RestartBook$Tables" "states" "[I") (by decide +kernel)
  have k20 := hts (.fieldLink RX2 20 "RestartBook$Tables" "lasts" "[I") (by decide +kernel)
  have k23 := hts (.fieldLink RX2 23 "RestartBook$Tables" "nexts" "[I") (by decide +kernel)
  have k28 := hts (.fieldLink RX2 28 "RestartBook$Tables" "bases" "[I") (by decide +kernel)
  have hin2 : ∀ w ∈ u_ws RX2 TX2 6, w ∈ wsX2_init := in_X2_init
  have harr := hts (.arrayClass .int) (by decide +kernel)
  refine lv_aload_n hx hb dX2_init_0 rfl (lv_at hl 0 rfl) ?_
  refine W.objInit hx hb hown (hts (.methodLink RX2 1 objectInit) (by decide +kernel)) (hts (.instanceMethod objectInit) (by decide +kernel)) (hts _ (List.mem_of_getElem? (l := wsX2_init) (i := 3) rfl)) rfl (by rw [hml]; exact hl.1) rfl dX2_init_1 (Nat.le_of_ble_eq_true rfl) (Nat.le_of_ble_eq_true rfl) ?_
  refine W.eq (g2 := F0 m 4 ls []) rfl ?_
  refine lv_aload_n hx hb dX2_init_4 rfl (lv_at hl 0 rfl) ?_
  refine lv_iconst (v := nI 0) hx hb dX2_init_5 (by decide +kernel) ?_
  refine ww_put (ws' := [(a, .inr (2, [.int (nI 0), .null, .null, .null, .null, .null]))]) hx hb hts hin2 tyX2 tyX2_ok nmX2 hown hw 0 rfl rfl 0 (by decide) k7 rfl rfl rfl (Nat.le_of_ble_eq_true rfl) rfl dX2_init_6 (fun H locs hw => ?_)
  refine lv_aload_n hx hb dX2_init_9 rfl (lv_at hl 0 rfl) ?_
  refine lv_bipush (v := nI 16) hx hb dX2_init_10 (by decide +kernel) ?_
  refine ww_newa (N := 16) hx hb harr hw rfl (by omega) (Nat.le_of_ble_eq_true rfl) (Nat.le_of_ble_eq_true rfl) dX2_init_12 (fun q12 H hw => ?_)
  have hw : ww D cI _ _ s ([(a, .inr (2, [.int (nI 0), .null, .null, .null, .null, .null])), (q12, .inl (cI, 16, .inl (fun _ => 0)))]) H _ := hw
  refine ww_putF (ws' := [(a, .inr (2, [.int (nI 0), .ref q12, .null, .null, .null, .null])), (q12, .inl (cI, 16, .inl (fun _ => 0)))]) hx hb hts hin2 tyX2 tyX2_ok nmX2 hown hw 0 rfl rfl 1 (by decide) k13 rfl hnm rfl rfl rfl (Nat.le_of_ble_eq_true rfl) rfl dX2_init_14 (fun H locs hw => ?_)
  refine lv_aload_n hx hb dX2_init_17 rfl (lv_at hl 0 rfl) ?_
  refine lv_bipush (v := nI 16) hx hb dX2_init_18 (by decide +kernel) ?_
  refine W.eq (g2 := F0 m 20 ls [.int (nI 16), .ref a]) rfl ?_
  refine ww_newa (N := 16) hx hb harr hw rfl (by omega) (Nat.le_of_ble_eq_true rfl) (Nat.le_of_ble_eq_true rfl) dX2_init_20 (fun q20 H hw => ?_)
  have hw : ww D cI _ _ s ([(a, .inr (2, [.int (nI 0), .ref q12, .null, .null, .null, .null])), (q12, .inl (cI, 16, .inl (fun _ => 0))), (q20, .inl (cI, 16, .inl (fun _ => 0)))]) H _ := hw
  refine ww_putF (ws' := [(a, .inr (2, [.int (nI 0), .ref q12, .ref q20, .null, .null, .null])), (q12, .inl (cI, 16, .inl (fun _ => 0))), (q20, .inl (cI, 16, .inl (fun _ => 0)))]) hx hb hts hin2 tyX2 tyX2_ok nmX2 hown hw 0 rfl rfl 2 (by decide) k17 rfl hnm rfl rfl rfl (Nat.le_of_ble_eq_true rfl) rfl dX2_init_22 (fun H locs hw => ?_)
  refine lv_aload_n hx hb dX2_init_25 rfl (lv_at hl 0 rfl) ?_
  refine lv_bipush (v := nI 16) hx hb dX2_init_26 (by decide +kernel) ?_
  refine ww_newa (N := 16) hx hb harr hw rfl (by omega) (Nat.le_of_ble_eq_true rfl) (Nat.le_of_ble_eq_true rfl) dX2_init_28 (fun q28 H hw => ?_)
  have hw : ww D cI _ _ s ([(a, .inr (2, [.int (nI 0), .ref q12, .ref q20, .null, .null, .null])), (q12, .inl (cI, 16, .inl (fun _ => 0))), (q20, .inl (cI, 16, .inl (fun _ => 0))), (q28, .inl (cI, 16, .inl (fun _ => 0)))]) H _ := hw
  refine ww_putF (ws' := [(a, .inr (2, [.int (nI 0), .ref q12, .ref q20, .ref q28, .null, .null])), (q12, .inl (cI, 16, .inl (fun _ => 0))), (q20, .inl (cI, 16, .inl (fun _ => 0))), (q28, .inl (cI, 16, .inl (fun _ => 0)))]) hx hb hts hin2 tyX2 tyX2_ok nmX2 hown hw 0 rfl rfl 3 (by decide) k20 rfl hnm rfl rfl rfl (Nat.le_of_ble_eq_true rfl) rfl dX2_init_30 (fun H locs hw => ?_)
  refine lv_aload_n hx hb dX2_init_33 rfl (lv_at hl 0 rfl) ?_
  refine lv_bipush (v := nI 16) hx hb dX2_init_34 (by decide +kernel) ?_
  refine ww_newa (N := 16) hx hb harr hw rfl (by omega) (Nat.le_of_ble_eq_true rfl) (Nat.le_of_ble_eq_true rfl) dX2_init_36 (fun q36 H hw => ?_)
  have hw : ww D cI _ _ s ([(a, .inr (2, [.int (nI 0), .ref q12, .ref q20, .ref q28, .null, .null])), (q12, .inl (cI, 16, .inl (fun _ => 0))), (q20, .inl (cI, 16, .inl (fun _ => 0))), (q28, .inl (cI, 16, .inl (fun _ => 0))), (q36, .inl (cI, 16, .inl (fun _ => 0)))]) H _ := hw
  refine ww_putF (ws' := [(a, .inr (2, [.int (nI 0), .ref q12, .ref q20, .ref q28, .ref q36, .null])), (q12, .inl (cI, 16, .inl (fun _ => 0))), (q20, .inl (cI, 16, .inl (fun _ => 0))), (q28, .inl (cI, 16, .inl (fun _ => 0))), (q36, .inl (cI, 16, .inl (fun _ => 0)))]) hx hb hts hin2 tyX2 tyX2_ok nmX2 hown hw 0 rfl rfl 4 (by decide) k23 rfl hnm rfl rfl rfl (Nat.le_of_ble_eq_true rfl) rfl dX2_init_38 (fun H locs hw => ?_)
  refine lv_aload_n hx hb dX2_init_41 rfl (lv_at hl 0 rfl) ?_
  refine lv_bipush (v := nI 64) hx hb dX2_init_42 (by decide +kernel) ?_
  refine W.eq (g2 := F0 m 44 ls [.int (nI 64), .ref a]) rfl ?_
  refine ww_newa (N := 64) hx hb harr hw rfl (by omega) (Nat.le_of_ble_eq_true rfl) (Nat.le_of_ble_eq_true rfl) dX2_init_44 (fun q44 H hw => ?_)
  have hw : ww D cI _ _ s ([(a, .inr (2, [.int (nI 0), .ref q12, .ref q20, .ref q28, .ref q36, .null])), (q12, .inl (cI, 16, .inl (fun _ => 0))), (q20, .inl (cI, 16, .inl (fun _ => 0))), (q28, .inl (cI, 16, .inl (fun _ => 0))), (q36, .inl (cI, 16, .inl (fun _ => 0))), (q44, .inl (cI, 64, .inl (fun _ => 0)))]) H _ := hw
  refine ww_putF (ws' := [(a, .inr (2, [.int (nI 0), .ref q12, .ref q20, .ref q28, .ref q36, .ref q44])), (q12, .inl (cI, 16, .inl (fun _ => 0))), (q20, .inl (cI, 16, .inl (fun _ => 0))), (q28, .inl (cI, 16, .inl (fun _ => 0))), (q36, .inl (cI, 16, .inl (fun _ => 0))), (q44, .inl (cI, 64, .inl (fun _ => 0)))]) hx hb hts hin2 tyX2 tyX2_ok nmX2 hown hw 0 rfl rfl 5 (by decide) k28 rfl hnm rfl rfl rfl (Nat.le_of_ble_eq_true rfl) rfl dX2_init_46 (fun H locs hw => ?_)
  exact ww_vret (u := (q12, q20, q28, q36, q44)) hx hb hr hlk hw (trivial) (Nat.le_of_ble_eq_true rfl) (Nat.le_of_ble_eq_true rfl) rfl dX2_init_49
