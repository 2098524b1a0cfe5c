/-! RestartBook.Tables: a work comes in, a work goes -/
/-- four rows of g are those of v, from k on shifted up -/
def SH (v g : TW) (k : Nat) : Prop := (∀ j, j < k → g.2.1 j = v.2.1 j ∧ g.2.2.1 j = v.2.2.1 j ∧ g.2.2.2.1 j = v.2.2.2.1 j ∧ g.2.2.2.2 j = v.2.2.2.2 j) ∧
  ∀ j, k ≤ j → j < v.1 → g.2.1 (j + 1) = v.2.1 j ∧ g.2.2.1 (j + 1) = v.2.2.1 j ∧ g.2.2.2.1 (j + 1) = v.2.2.2.1 j ∧ g.2.2.2.2 (j + 1) = v.2.2.2.2 j
theorem SH_0 (v : TW) : SH v v v.1 := ⟨fun _ _ => ⟨rfl, rfl, rfl, rfl⟩, fun j h1 h2 => absurd h2 (by omega)⟩
theorem SH_step {v g : TW} {k : Nat} (h : SH v g k) (hk : 1 ≤ k) (n : Nat) : SH v (n, upd g.2.1 k (g.2.1 (k - 1)), upd g.2.2.1 k (g.2.2.1 (k - 1)), upd g.2.2.2.1 k (g.2.2.2.1 (k - 1)), upd g.2.2.2.2 k (g.2.2.2.2 (k - 1))) (k - 1) := by
  refine ⟨fun j hj => ?_, fun j h1 h2 => ?_⟩
  · have hjk : j ≠ k := by omega
    simp only [upd, if_neg hjk]
    exact h.1 j (by omega)
  · by_cases e : j + 1 = k
    · have e2 : j = k - 1 := by omega
      subst e2
      simp only [upd, if_pos e]
      exact h.1 _ (by omega)
    · simp only [upd, if_neg e]
      exact h.2 j (by omega) h2
theorem TR_lo {v : TW} {T : TF} (h : TR v T) {w k : Nat} (hwb : w ≤ 200) (hk : k ≤ v.1) (hk1 : 1 ≤ k) (hle : v.2.1 (k - 1) ≤ nI w) (hz : (T w).1 = 0) : ∀ i, i < k → v.2.1 i < nI w := by
  obtain ⟨h0, wl, h1, h2, h3⟩ := h
  intro i hi
  have a1 := h1 i (by omega)
  have a2 := h1 (k - 1) (by omega)
  rw [a2.1.1, nI_leI (by omega) (by omega)] at hle
  rw [a1.1.1, nI_ltI (by omega) (by omega)]
  have ne : wl (k - 1) ≠ w := fun e => a2.2.2.2 (by rw [e]; exact hz)
  rcases Nat.lt_or_ge i (k - 1) with q | q
  · have := h2 i (k - 1) q (by omega); omega
  · have : i = k - 1 := by omega
    subst this; omega
theorem TR_ins' {v g : TW} {T : TF} (h : TR v T) {w k : Nat} (hw1 : 1 ≤ w) (hw2 : w ≤ 200) (hz : (T w).1 = 0) (hk : k ≤ v.1) (hsz : v.1 < 16) (hlo : ∀ i, i < k → v.2.1 i < nI w) (hhi : ∀ i, k ≤ i → i < v.1 → nI w < v.2.1 i) (hs : SH v g k) :
    TR (v.1 + 1, upd g.2.1 k (nI w), upd g.2.2.1 k (nI 1), upd g.2.2.2.1 k (nI 0), upd g.2.2.2.2 k (nI 0)) (va_up T w (1, 0, 0)) := by
  refine TR_ins h hw1 hw2 hz hk hsz hlo hhi rfl ⟨by simp [upd], by simp [upd], by simp [upd], by simp [upd]⟩ (fun j hj => ?_) (fun j h1 h2 => ?_)
  · have hjk : j ≠ k := by omega
    simp only [upd, if_neg hjk]
    exact hs.1 j hj
  · have hjk : j + 1 ≠ k := by omega
    simp only [upd, if_neg hjk]
    exact hs.2 j h1 h2
/-- the rows of g are those of v, between i and k shifted down -/
def SD (v g : TW) (i k : Nat) : Prop := (∀ j, j < i → g.2.1 j = v.2.1 j ∧ g.2.2.1 j = v.2.2.1 j ∧ g.2.2.2.1 j = v.2.2.2.1 j ∧ g.2.2.2.2 j = v.2.2.2.2 j) ∧
  (∀ j, i ≤ j → j < k → g.2.1 j = v.2.1 (j + 1) ∧ g.2.2.1 j = v.2.2.1 (j + 1) ∧ g.2.2.2.1 j = v.2.2.2.1 (j + 1) ∧ g.2.2.2.2 j = v.2.2.2.2 (j + 1)) ∧
  ∀ j, k ≤ j → j < v.1 → g.2.1 j = v.2.1 j ∧ g.2.2.1 j = v.2.2.1 j ∧ g.2.2.2.1 j = v.2.2.2.1 j ∧ g.2.2.2.2 j = v.2.2.2.2 j
theorem SD_0 (v : TW) (i : Nat) : SD v v i i := ⟨fun _ _ => ⟨rfl, rfl, rfl, rfl⟩, fun j h1 h2 => absurd h2 (by omega), fun _ _ _ => ⟨rfl, rfl, rfl, rfl⟩⟩
theorem SD_step {v g : TW} {i k : Nat} (h : SD v g i k) (hik : i ≤ k) (hk : k + 1 < v.1) (n : Nat) : SD v (n, upd g.2.1 k (g.2.1 (k + 1)), upd g.2.2.1 k (g.2.2.1 (k + 1)), upd g.2.2.2.1 k (g.2.2.2.1 (k + 1)), upd g.2.2.2.2 k (g.2.2.2.2 (k + 1))) i (k + 1) := by
  refine ⟨fun j hj => ?_, fun j h1 h2 => ?_, fun j h1 h2 => ?_⟩
  · have hjk : j ≠ k := by omega
    simp only [upd, if_neg hjk]
    exact h.1 j hj
  · by_cases e : j = k
    · subst e
      simp only [upd, if_true]
      exact h.2.2 (j + 1) (by omega) hk
    · simp only [upd, if_neg e]
      exact h.2.1 j h1 (by omega)
  · have hjk : j ≠ k := by omega
    simp only [upd, if_neg hjk]
    exact h.2.2 j (by omega) h2
theorem TR_del' {v g : TW} {T : TF} (h : TR v T) {w i k : Nat} (hwb : w < 2 ^ 31) (hi : i < v.1) (he : v.2.1 i = nI w) (hs : SD v g i k) (hk : k + 1 = v.1) : TR (v.1 - 1, g.2.1, g.2.2.1, g.2.2.2.1, g.2.2.2.2) (va_up T w (0, 0, 0)) :=
  TR_del h hwb hi he rfl hs.1 (fun j h1 h2 => hs.2.1 j h1 (by omega))
theorem nI_dec {k : Nat} (h : 1 ≤ k) : nI k + Int32.ofInt (-1) = nI (k - 1) := by
  obtain ⟨j, rfl⟩ : ∃ j, k = j + 1 := ⟨k - 1, by omega⟩
  exact pk_m1 j
set_option maxHeartbeats 4000000 in
set_option maxRecDepth 100000 in
theorem cT_bringIn (l : Launch) (D : va_G) (cI : ClassId) (a a1 a2 a3 a4 a5 : Nat) (v : TW) (fb : Nat → Int32) (T : TF) (h : TR v T) (w : Nat) (hw1 : 1 ≤ w) (hw2 : w ≤ 200) (hroom : (T w).1 ≠ 0 ∨ v.1 < 16) : Kt l yX2_bringIn wsX2_bringIn 1 22 (0) (0) D cI [.ref a, .int (nI w)] ([(a, .inr (2, [.int (nI v.1), .ref a1, .ref a2, .ref a3, .ref a4, .ref a5])), (a1, .inl (cI, 16, .inl v.2.1)), (a2, .inl (cI, 16, .inl v.2.2.1)), (a3, .inl (cI, 16, .inl v.2.2.2.1)), (a4, .inl (cI, 16, .inl v.2.2.2.2)), (a5, .inl (cI, 64, .inl fb))]) (pV (fun (u : TW) => u.1 = (if (T w).1 = 0 then v.1 + 1 else v.1) ∧ TR u (if (T w).1 = 0 then va_up T w (1, 0, 0) else T))) (fun (u : TW) => [(a, .inr (2, [.int (nI u.1), .ref a1, .ref a2, .ref a3, .ref a4, .ref a5])), (a1, .inl (cI, 16, .inl u.2.1)), (a2, .inl (cI, 16, .inl u.2.2.1)), (a3, .inl (cI, 16, .inl u.2.2.2.1)), (a4, .inl (cI, 16, .inl u.2.2.2.2)), (a5, .inl (cI, 64, .inl fb))]) := by
  refine kt_start (cc := cX2_bringIn) (maxL := 3) (ret := none) (by decide +kernel) rfl (Nat.le_of_ble_eq_true rfl) ?_
  intro p e s m below meth c hx hb hml hr hlk hown hnm hts ls hl hw
  have hown : s.vm.findClass RX2 = some m.cls := hown
  have hl : lv_has ls 3 [(0, .ref a), (1, .int (nI w))] := hl
  have k7 := hts (.fieldLink RX2 7 "RestartBook$Tables" "size" "I") (by decide +kernel)
  have k13 := hts (.fieldLink RX2 13 "RestartBook$Tables" "works" "[I") (by decide +kernel)
  have k17 := hts (.fieldLink RX2 17 "RestartBook$Tables" "states" "[I") (by decide +kernel)
  have k20 := hts (.fieldLink RX2 20 "RestartBook$Tables" "lasts" "[I") (by decide +kernel)
  have k23 := hts (.fieldLink RX2 23 "RestartBook$Tables" "nexts" "[I") (by decide +kernel)
  have hin2 : ∀ w ∈ u_ws RX2 TX2 6, w ∈ wsX2_bringIn := in_X2_bringIn
  have hv16 := TR_le h
  refine lv_aload_n hx hb dX2_bringIn_0 rfl (lv_at hl 0 rfl) ?_
  refine ww_callV ([]) ([]) (As := []) (rest := []) ⟨hx, hb, hml, hown, hts⟩ (cT_isFull l D cI a a1 a2 a3 a4 a5 v fb (TR_le h)) gX2_bringIn_X2_isFull rfl hd_X2_isFull ⟨Nat.le_of_ble_eq_true rfl, Nat.le_of_ble_eq_true rfl⟩ hw rfl rfl rfl rfl rfl hl.1 (Nat.le_of_ble_eq_true rfl) dX2_bringIn_1 ⟨Nat.le_of_ble_eq_true rfl, Nat.le_of_ble_eq_true rfl⟩ (fun v u H locs hq hw => ?_)
  obtain ⟨r, rfl, hq⟩ := hq
  have hw : ww D cI _ _ s ([(a, .inr (2, [.int (nI v.1), .ref a1, .ref a2, .ref a3, .ref a4, .ref a5])), (a1, .inl (cI, 16, .inl v.2.1)), (a2, .inl (cI, 16, .inl v.2.2.1)), (a3, .inl (cI, 16, .inl v.2.2.2.1)), (a4, .inl (cI, 16, .inl v.2.2.2.2)), (a5, .inl (cI, 64, .inl fb))]) H locs := hw
  refine W.eq (g2 := F0 m 4 ls [.int (r)]) rfl ?_
  rcases hq with ⟨rfl, hf⟩ | ⟨rfl, hf⟩
  · have hp : (T w).1 ≠ 0 := hroom.resolve_right (by omega)
    refine lv_if_ne (tgt := 16) hx hb dX2_bringIn_4 (by decide) (fun c_4 => ?_) (fun c_4 => absurd c_4 (by decide))
    exact ww_vret (u := v) hx hb hr hlk hw (⟨(if_neg hp).symm ▸ rfl, by rw [if_neg hp]; exact h⟩) (Nat.le_of_ble_eq_true rfl) (Nat.le_of_ble_eq_true rfl) rfl dX2_bringIn_16
  · skip
    refine lv_if_ne (tgt := 16) hx hb dX2_bringIn_4 (by decide) (fun c_4 => absurd c_4 (fun q => q rfl)) (fun c_4 => ?_)
    refine lv_aload_n hx hb dX2_bringIn_7 rfl (lv_at hl 0 rfl) ?_
    refine lv_iload_n hx hb dX2_bringIn_8 rfl (lv_at hl 1 rfl) ?_
    refine ww_callV ([]) ([]) (As := [.int (nI w)]) (rest := []) ⟨hx, hb, hml, hown, hts⟩ (cT_slotOf l D cI a a1 a2 a3 a4 a5 v fb (nI w) (TR_le h)) gX2_bringIn_X2_slotOf rfl hd_X2_slotOf ⟨Nat.le_of_ble_eq_true rfl, Nat.le_of_ble_eq_true rfl⟩ hw rfl rfl rfl rfl rfl hl.1 (Nat.le_of_ble_eq_true rfl) dX2_bringIn_9 ⟨Nat.le_of_ble_eq_true rfl, Nat.le_of_ble_eq_true rfl⟩ (fun v u H locs hq hw => ?_)
    obtain ⟨r, rfl, hq⟩ := hq
    have hw : ww D cI _ _ s ([(a, .inr (2, [.int (nI v.1), .ref a1, .ref a2, .ref a3, .ref a4, .ref a5])), (a1, .inl (cI, 16, .inl v.2.1)), (a2, .inl (cI, 16, .inl v.2.2.1)), (a3, .inl (cI, 16, .inl v.2.2.2.1)), (a4, .inl (cI, 16, .inl v.2.2.2.2)), (a5, .inl (cI, 64, .inl fb))]) H locs := hw
    refine W.eq (g2 := F0 m 12 ls [.int (r)]) rfl ?_
    rcases hq with ⟨i, hi, he, rfl⟩ | ⟨hno, rfl⟩
    · have hi16 : i < 16 := Nat.lt_of_lt_of_le hi (TR_le h)
      have hp : (T w).1 ≠ 0 := (TR_at h (by omega) hi he).2.2.1
      refine lv_iconst (v := (-1)) hx hb dX2_bringIn_12 (by decide +kernel) ?_
      refine lv_icmp_eq (tgt := 17) hx hb dX2_bringIn_13 (by decide) (fun c_13 => absurd c_13 (nI_nm1 (by omega))) (fun c_13 => ?_)
      exact ww_vret (u := v) hx hb hr hlk hw (⟨(if_neg hp).symm ▸ rfl, by rw [if_neg hp]; exact h⟩) (Nat.le_of_ble_eq_true rfl) (Nat.le_of_ble_eq_true rfl) rfl dX2_bringIn_16
    · have hz := TR_no h hno
      refine lv_iconst (v := (-1)) hx hb dX2_bringIn_12 (by decide +kernel) ?_
      refine lv_icmp_eq (tgt := 17) hx hb dX2_bringIn_13 (by decide) (fun c_13 => ?_) (fun c_13 => absurd (rfl) c_13)
      refine lv_aload_n hx hb dX2_bringIn_17 rfl (lv_at hl 0 rfl) ?_
      refine ww_get hx hb hts hin2 hown hw 0 rfl rfl 0 (by decide) k7 rfl dX2_bringIn_18 ?_
      refine lv_istore_n (lv' := [(2, .int (nI v.1)), (0, .ref a), (1, .int (nI w))]) hx hb dX2_bringIn_21 rfl hl (by decide) rfl (fun ls hl => ?_)
      have lp : ∀ (t : Nat) (k : Nat) (g : TW) (H : Heap) (locs : List Loc) (ls : Array Slot), k < t → (k ≤ v.1) → (SH v g k) → (∀ j, k ≤ j → j < v.1 → nI w < v.2.1 j) → ww D cI (va_A ([(a, .inr (2, [.int (nI v.1), .ref a1, .ref a2, .ref a3, .ref a4, .ref a5])), (a1, .inl (cI, 16, .inl v.2.1)), (a2, .inl (cI, 16, .inl v.2.2.1)), (a3, .inl (cI, 16, .inl v.2.2.2.1)), (a4, .inl (cI, 16, .inl v.2.2.2.2)), (a5, .inl (cI, 64, .inl fb))]) s.heap.size) s.heap s ([(a, .inr (2, [.int (nI v.1), .ref a1, .ref a2, .ref a3, .ref a4, .ref a5])), (a1, .inl (cI, 16, .inl g.2.1)), (a2, .inl (cI, 16, .inl g.2.2.1)), (a3, .inl (cI, 16, .inl g.2.2.2.1)), (a4, .inl (cI, 16, .inl g.2.2.2.2)), (a5, .inl (cI, 64, .inl fb))]) H locs → lv_has ls 3 [(2, .int (nI k)), (0, .ref a), (1, .int (nI w))] → W p l e { frames := 1, cells := 0, slots := 0, locals := 22 } s m [.ref a, .int (nI w)].toArray below meth c H locs (0) (0) (MQ below (kQ D cI ([(a, .inr (2, [.int (nI v.1), .ref a1, .ref a2, .ref a3, .ref a4, .ref a5])), (a1, .inl (cI, 16, .inl v.2.1)), (a2, .inl (cI, 16, .inl v.2.2.1)), (a3, .inl (cI, 16, .inl v.2.2.2.1)), (a4, .inl (cI, 16, .inl v.2.2.2.2)), (a5, .inl (cI, 64, .inl fb))]) s.heap.size (pV (fun (u : TW) => u.1 = (if (T w).1 = 0 then v.1 + 1 else v.1) ∧ TR u (if (T w).1 = 0 then va_up T w (1, 0, 0) else T))) (fun (u : TW) => [(a, .inr (2, [.int (nI u.1), .ref a1, .ref a2, .ref a3, .ref a4, .ref a5])), (a1, .inl (cI, 16, .inl u.2.1)), (a2, .inl (cI, 16, .inl u.2.2.1)), (a3, .inl (cI, 16, .inl u.2.2.2.1)), (a4, .inl (cI, 16, .inl u.2.2.2.2)), (a5, .inl (cI, 64, .inl fb))])) [.ref a, .int (nI w)].toArray s (0) (0) (va_A ([(a, .inr (2, [.int (nI v.1), .ref a1, .ref a2, .ref a3, .ref a4, .ref a5])), (a1, .inl (cI, 16, .inl v.2.1)), (a2, .inl (cI, 16, .inl v.2.2.1)), (a3, .inl (cI, 16, .inl v.2.2.2.1)), (a4, .inl (cI, 16, .inl v.2.2.2.2)), (a5, .inl (cI, 64, .inl fb))]) s.heap.size)) (F0 m 22 ls []) := by
        intro t
        induction t with
        | zero => intro k g H locs ls ht; exact absurd ht (Nat.not_lt_zero _)
        | succ t ih_22 =>
          intro k g H locs ls ht hk hsh hhi hw hl
          refine lv_iload_n hx hb dX2_bringIn_22 rfl (lv_at hl 0 rfl) ?_
          refine lv_if_le (tgt := 52) hx hb dX2_bringIn_23 (by decide) (fun c_23 => ?_) (fun c_23 => ?_)
          · have hlo : ∀ i, i < k → v.2.1 i < nI w := by
              first
              | exact TR_lo h hw2 hk hk1 (by rw [← (hsh.1 (k - 1) (by omega)).1]; exact c_35) hz
              | exact fun i hi => absurd hi (by simp (disch := omega) only [i_le, nI_toInt, z_0] at c_23; omega)
            refine lv_aload_n hx hb dX2_bringIn_52 rfl (lv_at hl 1 rfl) ?_
            refine lv_dup hx hb dX2_bringIn_53 rfl ?_
            refine ww_get hx hb hts hin2 hown hw 0 rfl rfl 0 (by decide) k7 rfl dX2_bringIn_54 ?_
            refine lv_iconst (v := nI 1) hx hb dX2_bringIn_57 (by decide +kernel) ?_
            refine lv_iadd hx hb dX2_bringIn_58 ?_
            refine lv_eqi (show _ = nI (v.1 + 1) from nI_add _ _) ?_
            refine ww_put (ws' := [(a, .inr (2, [.int (nI (v.1 + 1)), .ref a1, .ref a2, .ref a3, .ref a4, .ref a5])), (a1, .inl (cI, 16, .inl g.2.1)), (a2, .inl (cI, 16, .inl g.2.2.1)), (a3, .inl (cI, 16, .inl g.2.2.2.1)), (a4, .inl (cI, 16, .inl g.2.2.2.2)), (a5, .inl (cI, 64, .inl fb))]) hx hb hts hin2 tyX2 tyX2_ok nmX2 hown hw 0 rfl rfl 0 (by decide) k7 rfl rfl rfl (Nat.le_of_ble_eq_true rfl) rfl dX2_bringIn_59 (fun H locs hw => ?_)
            refine lv_aload_n hx hb dX2_bringIn_62 rfl (lv_at hl 1 rfl) ?_
            refine ww_get hx hb hts hin2 hown hw 0 rfl rfl 1 (by decide) k13 rfl dX2_bringIn_63 ?_
            refine lv_iload_n hx hb dX2_bringIn_66 rfl (lv_at hl 0 rfl) ?_
            refine lv_iload_n hx hb dX2_bringIn_67 rfl (lv_at hl 2 rfl) ?_
            refine ww_iast (ws' := [(a, .inr (2, [.int (nI (v.1 + 1)), .ref a1, .ref a2, .ref a3, .ref a4, .ref a5])), (a1, .inl (cI, 16, .inl (upd g.2.1 k (nI w)))), (a2, .inl (cI, 16, .inl g.2.2.1)), (a3, .inl (cI, 16, .inl g.2.2.2.1)), (a4, .inl (cI, 16, .inl g.2.2.2.2)), (a5, .inl (cI, 64, .inl fb))]) hx hb hw 1 rfl k rfl (by omega) (by omega) rfl dX2_bringIn_68 (fun H locs hw => ?_)
            refine W.eq (g2 := F0 m 69 ls []) rfl ?_
            refine lv_aload_n hx hb dX2_bringIn_69 rfl (lv_at hl 1 rfl) ?_
            refine ww_get hx hb hts hin2 hown hw 0 rfl rfl 2 (by decide) k17 rfl dX2_bringIn_70 ?_
            refine lv_iload_n hx hb dX2_bringIn_73 rfl (lv_at hl 0 rfl) ?_
            refine lv_iconst (v := nI 1) hx hb dX2_bringIn_74 (by decide +kernel) ?_
            refine ww_iast (ws' := [(a, .inr (2, [.int (nI (v.1 + 1)), .ref a1, .ref a2, .ref a3, .ref a4, .ref a5])), (a1, .inl (cI, 16, .inl (upd g.2.1 k (nI w)))), (a2, .inl (cI, 16, .inl (upd g.2.2.1 k (nI 1)))), (a3, .inl (cI, 16, .inl g.2.2.2.1)), (a4, .inl (cI, 16, .inl g.2.2.2.2)), (a5, .inl (cI, 64, .inl fb))]) hx hb hw 2 rfl k rfl (by omega) (by omega) rfl dX2_bringIn_75 (fun H locs hw => ?_)
            refine lv_aload_n hx hb dX2_bringIn_76 rfl (lv_at hl 1 rfl) ?_
            refine ww_get hx hb hts hin2 hown hw 0 rfl rfl 3 (by decide) k20 rfl dX2_bringIn_77 ?_
            refine lv_iload_n hx hb dX2_bringIn_80 rfl (lv_at hl 0 rfl) ?_
            refine lv_iconst (v := nI 0) hx hb dX2_bringIn_81 (by decide +kernel) ?_
            refine ww_iast (ws' := [(a, .inr (2, [.int (nI (v.1 + 1)), .ref a1, .ref a2, .ref a3, .ref a4, .ref a5])), (a1, .inl (cI, 16, .inl (upd g.2.1 k (nI w)))), (a2, .inl (cI, 16, .inl (upd g.2.2.1 k (nI 1)))), (a3, .inl (cI, 16, .inl (upd g.2.2.2.1 k (nI 0)))), (a4, .inl (cI, 16, .inl g.2.2.2.2)), (a5, .inl (cI, 64, .inl fb))]) hx hb hw 3 rfl k rfl (by omega) (by omega) rfl dX2_bringIn_82 (fun H locs hw => ?_)
            refine lv_aload_n hx hb dX2_bringIn_83 rfl (lv_at hl 1 rfl) ?_
            refine ww_get hx hb hts hin2 hown hw 0 rfl rfl 4 (by decide) k23 rfl dX2_bringIn_84 ?_
            refine W.eq (g2 := F0 m 87 ls [.ref a4]) rfl ?_
            refine lv_iload_n hx hb dX2_bringIn_87 rfl (lv_at hl 0 rfl) ?_
            refine lv_iconst (v := nI 0) hx hb dX2_bringIn_88 (by decide +kernel) ?_
            refine ww_iast (ws' := [(a, .inr (2, [.int (nI (v.1 + 1)), .ref a1, .ref a2, .ref a3, .ref a4, .ref a5])), (a1, .inl (cI, 16, .inl (upd g.2.1 k (nI w)))), (a2, .inl (cI, 16, .inl (upd g.2.2.1 k (nI 1)))), (a3, .inl (cI, 16, .inl (upd g.2.2.2.1 k (nI 0)))), (a4, .inl (cI, 16, .inl (upd g.2.2.2.2 k (nI 0)))), (a5, .inl (cI, 64, .inl fb))]) hx hb hw 4 rfl k rfl (by omega) (by omega) rfl dX2_bringIn_89 (fun H locs hw => ?_)
            exact ww_vret (u := (v.1 + 1, (upd g.2.1 k (nI w)), (upd g.2.2.1 k (nI 1)), (upd g.2.2.2.1 k (nI 0)), (upd g.2.2.2.2 k (nI 0)))) hx hb hr hlk hw (⟨(if_pos hz).symm ▸ rfl, by rw [if_pos hz]; exact TR_ins' h hw1 hw2 hz hk hf hlo hhi hsh⟩) (Nat.le_of_ble_eq_true rfl) (Nat.le_of_ble_eq_true rfl) rfl dX2_bringIn_90
          · have hk1 : 1 ≤ k := by simp (disch := omega) only [i_le, nI_toInt, z_0] at c_23; omega
            refine lv_aload_n hx hb dX2_bringIn_26 rfl (lv_at hl 1 rfl) ?_
            refine ww_get hx hb hts hin2 hown hw 0 rfl rfl 1 (by decide) k13 rfl dX2_bringIn_27 ?_
            refine lv_iload_n hx hb dX2_bringIn_30 rfl (lv_at hl 0 rfl) ?_
            refine lv_iconst (v := nI 1) hx hb dX2_bringIn_31 (by decide +kernel) ?_
            refine lv_isub hx hb dX2_bringIn_32 ?_
            refine lv_eqi (show _ = nI (k - 1) from pk_sub hk1) ?_
            refine ww_iald hx hb hw 1 rfl (k - 1) rfl (by omega) (by omega) dX2_bringIn_33 ?_
            refine lv_iload_n hx hb dX2_bringIn_34 rfl (lv_at hl 2 rfl) ?_
            refine lv_icmp_le (tgt := 52) hx hb dX2_bringIn_35 (by decide) (fun c_35 => ?_) (fun c_35 => ?_)
            · have hlo : ∀ i, i < k → v.2.1 i < nI w := by
                first
                | exact TR_lo h hw2 hk hk1 (by rw [← (hsh.1 (k - 1) (by omega)).1]; exact c_35) hz
                | exact fun i hi => absurd hi (by simp (disch := omega) only [i_le, nI_toInt, z_0] at c_23; omega)
              refine lv_aload_n hx hb dX2_bringIn_52 rfl (lv_at hl 1 rfl) ?_
              refine lv_dup hx hb dX2_bringIn_53 rfl ?_
              refine ww_get hx hb hts hin2 hown hw 0 rfl rfl 0 (by decide) k7 rfl dX2_bringIn_54 ?_
              refine lv_iconst (v := nI 1) hx hb dX2_bringIn_57 (by decide +kernel) ?_
              refine lv_iadd hx hb dX2_bringIn_58 ?_
              refine lv_eqi (show _ = nI (v.1 + 1) from nI_add _ _) ?_
              refine ww_put (ws' := [(a, .inr (2, [.int (nI (v.1 + 1)), .ref a1, .ref a2, .ref a3, .ref a4, .ref a5])), (a1, .inl (cI, 16, .inl g.2.1)), (a2, .inl (cI, 16, .inl g.2.2.1)), (a3, .inl (cI, 16, .inl g.2.2.2.1)), (a4, .inl (cI, 16, .inl g.2.2.2.2)), (a5, .inl (cI, 64, .inl fb))]) hx hb hts hin2 tyX2 tyX2_ok nmX2 hown hw 0 rfl rfl 0 (by decide) k7 rfl rfl rfl (Nat.le_of_ble_eq_true rfl) rfl dX2_bringIn_59 (fun H locs hw => ?_)
              refine lv_aload_n hx hb dX2_bringIn_62 rfl (lv_at hl 1 rfl) ?_
              refine ww_get hx hb hts hin2 hown hw 0 rfl rfl 1 (by decide) k13 rfl dX2_bringIn_63 ?_
              refine lv_iload_n hx hb dX2_bringIn_66 rfl (lv_at hl 0 rfl) ?_
              refine lv_iload_n hx hb dX2_bringIn_67 rfl (lv_at hl 2 rfl) ?_
              refine ww_iast (ws' := [(a, .inr (2, [.int (nI (v.1 + 1)), .ref a1, .ref a2, .ref a3, .ref a4, .ref a5])), (a1, .inl (cI, 16, .inl (upd g.2.1 k (nI w)))), (a2, .inl (cI, 16, .inl g.2.2.1)), (a3, .inl (cI, 16, .inl g.2.2.2.1)), (a4, .inl (cI, 16, .inl g.2.2.2.2)), (a5, .inl (cI, 64, .inl fb))]) hx hb hw 1 rfl k rfl (by omega) (by omega) rfl dX2_bringIn_68 (fun H locs hw => ?_)
              refine W.eq (g2 := F0 m 69 ls []) rfl ?_
              refine lv_aload_n hx hb dX2_bringIn_69 rfl (lv_at hl 1 rfl) ?_
              refine ww_get hx hb hts hin2 hown hw 0 rfl rfl 2 (by decide) k17 rfl dX2_bringIn_70 ?_
              refine lv_iload_n hx hb dX2_bringIn_73 rfl (lv_at hl 0 rfl) ?_
              refine lv_iconst (v := nI 1) hx hb dX2_bringIn_74 (by decide +kernel) ?_
              refine ww_iast (ws' := [(a, .inr (2, [.int (nI (v.1 + 1)), .ref a1, .ref a2, .ref a3, .ref a4, .ref a5])), (a1, .inl (cI, 16, .inl (upd g.2.1 k (nI w)))), (a2, .inl (cI, 16, .inl (upd g.2.2.1 k (nI 1)))), (a3, .inl (cI, 16, .inl g.2.2.2.1)), (a4, .inl (cI, 16, .inl g.2.2.2.2)), (a5, .inl (cI, 64, .inl fb))]) hx hb hw 2 rfl k rfl (by omega) (by omega) rfl dX2_bringIn_75 (fun H locs hw => ?_)
              refine lv_aload_n hx hb dX2_bringIn_76 rfl (lv_at hl 1 rfl) ?_
              refine ww_get hx hb hts hin2 hown hw 0 rfl rfl 3 (by decide) k20 rfl dX2_bringIn_77 ?_
              refine lv_iload_n hx hb dX2_bringIn_80 rfl (lv_at hl 0 rfl) ?_
              refine lv_iconst (v := nI 0) hx hb dX2_bringIn_81 (by decide +kernel) ?_
              refine ww_iast (ws' := [(a, .inr (2, [.int (nI (v.1 + 1)), .ref a1, .ref a2, .ref a3, .ref a4, .ref a5])), (a1, .inl (cI, 16, .inl (upd g.2.1 k (nI w)))), (a2, .inl (cI, 16, .inl (upd g.2.2.1 k (nI 1)))), (a3, .inl (cI, 16, .inl (upd g.2.2.2.1 k (nI 0)))), (a4, .inl (cI, 16, .inl g.2.2.2.2)), (a5, .inl (cI, 64, .inl fb))]) hx hb hw 3 rfl k rfl (by omega) (by omega) rfl dX2_bringIn_82 (fun H locs hw => ?_)
              refine lv_aload_n hx hb dX2_bringIn_83 rfl (lv_at hl 1 rfl) ?_
              refine ww_get hx hb hts hin2 hown hw 0 rfl rfl 4 (by decide) k23 rfl dX2_bringIn_84 ?_
              refine W.eq (g2 := F0 m 87 ls [.ref a4]) rfl ?_
              refine lv_iload_n hx hb dX2_bringIn_87 rfl (lv_at hl 0 rfl) ?_
              refine lv_iconst (v := nI 0) hx hb dX2_bringIn_88 (by decide +kernel) ?_
              refine ww_iast (ws' := [(a, .inr (2, [.int (nI (v.1 + 1)), .ref a1, .ref a2, .ref a3, .ref a4, .ref a5])), (a1, .inl (cI, 16, .inl (upd g.2.1 k (nI w)))), (a2, .inl (cI, 16, .inl (upd g.2.2.1 k (nI 1)))), (a3, .inl (cI, 16, .inl (upd g.2.2.2.1 k (nI 0)))), (a4, .inl (cI, 16, .inl (upd g.2.2.2.2 k (nI 0)))), (a5, .inl (cI, 64, .inl fb))]) hx hb hw 4 rfl k rfl (by omega) (by omega) rfl dX2_bringIn_89 (fun H locs hw => ?_)
              exact ww_vret (u := (v.1 + 1, (upd g.2.1 k (nI w)), (upd g.2.2.1 k (nI 1)), (upd g.2.2.2.1 k (nI 0)), (upd g.2.2.2.2 k (nI 0)))) hx hb hr hlk hw (⟨(if_pos hz).symm ▸ rfl, by rw [if_pos hz]; exact TR_ins' h hw1 hw2 hz hk hf hlo hhi hsh⟩) (Nat.le_of_ble_eq_true rfl) (Nat.le_of_ble_eq_true rfl) rfl dX2_bringIn_90
            · refine lv_aload_n hx hb dX2_bringIn_38 rfl (lv_at hl 1 rfl) ?_
              refine lv_iload_n hx hb dX2_bringIn_39 rfl (lv_at hl 0 rfl) ?_
              refine lv_iconst (v := nI 1) hx hb dX2_bringIn_40 (by decide +kernel) ?_
              refine lv_isub hx hb dX2_bringIn_41 ?_
              refine lv_eqi (show _ = nI (k - 1) from pk_sub hk1) ?_
              refine lv_iload_n hx hb dX2_bringIn_42 rfl (lv_at hl 0 rfl) ?_
              refine ww_callV ([]) ([]) (As := [.int (nI (k - 1)), .int (nI k)]) (rest := []) ⟨hx, hb, hml, hown, hts⟩ (cT_copySlot l D cI a a1 a2 a3 a4 a5 g fb v.1 (k - 1) k (by omega) (by omega)) gX2_bringIn_X2_copySlot rfl hd_X2_copySlot ⟨Nat.le_of_ble_eq_true rfl, Nat.le_of_ble_eq_true rfl⟩ hw rfl rfl rfl rfl rfl hl.1 (Nat.le_of_ble_eq_true rfl) dX2_bringIn_43 ⟨Nat.le_of_ble_eq_true rfl, Nat.le_of_ble_eq_true rfl⟩ (fun v u H locs hq hw => ?_)
              obtain ⟨rfl, hq⟩ := hq
              have hw : ww D cI _ _ s ([(a, .inr (2, [.int (nI v.1), .ref a1, .ref a2, .ref a3, .ref a4, .ref a5])), (a1, .inl (cI, 16, .inl (upd g.2.1 k (g.2.1 (k - 1))))), (a2, .inl (cI, 16, .inl (upd g.2.2.1 k (g.2.2.1 (k - 1))))), (a3, .inl (cI, 16, .inl (upd g.2.2.2.1 k (g.2.2.2.1 (k - 1))))), (a4, .inl (cI, 16, .inl (upd g.2.2.2.2 k (g.2.2.2.2 (k - 1))))), (a5, .inl (cI, 64, .inl fb))]) H locs := hw
              refine W.eq (g2 := F0 m 46 ls []) rfl ?_
              refine lv_iinc (v := nI (k - 1)) (lv' := [(2, .int (nI (k - 1))), (0, .ref a), (1, .int (nI w))]) hx hb dX2_bringIn_46 hl (k := 0) rfl (nI_dec hk1) (by decide) rfl (fun ls hl => ?_)
              refine lv_goto (tgt := 22) hx hb dX2_bringIn_49 (by decide) ?_
              exact ih_22 (k - 1) (v.1, (upd g.2.1 k (g.2.1 (k - 1))), (upd g.2.2.1 k (g.2.2.1 (k - 1))), (upd g.2.2.2.1 k (g.2.2.2.1 (k - 1))), (upd g.2.2.2.2 k (g.2.2.2.2 (k - 1)))) _ _ _ (by omega) (by omega) (SH_step hsh hk1 v.1) (fun j j1 j2 => by by_cases e : k ≤ j; exact hhi j e j2; (have e2 : j = k - 1 := by omega); rw [e2, ← (hsh.1 (k - 1) (by omega)).1]; rw [i_lt]; rw [i_le] at c_35; omega) hw (lv_sub hl [0, 1, 2] rfl)
      exact lp (((v.1)) + 1) v.1 v _ _ _ (Nat.lt_succ_self _) (Nat.le_refl _) (SH_0 v) (fun j j1 j2 => absurd j2 (by omega)) hw (lv_sub hl [0, 1, 2] rfl)
set_option maxHeartbeats 4000000 in
set_option maxRecDepth 100000 in
theorem cT_takeOut (l : Launch) (D : va_G) (cI : ClassId) (a a1 a2 a3 a4 a5 : Nat) (v : TW) (fb : Nat → Int32) (T : TF) (h : TR v T) (w : Nat) (hwb : w < 2 ^ 31) (hp : (T w).1 ≠ 0) : Kt l yX2_takeOut wsX2_takeOut 1 22 (0) (0) D cI [.ref a, .int (nI w)] ([(a, .inr (2, [.int (nI v.1), .ref a1, .ref a2, .ref a3, .ref a4, .ref a5])), (a1, .inl (cI, 16, .inl v.2.1)), (a2, .inl (cI, 16, .inl v.2.2.1)), (a3, .inl (cI, 16, .inl v.2.2.2.1)), (a4, .inl (cI, 16, .inl v.2.2.2.2)), (a5, .inl (cI, 64, .inl fb))]) (pV (fun (u : TW) => TR u (va_up T w (0, 0, 0)))) (fun (u : TW) => [(a, .inr (2, [.int (nI u.1), .ref a1, .ref a2, .ref a3, .ref a4, .ref a5])), (a1, .inl (cI, 16, .inl u.2.1)), (a2, .inl (cI, 16, .inl u.2.2.1)), (a3, .inl (cI, 16, .inl u.2.2.2.1)), (a4, .inl (cI, 16, .inl u.2.2.2.2)), (a5, .inl (cI, 64, .inl fb))]) := by
  refine kt_start (cc := cX2_takeOut) (maxL := 4) (ret := none) (by decide +kernel) rfl (Nat.le_of_ble_eq_true rfl) ?_
  intro p e s m below meth c hx hb hml hr hlk hown hnm hts ls hl hw
  have hown : s.vm.findClass RX2 = some m.cls := hown
  have hl : lv_has ls 4 [(0, .ref a), (1, .int (nI w))] := hl
  have k7 := hts (.fieldLink RX2 7 "RestartBook$Tables" "size" "I") (by decide +kernel)
  have hin2 : ∀ w ∈ u_ws RX2 TX2 6, w ∈ wsX2_takeOut := in_X2_takeOut
  have hv16 := TR_le h
  refine lv_aload_n hx hb dX2_takeOut_0 rfl (lv_at hl 0 rfl) ?_
  refine lv_iload_n hx hb dX2_takeOut_1 rfl (lv_at hl 1 rfl) ?_
  refine ww_callV ([]) ([]) (As := [.int (nI w)]) (rest := []) ⟨hx, hb, hml, hown, hts⟩ (cT_slotOf l D cI a a1 a2 a3 a4 a5 v fb (nI w) (TR_le h)) gX2_takeOut_X2_slotOf rfl hd_X2_slotOf ⟨Nat.le_of_ble_eq_true rfl, Nat.le_of_ble_eq_true rfl⟩ hw rfl rfl rfl rfl rfl hl.1 (Nat.le_of_ble_eq_true rfl) dX2_takeOut_2 ⟨Nat.le_of_ble_eq_true rfl, Nat.le_of_ble_eq_true rfl⟩ (fun v u H locs hq hw => ?_)
  obtain ⟨r, rfl, hq⟩ := hq
  have hw : ww D cI _ _ s ([(a, .inr (2, [.int (nI v.1), .ref a1, .ref a2, .ref a3, .ref a4, .ref a5])), (a1, .inl (cI, 16, .inl v.2.1)), (a2, .inl (cI, 16, .inl v.2.2.1)), (a3, .inl (cI, 16, .inl v.2.2.2.1)), (a4, .inl (cI, 16, .inl v.2.2.2.2)), (a5, .inl (cI, 64, .inl fb))]) H locs := hw
  refine W.eq (g2 := F0 m 5 ls [.int (r)]) rfl ?_
  rcases hq with ⟨i, hi, he, rfl⟩ | ⟨hno, rfl⟩
  · have hi16 : i < 16 := Nat.lt_of_lt_of_le hi (TR_le h)
    refine lv_istore_n (lv' := [(2, .int (nI i)), (0, .ref a), (1, .int (nI w))]) hx hb dX2_takeOut_5 rfl hl (by decide) rfl (fun ls hl => ?_)
    refine lv_iload_n hx hb dX2_takeOut_6 rfl (lv_at hl 0 rfl) ?_
    refine lv_iconst (v := (-1)) hx hb dX2_takeOut_7 (by decide +kernel) ?_
    refine lv_icmp_ne (tgt := 12) hx hb dX2_takeOut_8 (by decide) (fun c_8 => ?_) (fun c_8 => absurd c_8 (nI_nm1 (by omega)))
    refine lv_iload_n hx hb dX2_takeOut_12 rfl (lv_at hl 0 rfl) ?_
    refine lv_istore_n (lv' := [(3, .int (nI i)), (2, .int (nI i)), (0, .ref a), (1, .int (nI w))]) hx hb dX2_takeOut_13 rfl hl (by decide) rfl (fun ls hl => ?_)
    have lp : ∀ (t : Nat) (k : Nat) (g : TW) (H : Heap) (locs : List Loc) (ls : Array Slot), v.1 - k < t → (i ≤ k) → (k < v.1) → (SD v g i k) → ww D cI (va_A ([(a, .inr (2, [.int (nI v.1), .ref a1, .ref a2, .ref a3, .ref a4, .ref a5])), (a1, .inl (cI, 16, .inl v.2.1)), (a2, .inl (cI, 16, .inl v.2.2.1)), (a3, .inl (cI, 16, .inl v.2.2.2.1)), (a4, .inl (cI, 16, .inl v.2.2.2.2)), (a5, .inl (cI, 64, .inl fb))]) s.heap.size) s.heap s ([(a, .inr (2, [.int (nI v.1), .ref a1, .ref a2, .ref a3, .ref a4, .ref a5])), (a1, .inl (cI, 16, .inl g.2.1)), (a2, .inl (cI, 16, .inl g.2.2.1)), (a3, .inl (cI, 16, .inl g.2.2.2.1)), (a4, .inl (cI, 16, .inl g.2.2.2.2)), (a5, .inl (cI, 64, .inl fb))]) H locs → lv_has ls 4 [(3, .int (nI k)), (2, .int (nI i)), (0, .ref a), (1, .int (nI w))] → W p l e { frames := 1, cells := 0, slots := 0, locals := 22 } s m [.ref a, .int (nI w)].toArray below meth c H locs (0) (0) (MQ below (kQ D cI ([(a, .inr (2, [.int (nI v.1), .ref a1, .ref a2, .ref a3, .ref a4, .ref a5])), (a1, .inl (cI, 16, .inl v.2.1)), (a2, .inl (cI, 16, .inl v.2.2.1)), (a3, .inl (cI, 16, .inl v.2.2.2.1)), (a4, .inl (cI, 16, .inl v.2.2.2.2)), (a5, .inl (cI, 64, .inl fb))]) s.heap.size (pV (fun (u : TW) => TR u (va_up T w (0, 0, 0)))) (fun (u : TW) => [(a, .inr (2, [.int (nI u.1), .ref a1, .ref a2, .ref a3, .ref a4, .ref a5])), (a1, .inl (cI, 16, .inl u.2.1)), (a2, .inl (cI, 16, .inl u.2.2.1)), (a3, .inl (cI, 16, .inl u.2.2.2.1)), (a4, .inl (cI, 16, .inl u.2.2.2.2)), (a5, .inl (cI, 64, .inl fb))])) [.ref a, .int (nI w)].toArray s (0) (0) (va_A ([(a, .inr (2, [.int (nI v.1), .ref a1, .ref a2, .ref a3, .ref a4, .ref a5])), (a1, .inl (cI, 16, .inl v.2.1)), (a2, .inl (cI, 16, .inl v.2.2.1)), (a3, .inl (cI, 16, .inl v.2.2.2.1)), (a4, .inl (cI, 16, .inl v.2.2.2.2)), (a5, .inl (cI, 64, .inl fb))]) s.heap.size)) (F0 m 14 ls []) := by
      intro t
      induction t with
      | zero => intro k g H locs ls ht; exact absurd ht (Nat.not_lt_zero _)
      | succ t ih_14 =>
        intro k g H locs ls ht hk1 hk2 hsd hw hl
        refine lv_iload_n hx hb dX2_takeOut_14 rfl (lv_at hl 0 rfl) ?_
        refine lv_iconst (v := nI 1) hx hb dX2_takeOut_15 (by decide +kernel) ?_
        refine lv_iadd hx hb dX2_takeOut_16 ?_
        refine lv_eqi (show _ = nI (k + 1) from nI_add _ _) ?_
        refine lv_aload_n hx hb dX2_takeOut_17 rfl (lv_at hl 2 rfl) ?_
        refine ww_get hx hb hts hin2 hown hw 0 rfl rfl 0 (by decide) k7 rfl dX2_takeOut_18 ?_
        refine lv_icmp_ge (tgt := 38) hx hb dX2_takeOut_21 (by decide) (fun c_21 => ?_) (fun c_21 => ?_)
        · have hk3 : k + 1 = v.1 := by simp (disch := omega) only [i_le, nI_toInt] at c_21; omega
          refine lv_aload_n hx hb dX2_takeOut_38 rfl (lv_at hl 2 rfl) ?_
          refine lv_dup hx hb dX2_takeOut_39 rfl ?_
          refine ww_get hx hb hts hin2 hown hw 0 rfl rfl 0 (by decide) k7 rfl dX2_takeOut_40 ?_
          refine lv_iconst (v := nI 1) hx hb dX2_takeOut_43 (by decide +kernel) ?_
          refine lv_isub hx hb dX2_takeOut_44 ?_
          refine lv_eqi (show _ = nI (v.1 - 1) from pk_sub (by omega)) ?_
          refine ww_put (ws' := [(a, .inr (2, [.int (nI (v.1 - 1)), .ref a1, .ref a2, .ref a3, .ref a4, .ref a5])), (a1, .inl (cI, 16, .inl g.2.1)), (a2, .inl (cI, 16, .inl g.2.2.1)), (a3, .inl (cI, 16, .inl g.2.2.2.1)), (a4, .inl (cI, 16, .inl g.2.2.2.2)), (a5, .inl (cI, 64, .inl fb))]) hx hb hts hin2 tyX2 tyX2_ok nmX2 hown hw 0 rfl rfl 0 (by decide) k7 rfl rfl rfl (Nat.le_of_ble_eq_true rfl) rfl dX2_takeOut_45 (fun H locs hw => ?_)
          exact ww_vret (u := (v.1 - 1, g.2.1, g.2.2.1, g.2.2.2.1, g.2.2.2.2)) hx hb hr hlk hw (TR_del' h hwb hi he hsd hk3) (Nat.le_of_ble_eq_true rfl) (Nat.le_of_ble_eq_true rfl) rfl dX2_takeOut_48
        · have hk3 : k + 1 < v.1 := by simp (disch := omega) only [i_le, nI_toInt] at c_21; omega
          refine lv_aload_n hx hb dX2_takeOut_24 rfl (lv_at hl 2 rfl) ?_
          refine lv_iload_n hx hb dX2_takeOut_25 rfl (lv_at hl 0 rfl) ?_
          refine lv_iconst (v := nI 1) hx hb dX2_takeOut_26 (by decide +kernel) ?_
          refine lv_iadd hx hb dX2_takeOut_27 ?_
          refine lv_eqi (show _ = nI (k + 1) from nI_add _ _) ?_
          refine lv_iload_n hx hb dX2_takeOut_28 rfl (lv_at hl 0 rfl) ?_
          refine ww_callV ([]) ([]) (As := [.int (nI (k + 1)), .int (nI k)]) (rest := []) ⟨hx, hb, hml, hown, hts⟩ (cT_copySlot l D cI a a1 a2 a3 a4 a5 g fb v.1 (k + 1) k (by omega) (by omega)) gX2_takeOut_X2_copySlot rfl hd_X2_copySlot ⟨Nat.le_of_ble_eq_true rfl, Nat.le_of_ble_eq_true rfl⟩ hw rfl rfl rfl rfl rfl hl.1 (Nat.le_of_ble_eq_true rfl) dX2_takeOut_29 ⟨Nat.le_of_ble_eq_true rfl, Nat.le_of_ble_eq_true rfl⟩ (fun v u H locs hq hw => ?_)
          obtain ⟨rfl, hq⟩ := hq
          have hw : ww D cI _ _ s ([(a, .inr (2, [.int (nI v.1), .ref a1, .ref a2, .ref a3, .ref a4, .ref a5])), (a1, .inl (cI, 16, .inl (upd g.2.1 k (g.2.1 (k + 1))))), (a2, .inl (cI, 16, .inl (upd g.2.2.1 k (g.2.2.1 (k + 1))))), (a3, .inl (cI, 16, .inl (upd g.2.2.2.1 k (g.2.2.2.1 (k + 1))))), (a4, .inl (cI, 16, .inl (upd g.2.2.2.2 k (g.2.2.2.2 (k + 1))))), (a5, .inl (cI, 64, .inl fb))]) H locs := hw
          refine W.eq (g2 := F0 m 32 ls []) rfl ?_
          refine lv_iinc (v := nI (k + 1)) (lv' := [(3, .int (nI (k + 1))), (2, .int (nI i)), (0, .ref a), (1, .int (nI w))]) hx hb dX2_takeOut_32 hl (k := 0) rfl (nI_add _ _) (by decide) rfl (fun ls hl => ?_)
          refine lv_goto (tgt := 14) hx hb dX2_takeOut_35 (by decide) ?_
          exact ih_14 (k + 1) (v.1, (upd g.2.1 k (g.2.1 (k + 1))), (upd g.2.2.1 k (g.2.2.1 (k + 1))), (upd g.2.2.2.1 k (g.2.2.2.1 (k + 1))), (upd g.2.2.2.2 k (g.2.2.2.2 (k + 1)))) _ _ _ (by omega) (by omega) (by omega) (SD_step hsd hk1 hk3 v.1) hw (lv_sub hl [0, 1, 2, 3] rfl)
    exact lp ((v.1 - (i)) + 1) i v _ _ _ (Nat.lt_succ_self _) (Nat.le_refl _) hi (SD_0 v i) hw (lv_sub hl [0, 1, 2, 3] rfl)
  · exact absurd (TR_no h hno) hp
