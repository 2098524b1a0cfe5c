theorem cardT_mono (T : TF) : ∀ {a b : Nat}, a ≤ b → cardT T a ≤ cardT T b := by
  intro a b h
  induction h with
  | refl => exact Nat.le_refl _
  | step _ ih => exact Nat.le_trans ih (Nat.le_add_right _ _)
theorem nthW_eq {T : TF} {i w : Nat} (hw : 1 ≤ w) (hp : (T w).1 ≠ 0) (hc : cardT T (w - 1) = i) : ∀ m, w ≤ m → nthW T i m = w := by
  intro m
  induction m with
  | zero => intro h; omega
  | succ m ih =>
    intro h
    by_cases e : w = m + 1
    · subst e
      rw [nthW, if_pos ⟨hp, hc⟩]
    · rw [nthW, if_neg, ih (by omega)]
      rintro ⟨q1, q2⟩
      have a1 : cardT T w = i + 1 := by
        obtain ⟨k, rfl⟩ : ∃ k, w = k + 1 := ⟨w - 1, by omega⟩
        simp only [cardT, if_neg hp]
        rw [Nat.add_sub_cancel] at hc
        omega
      have a2 := cardT_mono T (show w ≤ m by omega)
      omega
theorem nthW_none {T : TF} {i : Nat} : ∀ m, cardT T m ≤ i → nthW T i m = 0 := by
  intro m
  induction m with
  | zero => intro _; rfl
  | succ m ih =>
    intro h
    have h1 : cardT T m ≤ i := Nat.le_trans (Nat.le_add_right _ _) h
    rw [nthW, if_neg, ih h1]
    rintro ⟨q1, q2⟩
    simp only [cardT, if_neg q1] at h
    omega
theorem TR_nth {v : TW} {T : TF} (h : TR v T) {i : Nat} (hi : i < v.1) : v.2.1 i = nI (nthW T i 200) ∧ (T (nthW T i 200)).1 ≠ 0 ∧ 1 ≤ nthW T i 200 ∧ nthW T i 200 ≤ 200 := by
  have hcd := TR_card h
  obtain ⟨h0, wl, h1, h2, h3⟩ := h
  -- how many works stand below wl i
  have key : ∀ m, m ≤ 200 → ∀ j, j ≤ v.1 → (∀ k, k < v.1 → (k < j ↔ wl k ≤ m)) → cardT T m = j := by
    intro m
    induction m with
    | zero =>
      intro _ j hj hk
      cases j with
      | zero => rfl
      | succ j => have := (hk j (by omega)).mp (Nat.lt_succ_self _); have := (h1 j (by omega)).2.1; omega
    | succ m ih =>
      intro hm j hj hk
      by_cases z : (T (m + 1)).1 = 0
      · simp only [cardT, if_pos z]
        refine ih (by omega) j hj (fun k k1 => ⟨fun q => ?_, fun q => (hk k k1).mpr (by omega)⟩)
        have := (hk k k1).mp q
        have : wl k ≠ m + 1 := fun e => (h1 k k1).2.2.2 (by rw [e]; exact z)
        omega
      · simp only [cardT, if_neg z]
        obtain ⟨k0, k1, k2⟩ := h3 _ z
        have hj0 : k0 < j := (hk k0 k1).mpr (by omega)
        have hje : j = k0 + 1 := by
          by_cases q : k0 + 1 < j
          · have a1 := (hk (k0 + 1) (by omega)).mp q
            have a2 := h2 k0 (k0 + 1) (by omega) (by omega)
            omega
          · omega
        subst hje
        rw [ih (by omega) k0 (by omega) (fun k q => ⟨fun r => ?_, fun r => ?_⟩)]
        · have := h2 k k0 r k1; omega
        · rcases Nat.lt_trichotomy k k0 with a | a | a
          · exact a
          · subst a; omega
          · have := h2 k0 k a q; omega
  have a := h1 i hi
  have hc : cardT T (wl i - 1) = i := key (wl i - 1) (by omega) i (by omega) (fun k k1 => ⟨fun q => by have := h2 k i q hi; omega, fun q => by
    rcases Nat.lt_trichotomy k i with z | z | z
    · exact z
    · subst z; omega
    · have := h2 i k z k1; omega⟩)
  have e := nthW_eq a.2.1 a.2.2.2 hc 200 a.2.2.1
  rw [e]
  exact ⟨a.1.1, a.2.2.2, a.2.1, a.2.2.1⟩
theorem cnt_eq {f : Nat → Int32} {n : Nat} {R : Nat → Rc} (h : LRep f n R) (hK : ∀ r, 1 ≤ r → r ≤ n → rK (R r) ≤ 8) : ∀ m, m ≤ n → cntC f m = cntK R m := by
  intro m
  induction m with
  | zero => intro _; rfl
  | succ m ih =>
    intro hm
    simp only [cntC, cntK]
    rw [ih (by omega)]
    have g := (h (m + 1) (by omega) hm).1
    rw [Nat.add_sub_cancel] at g
    have k := hK (m + 1) (by omega) hm
    rw [g]
    by_cases z : rK (R (m + 1)) = 1
    · rw [if_pos (by rw [z]), if_pos z]
    · rw [if_neg (fun q => z ((nI_eq (by omega) (by omega)).mp q)), if_neg z]
theorem pas_n (S : SS) : sN (pas S) = sN S ∧ sAt S ≤ sAt S := by
  obtain ⟨d, a, e⟩ := pas_same S
  rw [e]; exact ⟨rfl, Nat.le_refl _⟩
theorem pas_at {b : Nat} {S : SS} (h : Inv0 b S) (ha : sAt S ≤ b + 1) : sAt (pas S) ≤ b + 1 := by
  have hn := Inv0_n h
  have hl := lbD_le h.2.2.2.1.2.2 64
  have h1 : sAt (pas1 S) ≤ b + 1 := by
    rw [pas1]
    split
    · show (if lbD (sBs S) 64 = 0 then sN S + 1 else lbD (sBs S) 64) ≤ b + 1
      split <;> omega
    · exact ha
  have h2 : sAt (pas2 (pas1 S)) = sAt (pas1 S) := by rw [pas2]; split <;> rfl
  have h3 : sAt (pas3 (pas2 (pas1 S))) = sAt (pas2 (pas1 S)) := by rw [pas3]; split <;> rfl
  have h4 : sAt (pas4 (pas3 (pas2 (pas1 S)))) = sAt (pas3 (pas2 (pas1 S))) := by rw [pas4]; split <;> rfl
  show sAt (pas4 (pas3 (pas2 (pas1 S)))) ≤ b + 1
  omega
/-- all that holds between two calls -/
def InvF (b : Nat) (S : SS) : Prop := Inv b S ∧ E5 S ∧ sAt S ≤ b + 1
theorem at_stp {b : Nat} {S : SS} (h : Inv b S) (ha : sAt S ≤ b + 1) : sAt (stp S) ≤ b + 1 := by
  have hn := Inv0_n h.1
  rw [stp]
  by_cases q1 : sDo S = 1
  · rw [if_pos q1]
    exact pas_at (Inv0_look h.1 q1 (h.2.1 q1)) (by show sAt S + 1 ≤ b + 1; have := h.2.1 q1; omega)
  · rw [if_neg q1]
    by_cases q2 : sDo S = 2
    · rw [if_pos q2]
      exact pas_at (Inv0_again h.1 q2 (h.2.2.1 q2)) (by show sAt S + 1 ≤ b + 1; have := h.2.2.1 q2; omega)
    · rw [if_neg q2]
      by_cases q3 : sDo S = 3
      · rw [if_pos q3]
        have hp : (sT S (lwD (sT S) 4 200)).1 ≠ 0 := by have := (lwD_in (sT S) 4 200).resolve_left (h.2.2.2.1 q3); omega
        obtain ⟨w, hw⟩ : ∃ w, lwD (sT S) 4 200 = w := ⟨_, rfl⟩
        rw [hw] at hp ⊢
        exact pas_at (Inv0_end h.1 (by omega) hp) ha
      · rw [if_neg q3]
        by_cases q4 : sDo S = 4
        · rw [if_pos q4, uoe]
          have hp : (sT S (wuD (sT S) 200)).1 ≠ 0 := by rcases (wuD_in (T := sT S) 200).resolve_left (h.2.2.2.2 q4) with z | z <;> omega
          obtain ⟨w, hw⟩ : ∃ w, wuD (sT S) 200 = w := ⟨_, rfl⟩
          rw [hw] at hp ⊢
          by_cases q5 : 0 < (sT S w).2.2
          · rw [if_pos q5]; exact pas_at (S := setC (und S w) (sC2 S) (sC3 S) (sC4 S) (sC5 S + 1)) (Inv0_und h.1 (by omega) hp q5) ha
          · rw [if_neg q5]; exact pas_at (Inv0_end h.1 (by omega) hp) ha
        · rw [if_neg q4]; exact pas_at h.1 ha
theorem InvF_stp {b : Nat} {S : SS} (h : InvF b S) : InvF b (stp S) ∧ sCap S ≤ sCap (stp S) := ⟨⟨(Inv_stp h.1).1, E5_stp h.1 h.2.1, at_stp h.1 h.2.2⟩, (Inv_stp h.1).2⟩
theorem InvF_stpL {b : Nat} : ∀ (k : Nat) {S : SS}, InvF b S → InvF b (stpL k S).2 ∧ sCap S ≤ sCap (stpL k S).2 ∧ (stpL k S).1 ≤ k := by
  intro k
  induction k with
  | zero => intro S h; exact ⟨h, Nat.le_refl _, Nat.le_refl _⟩
  | succ k ih =>
    intro S h
    rw [stpL]
    split
    · exact ⟨h, Nat.le_refl _, Nat.zero_le _⟩
    · have g := InvF_stp h
      have g2 := ih g.1
      exact ⟨g2.1, Nat.le_trans g.2 g2.2.1, Nat.succ_le_succ g2.2.2⟩
theorem stpL_stop {k : Nat} {S : SS} (h : sDo S = 0) : stpL k S = (0, S) := by
  cases k with
  | zero => rfl
  | succ k => rw [stpL, if_pos h]
theorem stpL_go {k : Nat} {S : SS} (hk : 1 ≤ k) (h : ¬ sDo S = 0) : stpL k S = ((stpL (k - 1) (stp S)).1 + 1, (stpL (k - 1) (stp S)).2) := by
  obtain ⟨j, rfl⟩ : ∃ j, k = j + 1 := ⟨k - 1, by omega⟩
  rw [stpL, if_neg h, Nat.add_sub_cancel]
