theorem ROk_em {b : Nat} {S : SS} {x : Rc} (h : Inv0 b S) (hx : XOk S x) : ROk (va_up (sR S) (sN S + 1) x) (sN S + 1) (sWk S) := by
  have hT := Inv0_T h
  obtain ⟨-, ⟨c1, -⟩, -⟩ := h
  obtain ⟨⟨x1, x2⟩, x3, x4, x5, x6, x7, x8, x9, x10⟩ := hx
  have hE := (hT.1 (rW x)).2 x3
  have hg := Agr_up (sR S) (sN S) x
  obtain ⟨R', hR'⟩ : ∃ R', R' = va_up (sR S) (sN S + 1) x := ⟨_, rfl⟩
  rw [← hR'] at hg ⊢
  have hRn : R' (sN S + 1) = x := by rw [hR']; simp [va_up]
  intro r r1 r2
  by_cases q : r ≤ sN S
  · exact ROk_mono hg (Nat.le_refl _) c1 r r1 q
  · have q : r = sN S + 1 := by omega
    subst q
    rw [hRn]
    refine ⟨⟨x1, by omega⟩, fun q => by omega, fun _ => hE.1, hE.2.1, by have := hE.2.2.2.1; omega, x5, x6, by omega, x8, ?_, fun q => ?_⟩
    · by_cases z : rG x = 0
      · exact Or.inl z
      · rw [hg (rG x) (by omega) x7]; exact x9
    · rw [x4]
      have z := (hE.2.2.2.2.2.2 (x10 q).1).2
      by_cases z2 : (sT S (rW x)).2.1 = 0
      · exact Or.inl z2
      · rw [hg _ (by omega) hE.2.2.2.1]; exact z
theorem eP_agr {b : Nat} {S : SS} {x : Rc} (h : Inv0 b S) {c : Nat} (hc : c ≤ sN S) : dp (va_up (sR S) (sN S + 1) x) c = dp (sR S) c := dp_agr h.2.1.1 (Agr_up _ _ x) _ _ hc
/-- a change -/
theorem Inv0_add {b : Nat} {S : SS} {w p d : Nat} {m : Int32} (h : Inv0 b S) (hd : sDo S = 0) (hs : (sT S w).1 = 1) (hp : p < 64) (hdw : d < 8) (hch : sCh S < 2000) : Inv0 (b + 2) (emP S (rcC S w p d m)) := by
  have hp0 : (sT S w).1 ≠ 0 := by omega
  have hE := ((Inv0_T h).1 w).2 hp0
  have hx : XOk S (rcC S w p d m) := ⟨⟨by show 1 ≤ 1; omega, by show 1 ≤ 6; omega⟩, hp0, rfl, hp, hdw, Nat.zero_le _, fun _ => rfl, Or.inl rfl, fun _ => ⟨hs, hch⟩⟩
  refine Inv_em _ h (Or.inl hd) hx (by omega) ?_
  have hRo := ROk_em h hx
  have e1 : tkE (sN S + 1) (rK (rcC S w p d m)) (rG (rcC S w p d m)) (sT S (rW (rcC S w p d m))) = ((sT S w).1, sN S + 1, sN S + 1) := rfl
  have hg := Agr_up (sR S) (sN S) (rcC S w p d m)
  rw [e1]
  have e2 : ub (va_up (sR S) (sN S + 1) (rcC S w p d m)) (sN S + 1) = (sT S w).2.2 := by
    have q : va_up (sR S) (sN S + 1) (rcC S w p d m) (sN S + 1) = rcC S w p d m := by simp [va_up]
    rw [ub, q]
    have z : nxO (va_up (sR S) (sN S + 1) (rcC S w p d m)) (sT S w).2.1 = (sT S w).2.2 := by
      rw [nxO_agr hg hE.2.2.2.1]; exact (hE.2.2.2.2.2.2 hs).1
    exact z
  have e3 : dp (va_up (sR S) (sN S + 1) (rcC S w p d m)) (sN S + 1) = dp (sR S) (sT S w).2.2 + 1 := by
    rw [dp_s hRo (by omega) (Nat.le_refl _), e2, eP_agr h hE.2.2.2.2.1]
  show 1 + (if (sT S w).1 = 0 then 0 else dp (va_up (sR S) (sN S + 1) (rcC S w p d m)) (sN S + 1) + 1) + b ≤ b + 2 + (if (sT S w).1 = 0 then 0 else dp (sR S) (sT S w).2.2 + 1)
  rw [if_neg hp0, if_neg hp0, e3]
  omega
/-- done, given up, prepared -/
theorem Inv0_k {b k w : Nat} {S : SS} (h : Inv0 b S) (hd : sDo S = 0) (hp0 : (sT S w).1 ≠ 0) (hk : k = 3 ∨ k = 4 ∨ k = 6) : Inv0 (b + 1) (emT S (rcW S k w)) := by
  have hE := ((Inv0_T h).1 w).2 hp0
  have hx : XOk S (rcW S k w) := ⟨⟨by show 1 ≤ k; omega, by show k ≤ 6; omega⟩, hp0, rfl, by show 0 < 64; omega, by show 0 < 8; omega, Nat.zero_le _, fun _ => rfl, Or.inl rfl, fun q => absurd (show k = 1 from q) (by omega)⟩
  refine Inv_em _ h (Or.inl hd) hx (by omega) ?_
  obtain ⟨z, hz⟩ : ∃ z : Nat, z ≠ 0 ∧ tkE (sN S + 1) (rK (rcW S k w)) (rG (rcW S k w)) (sT S (rW (rcW S k w))) = (z, sN S + 1, (sT S w).2.2) := by
    rcases hk with q | q | q <;> subst q
    · exact ⟨4, by decide, rfl⟩
    · exact ⟨2, by decide, rfl⟩
    · exact ⟨3, by decide, rfl⟩
  rw [hz.2]
  show 1 + (if z = 0 then 0 else dp (va_up (sR S) (sN S + 1) (rcW S k w)) (sT S w).2.2 + 1) + b ≤ b + 1 + (if (sT S w).1 = 0 then 0 else dp (sR S) (sT S w).2.2 + 1)
  rw [if_neg hz.1, if_neg hp0, eP_agr h hE.2.2.2.2.1]
  omega
/-- ended -/
theorem Inv0_end {b w : Nat} {S : SS} (h : Inv0 b S) (hd : sDo S = 0 ∨ sDo S = 3 ∨ sDo S = 4) (hp0 : (sT S w).1 ≠ 0) : Inv0 b (emT S (rcW S 5 w)) := by
  have hx : XOk S (rcW S 5 w) := ⟨⟨by show 1 ≤ 5; omega, by show 5 ≤ 6; omega⟩, hp0, rfl, by show 0 < 64; omega, by show 0 < 8; omega, Nat.zero_le _, fun _ => rfl, Or.inl rfl, fun q => absurd (show (5 : Nat) = 1 from q) (by omega)⟩
  refine Inv_em _ h hd hx (by omega) ?_
  show 1 + 0 + b ≤ b + (if (sT S w).1 = 0 then 0 else dp (sR S) (sT S w).2.2 + 1)
  rw [if_neg hp0]
  omega
/-- a change is undone -/
theorem Inv0_und {b w : Nat} {S : SS} (h : Inv0 b S) (hd : sDo S = 0 ∨ sDo S = 3 ∨ sDo S = 4) (hp0 : (sT S w).1 ≠ 0) (hc : 1 ≤ (sT S w).2.2) : Inv0 b (und S w) := by
  have hE := ((Inv0_T h).1 w).2 hp0
  have hR := h.2.1.1
  have hcn := hE.2.2.2.2.1
  have hKc : rK (sR S (sT S w).2.2) = 1 := hE.2.2.2.2.2.1.resolve_left (by omega)
  have hu := ub_lt hR hc hcn
  have hr := hR _ hc hcn
  have hx : XOk S (rcU S w) := ⟨⟨by show 1 ≤ 2; omega, by show 2 ≤ 6; omega⟩, hp0, rfl, hr.2.2.2.2.2.1, hr.2.2.2.2.2.2.1, by show ub (sR S) (sT S w).2.2 ≤ sN S; omega, fun q => absurd rfl q, ub_ch hR hc hcn hKc, fun q => absurd (show (2 : Nat) = 1 from q) (by omega)⟩
  refine Inv_em _ h hd hx (by omega) ?_
  have e1 : tkE (sN S + 1) (rK (rcU S w)) (rG (rcU S w)) (sT S (rW (rcU S w))) = ((sT S w).1, sN S + 1, ub (sR S) (sT S w).2.2) := rfl
  rw [e1]
  show 1 + (if (sT S w).1 = 0 then 0 else dp (va_up (sR S) (sN S + 1) (rcU S w)) (ub (sR S) (sT S w).2.2) + 1) + b ≤ b + (if (sT S w).1 = 0 then 0 else dp (sR S) (sT S w).2.2 + 1)
  rw [if_neg hp0, if_neg hp0, eP_agr h (by omega), dp_s hR hc hcn]
  omega
theorem und_T {w : Nat} {S : SS} (hp0 : (sT S w).1 ≠ 0) (hw : w ≠ 0) : sT (und S w) w = ((sT S w).1, sN S + 1, ub (sR S) (sT S w).2.2) := by
  show tkT (sT S) (sN S + 1) (rcU S w) w = _
  rw [tkT_p (x := rcU S w) hp0 hw]
  show va_up (sT S) w (tkE (sN S + 1) 2 (ub (sR S) (sT S w).2.2) (sT S w)) w = _
  simp [va_up, tkE]
theorem emT_T {k w : Nat} {S : SS} (hp0 : (sT S w).1 ≠ 0) (hw : w ≠ 0) : sT (emT S (rcW S k w)) w = tkE (sN S + 1) k 0 (sT S w) := by
  show tkT (sT S) (sN S + 1) (rcW S k w) w = _
  rw [tkT_p (x := rcW S k w) hp0 hw]
  show va_up (sT S) w (tkE (sN S + 1) k 0 (sT S w)) w = _
  simp [va_up]
theorem emT_n (S : SS) (x : Rc) : sN (emT S x) = sN S + 1 := rfl
theorem und_n (S : SS) (w : Nat) : sN (und S w) = sN S + 1 := rfl
theorem cap_mono (L : LG) (x : Rc) : L.2.2.2.1 ≤ (apL L x).2.2.2.1 := by
  show L.2.2.2.1 ≤ (if L.2.2.2.1 < L.1 * 7 + 7 then L.2.2.2.1 * 2 else L.2.2.2.1)
  split <;> omega
/-- undoing, down to a record -/
theorem undL_ok {b w to : Nat} : ∀ (k : Nat) {S : SS}, Inv0 b S → sDo S = 0 → (sT S w).1 ≠ 0 → Inv0 b (undL k S w to).2 ∧ sDo (undL k S w to).2 = 0 ∧ (sT (undL k S w to).2 w).1 ≠ 0 ∧ (undL k S w to).1 ≤ k ∧ sCap S ≤ sCap (undL k S w to).2 ∧ ((sT S w).2.2 ≤ k → (sT (undL k S w to).2 w).2.2 ≤ to) ∧ (undL k S w to).1 ≤ (sT S w).2.2 := by
  intro k
  induction k with
  | zero => intro S h hd hp; exact ⟨h, hd, hp, Nat.le_refl _, Nat.le_refl _, fun q => Nat.le_trans q (Nat.zero_le _), Nat.zero_le _⟩
  | succ k ih =>
    intro S h hd hp
    have hE := ((Inv0_T h).1 w).2 hp
    by_cases q : to < (sT S w).2.2
    · have e : undL (k + 1) S w to = ((undL k (und S w) w to).1 + 1, (undL k (und S w) w to).2) := by rw [undL, if_pos q]
      have hu := Inv0_und h (Or.inl hd) hp (by omega)
      have ht := und_T (S := S) hp (show w ≠ 0 by have := hE.1; omega)
      have hlt := ub_lt h.2.1.1 (show 1 ≤ (sT S w).2.2 by omega) hE.2.2.2.2.1
      obtain ⟨g1, g2, g3, g4, g5, g6, g7⟩ := ih (S := und S w) hu hd (by rw [ht]; exact hp)
      rw [e]
      rw [ht] at g6 g7
      exact ⟨g1, g2, g3, by show (undL k (und S w) w to).1 + 1 ≤ k + 1; omega, Nat.le_trans (cap_mono S.1 _) g5, fun z => g6 (by show ub (sR S) (sT S w).2.2 ≤ k; omega), by show (undL k (und S w) w to).1 + 1 ≤ _; have g7 : (undL k (und S w) w to).1 ≤ ub (sR S) (sT S w).2.2 := g7; omega⟩
    · have e : undL (k + 1) S w to = (0, S) := by rw [undL, if_neg q]
      rw [e]
      exact ⟨h, hd, hp, Nat.zero_le _, Nat.le_refl _, fun _ => by show (sT S w).2.2 ≤ to; omega, Nat.zero_le _⟩
theorem undL_n {w to : Nat} : ∀ (k : Nat) (S : SS), sN (undL k S w to).2 = sN S + (undL k S w to).1 := by
  intro k
  induction k with
  | zero => intro S; rfl
  | succ k ih =>
    intro S
    by_cases q : to < (sT S w).2.2
    · rw [undL, if_pos q]
      show sN (undL k (und S w) w to).2 = sN S + ((undL k (und S w) w to).1 + 1)
      rw [ih (und S w), und_n]
      omega
    · rw [undL, if_neg q]; rfl
/-- forcing -/
theorem Inv0_frc {b : Nat} {S : SS} (x : Nat) (h : Inv0 b S) : Inv0 b (frc S x) := by
  obtain ⟨⟨a1, a2⟩, c, d, e⟩ := h
  refine ⟨⟨?_, a2⟩, c, ?_, e⟩
  · show max (sFo S) (min x (sN S)) ≤ sN S
    omega
  · rcases d with d | ⟨d1, d2, d3⟩
    · exact Or.inl d
    · exact Or.inr ⟨d1, by show sLp S + 1 ≤ max (sFo S) (min x (sN S)); omega, d3⟩
/-- a work begins -/
theorem Inv0_begin {b : Nat} {S : SS} (h : Inv0 b S) (hd : sDo S = 0) (hw : sWk S < 200) (hc : cardT (sT S) 200 < 16) : Inv0 (b + 1) (S.1, S.2.1, (va_up (sT S) (sWk S + 1) (1, 0, 0), sBs S), S.2.2.2.1, (sLp S, sPt S, sWk S + 1, S.2.2.2.2.2.2.2)) := by
  have hT := Inv0_T h
  have hU := Inv0_U h (by omega)
  obtain ⟨⟨a1, a2, a3, a4, a5, a6⟩, ⟨c1, c2, c3, c4⟩, d, ⟨e1, e2, e3⟩, g, ph⟩ := h
  have ag : Agr (sR S) (sR S) (sN S) := fun _ _ _ => rfl
  have hz : (sT S (sWk S + 1)).1 = 0 := by
    by_cases z : (sT S (sWk S + 1)).1 = 0
    · exact z
    · have := ((hT.1 _).2 z).2.1; omega
  have hz2 : (lk S (sN S) (sWk S + 1)).1 = 0 := by
    by_cases z : (lk S (sN S) (sWk S + 1)).1 = 0
    · exact z
    · have := (((g (sN S) (Nat.le_refl _)).1 _).2 z).2.1; omega
  have hc2 : 1 ≤ sWk S + 1 ∧ sWk S + 1 ≤ 200 := by omega
  refine ⟨⟨a1, a2, a3, a4, a5, by show sCap S ≤ 14 * (b + 1) + 2000; omega⟩, ⟨ROk_mono ag (Nat.le_succ (sWk S)) c1, by show sWk S + 1 ≤ 200; omega, c3, c4⟩, d, ⟨TOk_mono (fun _ _ _ => rfl) (Nat.le_refl _) (Nat.le_succ (sWk S)) e1, e2, e3⟩, fun k hk => ?_, Or.inl ⟨hd, fun k => ?_, ?_, ?_, ?_⟩⟩
  · have := g k hk
    exact ⟨TOk_mono (fun _ _ _ => rfl) (Nat.le_refl _) (Nat.le_succ (sWk S)) this.1, this.2.1, Nat.le_succ_of_le this.2.2⟩
  · show va_up (sT S) (sWk S + 1) (1, 0, 0) k = lk S (sN S) k ∨ _ ∧ va_up (sT S) (sWk S + 1) (1, 0, 0) k = (1, 0, 0)
    by_cases z : k = sWk S + 1
    · subst z; exact Or.inr ⟨hz2, by simp [va_up]⟩
    · simp only [va_up, if_neg z]; exact hU.1 k
  · refine TOk_up (TOk_mono ag (Nat.le_refl _) (Nat.le_succ (sWk S)) hT.1) (fun q => absurd q (by decide)) (fun _ => ⟨by omega, Nat.le_refl _, by show 1 ≤ 4; omega, Nat.zero_le _, Nat.zero_le _, Or.inl rfl, fun _ => ⟨?_, Or.inl rfl⟩⟩)
    show nxO (sR S) 0 = 0
    rw [nxO, if_neg (fun q => q.1 rfl)]
  · have := card_up (sT S) (sWk S + 1) (1, 0, 0) 200
    rw [if_pos hc2, if_pos hc2] at this
    have q1 : eC (1, 0, 0) = 1 := rfl
    show cardT (va_up (sT S) (sWk S + 1) (1, 0, 0)) 200 ≤ 16
    omega
  · have := pot_up (sR S) (sT S) (sWk S + 1) (1, 0, 0) 200
    rw [if_pos hc2, if_pos hc2] at this
    have q1 : eP (sR S) (1, 0, 0) = 1 := rfl
    have := hU.2
    show sN S + pot (sR S) (va_up (sT S) (sWk S + 1) (1, 0, 0)) 200 ≤ b + 1
    omega
