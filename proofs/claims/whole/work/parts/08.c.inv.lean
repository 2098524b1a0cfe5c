theorem Inv0_mono {b b' : Nat} {S : SS} (hb : b ≤ b') (h : Inv0 b S) : Inv0 b' S := by
  obtain ⟨⟨a1, a2, a3, a4, a5, a6⟩, c, d, e, g, ph⟩ := h
  refine ⟨⟨a1, a2, a3, a4, a5, by omega⟩, c, d, e, fun k hk => ⟨(g k hk).1, (g k hk).2.1, Nat.le_trans (g k hk).2.2 hb⟩, ?_⟩
  rcases ph with ⟨q1, q2, q3, q4, q5⟩ | q | q
  · exact Or.inl ⟨q1, q2, q3, q4, Nat.le_trans q5 hb⟩
  · exact Or.inr (Or.inl q)
  · exact Or.inr (Or.inr q)
theorem Stdy_0 {S : SS} (h : sDo S = 0) : Stdy S := ⟨fun q => by omega, fun q => by omega, fun q => by omega, fun q => by omega⟩
/-- a page is written -/
theorem Inv0_write {b : Nat} {S : SS} (G : PG) (p x : Nat) (h : Inv0 b S) : Inv0 b ((sN S, max (sFo S) (min x (sN S)), S.1.2.2), G, (sT S, va_up (sBs S) p 0), S.2.2.2) := by
  have h2 := Inv0_frc x h
  obtain ⟨a, c, d, ⟨e1, e2, e3⟩, g, ph⟩ := h2
  have ph' : Ph b ((sN S, max (sFo S) (min x (sN S)), S.1.2.2), G, (sT S, va_up (sBs S) p 0), S.2.2.2) := by
    rcases ph with q | ⟨q0, q1, q2, q3, q4, q5⟩ | q
    · exact Or.inl q
    · refine Or.inr (Or.inl ⟨q0, q1, q2, q3, q4, fun z1 z2 r => ?_⟩)
      show va_up (sBs S) p 0 r = 0
      by_cases z : r = p
      · simp only [va_up, if_pos z]
      · simp only [va_up, if_neg z]; exact q5 z1 z2 r
    · exact Or.inr (Or.inr q)
  refine ⟨a, c, d, ⟨e1, e2, fun q => ?_⟩, g, ph'⟩
  show va_up (sBs S) p 0 q ≤ sN S
  by_cases z : q = p
  · simp only [va_up, if_pos z]; exact Nat.zero_le _
  · simp only [va_up, if_neg z]; exact e3 q
/-- a point -/
theorem Inv0_point {b : Nat} {S : SS} (h : Inv0 b S) (hd : sDo S = 0) (hp : sPt S < 100) : Inv0 (b + 2) (frc (apL (apL S.1 (rc0 7)) (rc0 8), S.2.1, S.2.2.1, S.2.2.1, (sN S + 1, sPt S + 1, S.2.2.2.2.2.2)) (sN S + 2)) := by
  have hT := Inv0_T h
  have hU := Inv0_U h (by omega)
  have hnb := Inv0_n h
  obtain ⟨⟨a1, a2, a3, a4, a5, a6⟩, ⟨c1, c2, c3, c4⟩, d, ⟨e1, e2, e3⟩, g, ph⟩ := h
  obtain ⟨R', hR'⟩ : ∃ R', R' = va_up (va_up (sR S) (sN S + 1) (rc0 7)) (sN S + 1 + 1) (rc0 8) := ⟨_, rfl⟩
  have hg : Agr (sR S) R' (sN S) := fun r r1 r2 => by rw [hR']; simp [va_up, show r ≠ sN S + 1 + 1 by omega, show r ≠ sN S + 1 by omega]
  have h7 : R' (sN S + 1) = rc0 7 := by rw [hR']; simp [va_up]
  have h8 : R' (sN S + 2) = rc0 8 := by rw [hR']; simp [va_up]
  have cap1 := cap_ok (b := b) (b' := b + 1) (L := S.1) (x := rc0 7) hnb a6 (by omega) a4 a5
  have cap2 := cap_ok (b := b + 1) (b' := b + 2) (L := apL S.1 (rc0 7)) (x := rc0 8) (by show sN S + 1 ≤ b + 1; omega) cap1.2.2.1 (by omega) cap1.1 cap1.2.1
  have hlow : ∀ k, k ≤ sN S → lkT R' (sT S) (sN S + 1) k = T0 := by
    intro k hk
    cases k with
    | zero => rfl
    | succ k => show (if k + 1 < sN S + 1 then T0 else _) = T0; rw [if_pos (by omega)]
  have hm : lkT R' (sT S) (sN S + 1) (sN S + 1) = T0 := by
    show (if sN S + 1 < sN S + 1 then T0 else if rK (R' (sN S + 1)) = 8 then sT S else tkT (lkT R' (sT S) (sN S + 1) (sN S)) (sN S + 1) (R' (sN S + 1))) = T0
    rw [if_neg (Nat.lt_irrefl _), h7, if_neg (by decide), hlow _ (Nat.le_refl _), tkT, if_pos (show rW (rc0 7) = 0 from rfl)]
  have he : lkT R' (sT S) (sN S + 1) (sN S + 2) = sT S := by
    show (if sN S + 2 < sN S + 1 then T0 else if rK (R' (sN S + 2)) = 8 then sT S else _) = sT S
    rw [if_neg (by omega), h8, if_pos (show rK (rc0 8) = 8 from rfl)]
  have hTk : TOk R' (sN S) (sWk S) (sT S) := TOk_mono hg (Nat.le_refl _) (Nat.le_refl _) hT.1
  have hpot : pot R' (sT S) 200 = pot (sR S) (sT S) 200 := pot_agr c1 hg hT.1 200
  have hROk : ROk R' (sN S + 2) (sWk S) := by
    intro r r1 r2
    by_cases q : r ≤ sN S
    · exact ROk_mono hg (Nat.le_refl _) c1 r r1 q
    · rcases (show r = sN S + 1 ∨ r = sN S + 2 by omega) with q | q <;> subst q
      · rw [h7]
        exact ⟨⟨by decide, by decide⟩, fun _ => rfl, fun q => absurd q (by decide), Nat.zero_le _, by show 0 < sN S + 1; omega, by decide, by decide, by show 0 < sN S + 1; omega, fun _ => rfl, Or.inl rfl, fun _ => Or.inl rfl⟩
      · rw [h8]
        exact ⟨⟨by decide, by decide⟩, fun _ => rfl, fun q => absurd q (by decide), Nat.zero_le _, by show 0 < sN S + 2; omega, by decide, by decide, by show 0 < sN S + 2; omega, fun _ => rfl, Or.inl rfl, fun _ => Or.inl rfl⟩
  refine ⟨⟨?_, ?_, ?_, cap2.1, cap2.2.1, cap2.2.2.1⟩, ⟨?_, c2, by show sPt S + 1 ≤ 100; omega, ⟨fun q => absurd (show sN S + 1 = 0 from q) (by omega), fun q => absurd (show sPt S + 1 = 0 from q) (by omega)⟩⟩, ?_, ⟨?_, fun p => Nat.le_succ_of_le (e3 p), fun p => by have := e3 p; show sBs S p ≤ sN S + 1 + 1; omega⟩, ?_, ?_⟩
  · show max (sFo S) (min (sN S + 2) (sN S + 1 + 1)) ≤ sN S + 1 + 1
    omega
  · show sCh S + (if (7 : Nat) = 1 then 1 else 0) + (if (8 : Nat) = 1 then 1 else 0) = cntK (va_up (va_up (sR S) (sN S + 1) (rc0 7)) (sN S + 1 + 1) (rc0 8)) (sN S) + (if rK (va_up (va_up (sR S) (sN S + 1) (rc0 7)) (sN S + 1 + 1) (rc0 8) (sN S + 1)) = 1 then 1 else 0) + (if rK (va_up (va_up (sR S) (sN S + 1) (rc0 7)) (sN S + 1 + 1) (rc0 8) (sN S + 1 + 1)) = 1 then 1 else 0)
    rw [← hR', h7, show R' (sN S + 1 + 1) = rc0 8 from h8, cntK_agr hg _ (Nat.le_refl _), a2]
    rfl
  · show sCh S + (if (7 : Nat) = 1 then 1 else 0) + (if (8 : Nat) = 1 then 1 else 0) ≤ 2000
    exact a3
  · show ROk (va_up (va_up (sR S) (sN S + 1) (rc0 7)) (sN S + 1 + 1) (rc0 8)) (sN S + 1 + 1) (sWk S)
    rw [← hR']; exact hROk
  · refine Or.inr ⟨by show 1 ≤ sN S + 1; omega, by show sN S + 1 + 1 ≤ max (sFo S) (min (sN S + 2) (sN S + 1 + 1)); omega, ?_, ?_, fun r r1 r2 => ?_⟩
    · show rK (va_up (va_up (sR S) (sN S + 1) (rc0 7)) (sN S + 1 + 1) (rc0 8) (sN S + 1)) = 7
      rw [← hR', h7]; rfl
    · show rK (va_up (va_up (sR S) (sN S + 1) (rc0 7)) (sN S + 1 + 1) (rc0 8) (sN S + 1 + 1)) = 8
      rw [← hR', show R' (sN S + 1 + 1) = rc0 8 from h8]; rfl
    · have r1 : sN S + 1 + 1 < r := r1
      have r2 : r ≤ sN S + 1 + 1 := r2
      omega
  · show TOk (va_up (va_up (sR S) (sN S + 1) (rc0 7)) (sN S + 1 + 1) (rc0 8)) (sN S + 1) (sWk S) (sT S)
    rw [← hR']
    exact TOk_mono (fun _ _ _ => rfl) (Nat.le_succ _) (Nat.le_refl _) hTk
  · intro k hk
    have hk : k ≤ sN S + 2 := hk
    show TOk (va_up (va_up (sR S) (sN S + 1) (rc0 7)) (sN S + 1 + 1) (rc0 8)) k (sWk S) (lkT (va_up (va_up (sR S) (sN S + 1) (rc0 7)) (sN S + 1 + 1) (rc0 8)) (sT S) (sN S + 1) k) ∧ cardT (lkT (va_up (va_up (sR S) (sN S + 1) (rc0 7)) (sN S + 1 + 1) (rc0 8)) (sT S) (sN S + 1) k) 200 ≤ 16 ∧ k + pot (va_up (va_up (sR S) (sN S + 1) (rc0 7)) (sN S + 1 + 1) (rc0 8)) (lkT (va_up (va_up (sR S) (sN S + 1) (rc0 7)) (sN S + 1 + 1) (rc0 8)) (sT S) (sN S + 1) k) 200 ≤ b + 2
    rw [← hR']
    by_cases q : k ≤ sN S + 1
    · have e0 : lkT R' (sT S) (sN S + 1) k = T0 := by
        by_cases q2 : k ≤ sN S
        · exact hlow k q2
        · rw [show k = sN S + 1 by omega]; exact hm
      rw [e0, card_0, pot_0]
      exact ⟨TOk_0 _ _ _, by omega, by omega⟩
    · have q : k = sN S + 2 := by omega
      subst q
      rw [he, hpot]
      exact ⟨TOk_mono (fun _ _ _ => rfl) (by omega) (Nat.le_refl _) hTk, hT.2, by have := hU.2; omega⟩
  · refine Or.inl ⟨hd, ?_, ?_, hT.2, ?_⟩
    · show Sub (lkT (va_up (va_up (sR S) (sN S + 1) (rc0 7)) (sN S + 1 + 1) (rc0 8)) (sT S) (sN S + 1) (sN S + 2)) (sT S)
      rw [← hR', he]; exact Sub_rf _
    · show TOk (va_up (va_up (sR S) (sN S + 1) (rc0 7)) (sN S + 1 + 1) (rc0 8)) (sN S + 2) (sWk S) (sT S)
      rw [← hR']; exact TOk_mono (fun _ _ _ => rfl) (by omega) (Nat.le_refl _) hTk
    · show sN S + 2 + pot (va_up (va_up (sR S) (sN S + 1) (rc0 7)) (sN S + 1 + 1) (rc0 8)) (sT S) 200 ≤ b + 2
      rw [← hR', hpot]
      have := hU.2
      omega
theorem lkT_low {R : Nat → Rc} {Tt : TF} {lp k : Nat} (h : k < lp) : lkT R Tt lp k = T0 := by
  cases k with
  | zero => rfl
  | succ k => show (if k + 1 < lp then T0 else _) = T0; rw [if_pos h]
/-- a loss -/
theorem Inv0_los {b : Nat} {S : SS} (k : Nat) (h : Inv0 b S) : Inv0 b (los S k) := by
  have hnb := Inv0_n h
  obtain ⟨⟨a1, a2, a3, a4, a5, a6⟩, ⟨c1, c2, c3, c4⟩, d, ⟨e1, e2, e3⟩, g, ph⟩ := h
  have k1 : sFo S ≤ kept S k := Nat.le_add_right _ _
  have k2 : kept S k ≤ sN S := by show sFo S + min k (sN S - sFo S) ≤ sN S; omega
  refine ⟨⟨Nat.le_refl _, rfl, ?_, ?_, a5, a6⟩, ⟨ROk_le c1 k2, c2, c3, c4⟩, ?_, ⟨e1, e2, fun _ => Nat.zero_le _⟩, fun j hj => g j (Nat.le_trans hj k2), Or.inr (Or.inl ⟨rfl, ?_, ?_, ?_, ?_, fun _ _ _ => rfl⟩)⟩
  · have := cntK_mono (sR S) k2
    show cntK (sR S) (kept S k) ≤ 2000
    omega
  · show kept S k * 7 ≤ sCap S
    omega
  · rcases d with ⟨d1, d2⟩ | ⟨d1, d2, d3, d4, d5⟩
    · exact Or.inl ⟨d1, fun r r1 r2 => d2 r r1 (Nat.le_trans r2 k2)⟩
    · exact Or.inr ⟨d1, Nat.le_trans d2 k1, d3, d4, fun r r1 r2 => d5 r r1 (Nat.le_trans r2 k2)⟩
  · show sLp S ≤ max (sLp S) 1
    omega
  · show 1 ≤ max (sLp S) 1
    omega
  · show max (sLp S) 1 ≤ kept S k + 1
    rcases d with ⟨d1, -⟩ | ⟨d1, d2, -⟩ <;> omega
  · show T0 = lkT (sR S) (sTt S) (sLp S) (max (sLp S) 1 - 1)
    by_cases z : sLp S = 0
    · rw [z]; rfl
    · rw [lkT_low (by omega)]
theorem lbD_le {B : Nat → Nat} {n : Nat} (h : ∀ p, B p ≤ n) : ∀ m, lbD B m ≤ n := by
  intro m
  induction m with
  | zero => exact Nat.zero_le _
  | succ m ih => simp only [lbD]; split; exact h m; exact ih
/-- parts are passed over -/
theorem Inv0_pas1 {b : Nat} {S : SS} (h : Inv0 b S) : Inv0 b (pas1 S) ∧ (sDo (pas1 S) = 1 → sAt (pas1 S) ≤ sN (pas1 S)) := by
  by_cases q : sDo S = 1 ∧ sN S < sAt S
  · rw [pas1, if_pos q]
    refine ⟨?_, fun z => absurd (show (2 : Nat) = 1 from z) (by decide)⟩
    obtain ⟨a, c, d, e, g, ph⟩ := h
    refine ⟨a, c, d, e, g, Or.inr (Or.inr ⟨⟨by show 2 ≤ 2; omega, by show 2 ≤ 4; omega⟩, fun _ => ?_, ?_⟩)⟩
    · have := lbD_le e.2.2 64
      show 1 ≤ (if lbD (sBs S) 64 = 0 then sN S + 1 else lbD (sBs S) 64) ∧ (if lbD (sBs S) 64 = 0 then sN S + 1 else lbD (sBs S) 64) ≤ sN S + 1
      split <;> omega
    · rcases ph with ⟨z, -⟩ | ⟨-, -, p1, p2, p3, -⟩ | ⟨z, -⟩
      · omega
      · show sT S = lk S (sN S)
        rw [p3, show sAt S - 1 = sN S by omega]
      · omega
  · rw [pas1, if_neg q]
    exact ⟨h, fun z => by by_cases k : sN S < sAt S; exact absurd ⟨z, k⟩ q; omega⟩
theorem Inv0_pas2 {b : Nat} {S : SS} (h : Inv0 b S) (h1 : sDo S = 1 → sAt S ≤ sN S) : Inv0 b (pas2 S) ∧ (sDo (pas2 S) = 1 → sAt (pas2 S) ≤ sN (pas2 S)) ∧ (sDo (pas2 S) = 2 → sAt (pas2 S) ≤ sN (pas2 S)) := by
  by_cases q : sDo S = 2 ∧ sN S < sAt S
  · rw [pas2, if_pos q]
    refine ⟨?_, fun z => absurd (show (3 : Nat) = 1 from z) (by decide), fun z => absurd (show (3 : Nat) = 2 from z) (by decide)⟩
    obtain ⟨a, c, d, e, g, ph⟩ := h
    refine ⟨a, c, d, e, g, Or.inr (Or.inr ⟨⟨by show 2 ≤ 3; omega, by show 3 ≤ 4; omega⟩, fun z => absurd (show (3 : Nat) = 2 from z) (by decide), ?_⟩)⟩
    rcases ph with ⟨z, -⟩ | ⟨z, -⟩ | ⟨-, -, z⟩
    · omega
    · omega
    · exact z
  · rw [pas2, if_neg q]
    exact ⟨h, h1, fun z => by by_cases k : sN S < sAt S; exact absurd ⟨z, k⟩ q; omega⟩
theorem Inv0_pas3 {b : Nat} {S : SS} (h : Inv0 b S) (h1 : sDo S = 1 → sAt S ≤ sN S) (h2 : sDo S = 2 → sAt S ≤ sN S) : Inv0 b (pas3 S) ∧ (sDo (pas3 S) = 1 → sAt (pas3 S) ≤ sN (pas3 S)) ∧ (sDo (pas3 S) = 2 → sAt (pas3 S) ≤ sN (pas3 S)) ∧ (sDo (pas3 S) = 3 → lwD (sT (pas3 S)) 4 200 ≠ 0) := by
  by_cases q : sDo S = 3 ∧ lwD (sT S) 4 200 = 0
  · rw [pas3, if_pos q]
    refine ⟨?_, fun z => absurd (show (4 : Nat) = 1 from z) (by decide), fun z => absurd (show (4 : Nat) = 2 from z) (by decide), fun z => absurd (show (4 : Nat) = 3 from z) (by decide)⟩
    obtain ⟨a, c, d, e, g, ph⟩ := h
    refine ⟨a, c, d, e, g, Or.inr (Or.inr ⟨⟨by show 2 ≤ 4; omega, by show 4 ≤ 4; omega⟩, fun z => absurd (show (4 : Nat) = 2 from z) (by decide), ?_⟩)⟩
    rcases ph with ⟨z, -⟩ | ⟨z, -⟩ | ⟨-, -, z⟩
    · omega
    · omega
    · exact z
  · rw [pas3, if_neg q]
    exact ⟨h, h1, h2, fun z k => q ⟨z, k⟩⟩
theorem Inv_pas4 {b : Nat} {S : SS} (h : Inv0 b S) (h1 : sDo S = 1 → sAt S ≤ sN S) (h2 : sDo S = 2 → sAt S ≤ sN S) (h3 : sDo S = 3 → lwD (sT S) 4 200 ≠ 0) : Inv b (pas4 S) := by
  by_cases q : sDo S = 4 ∧ wuD (sT S) 200 = 0
  · rw [pas4, if_pos q]
    refine ⟨?_, Stdy_0 rfl⟩
    have hT := Inv0_T h
    have hU := Inv0_U h (by omega)
    obtain ⟨a, c, d, e, g, ph⟩ := h
    exact ⟨a, c, d, e, g, Or.inl ⟨rfl, hU.1, hT.1, hT.2, hU.2⟩⟩
  · rw [pas4, if_neg q]
    exact ⟨h, h1, h2, h3, fun z k => q ⟨z, k⟩⟩
theorem Inv_pas {b : Nat} {S : SS} (h : Inv0 b S) : Inv b (pas S) := by
  obtain ⟨g1, g2⟩ := Inv0_pas1 h
  obtain ⟨g3, g4, g5⟩ := Inv0_pas2 g1 g2
  obtain ⟨g6, g7, g8, g9⟩ := Inv0_pas3 g3 g4 g5
  exact Inv_pas4 g6 g7 g8 g9
theorem pas_cap (S : SS) : sCap (pas S) = sCap S := by
  simp only [pas, pas4, pas3, pas2, pas1, setDo]
  (repeat' split) <;> rfl
/-- looking through -/
theorem Inv0_look {b : Nat} {S : SS} (h : Inv0 b S) (hd : sDo S = 1) (ha : sAt S ≤ sN S) : Inv0 b (setDo (look S (sAt S)) 1 (sAt S + 1)) := by
  have hlp := Inv0_lp h
  obtain ⟨a, c, d, ⟨e1, e2, e3⟩, g, ph⟩ := h
  have hph : sLp S ≤ sAt S ∧ 1 ≤ sAt S ∧ sT S = lk S (sAt S - 1) ∧ (1 ≤ sLp S → sAt S ≤ sLp S + 1 → ∀ p, sBs S p = 0) := by
    rcases ph with ⟨z, -⟩ | ⟨-, p0, p1, p2, p3, p4⟩ | ⟨z, -⟩
    · omega
    · exact ⟨p0, p1, p3, p4⟩
    · omega
  obtain ⟨p0, p1, p3, p4⟩ := hph
  obtain ⟨j, hj⟩ : ∃ j, sAt S = j + 1 := ⟨sAt S - 1, by omega⟩
  have hl : lk S (sAt S) = if rK (sR S (sAt S)) = 8 then sTt S else tkT (sT S) (sAt S) (sR S (sAt S)) := by
    rw [p3, hj, Nat.add_sub_cancel]
    show (if j + 1 < sLp S then T0 else _) = _
    rw [if_neg (by omega)]
  by_cases q : rK (sR S (sAt S)) = 8
  · rw [if_pos q] at hl
    have e : look S (sAt S) = setC (setTB S (sTt S) (sBt S)) (sC2 S + 1) (sC3 S) (sC4 S) (sC5 S) := by rw [look, if_pos q]
    rw [e]
    refine ⟨a, c, d, ⟨e1, e2, fun p => Nat.le_trans (e2 p) hlp⟩, g, Or.inr (Or.inl ⟨rfl, by show sLp S ≤ sAt S + 1; omega, by show 1 ≤ sAt S + 1; omega, by show sAt S + 1 ≤ sN S + 1; omega, ?_, fun z1 z2 => ?_⟩)⟩
    · show sTt S = lk S (sAt S + 1 - 1)
      rw [Nat.add_sub_cancel, hl]
    · have z2 : sAt S + 1 ≤ sLp S + 1 := z2
      rcases d with ⟨d1, -⟩ | ⟨d1, d2, d3, -⟩
      · have z1 : 1 ≤ sLp S := z1
        omega
      · rw [show sAt S = sLp S by omega, d3] at q
        omega
  · rw [if_neg q] at hl
    have e : look S (sAt S) = setC (setTB S (tkT (sT S) (sAt S) (sR S (sAt S))) (tkB (sBs S) (sAt S) (sR S (sAt S)))) (sC2 S + 1) (sC3 S) (sC4 S) (sC5 S) := by rw [look, if_neg q]
    rw [e]
    refine ⟨a, c, d, ⟨e1, e2, fun p => ?_⟩, g, Or.inr (Or.inl ⟨rfl, by show sLp S ≤ sAt S + 1; omega, by show 1 ≤ sAt S + 1; omega, by show sAt S + 1 ≤ sN S + 1; omega, ?_, fun z1 z2 => ?_⟩)⟩
    · show tkB (sBs S) (sAt S) (sR S (sAt S)) p ≤ sN S
      rw [tkB]
      split
      · by_cases z : p = rP (sR S (sAt S))
        · simp only [va_up, if_pos z]; exact ha
        · simp only [va_up, if_neg z]; exact e3 p
      · exact e3 p
    · show tkT (sT S) (sAt S) (sR S (sAt S)) = lk S (sAt S + 1 - 1)
      rw [Nat.add_sub_cancel, hl]
    · have z1 : 1 ≤ sLp S := z1
      have z2 : sAt S + 1 ≤ sLp S + 1 := z2
      show ∀ p, tkB (sBs S) (sAt S) (sR S (sAt S)) p = 0
      rcases d with ⟨d1, -⟩ | ⟨d1, d2, d3, -⟩
      · omega
      · have hw : rW (sR S (sAt S)) = 0 := by
          rw [show sAt S = sLp S by omega]
          exact (c.1 (sLp S) d1 hlp).2.1 (by omega)
        intro p
        rw [tkB, if_neg (fun k => k.1 hw)]
        exact p4 z1 (by omega) p
theorem again_eq (S : SS) (r : Nat) : ∃ (G : PG) (c3 c4 : Int32), again S r = setC (setPg S G) (sC2 S) c3 c4 (sC5 S) := by
  rw [again]
  split
  · split
    · exact ⟨_, _, _, rfl⟩
    · exact ⟨sPg S, _, _, rfl⟩
  · exact ⟨sPg S, sC3 S, sC4 S, rfl⟩
theorem Inv0_again {b : Nat} {S : SS} (h : Inv0 b S) (hd : sDo S = 2) (ha : sAt S ≤ sN S) : Inv0 b (setDo (again S (sAt S)) 2 (sAt S + 1)) := by
  obtain ⟨G, c3, c4, e⟩ := again_eq S (sAt S)
  rw [e]
  obtain ⟨a, c, d, e, g, ph⟩ := h
  refine ⟨a, c, d, e, g, Or.inr (Or.inr ⟨⟨by show 2 ≤ 2; omega, by show 2 ≤ 4; omega⟩, fun _ => ⟨by show 1 ≤ sAt S + 1; omega, by show sAt S + 1 ≤ sN S + 1; omega⟩, ?_⟩)⟩
  rcases ph with ⟨z, -⟩ | ⟨z, -⟩ | ⟨-, -, z⟩
  · omega
  · omega
  · exact z
theorem lwD_in (T : TF) (st m : Nat) : lwD T st m = 0 ∨ (T (lwD T st m)).1 = st := by
  induction m with
  | zero => exact Or.inl rfl
  | succ m ih =>
    simp only [lwD]
    split
    · rename_i q; exact Or.inr q.2
    · exact ih
theorem Inv_stp {b : Nat} {S : SS} (h : Inv b S) : Inv b (stp S) ∧ sCap S ≤ sCap (stp S) := by
  obtain ⟨h, s1, s2, s3, s4⟩ := h
  rw [stp]
  by_cases q1 : sDo S = 1
  · rw [if_pos q1]
    exact ⟨Inv_pas (Inv0_look h q1 (s1 q1)), by rw [pas_cap]; show sCap S ≤ sCap (look S (sAt S)); rw [look]; split <;> exact Nat.le_refl _⟩
  · rw [if_neg q1]
    by_cases q2 : sDo S = 2
    · rw [if_pos q2]
      refine ⟨Inv_pas (Inv0_again h q2 (s2 q2)), ?_⟩
      rw [pas_cap]
      obtain ⟨G, c3, c4, e⟩ := again_eq S (sAt S)
      rw [e]
      exact Nat.le_refl _
    · rw [if_neg q2]
      by_cases q3 : sDo S = 3
      · rw [if_pos q3]
        exact ⟨Inv_pas (Inv0_end h (by omega) (by have := (lwD_in (sT S) 4 200).resolve_left (s3 q3); omega)), by rw [pas_cap]; exact cap_mono S.1 _⟩
      · rw [if_neg q3]
        by_cases q4 : sDo S = 4
        · rw [if_pos q4]
          have hp : (sT S (wuD (sT S) 200)).1 ≠ 0 := by rcases (wuD_in (T := sT S) 200).resolve_left (s4 q4) with z | z <;> omega
          rw [uoe]
          by_cases q5 : 0 < (sT S (wuD (sT S) 200)).2.2
          · rw [if_pos q5]
            exact ⟨Inv_pas (Inv0_und h (by omega) hp q5), by rw [pas_cap]; exact cap_mono S.1 _⟩
          · rw [if_neg q5]
            exact ⟨Inv_pas (Inv0_end h (by omega) hp), by rw [pas_cap]; exact cap_mono S.1 _⟩
        · rw [if_neg q4]
          exact ⟨Inv_pas h, by rw [pas_cap]; exact Nat.le_refl _⟩
theorem Inv_stpL {b : Nat} : ∀ (k : Nat) {S : SS}, Inv b S → Inv b (stpL k S).2 ∧ sCap S ≤ sCap (stpL k S).2 ∧ (stpL k S).1 ≤ k := by
  intro k
  induction k with
  | zero => intro S h; exact ⟨h, Nat.le_refl _, Nat.le_refl _⟩
  | succ k ih =>
    intro S h
    rw [stpL]
    split
    · exact ⟨h, Nat.le_refl _, Nat.zero_le _⟩
    · have g := Inv_stp h
      have g2 := ih g.1
      exact ⟨g2.1, Nat.le_trans g.2 g2.2.1, Nat.succ_le_succ g2.2.2⟩
theorem Inv_S0 : Inv 0 S0 := by
  refine ⟨⟨⟨Nat.le_refl _, rfl, by decide, by decide, by decide, by decide⟩, ⟨fun r r1 r2 => absurd (show r ≤ 0 from r2) (by omega), by decide, by decide, ⟨fun _ => rfl, fun _ => rfl⟩⟩, Or.inl ⟨rfl, fun r r1 r2 => absurd (show r ≤ 0 from r2) (by omega)⟩, ⟨TOk_0 _ _ _, fun _ => Nat.le_refl _, fun _ => Nat.le_refl _⟩, fun k hk => ?_, Or.inl ⟨rfl, Sub_rf _, TOk_0 _ _ _, ?_, ?_⟩⟩, Stdy_0 rfl⟩
  · have hk : k ≤ 0 := hk
    have hk : k = 0 := by omega
    subst hk
    exact ⟨TOk_0 _ _ _, by rw [show lk S0 0 = T0 from rfl, card_0]; omega, by rw [show lk S0 0 = T0 from rfl, pot_0]; omega⟩
  · show cardT T0 200 ≤ 16
    rw [card_0]; omega
  · have q := pot_0 (sR S0) 200
    have q2 : sN S0 = 0 := rfl
    have q3 : sT S0 = T0 := rfl
    rw [q2, q3, q]; omega
