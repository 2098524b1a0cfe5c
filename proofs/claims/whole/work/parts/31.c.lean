theorem gb_RM {b : Nat} {S : SS} {g g1 g3 u2 u3 : Nat → Nat → Int32} {lt : Int32} {z w cn : Nat} {xc : Rc} (hI : Inv0 b S) (hm : RM S g lt z) (hd : sDo S ≠ 1) (hp : (sT S w).1 ≠ 0) (hc1 : 1 ≤ cn) (hcn : (sT S w).2.2 = cn) (hxc : sR S cn = xc) (hN : NoteP g g1 (sN S) 2 w)
    (h3 : g3 = va_up (va_up (va_up (va_up (va_up g1 3 (upd (g1 3) (sN S + 1) (nI (rP xc)))) 4 (upd (g1 4) (sN S + 1) (nI (rD xc)))) 5 (upd (g1 5) (sN S + 1) (-(rM xc)))) 6 (upd (g1 6) (sN S + 1) (nI (ub (sR S) cn)))) 23 (upd (g1 23) w (nI (ub (sR S) cn))))
    (h2 : u2 = if g3 17 (rP xc) = -1 then va_up g3 17 (upd (g3 17) (rP xc) (nI (sN S + 1))) else g3)
    (hu : u3 = va_up (va_up u2 15 (upd (u2 15) (8 * rP xc + rD xc) (u2 15 (8 * rP xc + rD xc) + u2 5 (sN S + 1)))) 16 (upd (u2 16) (rP xc) (nI (sN S + 1)))) (hb : b ≤ 4000) : RM (und S w) u3 lt z := by
  have hE := ((Inv0_T hI).1 w).2 hp
  have hn := Inv0_n hI
  have hwk := hI.2.1.2.1
  have hcl : cn ≤ sN S := by rw [← hcn]; exact hE.2.2.2.2.1
  have hR := hI.2.1.1 cn hc1 hcl
  rw [hxc] at hR
  obtain ⟨n1, n2, n3, n4⟩ := hN
  have hw0 : w ≠ 0 := by have := hE.1; omega
  have e3 : ∀ c, c ≠ 3 → c ≠ 4 → c ≠ 5 → c ≠ 6 → c ≠ 23 → g3 c = g1 c := fun c c1 c2 c3 c4 c5 => by rw [h3]; simp [va_up, c1, c2, c3, c4, c5]
  have e2 : ∀ c, c ≠ 17 → u2 c = g3 c := fun c c1 => by rw [h2]; split; simp [va_up, c1]; rfl
  have e : ∀ c, c ≠ 15 → c ≠ 16 → u3 c = u2 c := fun c c1 c2 => by rw [hu]; simp [va_up, c1, c2]
  have f3 : g3 3 = upd (g1 3) (sN S + 1) (nI (rP xc)) := by rw [h3]; simp [va_up]
  have f4 : g3 4 = upd (g1 4) (sN S + 1) (nI (rD xc)) := by rw [h3]; simp [va_up]
  have f5 : g3 5 = upd (g1 5) (sN S + 1) (-(rM xc)) := by rw [h3]; simp [va_up]
  have f6 : g3 6 = upd (g1 6) (sN S + 1) (nI (ub (sR S) cn)) := by rw [h3]; simp [va_up]
  have f23 : g3 23 = upd (g1 23) w (nI (ub (sR S) cn)) := by rw [h3]; simp [va_up]
  have hx : rcU S w = (2, w, (sT S w).2.1, rP xc, rD xc, -(rM xc), ub (sR S) cn) := by rw [rcU, hcn, hxc]
  have hg7 : ∀ c, 7 ≤ c → c ≠ 22 → c ≠ 15 → c ≠ 16 → c ≠ 17 → c ≠ 23 → u3 c = g c := fun c c1 c2 c3 c4 c5 c6 => by
    rw [e c c3 c4, e2 c c5, e3 c (by omega) (by omega) (by omega) (by omega) c6]; exact n3 c c1 c2
  have hu5 : u2 5 (sN S + 1) = -(rM xc) := by rw [e2 5 (by omega), f5]; simp [upd]
  show RM (apL S.1 (rcU S w), apP S.2.1 (sN S + 1) (rcU S w), (tkT (sT S) (sN S + 1) (rcU S w), tkB (sBs S) (sN S + 1) (rcU S w)), S.2.2.2) u3 lt z
  refine RM_em (x := rcU S w) (z := z) (apP S.2.1 (sN S + 1) (rcU S w)) hI hm hd (by show (2 : Nat) ≠ 8; decide) hp ?_ ?_ ?_ ?_ (fun _ _ q _ => q) ?_ ?_ ⟨hg7 10 (by omega) (by omega) (by omega) (by omega) (by omega) (by omega), hg7 11 (by omega) (by omega) (by omega) (by omega) (by omega) (by omega), hg7 12 (by omega) (by omega) (by omega) (by omega) (by omega) (by omega), hg7 13 (by omega) (by omega) (by omega) (by omega) (by omega) (by omega), hg7 27 (by omega) (by omega) (by omega) (by omega) (by omega) (by omega)⟩
  · intro c hc r hr
    rw [e c (by omega) (by omega), e2 c (by omega), ← n1 c hc r hr]
    rcases (show c = 0 ∨ c = 1 ∨ c = 2 ∨ c = 3 ∨ c = 4 ∨ c = 5 ∨ c = 6 by omega) with k | k | k | k | k | k | k <;> subst k
    · rw [e3 0 (by omega) (by omega) (by omega) (by omega) (by omega)]
    · rw [e3 1 (by omega) (by omega) (by omega) (by omega) (by omega)]
    · rw [e3 2 (by omega) (by omega) (by omega) (by omega) (by omega)]
    · rw [f3]; simp [upd, hr]
    · rw [f4]; simp [upd, hr]
    · rw [f5]; simp [upd, hr]
    · rw [f6]; simp [upd, hr]
  · rw [hx]
    show u3 0 (sN S + 1) = nI 2 ∧ u3 1 (sN S + 1) = nI w ∧ u3 2 (sN S + 1) = nI (sT S w).2.1 ∧ u3 3 (sN S + 1) = nI (rP xc) ∧ u3 4 (sN S + 1) = nI (rD xc) ∧ u3 5 (sN S + 1) = -(rM xc) ∧ u3 6 (sN S + 1) = nI (ub (sR S) cn)
    rw [e 0 (by omega) (by omega), e 1 (by omega) (by omega), e 2 (by omega) (by omega), e 3 (by omega) (by omega), e 4 (by omega) (by omega), e 5 (by omega) (by omega), e 6 (by omega) (by omega), e2 0 (by omega), e2 1 (by omega), e2 2 (by omega), e2 3 (by omega), e2 4 (by omega), e2 5 (by omega), e2 6 (by omega), e3 0 (by omega) (by omega) (by omega) (by omega) (by omega), e3 1 (by omega) (by omega) (by omega) (by omega) (by omega), e3 2 (by omega) (by omega) (by omega) (by omega) (by omega), f3, f4, f5, f6]
    refine ⟨n2.1, n2.2.1, ?_, by simp [upd], by simp [upd], by simp [upd], by simp [upd]⟩
    rw [n2.2.2.1, if_neg hw0]
    exact ((hm.2.2.1 w (by have := hE.2.1; omega)).2 hp).1
  · intro w' hw' hne
    have hne : w' ≠ w := hne
    rw [e 21 (by omega) (by omega), e 22 (by omega) (by omega), e 23 (by omega) (by omega), e2 21 (by omega), e2 22 (by omega), e2 23 (by omega), e3 21 (by omega) (by omega) (by omega) (by omega) (by omega), e3 22 (by omega) (by omega) (by omega) (by omega) (by omega), f23, n3 21 (by omega) (by omega), n4, n3 23 (by omega) (by omega), if_neg hw0]
    exact ⟨rfl, by simp [upd, hne], by simp [upd, hne]⟩
  · rw [hx]
    show (w ≠ z → u3 21 w = nI (sT S w).1) ∧ ((sT S w).1 ≠ 0 → u3 22 w = nI (sN S + 1) ∧ u3 23 w = nI (ub (sR S) cn))
    rw [e 21 (by omega) (by omega), e 22 (by omega) (by omega), e 23 (by omega) (by omega), e2 21 (by omega), e2 22 (by omega), e2 23 (by omega), e3 21 (by omega) (by omega) (by omega) (by omega) (by omega), e3 22 (by omega) (by omega) (by omega) (by omega) (by omega), f23, n3 21 (by omega) (by omega), n4, if_neg hw0]
    exact ⟨(hm.2.2.1 w (by have := hE.2.1; omega)).1, fun _ => ⟨by simp [upd], by simp [upd]⟩⟩
  · rw [hx]
    refine MG_apply (g := u2) (MG_same hm.2.1 ?_ ?_ ?_ ?_) hR.2.2.2.2.2.1 hR.2.2.2.2.2.2.1 ?_ ?_ ?_ ?_
    · rw [e2 15 (by omega), e3 15 (by omega) (by omega) (by omega) (by omega) (by omega)]; exact n3 15 (by omega) (by omega)
    · rw [e2 16 (by omega), e3 16 (by omega) (by omega) (by omega) (by omega) (by omega)]; exact n3 16 (by omega) (by omega)
    · rw [e2 18 (by omega), e3 18 (by omega) (by omega) (by omega) (by omega) (by omega)]; exact n3 18 (by omega) (by omega)
    · rw [e2 19 (by omega), e3 19 (by omega) (by omega) (by omega) (by omega) (by omega)]; exact n3 19 (by omega) (by omega)
    · show u3 15 = upd (u2 15) (8 * rP xc + rD xc) (u2 15 (8 * rP xc + rD xc) + -(rM xc))
      rw [hu, ← hu5]; simp [va_up]
    · show u3 16 = upd (u2 16) (rP xc) (nI (sN S + 1))
      rw [hu]; simp [va_up]
    · exact e 18 (by omega) (by omega)
    · exact e 19 (by omega) (by omega)
  · rw [hx, tkB_d (x := (2, w, (sT S w).2.1, rP xc, rD xc, -(rM xc), ub (sR S) cn)) hw0 (Or.inr rfl)]
    refine MB_same (g := u2) ?_ (e 17 (by omega) (by omega))
    exact MB_dirty (g := g3) (MB_same hm.2.2.2.1 (by rw [e3 17 (by omega) (by omega) (by omega) (by omega) (by omega)]; exact n3 17 (by omega) (by omega))) hR.2.2.2.2.2.1 (by omega) (by have := hI.2.2.2.1.2.2 (rP xc); show sBs S (rP xc) < 2 ^ 31; omega) h2
theorem ad_RM {b : Nat} {S : SS} {g g1 g3 u2 u3 : Nat → Nat → Int32} {lt : Int32} {z w pj dj : Nat} {mm : Int32} (hI : Inv0 b S) (hm : RM S g lt z) (hd : sDo S ≠ 1) (hp : (sT S w).1 ≠ 0) (hpj : pj < 64) (hdj : dj < 8) (hN : NoteP g g1 (sN S) 1 w)
    (h3 : g3 = va_up (va_up (va_up (va_up g1 3 (upd (g1 3) (sN S + 1) (nI pj))) 4 (upd (g1 4) (sN S + 1) (nI dj))) 5 (upd (g1 5) (sN S + 1) mm)) 23 (upd (g1 23) w (nI (sN S + 1))))
    (h2 : u2 = if g3 17 (pj) = -1 then va_up g3 17 (upd (g3 17) (pj) (nI (sN S + 1))) else g3)
    (hu : u3 = va_up (va_up u2 15 (upd (u2 15) (8 * pj + dj) (u2 15 (8 * pj + dj) + u2 5 (sN S + 1)))) 16 (upd (u2 16) (pj) (nI (sN S + 1)))) (hb : b ≤ 4000) : RM (emP S (rcC S w pj dj mm)) u3 lt z := by
  have hE := ((Inv0_T hI).1 w).2 hp
  have hn := Inv0_n hI
  have hwk := hI.2.1.2.1
  obtain ⟨n1, n2, n3, n4⟩ := hN
  have hw0 : w ≠ 0 := by have := hE.1; omega
  have e3 : ∀ c, c ≠ 3 → c ≠ 4 → c ≠ 5 → c ≠ 23 → g3 c = g1 c := fun c c1 c2 c3 c5 => by rw [h3]; simp [va_up, c1, c2, c3, c5]
  have e2 : ∀ c, c ≠ 17 → u2 c = g3 c := fun c c1 => by rw [h2]; split; simp [va_up, c1]; rfl
  have e : ∀ c, c ≠ 15 → c ≠ 16 → u3 c = u2 c := fun c c1 c2 => by rw [hu]; simp [va_up, c1, c2]
  have f3 : g3 3 = upd (g1 3) (sN S + 1) (nI (pj)) := by rw [h3]; simp [va_up]
  have f4 : g3 4 = upd (g1 4) (sN S + 1) (nI (dj)) := by rw [h3]; simp [va_up]
  have f5 : g3 5 = upd (g1 5) (sN S + 1) (mm) := by rw [h3]; simp [va_up]
  have f23 : g3 23 = upd (g1 23) w (nI (sN S + 1)) := by rw [h3]; simp [va_up]
  have hx : rcC S w pj dj mm = (1, w, (sT S w).2.1, pj, dj, mm, 0) := rfl
  have hg7 : ∀ c, 7 ≤ c → c ≠ 22 → c ≠ 15 → c ≠ 16 → c ≠ 17 → c ≠ 23 → u3 c = g c := fun c c1 c2 c3 c4 c5 c6 => by
    rw [e c c3 c4, e2 c c5, e3 c (by omega) (by omega) (by omega) c6]; exact n3 c c1 c2
  have hu5 : u2 5 (sN S + 1) = mm := by rw [e2 5 (by omega), f5]; simp [upd]
  show RM (apL S.1 (rcC S w pj dj mm), apP S.2.1 (sN S + 1) (rcC S w pj dj mm), (tkT (sT S) (sN S + 1) (rcC S w pj dj mm), tkB (sBs S) (sN S + 1) (rcC S w pj dj mm)), S.2.2.2) u3 lt z
  refine RM_em (x := rcC S w pj dj mm) (z := z) (apP S.2.1 (sN S + 1) (rcC S w pj dj mm)) hI hm hd (by show (1 : Nat) ≠ 8; decide) hp ?_ ?_ ?_ ?_ (fun _ _ q _ => q) ?_ ?_ ⟨hg7 10 (by omega) (by omega) (by omega) (by omega) (by omega) (by omega), hg7 11 (by omega) (by omega) (by omega) (by omega) (by omega) (by omega), hg7 12 (by omega) (by omega) (by omega) (by omega) (by omega) (by omega), hg7 13 (by omega) (by omega) (by omega) (by omega) (by omega) (by omega), hg7 27 (by omega) (by omega) (by omega) (by omega) (by omega) (by omega)⟩
  · intro c hc r hr
    rw [e c (by omega) (by omega), e2 c (by omega), ← n1 c hc r hr]
    rcases (show c = 0 ∨ c = 1 ∨ c = 2 ∨ c = 3 ∨ c = 4 ∨ c = 5 ∨ c = 6 by omega) with k | k | k | k | k | k | k <;> subst k
    · rw [e3 0 (by omega) (by omega) (by omega) (by omega)]
    · rw [e3 1 (by omega) (by omega) (by omega) (by omega)]
    · rw [e3 2 (by omega) (by omega) (by omega) (by omega)]
    · rw [f3]; simp [upd, hr]
    · rw [f4]; simp [upd, hr]
    · rw [f5]; simp [upd, hr]
    · rw [e3 6 (by omega) (by omega) (by omega) (by omega)]
  · rw [hx]
    show u3 0 (sN S + 1) = nI 1 ∧ u3 1 (sN S + 1) = nI w ∧ u3 2 (sN S + 1) = nI (sT S w).2.1 ∧ u3 3 (sN S + 1) = nI (pj) ∧ u3 4 (sN S + 1) = nI (dj) ∧ u3 5 (sN S + 1) = mm ∧ u3 6 (sN S + 1) = nI 0
    rw [e 0 (by omega) (by omega), e 1 (by omega) (by omega), e 2 (by omega) (by omega), e 3 (by omega) (by omega), e 4 (by omega) (by omega), e 5 (by omega) (by omega), e 6 (by omega) (by omega), e2 0 (by omega), e2 1 (by omega), e2 2 (by omega), e2 3 (by omega), e2 4 (by omega), e2 5 (by omega), e2 6 (by omega), e3 0 (by omega) (by omega) (by omega) (by omega), e3 1 (by omega) (by omega) (by omega) (by omega), e3 2 (by omega) (by omega) (by omega) (by omega), e3 6 (by omega) (by omega) (by omega) (by omega), f3, f4, f5]
    refine ⟨n2.1, n2.2.1, ?_, by simp [upd], by simp [upd], by simp [upd], n2.2.2.2.2.2.2⟩
    rw [n2.2.2.1, if_neg hw0]
    exact ((hm.2.2.1 w (by have := hE.2.1; omega)).2 hp).1
  · intro w' hw' hne
    have hne : w' ≠ w := hne
    rw [e 21 (by omega) (by omega), e 22 (by omega) (by omega), e 23 (by omega) (by omega), e2 21 (by omega), e2 22 (by omega), e2 23 (by omega), e3 21 (by omega) (by omega) (by omega) (by omega), e3 22 (by omega) (by omega) (by omega) (by omega), f23, n3 21 (by omega) (by omega), n4, n3 23 (by omega) (by omega), if_neg hw0]
    exact ⟨rfl, by simp [upd, hne], by simp [upd, hne]⟩
  · rw [hx]
    show (w ≠ z → u3 21 w = nI (sT S w).1) ∧ ((sT S w).1 ≠ 0 → u3 22 w = nI (sN S + 1) ∧ u3 23 w = nI (sN S + 1))
    rw [e 21 (by omega) (by omega), e 22 (by omega) (by omega), e 23 (by omega) (by omega), e2 21 (by omega), e2 22 (by omega), e2 23 (by omega), e3 21 (by omega) (by omega) (by omega) (by omega), e3 22 (by omega) (by omega) (by omega) (by omega), f23, n3 21 (by omega) (by omega), n4, if_neg hw0]
    exact ⟨(hm.2.2.1 w (by have := hE.2.1; omega)).1, fun _ => ⟨by simp [upd], by simp [upd]⟩⟩
  · rw [hx]
    refine MG_apply (g := u2) (MG_same hm.2.1 ?_ ?_ ?_ ?_) hpj hdj ?_ ?_ ?_ ?_
    · rw [e2 15 (by omega), e3 15 (by omega) (by omega) (by omega) (by omega)]; exact n3 15 (by omega) (by omega)
    · rw [e2 16 (by omega), e3 16 (by omega) (by omega) (by omega) (by omega)]; exact n3 16 (by omega) (by omega)
    · rw [e2 18 (by omega), e3 18 (by omega) (by omega) (by omega) (by omega)]; exact n3 18 (by omega) (by omega)
    · rw [e2 19 (by omega), e3 19 (by omega) (by omega) (by omega) (by omega)]; exact n3 19 (by omega) (by omega)
    · show u3 15 = upd (u2 15) (8 * pj + dj) (u2 15 (8 * pj + dj) + mm)
      rw [hu, ← hu5]; simp [va_up]
    · show u3 16 = upd (u2 16) (pj) (nI (sN S + 1))
      rw [hu]; simp [va_up]
    · exact e 18 (by omega) (by omega)
    · exact e 19 (by omega) (by omega)
  · rw [hx, tkB_d (x := (1, w, (sT S w).2.1, pj, dj, mm, 0)) hw0 (Or.inl rfl)]
    refine MB_same (g := u2) ?_ (e 17 (by omega) (by omega))
    exact MB_dirty (g := g3) (MB_same hm.2.2.2.1 (by rw [e3 17 (by omega) (by omega) (by omega) (by omega)]; exact n3 17 (by omega) (by omega))) hpj (by omega) (by have := hI.2.2.2.1.2.2 (pj); show sBs S (pj) < 2 ^ 31; omega) h2
/-- a record of a work without a page -/
theorem nt_RM {b : Nat} {S : SS} {g g1 u : Nat → Nat → Int32} {lt : Int32} {z z' k w : Nat} (hI : Inv0 b S) (hm : RM S g lt z) (hd : sDo S ≠ 1) (hp : (sT S w).1 ≠ 0) (hk : 3 ≤ k) (hk6 : k ≤ 6) (hN : NoteP g g1 (sN S) k w) (hu : ∀ c, c ≠ 21 → u c = g1 c) (hu2 : ∀ w', w' ≤ 200 → w' ≠ w → u 21 w' = g1 21 w') (h4 : w ≠ z' → u 21 w = nI (tkE (sN S + 1) k 0 (sT S w)).1) (hz : ∀ w', w' ≤ 200 → w' ≠ z' → w' ≠ w → w' ≠ z) : RM (emT S (rcW S k w)) u lt z' := by
  have hE := ((Inv0_T hI).1 w).2 hp
  have hwk := hI.2.1.2.1
  obtain ⟨n1, n2, n3, n4⟩ := hN
  have hw0 : w ≠ 0 := by have := hE.1; omega
  have hw200 : w ≤ 200 := by have := hE.2.1; omega
  have hg7 : ∀ c, 7 ≤ c → c ≠ 22 → c ≠ 21 → u c = g c := fun c c1 c2 c3 => by rw [hu c c3]; exact n3 c c1 c2
  have ht := (hm.2.2.1 w hw200).2 hp
  show RM (apL S.1 (rcW S k w), S.2.1, (tkT (sT S) (sN S + 1) (rcW S k w), tkB (sBs S) (sN S + 1) (rcW S k w)), S.2.2.2) u lt z'
  refine RM_em (x := rcW S k w) (z := z) S.2.1 hI hm hd (by show k ≠ 8; omega) hp ?_ ?_ ?_ ⟨h4, ?_⟩ hz ?_ ?_ ⟨hg7 10 (by omega) (by omega) (by omega), hg7 11 (by omega) (by omega) (by omega), hg7 12 (by omega) (by omega) (by omega), hg7 13 (by omega) (by omega) (by omega), hg7 27 (by omega) (by omega) (by omega)⟩
  · intro c hc r hr
    rw [hu c (by omega)]; exact n1 c hc r hr
  · rw [hu 0 (by omega), hu 1 (by omega), hu 2 (by omega), hu 3 (by omega), hu 4 (by omega), hu 5 (by omega), hu 6 (by omega)]
    refine ⟨n2.1, n2.2.1, ?_, n2.2.2.2.1, n2.2.2.2.2.1, n2.2.2.2.2.2.1.trans nI_0, n2.2.2.2.2.2.2⟩
    rw [n2.2.2.1, if_neg hw0]; exact ht.1
  · intro w' hw' hne
    have hne : w' ≠ w := hne
    rw [hu2 w' hw' hne, hu 22 (by omega), hu 23 (by omega), n3 21 (by omega) (by omega), n4, n3 23 (by omega) (by omega), if_neg hw0]
    exact ⟨rfl, by simp [upd, hne], rfl⟩
  · intro hz0
    have hz0 : (tkE (sN S + 1) k 0 (sT S w)).1 ≠ 0 := hz0
    show u 22 w = nI (tkE (sN S + 1) k 0 (sT S w)).2.1 ∧ u 23 w = nI (tkE (sN S + 1) k 0 (sT S w)).2.2
    rw [hu 22 (by omega), hu 23 (by omega), n4, n3 23 (by omega) (by omega), if_neg hw0]
    have q : (tkE (sN S + 1) k 0 (sT S w)).2 = (sN S + 1, (sT S w).2.2) := by
      rcases (show k = 3 ∨ k = 4 ∨ k = 5 ∨ k = 6 by omega) with h | h | h | h <;> subst h
      · rfl
      · rfl
      · exact absurd rfl hz0
      · rfl
    rw [q]
    exact ⟨by simp [upd], ht.2⟩
  · exact MG_same hm.2.1 (hg7 15 (by omega) (by omega) (by omega)) (hg7 16 (by omega) (by omega) (by omega)) (hg7 18 (by omega) (by omega) (by omega)) (hg7 19 (by omega) (by omega) (by omega))
  · rw [tkB_n (x := rcW S k w) (by show ¬ (k = 1 ∨ k = 2); omega)]
    exact MB_same hm.2.2.2.1 (hg7 17 (by omega) (by omega) (by omega))
theorem RM_st {S : SS} {g : Nat → Nat → Int32} {lt : Int32} (j : Nat) (v : Int32) (h : RM S g lt 201) : RM S (va_up g 21 (upd (g 21) j v)) lt j := by
  have e : ∀ c, c ≠ 21 → va_up g 21 (upd (g 21) j v) c = g c := fun c hc => by simp [va_up, hc]
  obtain ⟨m1, m2, m3, m4, m5, m6, m7⟩ := h
  refine ⟨fun r r1 r2 => ?_, MG_same m2 (e 15 (by omega)) (e 16 (by omega)) (e 18 (by omega)) (e 19 (by omega)), fun w hw => ?_, MB_same m4 (e 17 (by omega)), ?_, ?_, m7⟩
  · rw [e 0 (by omega), e 1 (by omega), e 2 (by omega), e 3 (by omega), e 4 (by omega), e 5 (by omega), e 6 (by omega)]; exact m1 r r1 r2
  · rw [e 22 (by omega), e 23 (by omega)]
    refine ⟨fun q => ?_, (m3 w hw).2⟩
    have : va_up g 21 (upd (g 21) j v) 21 w = g 21 w := by simp [va_up, upd, q]
    rw [this]; exact (m3 w hw).1 (by omega)
  · intro hp
    rw [e 6 (by omega), e 10 (by omega), e 11 (by omega), e 12 (by omega), e 13 (by omega)]; exact m5 hp
  · rw [e 27 (by omega)]; exact m6
theorem RM_begin {b : Nat} {S : SS} {g : Nat → Nat → Int32} {lt : Int32} (hI : Inv0 b S) (hm : RM S g lt 201) : RM (S.1, S.2.1, (va_up (sT S) (sWk S + 1) (1, 0, 0), sBs S), S.2.2.2.1, (sLp S, sPt S, sWk S + 1, S.2.2.2.2.2.2.2)) (va_up (va_up (va_up g 21 (upd (g 21) (sWk S + 1) (nI 1))) 22 (upd (g 22) (sWk S + 1) (nI 0))) 23 (upd (g 23) (sWk S + 1) (nI 0))) lt 201 := by
  obtain ⟨u, hu⟩ : ∃ u, u = va_up (va_up (va_up g 21 (upd (g 21) (sWk S + 1) (nI 1))) 22 (upd (g 22) (sWk S + 1) (nI 0))) 23 (upd (g 23) (sWk S + 1) (nI 0)) := ⟨_, rfl⟩
  rw [← hu]
  have e : ∀ c, c ≠ 21 → c ≠ 22 → c ≠ 23 → u c = g c := fun c h1 h2 h3 => by rw [hu]; simp [va_up, h1, h2, h3]
  have e21 : u 21 = upd (g 21) (sWk S + 1) (nI 1) := by rw [hu]; simp [va_up]
  have e22 : u 22 = upd (g 22) (sWk S + 1) (nI 0) := by rw [hu]; simp [va_up]
  have e23 : u 23 = upd (g 23) (sWk S + 1) (nI 0) := by rw [hu]; simp [va_up]
  obtain ⟨m1, m2, m3, m4, m5, m6, m7⟩ := hm
  refine ⟨fun r r1 r2 => ?_, MG_same m2 (e 15 (by omega) (by omega) (by omega)) (e 16 (by omega) (by omega) (by omega)) (e 18 (by omega) (by omega) (by omega)) (e 19 (by omega) (by omega) (by omega)), fun w hw => ?_, MB_same m4 (e 17 (by omega) (by omega) (by omega)), ?_, ?_, m7⟩
  · rw [e 0 (by omega) (by omega) (by omega), e 1 (by omega) (by omega) (by omega), e 2 (by omega) (by omega) (by omega), e 3 (by omega) (by omega) (by omega), e 4 (by omega) (by omega) (by omega), e 5 (by omega) (by omega) (by omega), e 6 (by omega) (by omega) (by omega)]; exact m1 r r1 r2
  · show (w ≠ 201 → u 21 w = nI (va_up (sT S) (sWk S + 1) (1, 0, 0) w).1) ∧ ((va_up (sT S) (sWk S + 1) (1, 0, 0) w).1 ≠ 0 → u 22 w = nI (va_up (sT S) (sWk S + 1) (1, 0, 0) w).2.1 ∧ u 23 w = nI (va_up (sT S) (sWk S + 1) (1, 0, 0) w).2.2)
    rw [e21, e22, e23]
    by_cases q : w = sWk S + 1
    · simp only [upd, va_up, if_pos q]; exact ⟨fun _ => trivial, fun _ => ⟨trivial, trivial⟩⟩
    · simp only [upd, va_up, if_neg q]; exact m3 w hw
  · intro hp
    rw [e 6 (by omega) (by omega) (by omega), e 10 (by omega) (by omega) (by omega), e 11 (by omega) (by omega) (by omega), e 12 (by omega) (by omega) (by omega), e 13 (by omega) (by omega) (by omega)]; exact m5 hp
  · rw [e 27 (by omega) (by omega) (by omega)]; exact m6
