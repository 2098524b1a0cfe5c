/-! a record 5 ends a work that the log has in the table -/
def E5 (S : SS) : Prop := ∀ k, sLp S ≤ k → k + 1 ≤ sN S → rK (sR S (k + 1)) = 5 → (lk S k (rW (sR S (k + 1)))).1 ≠ 0
theorem E5_em {S : SS} {x : Rc} (G : PG) (T : TF × (Nat → Nat)) (h : E5 S) (hx : rK x = 5 → (lk S (sN S) (rW x)).1 ≠ 0) : E5 (apL S.1 x, G, T, S.2.2.2) := by
  intro k k1 k2 k3
  have k1 : sLp S ≤ k := k1
  have k2 : k + 1 ≤ sN S + 1 := k2
  have hg := Agr_up (sR S) (sN S) x
  have k3 : rK (va_up (sR S) (sN S + 1) x (k + 1)) = 5 := k3
  show (lkT (va_up (sR S) (sN S + 1) x) (sTt S) (sLp S) k (rW (va_up (sR S) (sN S + 1) x (k + 1)))).1 ≠ 0
  rw [lkT_agr hg k (by omega)]
  by_cases q : k + 1 ≤ sN S
  · rw [hg (k + 1) (by omega) q] at k3 ⊢
    exact h k k1 q k3
  · have q : k = sN S := by omega
    subst q
    have e : va_up (sR S) (sN S + 1) x (sN S + 1) = x := by simp [va_up]
    rw [e] at k3 ⊢
    exact hx k3
theorem lk_em {b : Nat} {S : SS} {x : Rc} (h : Inv0 b S) (hd : sDo S ≠ 1) (hp : (sT S (rW x)).1 ≠ 0) (hk : rK x ≠ 8) (G : PG) (T : TF × (Nat → Nat)) : lk (apL S.1 x, G, T, S.2.2.2) (sN S + 1) (rW x) = tkE (sN S + 1) (rK x) (rG x) (sT S (rW x)) := by
  have hlp := Inv0_lp h
  have hU := Inv0_U h hd
  have hw : rW x ≠ 0 := by have := (((Inv0_T h).1 _).2 hp).1; omega
  have hg := Agr_up (sR S) (sN S) x
  show lkT (va_up (sR S) (sN S + 1) x) (sTt S) (sLp S) (sN S + 1) (rW x) = _
  show (if sN S + 1 < sLp S then T0 else if rK (va_up (sR S) (sN S + 1) x (sN S + 1)) = 8 then sTt S else tkT (lkT (va_up (sR S) (sN S + 1) x) (sTt S) (sLp S) (sN S)) (sN S + 1) (va_up (sR S) (sN S + 1) x (sN S + 1))) (rW x) = _
  have e : va_up (sR S) (sN S + 1) x (sN S + 1) = x := by simp [va_up]
  rw [if_neg (by omega), e, if_neg hk, lkT_agr hg _ (Nat.le_refl _), tkT, if_neg hw]
  have q : (if (lk S (sN S) (rW x)).1 = 0 then (1, 0, 0) else lk S (sN S) (rW x)) = sT S (rW x) := by
    rcases hU.1 (rW x) with q | ⟨q1, q2⟩
    · rw [← q, if_neg hp]
    · rw [if_pos q1, q2]
  show va_up (lk S (sN S)) (rW x) (tkE (sN S + 1) (rK x) (rG x) (if (lk S (sN S) (rW x)).1 = 0 then (1, 0, 0) else lk S (sN S) (rW x))) (rW x) = _
  rw [q]
  simp [va_up]
theorem E5_und {b w : Nat} {S : SS} (h5 : E5 S) : E5 (und S w) := E5_em _ _ h5 (fun q => absurd (show (2 : Nat) = 5 from q) (by decide))
theorem E5_undL {w to : Nat} : ∀ (k : Nat) {S : SS}, E5 S → E5 (undL k S w to).2 := by
  intro k
  induction k with
  | zero => intro S h; exact h
  | succ k ih =>
    intro S h
    rw [undL]
    split
    · exact ih (E5_und (b := 0) h)
    · exact h
theorem lk_undL {b w to : Nat} : ∀ (k : Nat) {S : SS}, Inv0 b S → sDo S = 0 → (sT S w).1 ≠ 0 → (lk S (sN S) w).1 ≠ 0 → (lk (undL k S w to).2 (sN (undL k S w to).2) w).1 ≠ 0 := by
  intro k
  induction k with
  | zero => intro S h hd hp hl; exact hl
  | succ k ih =>
    intro S h hd hp hl
    have hE := ((Inv0_T h).1 w).2 hp
    by_cases q : to < (sT S w).2.2
    · rw [undL, if_pos q]
      have hu := Inv0_und h (Or.inl hd) hp (by omega)
      refine ih (S := und S w) hu hd (by rw [und_T hp (by have := hE.1; omega)]; exact hp) ?_
      have e := lk_em (x := rcU S w) h (by omega) hp (by show (2 : Nat) ≠ 8; decide) (apP S.2.1 (sN S + 1) (rcU S w)) (tkT (sT S) (sN S + 1) (rcU S w), tkB (sBs S) (sN S + 1) (rcU S w))
      have e2 : lk (und S w) (sN (und S w)) w = tkE (sN S + 1) 2 (ub (sR S) (sT S w).2.2) (sT S w) := e
      rw [e2]
      exact hp
    · rw [undL, if_neg q]; exact hl
theorem pas_same (S : SS) : ∃ d a, pas S = setDo S d a := by
  simp only [pas, pas4, pas3, pas2, pas1]
  (repeat' split) <;> exact ⟨_, _, rfl⟩
theorem E5_pas {S : SS} (h : E5 S) : E5 (pas S) := by
  obtain ⟨d, a, e⟩ := pas_same S
  rw [e]
  exact h
theorem E5_stp {b : Nat} {S : SS} (h : Inv b S) (h5 : E5 S) : E5 (stp S) := by
  obtain ⟨h, s1, s2, s3, s4⟩ := h
  rw [stp]
  by_cases q1 : sDo S = 1
  · rw [if_pos q1]
    refine E5_pas ?_
    rw [look]
    split <;> exact h5
  · rw [if_neg q1]
    have hT : sDo S = 3 ∨ sDo S = 4 → sT S = lk S (sN S) := by
      intro q
      rcases h.2.2.2.2.2 with ⟨z, -⟩ | ⟨z, -⟩ | ⟨-, -, z⟩
      · omega
      · omega
      · exact z
    by_cases q2 : sDo S = 2
    · rw [if_pos q2]
      obtain ⟨G, c3, c4, e⟩ := again_eq S (sAt S)
      rw [e]
      exact E5_pas h5
    · rw [if_neg q2]
      by_cases q3 : sDo S = 3
      · rw [if_pos q3]
        have hp : (sT S (lwD (sT S) 4 200)).1 ≠ 0 := by
          have := (lwD_in (sT S) 4 200).resolve_left (s3 q3)
          omega
        obtain ⟨w, hw⟩ : ∃ w, lwD (sT S) 4 200 = w := ⟨_, rfl⟩
        rw [hw] at hp ⊢
        refine E5_pas (E5_em _ _ h5 (fun _ => ?_))
        show (lk S (sN S) w).1 ≠ 0
        rw [← hT (Or.inl q3)]
        exact hp
      · rw [if_neg q3]
        by_cases q4 : sDo S = 4
        · rw [if_pos q4, uoe]
          have hp : (sT S (wuD (sT S) 200)).1 ≠ 0 := by rcases (wuD_in (T := sT S) 200).resolve_left (s4 q4) with z | z <;> omega
          obtain ⟨w, hw⟩ : ∃ w, wuD (sT S) 200 = w := ⟨_, rfl⟩
          rw [hw] at hp ⊢
          by_cases q5 : 0 < (sT S w).2.2
          · rw [if_pos q5]
            exact E5_pas (E5_und (b := 0) h5)
          · rw [if_neg q5]
            refine E5_pas (E5_em _ _ h5 (fun _ => ?_))
            show (lk S (sN S) w).1 ≠ 0
            rw [← hT (Or.inr q4)]
            exact hp
        · rw [if_neg q4]
          exact E5_pas h5
theorem E5_stpL {b : Nat} : ∀ (k : Nat) {S : SS}, Inv b S → E5 S → E5 (stpL k S).2 := by
  intro k
  induction k with
  | zero => intro S h h5; exact h5
  | succ k ih =>
    intro S h h5
    rw [stpL]
    split
    · exact h5
    · exact ih (Inv_stp h).1 (E5_stp h h5)
theorem E5_los {S : SS} (k : Nat) (h : E5 S) (hf : sFo S ≤ sN S) : E5 (los S k) := fun j j1 j2 j3 => h j j1 (by
  have : j + 1 ≤ sFo S + min k (sN S - sFo S) := j2
  show j + 1 ≤ sN S
  omega) j3
/-- what is looked through next has room in the table -/
theorem look_room {b : Nat} {S : SS} (h : Inv0 b S) (h5 : E5 S) (hd : sDo S = 1) (ha : sAt S ≤ sN S) (h8 : rK (sR S (sAt S)) ≠ 8) : rW (sR S (sAt S)) = 0 ∨ (sT S (rW (sR S (sAt S)))).1 ≠ 0 ∨ cardT (sT S) 200 < 16 := by
  have hlp := Inv0_lp h
  obtain ⟨a, c, d, ⟨e1, e2, e3⟩, g, ph⟩ := h
  obtain ⟨p0, p1, p3⟩ : sLp S ≤ sAt S ∧ 1 ≤ sAt S ∧ sT S = lk S (sAt S - 1) := by
    rcases ph with ⟨z, -⟩ | ⟨-, p0, p1, p2, p3, p4⟩ | ⟨z, -⟩
    · omega
    · exact ⟨p0, p1, p3⟩
    · omega
  by_cases hw : rW (sR S (sAt S)) = 0
  · exact Or.inl hw
  · by_cases hp : (sT S (rW (sR S (sAt S)))).1 ≠ 0
    · exact Or.inr (Or.inl hp)
    · have hp : (sT S (rW (sR S (sAt S)))).1 = 0 := Decidable.not_not.mp hp
      have hR := c.1 (sAt S) p1 ha
      have hk6 : rK (sR S (sAt S)) ≤ 6 := by
        by_cases z : 7 ≤ rK (sR S (sAt S))
        · exact absurd (hR.2.1 z) hw
        · omega
      obtain ⟨j, hj⟩ : ∃ j, sAt S = j + 1 := ⟨sAt S - 1, by omega⟩
      have hjl : sLp S ≤ j := by
        rcases d with ⟨d1, -⟩ | ⟨d1, d2, d3, -⟩
        · omega
        · by_cases z : sAt S = sLp S
          · rw [z, d3] at hk6; omega
          · omega
      have p3' : sT S = lk S j := by rw [p3, hj, Nat.add_sub_cancel]
      have h5' : rK (sR S (sAt S)) ≠ 5 := by
        intro z
        have := h5 j hjl (by omega) (by rw [← hj]; exact z)
        rw [← hj, ← p3'] at this
        exact this hp
      refine Or.inr (Or.inr ?_)
      have hl : lk S (sAt S) = tkT (sT S) (sAt S) (sR S (sAt S)) := by
        rw [p3', hj]
        show (if j + 1 < sLp S then T0 else if rK (sR S (j + 1)) = 8 then sTt S else tkT (lkT (sR S) (sTt S) (sLp S) j) (j + 1) (sR S (j + 1))) = _
        rw [if_neg (by omega), if_neg (by rw [← hj]; exact h8)]
      have hc := (g (sAt S) ha).2.1
      rw [hl, tkT, if_neg hw, if_pos hp] at hc
      have hw2 : 1 ≤ rW (sR S (sAt S)) ∧ rW (sR S (sAt S)) ≤ 200 := ⟨by omega, by have := hR.2.2.2.1; have := c.2.1; omega⟩
      have q := card_up (sT S) (rW (sR S (sAt S))) (tkE (sAt S) (rK (sR S (sAt S))) (rG (sR S (sAt S))) (1, 0, 0)) 200
      rw [if_pos hw2, if_pos hw2] at q
      have q1 : eC (sT S (rW (sR S (sAt S)))) = 0 := by simp [eC, hp]
      have q2 : eC (tkE (sAt S) (rK (sR S (sAt S))) (rG (sR S (sAt S))) (1, 0, 0)) = 1 := by
        have := hR.1.1
        rcases (show rK (sR S (sAt S)) = 1 ∨ rK (sR S (sAt S)) = 2 ∨ rK (sR S (sAt S)) = 3 ∨ rK (sR S (sAt S)) = 4 ∨ rK (sR S (sAt S)) = 6 by omega) with z | z | z | z | z <;> rw [z] <;> rfl
      omega
theorem look8 {b : Nat} {S : SS} (h : Inv0 b S) (hd : sDo S = 1) (ha : sAt S ≤ sN S) (h8 : rK (sR S (sAt S)) = 8) : sT S = T0 ∧ ∀ p, sBs S p = 0 := by
  obtain ⟨a, c, d, ⟨e1, e2, e3⟩, g, ph⟩ := h
  obtain ⟨p0, p1, p3, p4⟩ : sLp S ≤ sAt S ∧ 1 ≤ sAt S ∧ sT S = lk S (sAt S - 1) ∧ (1 ≤ sLp S → sAt S ≤ sLp S + 1 → ∀ p, sBs S p = 0) := by
    rcases ph with ⟨z, -⟩ | ⟨-, p0, p1, p2, p3, p4⟩ | ⟨z, -⟩
    · omega
    · exact ⟨p0, p1, p3, p4⟩
    · omega
  rcases d with ⟨d1, d2⟩ | ⟨d1, d2, d3, d4, d5⟩
  · exact absurd h8 (d2 _ p1 ha)
  · have ea : sAt S = sLp S + 1 := by
      rcases Nat.lt_trichotomy (sAt S) (sLp S + 1) with z | z | z
      · rw [show sAt S = sLp S by omega, d3] at h8; omega
      · exact z
      · exact absurd h8 (d5 _ z ha)
    refine ⟨?_, p4 d1 (by omega)⟩
    rw [p3, ea, Nat.add_sub_cancel]
    obtain ⟨j, hj⟩ : ∃ j, sLp S = j + 1 := ⟨sLp S - 1, by omega⟩
    show lkT (sR S) (sTt S) (sLp S) (sLp S) = T0
    have hw : rW (sR S (sLp S)) = 0 := (c.1 (sLp S) d1 (by omega)).2.1 (by omega)
    have e : lkT (sR S) (sTt S) (sLp S) (j + 1) = if j + 1 < sLp S then T0 else if rK (sR S (j + 1)) = 8 then sTt S else tkT (lkT (sR S) (sTt S) (sLp S) j) (j + 1) (sR S (j + 1)) := rfl
    have e2 : lkT (sR S) (sTt S) (sLp S) (sLp S) = lkT (sR S) (sTt S) (sLp S) (j + 1) := congrArg _ hj
    rw [e2, e, if_neg (by omega), ← hj, d3, if_neg (by decide), tkT, if_pos hw, lkT_low (by omega)]
