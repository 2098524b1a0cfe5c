/-! THE INVARIANT of the abstract book -/
/-- how many changes of a work are open, from its next one down -/
def dpF (R : Nat → Rc) : Nat → Nat → Nat
  | 0, _ => 0
  | k + 1, c => if c = 0 then 0 else dpF R k (ub R c) + 1
def dp (R : Nat → Rc) (c : Nat) : Nat := dpF R c c
def ROk (R : Nat → Rc) (n wk : Nat) : Prop := ∀ r, 1 ≤ r → r ≤ n → (1 ≤ rK (R r) ∧ rK (R r) ≤ 8) ∧ (7 ≤ rK (R r) → rW (R r) = 0) ∧ (rK (R r) ≤ 6 → 1 ≤ rW (R r)) ∧ rW (R r) ≤ wk ∧ rB (R r) < r ∧ rP (R r) < 64 ∧ rD (R r) < 8 ∧ rG (R r) < r ∧ (rK (R r) ≠ 2 → rG (R r) = 0) ∧ (rG (R r) = 0 ∨ rK (R (rG (R r))) = 1) ∧ (rK (R r) = 1 → rB (R r) = 0 ∨ rK (R (rB (R r))) = 1 ∨ rK (R (rB (R r))) = 2)
/-- what the last record of a work that works says of its next one -/
def nxO (R : Nat → Rc) (l : Nat) : Nat := if l ≠ 0 ∧ rK (R l) = 2 then rG (R l) else l
def EOk (R : Nat → Rc) (n wk w : Nat) (e : Nat × Nat × Nat) : Prop := 1 ≤ w ∧ w ≤ wk ∧ e.1 ≤ 4 ∧ e.2.1 ≤ n ∧ e.2.2 ≤ n ∧ (e.2.2 = 0 ∨ rK (R e.2.2) = 1) ∧ (e.1 = 1 → nxO R e.2.1 = e.2.2 ∧ (e.2.1 = 0 ∨ rK (R e.2.1) = 1 ∨ rK (R e.2.1) = 2))
def TOk (R : Nat → Rc) (n wk : Nat) (T : TF) : Prop := ∀ w, ((T w).1 = 0 → T w = (0, 0, 0)) ∧ ((T w).1 ≠ 0 → EOk R n wk w (T w))
def pot (R : Nat → Rc) (T : TF) : Nat → Nat
  | 0 => 0
  | m + 1 => pot R T m + (if (T (m + 1)).1 = 0 then 0 else dp R (T (m + 1)).2.2 + 1)
/-- the table that looking through gives, up to a record -/
def lkT (R : Nat → Rc) (Tt : TF) (lp : Nat) : Nat → TF
  | 0 => T0
  | k + 1 => if k + 1 < lp then T0 else if rK (R (k + 1)) = 8 then Tt else tkT (lkT R Tt lp k) (k + 1) (R (k + 1))
/-- T is U, and works that have begun beside it -/
def Sub (U T : TF) : Prop := ∀ w, T w = U w ∨ ((U w).1 = 0 ∧ T w = (1, 0, 0))
theorem ub_lt {R : Nat → Rc} {n wk c : Nat} (h : ROk R n wk) (h1 : 1 ≤ c) (h2 : c ≤ n) : ub R c < c := by
  have a := (h c h1 h2).2.2.2.2.1
  rw [ub]
  split
  · rename_i q
    have := (h (rB (R c)) (by omega) (by omega)).2.2.2.2.2.2.2.1
    omega
  · exact a
theorem ub_ch {R : Nat → Rc} {n wk c : Nat} (h : ROk R n wk) (h1 : 1 ≤ c) (h2 : c ≤ n) (hk : rK (R c) = 1) : ub R c = 0 ∨ rK (R (ub R c)) = 1 := by
  have a := h c h1 h2
  rw [ub]
  split
  · rename_i q
    exact (h (rB (R c)) (by omega) (by omega)).2.2.2.2.2.2.2.2.2.1
  · rename_i q
    rcases a.2.2.2.2.2.2.2.2.2.2 hk with g | g | g
    · exact Or.inl g
    · exact Or.inr g
    · by_cases z : rB (R c) = 0
      · exact Or.inl z
      · exact absurd ⟨z, g⟩ q
theorem dpF_fuel {R : Nat → Rc} {n wk : Nat} (h : ROk R n wk) : ∀ k k' c, c ≤ k → c ≤ k' → c ≤ n → dpF R k c = dpF R k' c := by
  intro k
  induction k with
  | zero =>
    intro k' c h1 h2 h3
    have : c = 0 := by omega
    subst this
    cases k' <;> simp [dpF]
  | succ k ih =>
    intro k' c h1 h2 h3
    by_cases z : c = 0
    · subst z
      cases k' <;> simp [dpF]
    · cases k' with
      | zero => omega
      | succ k' =>
        simp only [dpF, if_neg z]
        have := ub_lt h (show 1 ≤ c by omega) h3
        rw [ih k' (ub R c) (by omega) (by omega) (by omega)]
theorem dp_0 (R : Nat → Rc) : dp R 0 = 0 := rfl
theorem dp_s {R : Nat → Rc} {n wk c : Nat} (h : ROk R n wk) (h1 : 1 ≤ c) (h2 : c ≤ n) : dp R c = dp R (ub R c) + 1 := by
  obtain ⟨k, rfl⟩ : ∃ k, c = k + 1 := ⟨c - 1, by omega⟩
  have := ub_lt h h1 h2
  show dpF R (k + 1) (k + 1) = _
  simp only [dpF, if_neg (show ¬ k + 1 = 0 by omega)]
  rw [dpF_fuel h k (ub R (k + 1)) (ub R (k + 1)) (by omega) (Nat.le_refl _) (by omega)]
  rfl
/-- two logs that agree up to n -/
def Agr (R R' : Nat → Rc) (n : Nat) : Prop := ∀ r, 1 ≤ r → r ≤ n → R' r = R r
theorem Agr_up (R : Nat → Rc) (n : Nat) (x : Rc) : Agr R (va_up R (n + 1) x) n := fun r _ h => by simp [va_up, show r ≠ n + 1 by omega]
theorem ub_agr {R R' : Nat → Rc} {n wk c : Nat} (h : ROk R n wk) (g : Agr R R' n) (h1 : 1 ≤ c) (h2 : c ≤ n) : ub R' c = ub R c := by
  have a := (h c h1 h2).2.2.2.2.1
  have e := g c h1 h2
  by_cases z : rB (R c) = 0
  · rw [ub, ub, e, if_neg (fun q => q.1 z), if_neg (fun q => q.1 z)]
  · rw [ub, ub, e, g (rB (R c)) (by omega) (by omega)]
theorem dp_agr {R R' : Nat → Rc} {n wk : Nat} (h : ROk R n wk) (g : Agr R R' n) : ∀ k c, c ≤ n → dpF R' k c = dpF R k c := by
  intro k
  induction k with
  | zero => intro c _; rfl
  | succ k ih =>
    intro c hc
    by_cases z : c = 0
    · subst z; simp [dpF]
    · simp only [dpF, if_neg z]
      have := ub_lt h (show 1 ≤ c by omega) hc
      rw [ub_agr h g (by omega) hc, ih (ub R c) (by omega)]
theorem nxO_agr {R R' : Nat → Rc} {n l : Nat} (g : Agr R R' n) (hl : l ≤ n) : nxO R' l = nxO R l := by
  by_cases z : l = 0
  · rw [nxO, nxO, if_neg (fun q => q.1 z), if_neg (fun q => q.1 z)]
  · rw [nxO, nxO, g l (by omega) hl]
theorem EOk_mono {R R' : Nat → Rc} {n n' wk wk' w : Nat} {e : Nat × Nat × Nat} (g : Agr R R' n) (hn : n ≤ n') (hw : wk ≤ wk') (h : EOk R n wk w e) : EOk R' n' wk' w e := by
  obtain ⟨a1, a2, a3, a4, a5, a6, a7⟩ := h
  refine ⟨a1, by omega, a3, by omega, by omega, ?_, fun q => ⟨?_, ?_⟩⟩
  · by_cases z : e.2.2 = 0
    · exact Or.inl z
    · rw [g e.2.2 (by omega) a5]; exact a6
  · rw [nxO_agr g a4]; exact (a7 q).1
  · by_cases z : e.2.1 = 0
    · exact Or.inl z
    · rw [g e.2.1 (by omega) a4]; exact (a7 q).2
theorem TOk_mono {R R' : Nat → Rc} {n n' wk wk' : Nat} {T : TF} (g : Agr R R' n) (hn : n ≤ n') (hw : wk ≤ wk') (h : TOk R n wk T) : TOk R' n' wk' T := fun w => ⟨(h w).1, fun q => EOk_mono g hn hw ((h w).2 q)⟩
theorem TOk_0 (R : Nat → Rc) (n wk : Nat) : TOk R n wk T0 := fun _ => ⟨fun _ => rfl, fun q => absurd rfl q⟩
theorem TOk_up {R : Nat → Rc} {n wk w : Nat} {T : TF} {e : Nat × Nat × Nat} (h : TOk R n wk T) (h1 : e.1 = 0 → e = (0, 0, 0)) (h2 : e.1 ≠ 0 → EOk R n wk w e) : TOk R n wk (va_up T w e) := by
  intro k
  by_cases z : k = w
  · subst z; simp only [va_up, if_true]; exact ⟨h1, h2⟩
  · simp only [va_up, if_neg z]; exact h k
theorem pot_agr {R R' : Nat → Rc} {n wk : Nat} {T : TF} (hR : ROk R n wk) (g : Agr R R' n) (h : TOk R n wk T) : ∀ m, pot R' T m = pot R T m := by
  intro m
  induction m with
  | zero => rfl
  | succ m ih =>
    simp only [pot]
    rw [ih]
    by_cases z : (T (m + 1)).1 = 0
    · rw [if_pos z, if_pos z]
    · rw [if_neg z, if_neg z, show dp R' (T (m + 1)).2.2 = dp R (T (m + 1)).2.2 from dp_agr hR g _ _ ((h (m + 1)).2 z).2.2.2.2.1]
/-- how the sums change with one entry -/
def eP (R : Nat → Rc) (e : Nat × Nat × Nat) : Nat := if e.1 = 0 then 0 else dp R e.2.2 + 1
theorem pot_up (R : Nat → Rc) (T : TF) (w : Nat) (e : Nat × Nat × Nat) : ∀ m, pot R (va_up T w e) m + (if 1 ≤ w ∧ w ≤ m then eP R (T w) else 0) = pot R T m + (if 1 ≤ w ∧ w ≤ m then eP R e else 0) := by
  intro m
  induction m with
  | zero => simp only [pot]; rw [if_neg (by omega), if_neg (by omega)]
  | succ m ih =>
    simp only [pot]
    by_cases z : w = m + 1
    · subst z
      have c1 : ¬ (1 ≤ m + 1 ∧ m + 1 ≤ m) := by omega
      have c2 : 1 ≤ m + 1 ∧ m + 1 ≤ m + 1 := by omega
      rw [if_neg c1, if_neg c1] at ih
      rw [if_pos c2, if_pos c2]
      simp only [va_up, if_true, eP] at ih ⊢
      omega
    · have e1 : va_up T w e (m + 1) = T (m + 1) := by simp [va_up, show m + 1 ≠ w by omega]
      rw [e1]
      by_cases q : 1 ≤ w ∧ w ≤ m
      · have c2 : 1 ≤ w ∧ w ≤ m + 1 := by omega
        rw [if_pos q, if_pos q] at ih
        rw [if_pos c2, if_pos c2]
        omega
      · have c2 : ¬ (1 ≤ w ∧ w ≤ m + 1) := by omega
        rw [if_neg q, if_neg q] at ih
        rw [if_neg c2, if_neg c2]
        omega
def eC (e : Nat × Nat × Nat) : Nat := if e.1 = 0 then 0 else 1
theorem card_up (T : TF) (w : Nat) (e : Nat × Nat × Nat) : ∀ m, cardT (va_up T w e) m + (if 1 ≤ w ∧ w ≤ m then eC (T w) else 0) = cardT T m + (if 1 ≤ w ∧ w ≤ m then eC e else 0) := by
  intro m
  induction m with
  | zero => simp only [cardT]; rw [if_neg (by omega), if_neg (by omega)]
  | succ m ih =>
    simp only [cardT]
    by_cases z : w = m + 1
    · subst z
      have c1 : ¬ (1 ≤ m + 1 ∧ m + 1 ≤ m) := by omega
      have c2 : 1 ≤ m + 1 ∧ m + 1 ≤ m + 1 := by omega
      rw [if_neg c1, if_neg c1] at ih
      rw [if_pos c2, if_pos c2]
      simp only [va_up, if_true, eC] at ih ⊢
      omega
    · have e1 : va_up T w e (m + 1) = T (m + 1) := by simp [va_up, show m + 1 ≠ w by omega]
      rw [e1]
      by_cases q : 1 ≤ w ∧ w ≤ m
      · have c2 : 1 ≤ w ∧ w ≤ m + 1 := by omega
        rw [if_pos q, if_pos q] at ih
        rw [if_pos c2, if_pos c2]
        omega
      · have c2 : ¬ (1 ≤ w ∧ w ≤ m + 1) := by omega
        rw [if_neg q, if_neg q] at ih
        rw [if_neg c2, if_neg c2]
        omega
theorem Sub_card {U T : TF} (h : Sub U T) : ∀ m, cardT U m ≤ cardT T m := by
  intro m
  induction m with
  | zero => exact Nat.le_refl _
  | succ m ih =>
    simp only [cardT]
    rcases h (m + 1) with e | ⟨z, e⟩
    · rw [e]; omega
    · rw [if_pos z]; omega
theorem Sub_pot {R : Nat → Rc} {U T : TF} (h : Sub U T) : ∀ m, pot R U m ≤ pot R T m := by
  intro m
  induction m with
  | zero => exact Nat.le_refl _
  | succ m ih =>
    simp only [pot]
    rcases h (m + 1) with e | ⟨z, e⟩
    · rw [e]; omega
    · rw [if_pos z]; omega
theorem Sub_rf (T : TF) : Sub T T := fun _ => Or.inl rfl
theorem lkT_agr {R R' : Nat → Rc} {Tt : TF} {lp n : Nat} (g : Agr R R' n) : ∀ k, k ≤ n → lkT R' Tt lp k = lkT R Tt lp k := by
  intro k
  induction k with
  | zero => intro _; rfl
  | succ k ih =>
    intro hk
    simp only [lkT]
    rw [g (k + 1) (by omega) hk, ih (by omega)]
theorem card_0 : ∀ m, cardT T0 m = 0 := by
  intro m
  induction m with
  | zero => rfl
  | succ m ih => simp only [cardT, ih, T0, if_true]
theorem pot_0 (R : Nat → Rc) : ∀ m, pot R T0 m = 0 := by
  intro m
  induction m with
  | zero => rfl
  | succ m ih => simp only [pot, ih, T0, if_true]
theorem ROk_mono {R R' : Nat → Rc} {n wk wk' : Nat} (g : Agr R R' n) (hw : wk ≤ wk') (h : ROk R n wk) : ROk R' n wk' := by
  intro r h1 h2
  obtain ⟨a1, a2, a3, a4, a5, a6, a7, a8, a9, a10, a11⟩ := h r h1 h2
  rw [g r h1 h2]
  refine ⟨a1, a2, a3, by omega, a5, a6, a7, a8, a9, ?_, fun q => ?_⟩
  · by_cases z : rG (R r) = 0
    · exact Or.inl z
    · rw [g (rG (R r)) (by omega) (by omega)]; exact a10
  · by_cases z : rB (R r) = 0
    · exact Or.inl z
    · rw [g (rB (R r)) (by omega) (by omega)]; exact a11 q
theorem ROk_le {R : Nat → Rc} {n n' wk : Nat} (h : ROk R n wk) (hn : n' ≤ n) : ROk R n' wk := fun r h1 h2 => h r h1 (by omega)
