/-! The table of works: what the slots say, as a function of the works' numbers: (state, last, next), state 0: not in the table -/
abbrev TF : Type := Nat → Nat × Nat × Nat
abbrev TW : Type := Nat × (Nat → Int32) × (Nat → Int32) × (Nat → Int32) × (Nat → Int32)
def TR (v : TW) (T : TF) : Prop := v.1 ≤ 16 ∧ ∃ wl : Nat → Nat,
  (∀ i, i < v.1 → (v.2.1 i = nI (wl i) ∧ v.2.2.1 i = nI (T (wl i)).1 ∧ v.2.2.2.1 i = nI (T (wl i)).2.1 ∧ v.2.2.2.2 i = nI (T (wl i)).2.2) ∧ 1 ≤ wl i ∧ wl i ≤ 200 ∧ (T (wl i)).1 ≠ 0) ∧
  (∀ i j, i < j → j < v.1 → wl i < wl j) ∧ ∀ w, (T w).1 ≠ 0 → ∃ i, i < v.1 ∧ wl i = w
def TB (T : TF) : Prop := ∀ w, (T w).1 < 2 ^ 31 ∧ (T w).2.1 < 2 ^ 31 ∧ (T w).2.2 < 2 ^ 31
def BR (fb : Nat → Int32) (base : Nat → Nat) : Prop := ∀ p, p < 64 → fb p = nI (base p) ∧ base p < 2 ^ 31
theorem TR_le {v : TW} {T : TF} (h : TR v T) : v.1 ≤ 16 := h.1
theorem TR_at {v : TW} {T : TF} (h : TR v T) {w i : Nat} (hw : w < 2 ^ 31) (hi : i < v.1) (he : v.2.1 i = nI w) : 1 ≤ w ∧ w ≤ 200 ∧ (T w).1 ≠ 0 ∧ v.2.2.1 i = nI (T w).1 ∧ v.2.2.2.1 i = nI (T w).2.1 ∧ v.2.2.2.2 i = nI (T w).2.2 := by
  obtain ⟨-, wl, h1, -, -⟩ := h
  obtain ⟨⟨a1, a2, a3, a4⟩, b1, b2, b3⟩ := h1 i hi
  have e : wl i = w := (nI_eq (by omega) hw).mp (a1.symm.trans he)
  rw [e] at a2 a3 a4 b1 b2 b3
  exact ⟨b1, b2, b3, a2, a3, a4⟩
theorem TR_no {v : TW} {T : TF} (h : TR v T) {w : Nat} (hn : ∀ i, i < v.1 → v.2.1 i ≠ nI w) : (T w).1 = 0 := by
  obtain ⟨-, wl, h1, -, h3⟩ := h
  by_cases hz : (T w).1 = 0
  · exact hz
  · obtain ⟨i, hi, rfl⟩ := h3 w hz
    exact absurd (h1 i hi).1.1 (hn i hi)
theorem TR_some {v : TW} {T : TF} (h : TR v T) {w : Nat} (hz : (T w).1 ≠ 0) : 1 ≤ w ∧ w ≤ 200 ∧ ∃ i, i < v.1 ∧ v.2.1 i = nI w := by
  obtain ⟨-, wl, h1, -, h3⟩ := h
  obtain ⟨i, hi, rfl⟩ := h3 w hz
  exact ⟨(h1 i hi).2.1, (h1 i hi).2.2.1, i, hi, (h1 i hi).1.1⟩
theorem TR_upd {v v' : TW} {T : TF} (h : TR v T) {w i s la nx : Nat} (hw : w < 2 ^ 31) (hi : i < v.1) (he : v.2.1 i = nI w) (hs : s ≠ 0) (g0 : v'.1 = v.1) (g1 : ∀ j, j < v.1 → v'.2.1 j = v.2.1 j)
    (g2 : ∀ j, j < v.1 → v'.2.2.1 j = if j = i then nI s else v.2.2.1 j) (g3 : ∀ j, j < v.1 → v'.2.2.2.1 j = if j = i then nI la else v.2.2.2.1 j) (g4 : ∀ j, j < v.1 → v'.2.2.2.2 j = if j = i then nI nx else v.2.2.2.2 j) : TR v' (va_up T w (s, la, nx)) := by
  obtain ⟨h0, wl, h1, h2, h3⟩ := h
  have e : wl i = w := (nI_eq (by have := (h1 i hi).2.2.1; omega) hw).mp ((h1 i hi).1.1.symm.trans he)
  refine ⟨by rw [g0]; exact h0, wl, fun j hj => ?_, fun a b hab hb => h2 a b hab (by rw [← g0]; exact hb), fun w' hw' => ?_⟩
  · rw [g0] at hj
    obtain ⟨⟨a1, a2, a3, a4⟩, b1, b2, b3⟩ := h1 j hj
    by_cases hji : j = i
    · subst hji
      have e2 : va_up T w (s, la, nx) (wl j) = (s, la, nx) := by rw [e]; simp [va_up]
      rw [e2, g1 j hj, g2 j hj, g3 j hj, g4 j hj, if_pos rfl, if_pos rfl, if_pos rfl]
      exact ⟨⟨a1, rfl, rfl, rfl⟩, b1, b2, hs⟩
    · have hne : wl j ≠ w := by
        rw [← e]
        rcases Nat.lt_or_gt_of_ne hji with q | q
        · exact Nat.ne_of_lt (h2 j i q hi)
        · exact Nat.ne_of_gt (h2 i j q hj)
      have e2 : va_up T w (s, la, nx) (wl j) = T (wl j) := by simp [va_up, hne]
      rw [e2, g1 j hj, g2 j hj, g3 j hj, g4 j hj, if_neg hji, if_neg hji, if_neg hji]
      exact ⟨⟨a1, a2, a3, a4⟩, b1, b2, b3⟩
  · by_cases hww : w' = w
    · exact ⟨i, by rw [g0]; exact hi, by rw [e, hww]⟩
    · simp only [va_up, if_neg hww] at hw'
      obtain ⟨k, hk, hk2⟩ := h3 w' hw'
      exact ⟨k, by rw [g0]; exact hk, hk2⟩
theorem TR_ins {v v' : TW} {T : TF} (h : TR v T) {w k : Nat} (hw1 : 1 ≤ w) (hw2 : w ≤ 200) (hz : (T w).1 = 0) (hk : k ≤ v.1) (hsz : v.1 < 16) (hlo : ∀ i, i < k → v.2.1 i < nI w) (hhi : ∀ i, k ≤ i → i < v.1 → nI w < v.2.1 i) (g0 : v'.1 = v.1 + 1)
    (gk : v'.2.1 k = nI w ∧ v'.2.2.1 k = nI 1 ∧ v'.2.2.2.1 k = nI 0 ∧ v'.2.2.2.2 k = nI 0) (gl : ∀ j, j < k → v'.2.1 j = v.2.1 j ∧ v'.2.2.1 j = v.2.2.1 j ∧ v'.2.2.2.1 j = v.2.2.2.1 j ∧ v'.2.2.2.2 j = v.2.2.2.2 j)
    (gh : ∀ j, k ≤ j → j < v.1 → v'.2.1 (j + 1) = v.2.1 j ∧ v'.2.2.1 (j + 1) = v.2.2.1 j ∧ v'.2.2.2.1 (j + 1) = v.2.2.2.1 j ∧ v'.2.2.2.2 (j + 1) = v.2.2.2.2 j) : TR v' (va_up T w (1, 0, 0)) := by
  obtain ⟨h0, wl, h1, h2, h3⟩ := h
  have hlo' : ∀ i, i < k → wl i < w := fun i hi => by
    have := h1 i (by omega)
    have q := hlo i hi
    rw [this.1.1, nI_ltI (by omega) (by omega)] at q
    exact q
  have hhi' : ∀ i, k ≤ i → i < v.1 → w < wl i := fun i hi hi2 => by
    have := h1 i hi2
    have q := hhi i hi hi2
    rw [this.1.1, nI_ltI (by omega) (by omega)] at q
    exact q
  have old : ∀ j, j < v.1 → va_up T w (1, 0, 0) (wl j) = T (wl j) := fun j hj => by
    have : wl j ≠ w := by
      by_cases q : j < k
      · exact Nat.ne_of_lt (hlo' j q)
      · exact Nat.ne_of_gt (hhi' j (by omega) hj)
    simp [va_up, this]
  have new : va_up T w (1, 0, 0) w = (1, 0, 0) := by simp [va_up]
  refine ⟨by omega, fun i => if i < k then wl i else if i = k then w else wl (i - 1), fun j hj => ?_, fun a b hab hb => ?_, fun w' hw' => ?_⟩
  · by_cases q : j < k
    · simp only [if_pos q]
      rw [old j (by omega), (gl j q).1, (gl j q).2.1, (gl j q).2.2.1, (gl j q).2.2.2]
      exact h1 j (by omega)
    · by_cases q2 : j = k
      · subst q2
        simp only [if_neg q, if_true]
        rw [new]
        exact ⟨⟨gk.1, gk.2.1, gk.2.2.1, gk.2.2.2⟩, hw1, hw2, by decide⟩
      · simp only [if_neg q, if_neg q2]
        obtain ⟨i, rfl⟩ : ∃ i, j = i + 1 := ⟨j - 1, by omega⟩
        have hi : i < v.1 := by omega
        have gi := gh i (by omega) hi
        rw [Nat.add_sub_cancel, old i hi, gi.1, gi.2.1, gi.2.2.1, gi.2.2.2]
        exact h1 i hi
  · show (if a < k then wl a else if a = k then w else wl (a - 1)) < (if b < k then wl b else if b = k then w else wl (b - 1))
    by_cases qa : a < k
    · rw [if_pos qa]
      by_cases qb : b < k
      · rw [if_pos qb]; exact h2 a b hab (by omega)
      · rw [if_neg qb]
        by_cases qb2 : b = k
        · rw [if_pos qb2]; exact hlo' a qa
        · rw [if_neg qb2]; exact h2 a (b - 1) (by omega) (by omega)
    · rw [if_neg qa, if_neg (show ¬ b < k by omega), if_neg (show ¬ b = k by omega)]
      by_cases qa2 : a = k
      · rw [if_pos qa2]; exact hhi' (b - 1) (by omega) (by omega)
      · rw [if_neg qa2]; exact h2 (a - 1) (b - 1) (by omega) (by omega)
  · by_cases hww : w' = w
    · exact ⟨k, by omega, by simp only [Nat.lt_irrefl, if_false, if_true]; exact hww.symm⟩
    · simp only [va_up, if_neg hww] at hw'
      obtain ⟨i, hi, hi2⟩ := h3 w' hw'
      by_cases q : i < k
      · exact ⟨i, by omega, by simp only [if_pos q]; exact hi2⟩
      · exact ⟨i + 1, by omega, by simp only [if_neg (show ¬ i + 1 < k by omega), if_neg (show ¬ i + 1 = k by omega), Nat.add_sub_cancel]; exact hi2⟩
theorem TR_del {v v' : TW} {T : TF} (h : TR v T) {w k : Nat} (hw : w < 2 ^ 31) (hk : k < v.1) (he : v.2.1 k = nI w) (g0 : v'.1 = v.1 - 1)
    (gl : ∀ j, j < k → v'.2.1 j = v.2.1 j ∧ v'.2.2.1 j = v.2.2.1 j ∧ v'.2.2.2.1 j = v.2.2.2.1 j ∧ v'.2.2.2.2 j = v.2.2.2.2 j)
    (gh : ∀ j, k ≤ j → j + 1 < v.1 → v'.2.1 j = v.2.1 (j + 1) ∧ v'.2.2.1 j = v.2.2.1 (j + 1) ∧ v'.2.2.2.1 j = v.2.2.2.1 (j + 1) ∧ v'.2.2.2.2 j = v.2.2.2.2 (j + 1)) : TR v' (va_up T w (0, 0, 0)) := by
  obtain ⟨h0, wl, h1, h2, h3⟩ := h
  have e : wl k = w := (nI_eq (by have := (h1 k hk).2.2.1; omega) hw).mp ((h1 k hk).1.1.symm.trans he)
  have old : ∀ j, j < v.1 → j ≠ k → va_up T w (0, 0, 0) (wl j) = T (wl j) := fun j hj hjk => by
    have : wl j ≠ w := by
      rw [← e]
      rcases Nat.lt_or_gt_of_ne hjk with q | q
      · exact Nat.ne_of_lt (h2 j k q hk)
      · exact Nat.ne_of_gt (h2 k j q hj)
    simp [va_up, this]
  refine ⟨by omega, fun i => if i < k then wl i else wl (i + 1), fun j hj => ?_, fun a b hab hb => ?_, fun w' hw' => ?_⟩
  · by_cases q : j < k
    · simp only [if_pos q]
      rw [old j (by omega) (by omega), (gl j q).1, (gl j q).2.1, (gl j q).2.2.1, (gl j q).2.2.2]
      exact h1 j (by omega)
    · simp only [if_neg q]
      have gi := gh j (by omega) (by omega)
      rw [old (j + 1) (by omega) (by omega), gi.1, gi.2.1, gi.2.2.1, gi.2.2.2]
      exact h1 (j + 1) (by omega)
  · show (if a < k then wl a else wl (a + 1)) < (if b < k then wl b else wl (b + 1))
    by_cases qa : a < k
    · rw [if_pos qa]
      by_cases qb : b < k
      · rw [if_pos qb]; exact h2 a b hab (by omega)
      · rw [if_neg qb]; exact h2 a (b + 1) (by omega) (by omega)
    · rw [if_neg qa, if_neg (show ¬ b < k by omega)]; exact h2 (a + 1) (b + 1) (by omega) (by omega)
  · by_cases hww : w' = w
    · subst hww; simp [va_up] at hw'
    · simp only [va_up, if_neg hww] at hw'
      obtain ⟨i, hi, hi2⟩ := h3 w' hw'
      have hik : i ≠ k := fun q => hww (by rw [← hi2, q, e])
      by_cases q : i < k
      · exact ⟨i, by omega, by simp only [if_pos q]; exact hi2⟩
      · exact ⟨i - 1, by omega, by simp only [if_neg (show ¬ i - 1 < k by omega), show i - 1 + 1 = i by omega]; exact hi2⟩
theorem TR_nil (f1 f2 f3 f4 : Nat → Int32) : TR (0, f1, f2, f3, f4) (fun _ => (0, 0, 0)) := ⟨Nat.zero_le _, fun _ => 0, fun i hi => absurd hi (Nat.not_lt_zero _), fun i j _ hj => absurd hj (Nat.not_lt_zero _), fun w hw => absurd rfl hw⟩
/-- how many works are in the table -/
def cardT (T : TF) : Nat → Nat
  | 0 => 0
  | m + 1 => cardT T m + (if (T (m + 1)).1 = 0 then 0 else 1)
theorem TR_card {v : TW} {T : TF} (h : TR v T) : v.1 = cardT T 200 := by
  obtain ⟨h0, wl, h1, h2, h3⟩ := h
  have key : ∀ m, m ≤ 200 → ∃ q, q ≤ v.1 ∧ (∀ i, i < v.1 → (i < q ↔ wl i ≤ m)) ∧ cardT T m = q := by
    intro m
    induction m with
    | zero => intro _; exact ⟨0, Nat.zero_le _, fun i hi => ⟨fun h => absurd h (Nat.not_lt_zero _), fun h => by have := (h1 i hi).2.1; omega⟩, rfl⟩
    | succ m ih =>
      intro hm
      obtain ⟨q, hq, hq2, hq3⟩ := ih (by omega)
      by_cases hz : (T (m + 1)).1 = 0
      · refine ⟨q, hq, fun i hi => ⟨fun h => by have := (hq2 i hi).mp h; omega, fun h => (hq2 i hi).mpr ?_⟩, by simp only [cardT, if_pos hz, hq3]; rfl⟩
        have : wl i ≠ m + 1 := fun e => (h1 i hi).2.2.2 (by rw [e]; exact hz)
        omega
      · obtain ⟨i0, hi0, e0⟩ := h3 _ hz
        have hqi : q = i0 := by
          have a1 : ¬ i0 < q := fun h => by have := (hq2 i0 hi0).mp h; omega
          by_cases a2 : q < i0
          · have a3 := h2 q i0 a2 hi0
            have a4 := (hq2 q (by omega)).mpr (by omega)
            omega
          · omega
        subst hqi
        refine ⟨q + 1, by omega, fun i hi => ⟨fun h => ?_, fun h => ?_⟩, by simp only [cardT, if_neg hz, hq3]⟩
        · rcases Nat.lt_or_ge i q with a | a
          · have := (hq2 i hi).mp a; omega
          · have : i = q := by omega
            subst this; omega
        · by_cases a : i < q + 1
          · exact a
          · have := h2 q i (by omega) hi; omega
  obtain ⟨q, hq, hq2, hq3⟩ := key 200 (Nat.le_refl _)
  rw [hq3]
  by_cases hlt : q < v.1
  · have := (hq2 q hlt).mpr (h1 q hlt).2.2.1
    omega
  · omega
/-- the least work in a state (0: none) -/
def lwD (T : TF) (st : Nat) : Nat → Nat
  | 0 => 0
  | m + 1 => if lwD T st m = 0 ∧ (T (m + 1)).1 = st then m + 1 else lwD T st m
theorem lwD_le (T : TF) (st m : Nat) : lwD T st m ≤ m := by
  induction m with
  | zero => exact Nat.le_refl _
  | succ m ih => simp only [lwD]; split <;> omega
theorem lwD_none {T : TF} {st : Nat} : ∀ m, (∀ w, 1 ≤ w → w ≤ m → (T w).1 ≠ st) → lwD T st m = 0 := by
  intro m
  induction m with
  | zero => intro _; rfl
  | succ m ih =>
    intro h
    have h1 := ih (fun w a b => h w a (by omega))
    simp only [lwD, h1]
    exact if_neg (fun q => h (m + 1) (by omega) (Nat.le_refl _) q.2)
theorem lwD_least {T : TF} {st w : Nat} (hw : 1 ≤ w) (h1 : (T w).1 = st) (h2 : ∀ w', 1 ≤ w' → w' < w → (T w').1 ≠ st) : ∀ m, w ≤ m → lwD T st m = w := by
  intro m
  induction m with
  | zero => intro h; omega
  | succ m ih =>
    intro h
    by_cases hm : w ≤ m
    · have := ih hm
      simp only [lwD, this, if_neg (show ¬ (w = 0 ∧ (T (m + 1)).1 = st) from fun q => by omega)]
    · have e : w = m + 1 := by omega
      subst e
      have := lwD_none (T := T) (st := st) m (fun w a b => h2 w a (by omega))
      simp only [lwD, this, h1, and_self, if_true]
/-- the work whose next record is the greatest, of those that are to be undone -/
def wuP (T : TF) (b w : Nat) : Prop := ((T w).1 = 1 ∨ (T w).1 = 2) ∧ (b = 0 ∨ (T b).2.2 < (T w).2.2)
noncomputable def wuD (T : TF) : Nat → Nat
  | 0 => 0
  | m + 1 => @ite _ (wuP T (wuD T m) (m + 1)) (Classical.propDecidable _) (m + 1) (wuD T m)
theorem wuD_pos {T : TF} {m : Nat} (h : wuP T (wuD T m) (m + 1)) : wuD T (m + 1) = m + 1 := by simp only [wuD]; exact if_pos h
theorem wuD_neg {T : TF} {m : Nat} (h : ¬ wuP T (wuD T m) (m + 1)) : wuD T (m + 1) = wuD T m := by simp only [wuD]; exact if_neg h
theorem wuD_le (T : TF) (m : Nat) : wuD T m ≤ m := by
  induction m with
  | zero => exact Nat.le_refl _
  | succ m ih =>
    by_cases h : wuP T (wuD T m) (m + 1)
    · rw [wuD_pos h]; omega
    · rw [wuD_neg h]; omega
theorem wuD_in {T : TF} (m : Nat) : wuD T m = 0 ∨ (T (wuD T m)).1 = 1 ∨ (T (wuD T m)).1 = 2 := by
  induction m with
  | zero => exact Or.inl rfl
  | succ m ih =>
    by_cases h : wuP T (wuD T m) (m + 1)
    · rw [wuD_pos h]; exact Or.inr h.1
    · rw [wuD_neg h]; exact ih
theorem wuD_skip {T : TF} {a : Nat} : ∀ m, a ≤ m → (∀ w, a < w → w ≤ m → (T w).1 = 0) → wuD T m = wuD T a := by
  intro m h
  induction h with
  | refl => intro _; rfl
  | step hm ih =>
    intro hz
    have hz2 := hz _ (Nat.lt_succ_of_le hm) (Nat.le_refl _)
    rw [wuD_neg (fun q => by rcases q.1 with q | q <;> rw [hz2] at q <;> cases q)]
    exact ih (fun w a b => hz w a (Nat.le_succ_of_le b))
/-- the least base (0: no page is dirty) -/
def lbD (base : Nat → Nat) : Nat → Nat
  | 0 => 0
  | m + 1 => if base m ≠ 0 ∧ (lbD base m = 0 ∨ base m < lbD base m) then base m else lbD base m
