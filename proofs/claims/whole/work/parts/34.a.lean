theorem lat_iff {b : Nat} {S : SS} (h : Inv0 b S) (hb : b ≤ 4000) (hd : sDo S = 1) (ha : sAt S ≤ sN S) : nI (sAt S) = bsI (if sLp S = 0 then 0 else sLp S + 1) ↔ rK (sR S (sAt S)) = 8 := by
  have hn := Inv0_n h
  obtain ⟨a, c, d, e, g, ph⟩ := h
  obtain ⟨p0, p1⟩ : sLp S ≤ sAt S ∧ 1 ≤ sAt S := by
    rcases ph with ⟨z, -⟩ | ⟨-, p0, p1, -⟩ | ⟨z, -⟩
    · omega
    · exact ⟨p0, p1⟩
    · omega
  rcases d with ⟨d1, d2⟩ | ⟨d1, d2, d3, d4, d5⟩
  · rw [if_pos d1]
    exact ⟨fun q => absurd q (nI_nm1 (by omega)), fun q => absurd q (d2 _ p1 ha)⟩
  · rw [if_neg (by omega), bsI_n (by omega), nI_eq (by omega) (by omega)]
    constructor
    · intro q; rw [q]; exact d4
    · intro q
      rcases Nat.lt_trichotomy (sAt S) (sLp S + 1) with z | z | z
      · rw [show sAt S = sLp S by omega, d3] at q; omega
      · exact z
      · exact absurd q (d5 _ z ha)
/-- a point is looked through -/
theorem lk8_RM {S : SS} {g u : Nat → Nat → Int32} {lt : Int32} (hm : RM S g lt 201) (h8 : rK (sR S (sAt S)) = 8) (h0 : (sTt S 0).1 = 0) (e : ∀ c, c ≠ 17 → c ≠ 21 → c ≠ 22 → c ≠ 23 → c ≠ 27 → u c = g c) (hT : ∀ w, 1 ≤ w → w ≤ 200 → u 21 w = nI (sTt S w).1 ∧ ((sTt S w).1 ≠ 0 → u 22 w = nI (sTt S w).2.1 ∧ u 23 w = nI (sTt S w).2.2)) (hT0 : u 21 0 = nI 0) (hB : ∀ p, p < 64 → u 17 p = bsI (sBt S p)) (h27 : u 27 0 = sC2 S + 1 ∧ u 27 1 = sC3 S ∧ u 27 2 = sC4 S ∧ u 27 3 = sC5 S) : RM (look S (sAt S)) u lt 201 := by
  have hE : look S (sAt S) = setC (setTB S (sTt S) (sBt S)) (sC2 S + 1) (sC3 S) (sC4 S) (sC5 S) := by rw [look, if_pos h8]
  rw [hE]
  obtain ⟨m1, m2, m3, m4, m5, m6, m7⟩ := hm
  have e' : ∀ c, c ≤ 16 → u c = g c := fun c hc => e c (by omega) (by omega) (by omega) (by omega) (by omega)
  refine ⟨fun r r1 r2 => ?_, MG_same m2 (e' 15 (by omega)) (e' 16 (by omega)) (e 18 (by omega) (by omega) (by omega) (by omega) (by omega)) (e 19 (by omega) (by omega) (by omega) (by omega) (by omega)), fun w hw => ?_, hB, ?_, h27, m7⟩
  · rw [e' 0 (by omega), e' 1 (by omega), e' 2 (by omega), e' 3 (by omega), e' 4 (by omega), e' 5 (by omega), e' 6 (by omega)]; exact m1 r r1 r2
  · by_cases z : w = 0
    · subst z
      refine ⟨fun _ => ?_, fun q => absurd h0 q⟩
      show u 21 0 = nI (sTt S 0).1
      rw [h0]; exact hT0
    · exact ⟨fun _ => (hT w (by omega) hw).1, (hT w (by omega) hw).2⟩
  · intro hp
    rw [e' 6 (by omega), e' 10 (by omega), e' 11 (by omega), e' 12 (by omega), e' 13 (by omega)]; exact m5 hp
/-- another record is looked through -/
theorem lkr_RM {S : SS} {g u : Nat → Nat → Int32} {lt : Int32} {xr : Rc} (hm : RM S g lt 201) (hx : sR S (sAt S) = xr) (h8 : rK xr ≠ 8) (e : ∀ c, c ≠ 17 → c ≠ 21 → c ≠ 22 → c ≠ 23 → c ≠ 27 → u c = g c) (hT : MT u (tkT (sT S) (sAt S) xr) 201) (hB : MB u (tkB (sBs S) (sAt S) xr)) (h27 : u 27 0 = sC2 S + 1 ∧ u 27 1 = sC3 S ∧ u 27 2 = sC4 S ∧ u 27 3 = sC5 S) : RM (look S (sAt S)) u lt 201 := by
  have hE : look S (sAt S) = setC (setTB S (tkT (sT S) (sAt S) xr) (tkB (sBs S) (sAt S) xr)) (sC2 S + 1) (sC3 S) (sC4 S) (sC5 S) := by rw [look, hx, if_neg h8]
  rw [hE]
  obtain ⟨m1, m2, m3, m4, m5, m6, m7⟩ := hm
  have e' : ∀ c, c ≤ 16 → u c = g c := fun c hc => e c (by omega) (by omega) (by omega) (by omega) (by omega)
  refine ⟨fun r r1 r2 => ?_, MG_same m2 (e' 15 (by omega)) (e' 16 (by omega)) (e 18 (by omega) (by omega) (by omega) (by omega) (by omega)) (e 19 (by omega) (by omega) (by omega) (by omega) (by omega)), hT, hB, ?_, h27, m7⟩
  · rw [e' 0 (by omega), e' 1 (by omega), e' 2 (by omega), e' 3 (by omega), e' 4 (by omega), e' 5 (by omega), e' 6 (by omega)]; exact m1 r r1 r2
  · intro hp
    rw [e' 6 (by omega), e' 10 (by omega), e' 11 (by omega), e' 12 (by omega), e' 13 (by omega)]; exact m5 hp
theorem MT_up {g u : Nat → Nat → Int32} {T : TF} {w : Nat} {x : Nat × Nat × Nat} (hT : MT g T 201) (h : ∀ k, k ≤ 200 → k ≠ w → u 21 k = g 21 k ∧ u 22 k = g 22 k ∧ u 23 k = g 23 k) (h1 : u 21 w = nI x.1) (h2 : x.1 ≠ 0 → u 22 w = nI x.2.1 ∧ u 23 w = nI x.2.2) : MT u (va_up T w x) 201 := by
  intro k hk
  by_cases z : k = w
  · subst z
    simp only [va_up, if_true]
    exact ⟨fun _ => h1, h2⟩
  · simp only [va_up, if_neg z]
    obtain ⟨a1, a2, a3⟩ := h k hk z
    rw [a1, a2, a3]
    exact hT k hk
theorem tkT_e {T : TF} {r w : Nat} {x : Rc} {e : Nat × Nat × Nat} (hw : rW x = w) (hw0 : w ≠ 0) (he : e = if (T w).1 = 0 then (1, 0, 0) else T w) : tkT T r x = va_up T w (tkE r (rK x) (rG x) e) := by
  rw [tkT, hw, if_neg hw0, he]
