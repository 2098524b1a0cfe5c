/-! THE REFERENCE and the abstract book -/
def bsI (b : Nat) : Int32 := if b = 0 then -1 else nI b
/-- the reference's rows say the abstract book; lt: its 'latest' -/
def ML (g : Nat → Nat → Int32) (n : Nat) (R : Nat → Rc) : Prop := ∀ r, 1 ≤ r → r ≤ n → g 0 r = nI (rK (R r)) ∧ g 1 r = nI (rW (R r)) ∧ g 2 r = nI (rB (R r)) ∧ g 3 r = nI (rP (R r)) ∧ g 4 r = nI (rD (R r)) ∧ g 5 r = rM (R r) ∧ (rK (R r) ≠ 8 → g 6 r = nI (rG (R r)))
def MG (g : Nat → Nat → Int32) (G : PG) : Prop := (∀ i, i < 512 → g 15 i = G.1 i ∧ g 18 i = G.2.2.1 i) ∧ ∀ i, i < 64 → g 16 i = G.2.1 i ∧ g 19 i = G.2.2.2 i
/-- .. but for the state of the work z (201: of none) -/
def MT (g : Nat → Nat → Int32) (T : TF) (z : Nat) : Prop := ∀ w, w ≤ 200 → (w ≠ z → g 21 w = nI (T w).1) ∧ ((T w).1 ≠ 0 → g 22 w = nI (T w).2.1 ∧ g 23 w = nI (T w).2.2)
def MB (g : Nat → Nat → Int32) (B : Nat → Nat) : Prop := ∀ p, p < 64 → g 17 p = bsI (B p)
def MP (g : Nat → Nat → Int32) (pt lp : Nat) (Tt : TF) (Bt : Nat → Nat) : Prop := pt ≠ 0 → g 6 (lp + 1) = nI (pt - 1) ∧ (∀ w, 1 ≤ w → w ≤ 200 → g 10 (201 * (pt - 1) + w) = nI (Tt w).1 ∧ ((Tt w).1 ≠ 0 → g 11 (201 * (pt - 1) + w) = nI (Tt w).2.1 ∧ g 12 (201 * (pt - 1) + w) = nI (Tt w).2.2)) ∧ ∀ p, p < 64 → g 13 (64 * (pt - 1) + p) = bsI (Bt p)
def RM (S : SS) (g : Nat → Nat → Int32) (lt : Int32) (z : Nat) : Prop := ML g (sN S) (sR S) ∧ MG g (sPg S) ∧ MT g (sT S) z ∧ MB g (sBs S) ∧ MP g (sPt S) (sLp S) (sTt S) (sBt S) ∧ (g 27 0 = sC2 S ∧ g 27 1 = sC3 S ∧ g 27 2 = sC4 S ∧ g 27 3 = sC5 S) ∧ (sDo S = 1 → lt = bsI (if sLp S = 0 then 0 else sLp S + 1))
theorem bsI_0 {b : Nat} (hb : b < 2 ^ 31) : bsI b = -1 ↔ b = 0 := by
  rw [bsI]
  split
  · rename_i h; exact ⟨fun _ => h, fun _ => rfl⟩
  · rename_i h; exact ⟨fun q => absurd q (nI_nm1 hb), fun q => absurd q h⟩
theorem bsI_n {b : Nat} (h : b ≠ 0) : bsI b = nI b := by rw [bsI, if_neg h]
theorem nI_gt0 {a : Nat} (ha : a < 2 ^ 31) : 0 < nI a ↔ a ≠ 0 := by
  rw [← nI_0, nI_ltI (by omega) ha]; omega
theorem nI_le0 {a : Nat} (ha : a < 2 ^ 31) : nI a ≤ 0 ↔ a = 0 := by
  rw [← nI_0, nI_leI ha (by omega)]; omega
theorem RM_em {b : Nat} {S : SS} {g u : Nat → Nat → Int32} {lt : Int32} {x : Rc} {z z' : Nat} (G : PG) (hI : Inv0 b S) (hm : RM S g lt z) (hd : sDo S ≠ 1) (hK : rK x ≠ 8) (hp : (sT S (rW x)).1 ≠ 0)
    (h1 : ∀ c, c ≤ 6 → ∀ r, r ≠ sN S + 1 → u c r = g c r) (h2 : u 0 (sN S + 1) = nI (rK x) ∧ u 1 (sN S + 1) = nI (rW x) ∧ u 2 (sN S + 1) = nI (rB x) ∧ u 3 (sN S + 1) = nI (rP x) ∧ u 4 (sN S + 1) = nI (rD x) ∧ u 5 (sN S + 1) = rM x ∧ u 6 (sN S + 1) = nI (rG x))
    (h3 : ∀ w, w ≤ 200 → w ≠ rW x → u 21 w = g 21 w ∧ u 22 w = g 22 w ∧ u 23 w = g 23 w)
    (h4 : (rW x ≠ z' → u 21 (rW x) = nI (tkE (sN S + 1) (rK x) (rG x) (sT S (rW x))).1) ∧ ((tkE (sN S + 1) (rK x) (rG x) (sT S (rW x))).1 ≠ 0 → u 22 (rW x) = nI (tkE (sN S + 1) (rK x) (rG x) (sT S (rW x))).2.1 ∧ u 23 (rW x) = nI (tkE (sN S + 1) (rK x) (rG x) (sT S (rW x))).2.2))
    (hz : ∀ w, w ≤ 200 → w ≠ z' → w ≠ rW x → w ≠ z) (h5 : MG u G) (h6 : MB u (tkB (sBs S) (sN S + 1) x)) (h7 : u 10 = g 10 ∧ u 11 = g 11 ∧ u 12 = g 12 ∧ u 13 = g 13 ∧ u 27 = g 27) :
    RM (apL S.1 x, G, (tkT (sT S) (sN S + 1) x, tkB (sBs S) (sN S + 1) x), S.2.2.2) u lt z' := by
  obtain ⟨m1, m2, m3, m4, m5, m6, m7⟩ := hm
  have hw0 : rW x ≠ 0 := by have := (((Inv0_T hI).1 _).2 hp).1; omega
  refine ⟨?_, h5, ?_, h6, ?_, ?_, fun q => absurd (show sDo S = 1 from q) hd⟩
  · intro r r1 r2
    show u 0 r = nI (rK (va_up (sR S) (sN S + 1) x r)) ∧ u 1 r = nI (rW (va_up (sR S) (sN S + 1) x r)) ∧ u 2 r = nI (rB (va_up (sR S) (sN S + 1) x r)) ∧ u 3 r = nI (rP (va_up (sR S) (sN S + 1) x r)) ∧ u 4 r = nI (rD (va_up (sR S) (sN S + 1) x r)) ∧ u 5 r = rM (va_up (sR S) (sN S + 1) x r) ∧ (rK (va_up (sR S) (sN S + 1) x r) ≠ 8 → u 6 r = nI (rG (va_up (sR S) (sN S + 1) x r)))
    by_cases e : r = sN S + 1
    · subst e
      have q : va_up (sR S) (sN S + 1) x (sN S + 1) = x := by simp [va_up]
      rw [q]
      exact ⟨h2.1, h2.2.1, h2.2.2.1, h2.2.2.2.1, h2.2.2.2.2.1, h2.2.2.2.2.2.1, fun _ => h2.2.2.2.2.2.2⟩
    · have q : va_up (sR S) (sN S + 1) x r = sR S r := by simp [va_up, e]
      rw [q, h1 0 (by omega) r e, h1 1 (by omega) r e, h1 2 (by omega) r e, h1 3 (by omega) r e, h1 4 (by omega) r e, h1 5 (by omega) r e, h1 6 (by omega) r e]
      exact m1 r r1 (by have : r ≤ sN S + 1 := r2; omega)
  · show MT u (tkT (sT S) (sN S + 1) x) z'
    rw [tkT_p hp hw0]
    intro w hw
    by_cases e : w = rW x
    · subst e
      simp only [va_up, if_true]
      exact h4
    · simp only [va_up, if_neg e]
      obtain ⟨a1, a2, a3⟩ := h3 w hw e
      rw [a1, a2, a3]
      exact ⟨fun q => (m3 w hw).1 (hz w hw q e), (m3 w hw).2⟩
  · intro hpt
    have hpt : sPt S ≠ 0 := hpt
    obtain ⟨k1, k2, k3⟩ := m5 hpt
    have hl : sLp S + 1 ≤ sN S := by
      obtain ⟨⟨a1, -⟩, ⟨-, -, -, c4⟩, d, -⟩ := hI
      rcases d with ⟨d1, -⟩ | ⟨-, d2, -⟩
      · exact absurd (c4.mp d1) hpt
      · omega
    show u 6 (sLp S + 1) = nI (sPt S - 1) ∧ (∀ w, 1 ≤ w → w ≤ 200 → u 10 (201 * (sPt S - 1) + w) = nI (sTt S w).1 ∧ ((sTt S w).1 ≠ 0 → u 11 (201 * (sPt S - 1) + w) = nI (sTt S w).2.1 ∧ u 12 (201 * (sPt S - 1) + w) = nI (sTt S w).2.2)) ∧ ∀ p, p < 64 → u 13 (64 * (sPt S - 1) + p) = bsI (sBt S p)
    rw [h1 6 (by omega) _ (show sLp S + 1 ≠ sN S + 1 by omega), h7.1, h7.2.1, h7.2.2.1, h7.2.2.2.1]
    exact ⟨k1, k2, k3⟩
  · show u 27 0 = sC2 S ∧ u 27 1 = sC3 S ∧ u 27 2 = sC4 S ∧ u 27 3 = sC5 S
    rw [h7.2.2.2.2]
    exact m6
theorem MB_dirty {g u : Nat → Nat → Int32} {B : Nat → Nat} (h : MB g B) {q r : Nat} (hq : q < 64) (hr : r ≠ 0) (hb : B q < 2 ^ 31) (hu : u = if g 17 q = -1 then va_up g 17 (upd (g 17) q (nI r)) else g) : MB u (if B q = 0 then va_up B q r else B) := by
  by_cases z : B q = 0
  · rw [if_pos z]
    rw [if_pos (by rw [h q hq]; exact (bsI_0 hb).mpr z)] at hu
    subst hu
    intro k hk
    by_cases e : k = q
    · subst e; simp [va_up, upd, bsI, hr]
    · simp only [va_up, upd, if_true, if_neg e]; exact h k hk
  · rw [if_neg z]
    rw [if_neg (fun k => z ((bsI_0 hb).mp (by rw [← h q hq]; exact k)))] at hu
    subst hu
    exact h
theorem MB_same {g u : Nat → Nat → Int32} {B : Nat → Nat} (h : MB g B) (e : u 17 = g 17) : MB u B := fun p hp => by rw [e]; exact h p hp
theorem MG_same {g u : Nat → Nat → Int32} {G : PG} (h : MG g G) (e1 : u 15 = g 15) (e2 : u 16 = g 16) (e3 : u 18 = g 18) (e4 : u 19 = g 19) : MG u G := by
  refine ⟨fun i hi => ?_, fun i hi => ?_⟩
  · rw [e1, e3]; exact h.1 i hi
  · rw [e2, e4]; exact h.2 i hi
theorem MG_apply {g u : Nat → Nat → Int32} {G : PG} (h : MG g G) {x : Rc} {q : Nat} (hp : rP x < 64) (hd : rD x < 8) (e1 : u 15 = upd (g 15) (8 * rP x + rD x) (g 15 (8 * rP x + rD x) + rM x)) (e2 : u 16 = upd (g 16) (rP x) (nI q)) (e3 : u 18 = g 18) (e4 : u 19 = g 19) : MG u (apP G q x) := by
  refine ⟨fun i hi => ?_, fun i hi => ?_⟩
  · rw [e1, e3]
    refine ⟨?_, (h.1 i hi).2⟩
    show upd (g 15) (8 * rP x + rD x) (g 15 (8 * rP x + rD x) + rM x) i = upd G.1 (rP x * 8 + rD x) (G.1 (rP x * 8 + rD x) + rM x) i
    rw [show 8 * rP x + rD x = rP x * 8 + rD x by omega, (h.1 (rP x * 8 + rD x) (by omega)).1]
    by_cases e : i = rP x * 8 + rD x
    · simp only [upd, if_pos e]
    · simp only [upd, if_neg e]; exact (h.1 i hi).1
  · rw [e2, e4]
    refine ⟨?_, (h.2 i hi).2⟩
    show upd (g 16) (rP x) (nI q) i = upd G.2.1 (rP x) (nI q) i
    by_cases e : i = rP x
    · simp only [upd, if_pos e]
    · simp only [upd, if_neg e]; exact (h.2 i hi).1
