/-! THE REFERENCE and the abstract book -/
def bsI (b : Nat) : Int32 := if b = 0 then -1 else nI b
/-- the reference's rows say the abstract book; lt: its 'latest' -/
def ML (g : Nat → Nat → Int32) (n : Nat) (R : Nat → Rc) : Prop := ∀ r, 1 ≤ r → r ≤ n → g 0 r = nI (rK (R r)) ∧ g 1 r = nI (rW (R r)) ∧ g 2 r = nI (rB (R r)) ∧ g 3 r = nI (rP (R r)) ∧ g 4 r = nI (rD (R r)) ∧ g 5 r = rM (R r) ∧ (rK (R r) ≠ 8 → g 6 r = nI (rG (R r)))
def MG (g : Nat → Nat → Int32) (G : PG) : Prop := (∀ i, i < 512 → g 15 i = G.1 i ∧ g 18 i = G.2.2.1 i) ∧ ∀ i, i < 64 → g 16 i = G.2.1 i ∧ g 19 i = G.2.2.2 i
def MT (g : Nat → Nat → Int32) (T : TF) : Prop := ∀ w, w ≤ 200 → g 21 w = nI (T w).1 ∧ ((T w).1 ≠ 0 → g 22 w = nI (T w).2.1 ∧ g 23 w = nI (T w).2.2)
def MB (g : Nat → Nat → Int32) (B : Nat → Nat) : Prop := ∀ p, p < 64 → g 17 p = bsI (B p)
def MP (g : Nat → Nat → Int32) (pt lp : Nat) (Tt : TF) (Bt : Nat → Nat) : Prop := pt ≠ 0 → g 6 (lp + 1) = nI (pt - 1) ∧ (∀ w, 1 ≤ w → w ≤ 200 → g 10 (201 * (pt - 1) + w) = nI (Tt w).1 ∧ ((Tt w).1 ≠ 0 → g 11 (201 * (pt - 1) + w) = nI (Tt w).2.1 ∧ g 12 (201 * (pt - 1) + w) = nI (Tt w).2.2)) ∧ ∀ p, p < 64 → g 13 (64 * (pt - 1) + p) = bsI (Bt p)
def RM (S : SS) (g : Nat → Nat → Int32) (lt : Int32) : Prop := ML g (sN S) (sR S) ∧ MG g (sPg S) ∧ MT g (sT S) ∧ MB g (sBs S) ∧ MP g (sPt S) (sLp S) (sTt S) (sBt S) ∧ (g 27 0 = sC2 S ∧ g 27 1 = sC3 S ∧ g 27 2 = sC4 S ∧ g 27 3 = sC5 S) ∧ (sDo S = 1 → lt = bsI (if sLp S = 0 then 0 else sLp S + 1))
theorem bsI_0 {b : Nat} (hb : b < 2 ^ 31) : bsI b = -1 ↔ b = 0 := by
  rw [bsI]
  split
  · rename_i h; exact ⟨fun _ => h, fun _ => rfl⟩
  · rename_i h; exact ⟨fun q => absurd q (nI_nm1 hb), fun q => absurd q h⟩
theorem bsI_n {b : Nat} (h : b ≠ 0) : bsI b = nI b := by rw [bsI, if_neg h]
theorem nI_gt0 {a : Nat} (ha : a < 2 ^ 31) : 0 < nI a ↔ a ≠ 0 := by
  rw [← nI_0, nI_ltI (by omega) ha]; omega
theorem nI_le0 {a : Nat} (ha : a < 2 ^ 31) : nI a ≤ 0 ↔ a = 0 := by
  rw [← nI_0, nI_leI ha (by omega)]; omega
