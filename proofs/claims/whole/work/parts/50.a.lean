/-! what every call keeps -/
theorem InvF_mono {b b' : Nat} {S : SS} (hb : b ≤ b') (h : InvF b S) : InvF b' S := ⟨⟨Inv0_mono hb h.1.1, h.1.2⟩, h.2.1, by have := h.2.2; omega⟩
theorem InvF_0 {b : Nat} {S : SS} (h : Inv0 b S) (hd : sDo S = 0) (h5 : E5 S) (ha : sAt S ≤ b + 1) : InvF b S := ⟨⟨h, fun q => absurd q (by omega), fun q => absurd q (by omega), fun q => absurd q (by omega), fun q => absurd q (by omega)⟩, h5, ha⟩
def Kp (b : Nat) (S S' : SS) : Prop := InvF (b + 2) S' ∧ sCap S ≤ sCap S'
theorem Kp_rf {b : Nat} {S : SS} (h : InvF b S) : Kp b S S := ⟨InvF_mono (by omega) h, Nat.le_refl _⟩
theorem kO_begin {b : Nat} {S : SS} (h : InvF b S) : Kp b S (oBegin S).2 := by
  rw [oBegin]
  split
  · exact Kp_rf h
  · rename_i hd
    split
    · exact Kp_rf h
    · rename_i hf
      refine ⟨InvF_mono (b := b + 1) (by omega) (InvF_0 (Inv0_begin h.1.1 (by omega) (by omega) (by omega)) (show sDo S = 0 by omega) ?_ (show sAt S ≤ b + 1 + 1 by have := h.2.2; omega)), Nat.le_refl _⟩
      exact h.2.1
theorem kO_add {b : Nat} {S : SS} (h : InvF b S) (w p d m : Int32) : Kp b S (oAdd S w p d m).2 := by
  rw [oAdd]
  split
  · exact Kp_rf h
  · rename_i hd
    split
    · exact Kp_rf h
    · split
      · rename_i hi
        split
        · exact Kp_rf h
        · rename_i hs
          split
          · exact Kp_rf h
          · rename_i hr
            have hp : cl p < 64 := by obtain ⟨j, hj, e⟩ := (inN_iff (by omega)).mp hi.1; rw [e]; show cl (nI j) < 64; rw [cl_nI (by omega)]; exact hj
            have hq : cl d < 8 := by obtain ⟨j, hj, e⟩ := (inN_iff (by omega)).mp hi.2; rw [e]; show cl (nI j) < 8; rw [cl_nI (by omega)]; exact hj
            refine ⟨InvF_0 (Inv0_add h.1.1 (by omega) (Classical.not_not.mp hs) hp hq (by omega)) (show sDo S = 0 by omega) ?_ (show sAt S ≤ b + 2 + 1 by have := h.2.2; omega), cap_mono S.1 _⟩
            exact E5_em _ _ h.2.1 (fun q => absurd (show (1 : Nat) = 5 from q) (by decide))
      · exact Kp_rf h
theorem at_undL {w to : Nat} : ∀ (k : Nat) (S : SS), sAt (undL k S w to).2 = sAt S := by
  intro k
  induction k with
  | zero => intro S; rfl
  | succ k ih =>
    intro S
    rw [undL]
    split
    · show sAt (undL k (und S w) w to).2 = sAt S
      rw [ih]; rfl
    · rfl
theorem kO_back {b : Nat} {S : SS} (h : InvF b S) (w to : Int32) : Kp b S (oBack S w to).2 := by
  rw [oBack]
  split
  · exact Kp_rf h
  · rename_i hd
    split
    · exact Kp_rf h
    · rename_i hp
      split
      · split
        · exact Kp_rf h
        · obtain ⟨a1, a2, -, -, a5, -⟩ := undL_ok (w := cl w) (to := cl to) (sN S) h.1.1 (by omega) hp
          refine ⟨InvF_mono (b := b) (by omega) (InvF_0 a1 a2 (E5_undL _ h.2.1) ?_), a5⟩
          rw [at_undL]; exact h.2.2
      · exact Kp_rf h
theorem E5_frc {S : SS} (x : Nat) (h : E5 S) : E5 (frc S x) := h
theorem E5_emk {S : SS} {k w : Nat} (h : E5 S) (hk : k ≠ 5) : E5 (emT S (rcW S k w)) := E5_em _ _ h (fun q => absurd q hk)
theorem kO_prep {b : Nat} {S : SS} (h : InvF b S) (w : Int32) : Kp b S (oPrep S w).2 := by
  rw [oPrep]
  split
  · exact Kp_rf h
  · rename_i hd
    split
    · exact Kp_rf h
    · rename_i hp
      split
      · exact Kp_rf h
      · refine ⟨InvF_mono (b := b + 1) (by omega) (InvF_0 (Inv0_frc _ (Inv0_k h.1.1 (by omega) hp (Or.inr (Or.inr rfl)))) (show sDo S = 0 by omega) (E5_frc _ (E5_emk h.2.1 (by decide))) (show sAt S ≤ b + 1 + 1 by have := h.2.2; omega)), cap_mono S.1 _⟩
theorem T_emk {b : Nat} {S : SS} {k w : Nat} (h : Inv0 b S) (hp : (sT S w).1 ≠ 0) (hk : k = 3 ∨ k = 4) : (sT (emT S (rcW S k w)) w).1 ≠ 0 := by
  have hw : w ≠ 0 := by have := (((Inv0_T h).1 w).2 hp).1; omega
  show (tkT (sT S) (sN S + 1) (rcW S k w) w).1 ≠ 0
  rw [tkT, if_neg (show rW (rcW S k w) ≠ 0 from hw)]
  have e : ∀ z, va_up (sT S) (rW (rcW S k w)) z w = z := fun z => by show va_up (sT S) w z w = z; simp [va_up]
  rw [e]
  rcases hk with z | z <;> subst z
  · exact (by decide : (4 : Nat) ≠ 0)
  · exact (by decide : (2 : Nat) ≠ 0)
theorem lk_emk {b : Nat} {S : SS} {k w : Nat} (h : Inv0 b S) (hd : sDo S = 0) (hp : (sT S w).1 ≠ 0) (hk : k = 3 ∨ k = 4) : (lk (emT S (rcW S k w)) (sN S + 1) w).1 ≠ 0 := by
  have e := lk_em (x := rcW S k w) h (by omega) hp (by show k ≠ 8; omega) S.2.1 (tkT (sT S) (sN S + 1) (rcW S k w), tkB (sBs S) (sN S + 1) (rcW S k w))
  have e : lk (emT S (rcW S k w)) (sN S + 1) w = tkE (sN S + 1) k 0 (sT S w) := e
  rw [e]
  rcases hk with z | z <;> subst z
  · exact (by decide : (4 : Nat) ≠ 0)
  · exact (by decide : (2 : Nat) ≠ 0)
theorem kO_comm {b : Nat} {S : SS} (h : InvF b S) (w : Int32) : Kp b S (oComm S w).2 := by
  rw [oComm]
  split
  · exact Kp_rf h
  · rename_i hd
    split
    · exact Kp_rf h
    · rename_i hp
      have hd0 : sDo S = 0 := by omega
      have i1 := Inv0_frc (sN S + 1) (Inv0_k h.1.1 hd0 hp (Or.inl rfl))
      have p1 : (sT (frc (emT S (rcW S 3 (cl w))) (sN S + 1)) (cl w)).1 ≠ 0 := T_emk h.1.1 hp (Or.inl rfl)
      refine ⟨InvF_mono (b := b + 1) (by omega) (InvF_0 (Inv0_end i1 (Or.inl hd0) p1) hd0 ?_ (show sAt S ≤ b + 1 + 1 by have := h.2.2; omega)), Nat.le_trans (cap_mono S.1 _) (cap_mono (frc (emT S (rcW S 3 (cl w))) (sN S + 1)).1 _)⟩
      exact E5_em _ _ (E5_frc _ (E5_emk h.2.1 (by decide))) (fun _ => lk_emk h.1.1 hd0 hp (Or.inl rfl))
theorem kO_abor {b : Nat} {S : SS} (h : InvF b S) (w : Int32) : Kp b S (oAbor S w).2 := by
  rw [oAbor]
  split
  · exact Kp_rf h
  · rename_i hd
    split
    · exact Kp_rf h
    · rename_i hp
      have hd0 : sDo S = 0 := by omega
      have i1 := Inv0_k h.1.1 hd0 hp (Or.inr (Or.inl rfl))
      have p1 := T_emk h.1.1 hp (Or.inr rfl)
      obtain ⟨a1, a2, a3, -, a5, -⟩ := undL_ok (w := cl w) (to := 0) (sN S + 1) i1 hd0 p1
      have l1 := lk_undL (w := cl w) (to := 0) (sN S + 1) i1 hd0 p1 (lk_emk h.1.1 hd0 hp (Or.inr rfl))
      have e5 := E5_undL (w := cl w) (to := 0) (sN S + 1) (E5_emk (k := 4) (w := cl w) h.2.1 (by decide))
      have ea := at_undL (w := cl w) (to := 0) (sN S + 1) (emT S (rcW S 4 (cl w)))
      have ea : sAt (abo S (cl w)).2 = sAt S := ea
      refine ⟨InvF_mono (b := b + 1) (by omega) (InvF_0 (Inv0_end a1 (Or.inl a2) a3) a2 ?_ ?_), Nat.le_trans (cap_mono S.1 _) (Nat.le_trans a5 (cap_mono (abo S (cl w)).2.1 _))⟩
      · exact E5_em _ _ e5 (fun _ => l1)
      · show sAt (abo S (cl w)).2 ≤ b + 1 + 1
        have := h.2.2; omega
theorem kO_write {b : Nat} {S : SS} (h : InvF b S) (p : Int32) : Kp b S (oWrite S p).2 := by
  rw [oWrite]
  split
  · exact Kp_rf h
  · rename_i hd
    split
    · split
      · exact Kp_rf h
      · exact ⟨InvF_mono (b := b) (by omega) (InvF_0 (Inv0_write _ _ _ h.1.1) (show sDo S = 0 by omega) h.2.1 h.2.2), Nat.le_refl _⟩
    · exact Kp_rf h
theorem kO_force {b : Nat} {S : SS} (h : InvF b S) (n : Int32) : Kp b S (oForce S n).2 := by
  rw [oForce]
  split
  · exact Kp_rf h
  · rename_i hd
    split
    · exact Kp_rf h
    · exact ⟨InvF_mono (b := b) (by omega) (InvF_0 (Inv0_frc _ h.1.1) (show sDo S = 0 by omega) h.2.1 h.2.2), Nat.le_refl _⟩
theorem kO_point {b : Nat} {S : SS} (h : InvF b S) : Kp b S (oPoint S).2 := by
  rw [oPoint]
  split
  · exact Kp_rf h
  · rename_i hd
    split
    · exact Kp_rf h
    · rename_i hf
      refine ⟨InvF_0 (Inv0_point h.1.1 (by omega) (by omega)) (show sDo S = 0 by omega) ?_ (show sAt S ≤ b + 2 + 1 by have := h.2.2; omega), Nat.le_trans (cap_mono S.1 _) (cap_mono (apL S.1 (rc0 7)) _)⟩
      intro k k1 k2 k3
      have k1 : sN S + 1 ≤ k := k1
      have k2 : k + 1 ≤ sN S + 1 + 1 := k2
      have k3 : rK (va_up (va_up (sR S) (sN S + 1) (rc0 7)) (sN S + 1 + 1) (rc0 8) (k + 1)) = 5 := k3
      rw [show k = sN S + 1 by omega] at k3
      simp only [va_up, if_true] at k3
      exact absurd (show (8 : Nat) = 5 from k3) (by decide)
theorem kO_loss {b : Nat} {S : SS} (h : InvF b S) (k : Int32) : Kp b S (oLoss S k).2 := by
  rw [oLoss]
  split
  · exact Kp_rf h
  · have i1 := Inv0_los (cl k) h.1.1
    have hl := Inv0_lp h.1.1
    have hn := Inv0_n h.1.1
    have q1 := Inv_pas i1
    have q2 := E5_pas (E5_los (cl k) h.2.1 h.1.1.1.1)
    have q3 := pas_at i1 (by show max (sLp S) 1 ≤ b + 1; omega)
    have q4 := pas_cap (los S (cl k))
    have q5 : sCap (los S (cl k)) = sCap S := rfl
    rw [q5] at q4
    obtain ⟨Sf, hSf⟩ : ∃ Sf, pas (los S (cl k)) = Sf := ⟨_, rfl⟩
    rw [hSf] at q1 q2 q3 q4 ⊢
    exact ⟨InvF_mono (b := b) (by omega) ⟨q1, q2, q3⟩, Nat.le_of_eq q4.symm⟩
theorem kO_rest {b : Nat} {S : SS} (h : InvF b S) (n : Int32) : Kp b S (oRest S n).2 := by
  rw [oRest]
  split
  · exact Kp_rf h
  · have g := InvF_stpL (cl n) h
    exact ⟨InvF_mono (by omega) g.1, g.2.1⟩
theorem InvF_S0 : InvF 0 S0 := ⟨Inv_S0, fun k k1 k2 => absurd k2 (by show ¬ k + 1 ≤ 0; omega), by show 0 ≤ 0 + 1; omega⟩
