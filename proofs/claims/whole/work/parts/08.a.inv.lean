/-! THE INVARIANT, and what keeps it -/
abbrev lk (S : SS) (k : Nat) : TF := lkT (sR S) (sTt S) (sLp S) k
def Ph (b : Nat) (S : SS) : Prop := (sDo S = 0 ∧ Sub (lk S (sN S)) (sT S) ∧ TOk (sR S) (sN S) (sWk S) (sT S) ∧ cardT (sT S) 200 ≤ 16 ∧ sN S + pot (sR S) (sT S) 200 ≤ b) ∨ (sDo S = 1 ∧ sLp S ≤ sAt S ∧ 1 ≤ sAt S ∧ sAt S ≤ sN S + 1 ∧ sT S = lk S (sAt S - 1) ∧ (1 ≤ sLp S → sAt S ≤ sLp S + 1 → ∀ p, sBs S p = 0)) ∨ ((2 ≤ sDo S ∧ sDo S ≤ 4) ∧ (sDo S = 2 → 1 ≤ sAt S ∧ sAt S ≤ sN S + 1) ∧ sT S = lk S (sN S))
def PtOk (S : SS) : Prop := (sLp S = 0 ∧ ∀ r, 1 ≤ r → r ≤ sN S → rK (sR S r) ≠ 8) ∨ (1 ≤ sLp S ∧ sLp S + 1 ≤ sFo S ∧ rK (sR S (sLp S)) = 7 ∧ rK (sR S (sLp S + 1)) = 8 ∧ ∀ r, sLp S + 1 < r → r ≤ sN S → rK (sR S r) ≠ 8)
def Inv0 (b : Nat) (S : SS) : Prop := (sFo S ≤ sN S ∧ sCh S = cntK (sR S) (sN S) ∧ sCh S ≤ 2000 ∧ sN S * 7 ≤ sCap S ∧ 7 ≤ sCap S ∧ sCap S ≤ 14 * b + 2000) ∧
  (ROk (sR S) (sN S) (sWk S) ∧ sWk S ≤ 200 ∧ sPt S ≤ 100 ∧ (sLp S = 0 ↔ sPt S = 0)) ∧ PtOk S ∧
  (TOk (sR S) (sLp S) (sWk S) (sTt S) ∧ (∀ p, sBt S p ≤ sLp S) ∧ ∀ p, sBs S p ≤ sN S) ∧
  (∀ k, k ≤ sN S → TOk (sR S) k (sWk S) (lk S k) ∧ cardT (lk S k) 200 ≤ 16 ∧ k + pot (sR S) (lk S k) 200 ≤ b) ∧ Ph b S
/-- no part without a step stands -/
def Stdy (S : SS) : Prop := (sDo S = 1 → sAt S ≤ sN S) ∧ (sDo S = 2 → sAt S ≤ sN S) ∧ (sDo S = 3 → lwD (sT S) 4 200 ≠ 0) ∧ (sDo S = 4 → wuD (sT S) 200 ≠ 0)
def Inv (b : Nat) (S : SS) : Prop := Inv0 b S ∧ Stdy S
theorem Inv0_lp {b : Nat} {S : SS} (h : Inv0 b S) : sLp S ≤ sN S := by
  obtain ⟨a1, -, a3, -⟩ := h
  rcases a3 with q | q <;> omega
theorem Inv0_n {b : Nat} {S : SS} (h : Inv0 b S) : sN S ≤ b := by
  have := (h.2.2.2.2.1 (sN S) (Nat.le_refl _)).2.2
  omega
/-- the table's own facts, in every part -/
theorem Inv0_T {b : Nat} {S : SS} (h : Inv0 b S) : TOk (sR S) (sN S) (sWk S) (sT S) ∧ cardT (sT S) 200 ≤ 16 := by
  obtain ⟨a1, a2, a3, a4, a5, a6⟩ := h
  rcases a6 with ⟨-, -, q1, q2, -⟩ | ⟨-, -, q1, q2, q3, -⟩ | ⟨-, -, q⟩
  · exact ⟨q1, q2⟩
  · rw [q3]
    have := a5 (sAt S - 1) (by omega)
    exact ⟨TOk_mono (fun _ _ _ => rfl) (by omega) (Nat.le_refl _) this.1, this.2.1⟩
  · rw [q]
    have := a5 (sN S) (Nat.le_refl _)
    exact ⟨this.1, this.2.1⟩
/-- outside looking through: what stands in the table is what the log says, and more that have begun -/
theorem Inv0_U {b : Nat} {S : SS} (h : Inv0 b S) (hd : sDo S ≠ 1) : Sub (lk S (sN S)) (sT S) ∧ sN S + pot (sR S) (sT S) 200 ≤ b := by
  obtain ⟨a1, a2, a3, a4, a5, a6⟩ := h
  rcases a6 with ⟨-, q0, q1, q2, q3⟩ | ⟨q, -⟩ | ⟨-, -, q⟩
  · exact ⟨q0, q3⟩
  · exact absurd q hd
  · rw [q]
    exact ⟨Sub_rf _, (a5 (sN S) (Nat.le_refl _)).2.2⟩
theorem cntK_agr {R R' : Nat → Rc} {n : Nat} (g : Agr R R' n) : ∀ m, m ≤ n → cntK R' m = cntK R m := by
  intro m
  induction m with
  | zero => intro _; rfl
  | succ m ih => intro hm; simp only [cntK]; rw [ih (by omega), g (m + 1) (by omega) hm]
theorem cntK_mono (R : Nat → Rc) : ∀ {a b : Nat}, a ≤ b → cntK R a ≤ cntK R b := by
  intro a b h
  induction h with
  | refl => exact Nat.le_refl _
  | step _ ih => exact Nat.le_trans ih (Nat.le_add_right _ _)
theorem tkT_p {T : TF} {r : Nat} {x : Rc} (h : (T (rW x)).1 ≠ 0) (h0 : rW x ≠ 0) : tkT T r x = va_up T (rW x) (tkE r (rK x) (rG x) (T (rW x))) := by
  rw [tkT, if_neg h0, if_neg h]
theorem tkE_ok {R : Nat → Rc} {n wk w r k g : Nat} {e : Nat × Nat × Nat} {x : Rc} (hR : R r = x) (hr : r = n + 1) (hk : rK x = k) (hg : rG x = g) (h1 : 1 ≤ w) (h2 : w ≤ wk) (he : EOk R n wk w e) (hk1 : 1 ≤ k) (hk6 : k ≤ 6) (hgn : g ≤ n) (hg1 : g = 0 ∨ rK (R g) = 1) (hs : k = 1 → e.1 = 1) (he0 : e.1 ≠ 0) :
    ((tkE r k g e).1 = 0 → tkE r k g e = (0, 0, 0)) ∧ ((tkE r k g e).1 ≠ 0 → EOk R (n + 1) wk w (tkE r k g e)) := by
  obtain ⟨a1, a2, a3, a4, a5, a6, a7⟩ := he
  have hr0 : r ≠ 0 := by omega
  rcases (show k = 1 ∨ k = 2 ∨ k = 3 ∨ k = 4 ∨ k = 5 ∨ k = 6 by omega) with q | q | q | q | q | q <;> subst q
  · have e1 : tkE r 1 g e = (e.1, r, r) := rfl
    rw [e1]
    refine ⟨fun z => absurd z he0, fun _ => ⟨h1, h2, a3, by show r ≤ n + 1; omega, by show r ≤ n + 1; omega, Or.inr (by rw [hR]; exact hk), fun _ => ⟨?_, Or.inr (Or.inl (by rw [hR]; exact hk))⟩⟩⟩
    show nxO R r = r
    rw [nxO, if_neg (fun q => by rw [hR, hk] at q; exact absurd q.2 (by decide))]
  · have e1 : tkE r 2 g e = (e.1, r, g) := rfl
    rw [e1]
    refine ⟨fun z => absurd z he0, fun _ => ⟨h1, h2, a3, by show r ≤ n + 1; omega, by show g ≤ n + 1; omega, hg1, fun _ => ⟨?_, Or.inr (Or.inr (by rw [hR]; exact hk))⟩⟩⟩
    show nxO R r = g
    rw [nxO, if_pos ⟨hr0, by rw [hR]; exact hk⟩, hR, hg]
  · have e1 : tkE r 3 g e = (4, r, e.2.2) := rfl
    rw [e1]
    exact ⟨fun z => absurd (show (4 : Nat) = 0 from z) (by decide), fun _ => ⟨h1, h2, by show 4 ≤ 4; omega, by show r ≤ n + 1; omega, by show e.2.2 ≤ n + 1; omega, a6, fun z => absurd (show (4 : Nat) = 1 from z) (by decide)⟩⟩
  · have e1 : tkE r 4 g e = (2, r, e.2.2) := rfl
    rw [e1]
    exact ⟨fun z => absurd (show (2 : Nat) = 0 from z) (by decide), fun _ => ⟨h1, h2, by show 2 ≤ 4; omega, by show r ≤ n + 1; omega, by show e.2.2 ≤ n + 1; omega, a6, fun z => absurd (show (2 : Nat) = 1 from z) (by decide)⟩⟩
  · have e1 : tkE r 5 g e = (0, 0, 0) := rfl
    rw [e1]
    exact ⟨fun _ => rfl, fun z => absurd rfl z⟩
  · have e1 : tkE r 6 g e = (3, r, e.2.2) := rfl
    rw [e1]
    exact ⟨fun z => absurd (show (3 : Nat) = 0 from z) (by decide), fun _ => ⟨h1, h2, by show 3 ≤ 4; omega, by show r ≤ n + 1; omega, by show e.2.2 ≤ n + 1; omega, a6, fun z => absurd (show (3 : Nat) = 1 from z) (by decide)⟩⟩
/-- what a record must be that comes: of a work that is in the table -/
def XOk (S : SS) (x : Rc) : Prop := (1 ≤ rK x ∧ rK x ≤ 6) ∧ (sT S (rW x)).1 ≠ 0 ∧ rB x = (sT S (rW x)).2.1 ∧ rP x < 64 ∧ rD x < 8 ∧ rG x ≤ sN S ∧ (rK x ≠ 2 → rG x = 0) ∧ (rG x = 0 ∨ rK (sR S (rG x)) = 1) ∧ (rK x = 1 → (sT S (rW x)).1 = 1 ∧ sCh S < 2000)
theorem cap_ok {b b' : Nat} {L : LG} {x : Rc} (h1 : L.1 ≤ b) (h2 : L.2.2.2.1 ≤ 14 * b + 2000) (hb : b ≤ b') (h3 : L.1 * 7 ≤ L.2.2.2.1) (h7 : 7 ≤ L.2.2.2.1) : (L.1 + 1) * 7 ≤ (apL L x).2.2.2.1 ∧ 7 ≤ (apL L x).2.2.2.1 ∧ (apL L x).2.2.2.1 ≤ 14 * b' + 2000 ∧ L.2.2.2.1 ≤ (apL L x).2.2.2.1 := by
  show (L.1 + 1) * 7 ≤ (if L.2.2.2.1 < L.1 * 7 + 7 then L.2.2.2.1 * 2 else L.2.2.2.1) ∧ 7 ≤ (if L.2.2.2.1 < L.1 * 7 + 7 then L.2.2.2.1 * 2 else L.2.2.2.1) ∧ (if L.2.2.2.1 < L.1 * 7 + 7 then L.2.2.2.1 * 2 else L.2.2.2.1) ≤ 14 * b' + 2000 ∧ L.2.2.2.1 ≤ (if L.2.2.2.1 < L.1 * 7 + 7 then L.2.2.2.1 * 2 else L.2.2.2.1)
  split <;> omega
theorem Inv_em {b b' : Nat} {S : SS} {x : Rc} (G : PG) (h : Inv0 b S) (hd : sDo S = 0 ∨ sDo S = 3 ∨ sDo S = 4) (hx : XOk S x) (hbb : b ≤ b') (hbud : 1 + eP (va_up (sR S) (sN S + 1) x) (tkE (sN S + 1) (rK x) (rG x) (sT S (rW x))) + b ≤ b' + eP (sR S) (sT S (rW x))) :
    Inv0 b' (apL S.1 x, G, (tkT (sT S) (sN S + 1) x, tkB (sBs S) (sN S + 1) x), S.2.2.2) := by
  have hT := Inv0_T h
  have hU := Inv0_U h (by omega)
  have hnb := Inv0_n h
  have hlp := Inv0_lp h
  obtain ⟨⟨a1, a2, a3, a4, a5, a6⟩, ⟨c1, c2, c3, c4⟩, d, ⟨e1, e2, e3⟩, g, ph⟩ := h
  obtain ⟨⟨x1, x2⟩, x3, x4, x5, x6, x7, x8, x9, x10⟩ := hx
  have hE := (hT.1 (rW x)).2 x3
  have hw1 := hE.1
  have hw2 := hE.2.1
  have hg := Agr_up (sR S) (sN S) x
  obtain ⟨R', hR'⟩ : ∃ R', R' = va_up (sR S) (sN S + 1) x := ⟨_, rfl⟩
  rw [← hR'] at hg hbud
  have hRn : R' (sN S + 1) = x := by rw [hR']; simp [va_up]
  have hROk : ROk R' (sN S + 1) (sWk S) := by
    intro r r1 r2
    by_cases q : r ≤ sN S
    · exact ROk_mono hg (Nat.le_refl _) c1 r r1 q
    · have q : r = sN S + 1 := by omega
      subst q
      rw [hRn]
      refine ⟨⟨x1, by omega⟩, fun q => by omega, fun _ => hw1, hw2, by have := hE.2.2.2.1; omega, x5, x6, by omega, x8, ?_, fun q => ?_⟩
      · by_cases z : rG x = 0
        · exact Or.inl z
        · rw [hg (rG x) (by omega) x7]; exact x9
      · rw [x4]
        have z := (hE.2.2.2.2.2.2 (x10 q).1).2
        by_cases z2 : (sT S (rW x)).2.1 = 0
        · exact Or.inl z2
        · rw [hg _ (by omega) hE.2.2.2.1]; exact z
  -- the entry
  obtain ⟨e', he'⟩ : ∃ e', e' = tkE (sN S + 1) (rK x) (rG x) (sT S (rW x)) := ⟨_, rfl⟩
  rw [← he'] at hbud
  have hT' : tkT (sT S) (sN S + 1) x = va_up (sT S) (rW x) e' := by rw [tkT_p x3 (by omega), he']
  have hEok := tkE_ok (R := R') (n := sN S) (wk := sWk S) (w := rW x) (r := sN S + 1) (k := rK x) (g := rG x) (e := sT S (rW x)) hRn rfl rfl rfl hw1 hw2 (EOk_mono hg (Nat.le_refl _) (Nat.le_refl _) hE) x1 x2 x7 (by
    by_cases z : rG x = 0
    · exact Or.inl z
    · rw [hg (rG x) (by omega) x7]; exact x9) (fun q => (x10 q).1) x3
  rw [← he'] at hEok
  have hTOk : TOk R' (sN S + 1) (sWk S) (va_up (sT S) (rW x) e') := TOk_up (TOk_mono hg (by omega) (Nat.le_refl _) hT.1) hEok.1 hEok.2
  have hc2 : 1 ≤ rW x ∧ rW x ≤ 200 := by omega
  have hcard : cardT (va_up (sT S) (rW x) e') 200 ≤ 16 := by
    have := card_up (sT S) (rW x) e' 200
    rw [if_pos hc2, if_pos hc2] at this
    have q1 : eC (sT S (rW x)) = 1 := by simp [eC, x3]
    have q2 : eC e' ≤ 1 := by simp only [eC]; split <;> omega
    have := hT.2
    omega
  have hpot : sN S + 1 + pot R' (va_up (sT S) (rW x) e') 200 ≤ b' := by
    have q := pot_up R' (sT S) (rW x) e' 200
    rw [if_pos hc2, if_pos hc2, pot_agr c1 hg hT.1] at q
    have q2 : eP R' (sT S (rW x)) = eP (sR S) (sT S (rW x)) := by
      simp only [eP, if_neg x3]
      rw [show dp R' (sT S (rW x)).2.2 = dp (sR S) (sT S (rW x)).2.2 from dp_agr c1 hg _ _ hE.2.2.2.2.1]
    have := hU.2
    omega
  -- the log's own table
  have hold : ∀ k, k ≤ sN S → lkT R' (sTt S) (sLp S) k = lk S k := lkT_agr hg
  have hnew : lkT R' (sTt S) (sLp S) (sN S + 1) = va_up (lk S (sN S)) (rW x) e' := by
    show (if sN S + 1 < sLp S then T0 else if rK (R' (sN S + 1)) = 8 then sTt S else tkT (lkT R' (sTt S) (sLp S) (sN S)) (sN S + 1) (R' (sN S + 1))) = _
    rw [if_neg (by omega), hRn, if_neg (by omega), hold _ (Nat.le_refl _), tkT, if_neg (show ¬ rW x = 0 by omega)]
    have q : (if (lk S (sN S) (rW x)).1 = 0 then (1, 0, 0) else lk S (sN S) (rW x)) = sT S (rW x) := by
      rcases hU.1 (rW x) with q | ⟨q1, q2⟩
      · rw [← q, if_neg x3]
      · rw [if_pos q1, q2]
    rw [q, he']
  have hsub : Sub (va_up (lk S (sN S)) (rW x) e') (va_up (sT S) (rW x) e') := by
    intro k
    by_cases z : k = rW x
    · simp only [va_up, if_pos z]; exact Or.inl trivial
    · simp only [va_up, if_neg z]; exact hU.1 k
  have hcap := cap_ok (b := b) (b' := b') (L := S.1) (x := x) hnb a6 hbb a4 a5
  have hlkok : TOk R' (sN S + 1) (sWk S) (va_up (lk S (sN S)) (rW x) e') := TOk_up (TOk_mono hg (by omega) (Nat.le_refl _) (g (sN S) (Nat.le_refl _)).1) hEok.1 hEok.2
  refine ⟨⟨?_, ?_, ?_, hcap.1, hcap.2.1, hcap.2.2.1⟩, ⟨?_, c2, c3, c4⟩, ?_, ⟨?_, e2, ?_⟩, ?_, ?_⟩
  · show sFo S ≤ sN S + 1
    omega
  · show sCh S + (if rK x = 1 then 1 else 0) = cntK (va_up (sR S) (sN S + 1) x) (sN S) + (if rK (va_up (sR S) (sN S + 1) x (sN S + 1)) = 1 then 1 else 0)
    rw [← hR', hRn, cntK_agr hg _ (Nat.le_refl _), a2]
  · show sCh S + (if rK x = 1 then 1 else 0) ≤ 2000
    split
    · rename_i q; have := (x10 q).2; omega
    · omega
  · show ROk (va_up (sR S) (sN S + 1) x) (sN S + 1) (sWk S)
    rw [← hR']; exact hROk
  · rcases d with ⟨d1, d2⟩ | ⟨d1, d2, d3, d4, d5⟩
    · refine Or.inl ⟨d1, fun r r1 r2 => ?_⟩
      show rK (va_up (sR S) (sN S + 1) x r) ≠ 8
      rw [← hR']
      by_cases q : r ≤ sN S
      · rw [hg r r1 q]; exact d2 r r1 q
      · have q : r = sN S + 1 := by have : r ≤ sN S + 1 := r2; omega
        rw [q, hRn]; omega
    · refine Or.inr ⟨d1, d2, ?_, ?_, fun r r1 r2 => ?_⟩
      · show rK (va_up (sR S) (sN S + 1) x (sLp S)) = 7
        rw [← hR', hg _ d1 (by omega)]; exact d3
      · show rK (va_up (sR S) (sN S + 1) x (sLp S + 1)) = 8
        rw [← hR', hg _ (by omega) (by omega)]; exact d4
      · show rK (va_up (sR S) (sN S + 1) x r) ≠ 8
        rw [← hR']
        have r1 : sLp S + 1 < r := r1
        by_cases q : r ≤ sN S
        · rw [hg r (by omega) q]; exact d5 r r1 q
        · have q : r = sN S + 1 := by have : r ≤ sN S + 1 := r2; omega
          rw [q, hRn]; omega
  · show TOk (va_up (sR S) (sN S + 1) x) (sLp S) (sWk S) (sTt S)
    rw [← hR']
    exact TOk_mono (fun r r1 r2 => hg r r1 (by omega)) (Nat.le_refl _) (Nat.le_refl _) e1
  · intro q
    show tkB (sBs S) (sN S + 1) x q ≤ sN S + 1
    rw [tkB]
    split
    · by_cases z : q = rP x
      · simp only [va_up, if_pos z]; exact Nat.le_refl _
      · simp only [va_up, if_neg z]; have := e3 q; omega
    · have := e3 q; omega
  · intro k hk
    show TOk (va_up (sR S) (sN S + 1) x) k (sWk S) (lkT (va_up (sR S) (sN S + 1) x) (sTt S) (sLp S) k) ∧ cardT (lkT (va_up (sR S) (sN S + 1) x) (sTt S) (sLp S) k) 200 ≤ 16 ∧ k + pot (va_up (sR S) (sN S + 1) x) (lkT (va_up (sR S) (sN S + 1) x) (sTt S) (sLp S) k) 200 ≤ b'
    rw [← hR']
    by_cases q : k ≤ sN S
    · rw [hold k q]
      have gk := g k q
      refine ⟨TOk_mono (fun r r1 r2 => hg r r1 (by omega)) (Nat.le_refl _) (Nat.le_refl _) gk.1, gk.2.1, ?_⟩
      rw [pot_agr (ROk_le c1 q) (fun r r1 r2 => hg r r1 (by omega)) gk.1]
      omega
    · have q : k = sN S + 1 := by have : k ≤ sN S + 1 := hk; omega
      subst q
      rw [hnew]
      refine ⟨hlkok, Nat.le_trans (Sub_card hsub 200) hcard, ?_⟩
      have := Sub_pot (R := R') hsub 200
      omega
  · rcases hd with q | q
    · refine Or.inl ⟨q, ?_, ?_, ?_, ?_⟩
      · show Sub (lkT (va_up (sR S) (sN S + 1) x) (sTt S) (sLp S) (sN S + 1)) (tkT (sT S) (sN S + 1) x)
        rw [← hR', hnew, hT']; exact hsub
      · show TOk (va_up (sR S) (sN S + 1) x) (sN S + 1) (sWk S) (tkT (sT S) (sN S + 1) x)
        rw [← hR', hT']; exact hTOk
      · show cardT (tkT (sT S) (sN S + 1) x) 200 ≤ 16
        rw [hT']; exact hcard
      · show sN S + 1 + pot (va_up (sR S) (sN S + 1) x) (tkT (sT S) (sN S + 1) x) 200 ≤ b'
        rw [← hR', hT']; exact hpot
    · refine Or.inr (Or.inr ⟨⟨by show 2 ≤ sDo S; omega, by show sDo S ≤ 4; omega⟩, fun z => absurd (show sDo S = 2 from z) (by omega), ?_⟩)
      show tkT (sT S) (sN S + 1) x = lkT (va_up (sR S) (sN S + 1) x) (sTt S) (sLp S) (sN S + 1)
      rw [← hR', hnew, hT']
      have q2 : sT S = lk S (sN S) := by
        rcases ph with ⟨z, -⟩ | ⟨z, -⟩ | ⟨-, -, z⟩
        · omega
        · omega
        · exact z
      rw [q2]
