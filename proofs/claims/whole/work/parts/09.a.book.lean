/-! the class and the abstract book -/
theorem Kt_map {S S' : Type} {l : Launch} {y : MethodName} {ws : List Cond} {fr lo mc ms : Nat} {D : va_G} {cI : ClassId} {av : List Value} {w : va_W} {post : Option Value → S → Prop} {w' : S → va_W} {post' : Option Value → S' → Prop} {w2 : S' → va_W} (h : Kt l y ws fr lo mc ms D cI av w post w') (g : S → S') (hp : ∀ v u, post v u → post' v (g u)) (hw : ∀ u, w' u = w2 (g u)) : Kt l y ws fr lo mc ms D cI av w post' w2 := by
  intro sz p e ha hc hk s m args below hf happ hP hK
  obtain ⟨n, o, h1, h2, h3, ⟨⟨v, u, q1, q2, q3, q4, q5⟩, q6⟩, q7⟩ := h sz p e ha hc hk s m args below hf happ hP hK
  refine ⟨n, o, h1, h2, h3, ⟨⟨v, g u, q1, hp v u q2, ?_, q4, ?_⟩, q6⟩, q7⟩
  · rw [← hw]; exact q3
  · rw [← hw]; exact q5
abbrev XG : Type := Nat × (Nat → Int32) × TW × (Nat → Int32) × TW × (Nat → Int32)
def RX (S : SS) (x : XG) : Prop := LOk S.1 x.2.1 ∧ TR x.2.2.1 (sT S) ∧ BR x.2.2.2.1 (sBs S) ∧ TR x.2.2.2.2.1 (sTt S) ∧ BR x.2.2.2.2.2 (sBt S)
def wXS (cI : ClassId) (a aL : Nat) (pa : A5) (ta da : A6) (S : SS) (x : XG) : va_W := [(a, .inr (3, [.ref aL, .ref pa.1, .ref ta.1, .ref da.1, .int (nI (sLp S)), .int (nI (sPt S)), .int (nI (sWk S)), .int (nI (sDo S)), .int (nI (sAt S)), .int (sC2 S), .int (sC3 S), .int (sC4 S), .int (sC5 S)]))] ++ (wL cI aL x.1 S.1 x.2.1 ++ (wG cI pa S.2.1 ++ (wT cI ta x.2.2.1 x.2.2.2.1 ++ wT cI da x.2.2.2.2.1 x.2.2.2.2.2)))
theorem Inv0_TB {b : Nat} {S : SS} (h : Inv0 b S) (hb : b ≤ 4000) : TB (sT S) := by
  intro w
  have hT := (Inv0_T h).1 w
  have hn := Inv0_n h
  by_cases z : (sT S w).1 = 0
  · rw [hT.1 z]; exact ⟨by decide, by decide, by decide⟩
  · have := hT.2 z
    obtain ⟨-, -, a3, a4, a5, -⟩ := this
    exact ⟨by omega, by omega, by omega⟩
theorem Inv0_TBt {b : Nat} {S : SS} (h : Inv0 b S) (hb : b ≤ 4000) : TB (sTt S) := by
  intro w
  have hT := h.2.2.2.1.1 w
  have hn := Inv0_n h
  have hl := Inv0_lp h
  by_cases z : (sTt S w).1 = 0
  · rw [hT.1 z]; exact ⟨by decide, by decide, by decide⟩
  · have := hT.2 z
    obtain ⟨-, -, a3, a4, a5, -⟩ := this
    exact ⟨by omega, by omega, by omega⟩
set_option maxRecDepth 20000 in
theorem cS_app (l : Launch) (D : va_G) (cI : ClassId) (a aL : Nat) (pa : A5) (ta da : A6) (S : SS) (x : XG) (b k w : Nat) (hI : Inv0 b S) (hb : b ≤ 4000) (hx : RX S x) (hp : (sT S w).1 ≠ 0) (hk1 : 3 ≤ k) (hk2 : k ≤ 6) : Kt l yX3_appendOfWork wsX3_appendOfWork 3 68 (sCap (emT S (rcW S k w)) - sCap S) (2 * (sCap (emT S (rcW S k w)) - sCap S)) D cI [.ref a, .int (nI k), .int (nI w)] (wXS cI a aL pa ta da S x) (pI (fun (r : Int32) (u : XG) => r = nI (sN S + 1) ∧ RX (emT S (rcW S k w)) u)) (fun u => wXS cI a aL pa ta da (emT S (rcW S k w)) u) :=
  Kt_map (cB_appendOfWork l D cI a aL x.1 pa ta da S.2.2.2.2 S.1 x.2.1 S.2.1 x.2.2.1 x.2.2.2.2.1 x.2.2.2.1 x.2.2.2.2.2 k w (sT S) (sBs S) hx.1 (by have := Inv0_n hI; show sN S < 2 ^ 20; omega) hx.2.1 hx.2.2.1 hp hk1 hk2) (fun u => (u.1, u.2.1, u.2.2.1, u.2.2.2, x.2.2.2.2)) (fun v u h => by obtain ⟨r, rfl, h1, h2, h3, h4⟩ := h; exact ⟨r, rfl, h1, h2, h3, h4, hx.2.2.2.1, hx.2.2.2.2⟩) (fun u => rfl)
set_option maxRecDepth 20000 in
theorem cS_und (l : Launch) (D : va_G) (cI : ClassId) (a aL : Nat) (pa : A5) (ta da : A6) (S : SS) (x : XG) (b w : Nat) (hI : Inv0 b S) (hb : b ≤ 4000) (hx : RX S x) (hp : (sT S w).1 ≠ 0) (hc : 1 ≤ (sT S w).2.2) : Kt l yX3_undoNext wsX3_undoNext 3 68 (sCap (und S w) - sCap S) (2 * (sCap (und S w) - sCap S)) D cI [.ref a, .int (nI w)] (wXS cI a aL pa ta da S x) (pV (fun (u : XG) => RX (und S w) u)) (fun u => wXS cI a aL pa ta da (und S w) u) := by
  have hE := ((Inv0_T hI).1 w).2 hp
  have hn := Inv0_n hI
  have hR := hI.2.1.1
  have hr := hR _ hc hE.2.2.2.2.1
  have hu := ub_lt hR hc hE.2.2.2.2.1
  have hcn : (sT S w).2.2 ≤ sN S := hE.2.2.2.2.1
  exact Kt_map (cB_undoNext l D cI a aL x.1 pa ta da S.2.2.2.2 S.1 x.2.1 S.2.1 x.2.2.1 x.2.2.2.2.1 x.2.2.2.1 x.2.2.2.2.2 w (sT S w).2.2 (sR S (sT S w).2.2) (sT S) (sBs S) hx.1 (by show sN S < 2 ^ 20; omega) hx.2.1 hx.2.2.1 hp rfl rfl hc hcn hr.2.2.2.2.2.1 hr.2.2.2.2.2.2.1 (by have := hr.2.2.2.2.1; show rB (sR S (sT S w).2.2) ≤ sN S; omega) (by show ub (sR S) (sT S w).2.2 < 2 ^ 31; omega) (fun r r1 r2 => (hR r r1 r2).1.2)) (fun u => (u.1, u.2.1, u.2.2.1, u.2.2.2, x.2.2.2.2)) (fun v u h => by obtain ⟨rfl, h2, h3, h4⟩ := h; exact ⟨rfl, h2, h3, h4, hx.2.2.2.1, hx.2.2.2.2⟩) (fun u => rfl)
