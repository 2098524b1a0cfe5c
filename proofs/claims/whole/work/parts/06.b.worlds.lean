/-! the class's worlds -/
def wL (cI : ClassId) (a b : Nat) (L : LG) (f : Nat → Int32) : va_W := [(a, .inr (0, [.ref b, .int (nI L.1), .int (nI L.2.1), .int (nI L.2.2.1)])), (b, .inl (cI, L.2.2.2.1, .inl f))]
abbrev A5 : Type := Nat × Nat × Nat × Nat × Nat
abbrev A6 : Type := Nat × Nat × Nat × Nat × Nat × Nat
def wG (cI : ClassId) (a : A5) (G : PG) : va_W := [(a.1, .inr (1, [.ref a.2.1, .ref a.2.2.1, .ref a.2.2.2.1, .ref a.2.2.2.2])), (a.2.1, .inl (cI, 512, .inl G.1)), (a.2.2.1, .inl (cI, 64, .inl G.2.1)), (a.2.2.2.1, .inl (cI, 512, .inl G.2.2.1)), (a.2.2.2.2, .inl (cI, 64, .inl G.2.2.2))]
def wT (cI : ClassId) (a : A6) (v : TW) (fb : Nat → Int32) : va_W := [(a.1, .inr (2, [.int (nI v.1), .ref a.2.1, .ref a.2.2.1, .ref a.2.2.2.1, .ref a.2.2.2.2.1, .ref a.2.2.2.2.2])), (a.2.1, .inl (cI, 16, .inl v.2.1)), (a.2.2.1, .inl (cI, 16, .inl v.2.2.1)), (a.2.2.2.1, .inl (cI, 16, .inl v.2.2.2.1)), (a.2.2.2.2.1, .inl (cI, 16, .inl v.2.2.2.2)), (a.2.2.2.2.2, .inl (cI, 64, .inl fb))]
/-- the rows of the class's log say the records -/
def LRep (f : Nat → Int32) (n : Nat) (R : Nat → Rc) : Prop := ∀ r, 1 ≤ r → r ≤ n → f ((r - 1) * 7) = nI (rK (R r)) ∧ f ((r - 1) * 7 + 1) = nI (rW (R r)) ∧ f ((r - 1) * 7 + 2) = nI (rB (R r)) ∧ f ((r - 1) * 7 + 3) = nI (rP (R r)) ∧ f ((r - 1) * 7 + 4) = nI (rD (R r)) ∧ f ((r - 1) * 7 + 5) = rM (R r) ∧ f ((r - 1) * 7 + 6) = nI (rG (R r))
theorem LRep_rd {f : Nat → Int32} {n : Nat} {R : Nat → Rc} (h : LRep f n R) {r k : Nat} (h1 : 1 ≤ r) (h2 : r ≤ n) (hk : k ≤ 6) : lrd f n r k = rcF (R r) k := by
  have g := h r h1 h2
  rw [lrd, if_pos ⟨h1, h2⟩]
  rcases (show k = 0 ∨ k = 1 ∨ k = 2 ∨ k = 3 ∨ k = 4 ∨ k = 5 ∨ k = 6 by omega) with rfl | rfl | rfl | rfl | rfl | rfl | rfl
  · exact g.1
  · exact g.2.1
  · exact g.2.2.1
  · exact g.2.2.2.1
  · exact g.2.2.2.2.1
  · exact g.2.2.2.2.2.1
  · exact g.2.2.2.2.2.2
theorem LRep_add {f f2 : Nat → Int32} {n : Nat} {R : Nat → Rc} (h : LRep f n R) (x : Rc) (g : (∀ i, i < n * 7 → f2 i = f i) ∧ f2 (n * 7) = nI (rK x) ∧ f2 (n * 7 + 1) = nI (rW x) ∧ f2 (n * 7 + 2) = nI (rB x) ∧ f2 (n * 7 + 3) = nI (rP x) ∧ f2 (n * 7 + 4) = nI (rD x) ∧ f2 (n * 7 + 5) = rM x ∧ f2 (n * 7 + 6) = nI (rG x)) : LRep f2 (n + 1) (va_up R (n + 1) x) := by
  intro r h1 h2
  by_cases e : r = n + 1
  · subst e
    simp only [va_up, if_true, Nat.add_sub_cancel]
    exact g.2
  · have e2 : va_up R (n + 1) x r = R r := by simp [va_up, e]
    rw [e2, g.1 _ (by omega), g.1 _ (by omega), g.1 _ (by omega), g.1 _ (by omega), g.1 _ (by omega), g.1 _ (by omega), g.1 _ (by omega)]
    exact h r h1 (by omega)
/-- .. and are wide enough -/
def LOk (L : LG) (f : Nat → Int32) : Prop := LRep f L.1 L.2.2.2.2 ∧ L.1 * 7 ≤ L.2.2.2.1 ∧ 7 ≤ L.2.2.2.1 ∧ L.2.2.2.1 < 2 ^ 25 ∧ L.2.1 ≤ L.1
theorem swo3 {x : Int32} (h0 : ¬ x = nI 0) (h1 : ¬ x = nI 1) (h2 : ¬ x = nI 2) : x.toInt < 0 ∨ 2 < x.toInt := by
  simp (disch := omega) only [i_eq, nI_toInt] at h0 h1 h2; omega
theorem swo4 {x : Int32} (h0 : ¬ x = nI 0) (h1 : ¬ x = nI 1) (h2 : ¬ x = nI 2) (h3 : ¬ x = nI 3) : x.toInt < 0 ∨ 3 < x.toInt := by
  simp (disch := omega) only [i_eq, nI_toInt] at h0 h1 h2 h3; omega
theorem swo6 {x : Int32} (h0 : ¬ x = nI 0) (h1 : ¬ x = nI 1) (h2 : ¬ x = nI 2) (h3 : ¬ x = nI 3) (h4 : ¬ x = nI 4) (h5 : ¬ x = nI 5) : x.toInt < 0 ∨ 5 < x.toInt := by
  simp (disch := omega) only [i_eq, nI_toInt] at h0 h1 h2 h3 h4 h5; omega
theorem cl_nI {w : Nat} (h : w < 2 ^ 31) : cl (nI w) = w := nI_clamp h
theorem cl_pos {x : Int32} (h : 1 ≤ cl x) : x = nI (cl x) := by
  by_cases h0 : x < 0
  · have : cl x = 0 := by
      rw [i_lt, z_0] at h0
      show x.toInt.toNat = 0
      omega
    omega
  · obtain ⟨j, hj, rfl⟩ := nI_of h0
    rw [cl_nI hj]
theorem known {v : TW} {T : TF} (h : TR v T) {x : Int32} : (∃ w : Nat, w ≤ 200 ∧ x = nI w ∧ (T w).1 ≠ 0) ↔ (T (cl x)).1 ≠ 0 := by
  constructor
  · rintro ⟨w, h1, rfl, h2⟩
    rw [cl_nI (by omega)]; exact h2
  · intro hz
    obtain ⟨a, b, -⟩ := TR_some h hz
    exact ⟨cl x, b, cl_pos a, hz⟩
section KW
variable {p : Program} {l : Launch} {e : Env} {R : Room} {s : State} {m : MethodId} {args : Array Value} {below : List Frame} {meth : Method} {c : Code} {H : Heap} {locs : List Loc} {cells slots : Nat} {Q : State → Prop}
variable {D : va_G} {cI : ClassId} {A : Nat → Prop} {H0 : Heap} {ws : va_W} {pc : Nat} {ls : Array Slot} {rest : List Value} {cc : ByteArray} {a : Nat}
/-- a call of a method over the whole world -/
theorem ww_callA {S : Type} {fr lo mc ms : Nat} {post : Option Value → S → Prop} {w' : S → va_W} {wc : va_W} {st0 : List Value} {Ts wsy wsy' : List Cond} {own C : String} {index nL maxL n ci : Nat} {y : MethodName} {bytes : ByteArray} {ret : Option FieldType} {b : Nat} {As : List Value} {fs : List Value} {T : u_T} {N : Nat}
    (F : CallFix p m c cc nL s args Ts own) (hM : Kt l y wsy fr lo mc ms D cI (.ref b :: As) wc post w') (hT : GoodIn Ts (wsV own index C y wsy)) (hcode : wsy = Cond.code y bytes maxL ret :: wsy')
    (hd : y.cls = C ∧ y.cls ≠ "java/lang/invoke/MethodHandle" ∧ y.cls ≠ "java/lang/invoke/VarHandle" ∧ (parseMethodDescriptor y.desc).map (fun d => d.parameters.length) = some n) (hR : fr + 1 ≤ R.frames ∧ 8 + (maxL + 11) + lo ≤ R.locals)
    (hw : ww D cI A H0 s wc H locs) (hc : vwCl[ci]? = some (C, T, N)) (h0 : wc[0]? = some (b, .inr (ci, fs))) (hst : st0 = As.reverse ++ .ref b :: rest) (hn : As.length = n) (hsz : ls.size = nL) (hroom : (rest.map fun v => v.category).sum ≤ 8) (hdg : decode cc pc = .ok (.invokevirtual index, 3)) (hf : cells + mc ≤ R.cells ∧ slots + ms ≤ R.slots)
    (kk : ∀ (v : Option Value) (u : S) (H1 : Heap) (locs1 : List Loc), post v u → ww D cI A H0 s (w' u) H1 locs1 → W p l e R s m args below meth c H1 locs1 (cells + mc) (slots + ms) Q (F0 m (pc + 3) ls (v.toList ++ rest))) :
    W p l e R s m args below meth c H locs cells slots Q (F0 m pc ls st0) :=
  ww_callV [] [] F hM hT hcode hd hR hw (by simp) hc h0 hst hn hsz hroom hdg hf (fun v u H1 locs1 h1 h2 => kk v u H1 locs1 h1 (by simpa using h2))
/-- the cells of a world may stand in another order -/
theorem ww_perm {ws' : va_W} (hw : ww D cI A H0 s ws H locs) (hp : ws'.Perm ws) : ww D cI A H0 s ws' H locs := by
  obtain ⟨hK, hP, hD, hS, hA⟩ := hw
  have nd : (ws.map (fun q => q.1)).Nodup := by
    rw [List.nodup_iff_pairwise_ne, List.pairwise_map, List.pairwise_iff_getElem]
    intro i j hi hj hij he
    exact absurd (hD.1 i j _ _ (List.getElem?_eq_getElem hi) (List.getElem?_eq_getElem hj) he) (by omega)
  have nd' : (ws'.map (fun q => q.1)).Nodup := (hp.map _).nodup_iff.mpr nd
  have mem : ∀ (k : Nat) (q : Nat × va_E), ws'[k]? = some q → ∃ i : Nat, ws[i]? = some q := fun k q hk => List.getElem?_of_mem (hp.mem_iff.mp (List.mem_of_getElem? hk))
  refine ⟨hK, fun k q hk => ?_, ⟨fun i j x y hi hj hxy => ?_, fun k q hk => ?_⟩, hS, hA⟩
  · obtain ⟨i, hi⟩ := mem k q hk
    exact hP i q hi
  · rw [List.nodup_iff_pairwise_ne, List.pairwise_map, List.pairwise_iff_getElem] at nd'
    obtain ⟨li, ei⟩ := List.getElem?_eq_some_iff.mp hi
    obtain ⟨lj, ej⟩ := List.getElem?_eq_some_iff.mp hj
    rcases Nat.lt_trichotomy i j with q | q | q
    · exact absurd (by rw [ei, ej]; exact hxy) (nd' i j li lj q)
    · exact q
    · exact absurd (by rw [ei, ej]; exact hxy.symm) (nd' j i lj li q)
  · obtain ⟨i, hi⟩ := mem k q hk
    exact hD.2 i q hi
end KW
