section KT
variable {p : Program} {l : Launch} {e : Env} {R : Room} {s : State} {m : MethodId} {args : Array Value} {below : List Frame} {meth : Method} {c : Code} {H : Heap} {locs : List Loc} {cells slots : Nat} {Q : State → Prop}
variable {D : va_G} {cI : ClassId} {A : Nat → Prop} {H0 : Heap} {ws : va_W} {pc : Nat} {ls : Array Slot} {rest : List Value} {cc : ByteArray} {a : Nat}
theorem ww_copy (hx : p.tables.exec = Jvm.exec) (hb : c.code = cc) (hml : c.maxLocals = ls.size) {own : String} {index : Nat} (hown : s.vm.findClass own = some m.cls) (hlink : (Cond.methodLink own index arraycopyName).before args s = true) (hnat : (Cond.native arraycopyName).before args s = true) (hstat : (Cond.static arraycopyName).before args s = true) (hini : (Cond.initialized "java/lang/System").before args s = true)
    (hw : ww D cI A H0 s ws H locs) (q0 q1 : Nat) {a0 n0 n1 : Nat} {f g : Nat → Int32} (ha0 : ws[q0]? = some (a0, .inl (cI, n0, .inl f))) (ha1 : ws[q1]? = some (a, .inl (cI, n1, .inl g))) (i j k : Nat) {sp dp n : Int32} (h1 : sp = nI i) (h2 : dp = nI j) (h3 : n = nI k) (h4 : i + k ≤ n0) (h5 : j + k ≤ n1) (hn0 : n0 < 2 ^ 31) (hn1 : n1 < 2 ^ 31) {ws' : va_W} (hws : ws.set q1 (a, .inl (cI, n1, .inl (va_cpy f g i j k))) = ws')
    (hframes : 1 ≤ R.frames) (hlocals : (rest.map fun v => v.category).sum + 18 ≤ R.locals) (hdg : decode cc pc = .ok (.invokestatic index, 3))
    (kk : ∀ (H1 : Heap) (locs1 : List Loc), ww D cI A H0 s ws' H1 locs1 → W p l e R s m args below meth c H1 locs1 cells slots Q (F0 m (pc + 3) ls rest)) : W p l e R s m args below meth c H locs cells slots Q (F0 m pc ls (.int n :: .int dp :: .ref a :: .int sp :: .ref a0 :: rest)) := by
  subst h1; subst h2; subst h3; subst hws
  have e1 : (nI i).toNatClampNeg = i := nI_clamp (by omega)
  have e2 : (nI j).toNatClampNeg = j := nI_clamp (by omega)
  have e3 : (nI k).toNatClampNeg = k := nI_clamp (by omega)
  refine va_copyi (D := D) (tys := kTy cI) hx hb hml hown hlink hnat hstat hini hw.1 hw.2.1 hw.2.2.1 hw.2.2.2.1 q0 q1 0 0 ha0 ha1 rfl rfl rfl (nI_pos (by omega)) (nI_pos (by omega)) (nI_pos (by omega)) (by rw [e1, e3]; exact h4) (by rw [e2, e3]; exact h5) (fun _ _ => rfl) hframes hlocals hdg (fun H1 locs1 g1 g2 g3 => ?_)
  rw [e1, e2, e3] at g1 g2
  exact kk H1 locs1 ⟨hw.1, g1, g2, g3, hw.2.2.2.2⟩
theorem ww_aret {S : Type} {post : Option Value → S → Prop} {w : va_W} {w' : S → va_W} {mc ms sz v : Nat} {u : S} (hx : p.tables.exec = Jvm.exec) (hb : c.code = cc) (hr : meth.sig.returnType = some (.array .int)) (hlk : meth.locks = false) (hw : ww D cI (va_A w sz) s.heap s (w' u) H locs) (hp : post (some (.ref v)) u) (hc : cells ≤ mc) (hs : slots ≤ ms) (hdg : decode cc pc = .ok (.areturn, 1)) :
    W p l e R s m args below meth c H locs cells slots (MQ below (kQ D cI w sz post w') args s mc ms (va_A w sz)) (F0 m pc ls [.ref v]) :=
  W.widen hc hs (W.aret hx hb hr (Or.inr ⟨_, rfl⟩) (Or.inr ⟨_, rfl⟩) (fun t ht hW => ⟨⟨some (.ref v), u, rfl, hp, by rw [ht]; exact hw.2.1, va_K.moved hW.alike hw.1, hw.2.2.1⟩, hw.2.2.2.1.F ht⟩) hw.2.2.2.1.2.2 hdg hlk)
theorem ww_sub {ws' : va_W} (hw : ww D cI A H0 s ws H locs) (is : List Nat) (hn : va_nd is = true) (hs : is.map (fun i => ws[i]?) = ws'.map some) : ww D cI A H0 s ws' H locs :=
  ⟨hw.1, fun k q hk => by
    have h1 : (is.map (fun i => ws[i]?))[k]? = some (some q) := by rw [hs, List.getElem?_map, hk]; rfl
    rw [List.getElem?_map] at h1
    cases hi : is[k]? with
    | none => rw [hi] at h1; cases h1
    | some i => rw [hi] at h1; exact hw.2.1 i q (Option.some.inj h1), hw.2.2.1.sub is hn hs, hw.2.2.2.1, hw.2.2.2.2⟩
end KT
theorem i_eq {x y : Int32} : x = y ↔ x.toInt = y.toInt := Int32.toInt_inj.symm
theorem i_lt {x y : Int32} : x < y ↔ x.toInt < y.toInt := Int32.lt_iff_toInt_lt
theorem i_le {x y : Int32} : x ≤ y ↔ x.toInt ≤ y.toInt := Int32.le_iff_toInt_le
theorem z_0 : (0 : Int32).toInt = 0 := by decide
theorem z_m1 : (-1 : Int32).toInt = -1 := by decide
theorem i_nat {x : Int32} (h : 0 ≤ x.toInt) : ∃ j : Nat, j < 2 ^ 31 ∧ x = nI j := nI_of (by rw [i_lt, z_0]; omega)
theorem nI_min {a b : Nat} (ha : a < 2 ^ 31) (hb : b < 2 ^ 31) : (if nI b < nI a then nI b else nI a) = nI (min a b) := by
  by_cases h : b < a
  · rw [if_pos (nI_lt h ha), Nat.min_eq_right (by omega)]
  · rw [if_neg (nI_nlt (by omega) hb), Nat.min_eq_left (by omega)]
theorem nI_max {a b : Nat} (ha : a < 2 ^ 31) (hb : b < 2 ^ 31) : (if nI a < nI b then nI b else nI a) = nI (max a b) := by
  by_cases h : a < b
  · rw [if_pos (nI_lt h hb), Nat.max_eq_right (by omega)]
  · rw [if_neg (nI_nlt (by omega) ha), Nat.max_eq_left (by omega)]
/-- forcing: of any number -/
theorem nI_force {n fo : Nat} (x : Int32) (hn : n < 2 ^ 31) (hf : fo < 2 ^ 31) : (if nI fo < (if nI n < x then nI n else x) then (if nI n < x then nI n else x) else nI fo) = nI (max fo (min x.toNatClampNeg n)) := by
  by_cases h0 : x < 0
  · have h1 : ¬ nI n < x := by simp (disch := omega) only [i_lt, nI_toInt, z_0] at *; omega
    have h2 : ¬ nI fo < x := by simp (disch := omega) only [i_lt, nI_toInt, z_0] at *; omega
    rw [if_neg h1, if_neg h2]
    have h3 : x.toNatClampNeg = 0 := by
      rw [i_lt, z_0] at h0
      show x.toInt.toNat = 0
      omega
    rw [h3, Nat.zero_min, Nat.max_eq_left (Nat.zero_le _)]
  · obtain ⟨j, hj, rfl⟩ := nI_of h0
    rw [nI_min hj hn, nI_max hf (by omega), nI_clamp hj]
theorem upd7 (g : Nat → Int32) (o : Nat) (x0 x1 x2 x3 x4 x5 x6 : Int32) {F : Nat → Int32} (hF : F = upd (upd (upd (upd (upd (upd (upd g (o + 0) x0) (o + 1) x1) (o + 2) x2) (o + 3) x3) (o + 4) x4) (o + 5) x5) (o + 6) x6) :
    (∀ i, i < o → F i = g i) ∧ F o = x0 ∧ F (o + 1) = x1 ∧ F (o + 2) = x2 ∧ F (o + 3) = x3 ∧ F (o + 4) = x4 ∧ F (o + 5) = x5 ∧ F (o + 6) = x6 := by
  subst hF
  refine ⟨fun i hi => ?_, ?_, ?_, ?_, ?_, ?_, ?_, ?_⟩
  · simp only [upd]
    rw [if_neg (by omega), if_neg (by omega), if_neg (by omega), if_neg (by omega), if_neg (by omega), if_neg (by omega), if_neg (by omega)]
  all_goals simp [upd]
theorem cpy0 {f g : Nat → Int32} {n i : Nat} (h : i < n) : va_cpy f g 0 0 n i = f i := by
  simp [va_cpy, h]
