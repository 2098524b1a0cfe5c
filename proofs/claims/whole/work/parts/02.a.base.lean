/-! My own layer over the kit: one world hypothesis (ww), one contract shape (Kt), one row a call. -/
abbrev kTy (cI : ClassId) : List (ClassId × FieldType) := [(cI, .int)]
/-- the world: the tables know the classes, the heap holds ws, apart, inside A; outside A nothing has changed since H0 -/
def ww (D : va_G) (cI : ClassId) (A : Nat → Prop) (H0 : Heap) (s : State) (ws : va_W) (H : Heap) (locs : List Loc) : Prop :=
  va_K D vwCl (kTy cI) s ∧ va_P D vwCl ws H ∧ va_D A ws ∧ va_S A H0 H locs ∧ ∀ q : Nat, H0.size ≤ q → A q
def kPre (D : va_G) (cI : ClassId) (av : List Value) (w : va_W) (sz : Nat) : Array Value → State → Prop := fun v U =>
  v = av.toArray ∧ U.heap.size = sz ∧ va_P D vwCl w U.heap ∧ va_K D vwCl (kTy cI) U ∧ va_D (fun _ => True) w
def kQ {S : Type} (D : va_G) (cI : ClassId) (w : va_W) (sz : Nat) (post : Option Value → S → Prop) (w' : S → va_W) : Array Value → State → Outcome → State → Prop := fun _ st oc t =>
  (∃ (v : Option Value) (u : S), oc = .returned v ∧ post v u ∧ va_P D vwCl (w' u) t.heap ∧ va_K D vwCl (kTy cI) t ∧ va_D (va_A w sz) (w' u)) ∧ va_F (va_A w sz) st t
/-- a contract: from the world w, with the arguments av, y returns v and leaves the world w' u, where post v u -/
def Kt {S : Type} (l : Launch) (y : MethodName) (ws : List Cond) (fr lo mc ms : Nat) (D : va_G) (cI : ClassId) (av : List Value) (w : va_W) (post : Option Value → S → Prop) (w' : S → va_W) : Prop :=
  ∀ sz : Nat, Met l y ws { frames := fr, cells := mc, slots := ms, locals := lo } (kPre D cI av w sz) (kQ D cI w sz post w') mc ms (va_A w sz)
/-- the ends: an int (or a boolean), nothing -/
def pI {S : Type} (post : Int32 → S → Prop) : Option Value → S → Prop := fun v u => ∃ r : Int32, v = some (.int r) ∧ post r u
def pV {S : Type} (post : S → Prop) : Option Value → S → Prop := fun v u => v = none ∧ post u
theorem kPre_blind (D : va_G) (cI : ClassId) (av : List Value) (w : va_W) (sz : Nat) : FrameBlind (kPre D cI av w sz) := fun a U g mk q => by
  obtain ⟨q0, q1, qP, qK, qD⟩ := q
  exact ⟨q0, q1, qP, va_K.moved (u := U) (U := U.calling g mk a) (Vm.Alike.refl U.vm) qK, qD⟩
theorem kt_start {S : Type} {l : Launch} {y : MethodName} {ws ws' : List Cond} {fr lo mc ms : Nat} {D : va_G} {cI : ClassId} {av : List Value} {w : va_W} {post : Option Value → S → Prop} {w' : S → va_W} {cc : ByteArray} {maxL : Nat} {ret : Option FieldType}
    (hy : plainName y.cls = true) (hw : ws = Cond.code y cc maxL ret :: ws') (hlen : (lg_sl av).length ≤ maxL)
    (body : ∀ (p : Program) (e : Env) (s : State) (m : MethodId) (below : List Frame) (meth : Method) (c : Code), p.tables.exec = Jvm.exec → c.code = cc → c.maxLocals = maxL → meth.sig.returnType = ret → meth.locks = false → s.vm.findClass y.cls = some m.cls → meth.name = y.name → (∀ q ∈ ws, q.before av.toArray s = true) →
      ∀ ls : Array Slot, lv_has ls maxL (lv_args 0 av) → ww D cI (va_A w s.heap.size) s.heap s w s.heap [] →
      W p l e { frames := fr, cells := mc, slots := ms, locals := lo } s m av.toArray below meth c s.heap [] 0 0 (MQ below (kQ D cI w s.heap.size post w') av.toArray s mc ms (va_A w s.heap.size)) (F0 m 0 ls [])) :
    Kt l y ws fr lo mc ms D cI av w post w' := by
  intro sz
  refine Met.ofW (cc := cc) (maxL := maxL) (ret := ret) hy hw ?_
  intro p e s m args below meth c s₁ B hml hv
  obtain ⟨rfl, rfl, hP, hK, hD0⟩ := hv
  rw [lg_entry_eq]
  exact body p e s m below meth c B.exec B.bytes hml B.returns B.notSynchronized (findClass_of_methodNamed B.named) (name_of_methodNamed B.named B.method).1 (atoms_spec (ws := ws) B.pre) _ (lv_entry av hlen) ⟨hK, hP, hD0.self, va_S.rf, fun _ h => Or.inr h⟩
section KR
variable {p : Program} {l : Launch} {e : Env} {R : Room} {s : State} {m : MethodId} {args : Array Value} {below : List Frame} {meth : Method} {c : Code} {H : Heap} {locs : List Loc} {cells slots : Nat} {Q : State → Prop}
variable {D : va_G} {cI : ClassId} {A : Nat → Prop} {H0 : Heap} {ws : va_W} {pc : Nat} {ls : Array Slot} {rest : List Value} {cc : ByteArray} {a : Nat}
/-- a world, cut out of another -/
theorem ww_cut {pre wc po : va_W} (hP : va_P D vwCl (pre ++ (wc ++ po)) H) : va_P D vwCl wc H := fun k q hk => hP (pre.length + k) q (by
  rw [List.getElem?_append_right (by omega), Nat.add_sub_cancel_left]
  rw [List.getElem?_append_left (List.getElem?_eq_some_iff.mp hk).1]; exact hk)
theorem ww_cutD {pre wc po : va_W} (hD : va_D A (pre ++ (wc ++ po))) : va_D A wc := by
  have key : ∀ (k : Nat) (q : Nat × va_E), wc[k]? = some q → (pre ++ (wc ++ po))[pre.length + k]? = some q := fun k q hk => by
    rw [List.getElem?_append_right (by omega), Nat.add_sub_cancel_left]
    rw [List.getElem?_append_left (List.getElem?_eq_some_iff.mp hk).1]; exact hk
  exact ⟨fun i j x y hi hj hxy => by have := hD.1 _ _ x y (key i x hi) (key j y hj) hxy; omega, fun k q hk => hD.2 _ q (key k q hk)⟩
theorem mem_idx {α : Type} {l : List α} {x : α} (h : x ∈ l) : ∃ k : Nat, l[k]? = some x := List.getElem?_of_mem h
/-- behind a call: the rest is as it was, the callee's world is its new one -/
theorem ww_glue {pre wc po w1 : va_W} {H1 : Heap} {sz : Nat} (hsz : H.size = sz) (hP : va_P D vwCl (pre ++ (wc ++ po)) H) (hD : va_D A (pre ++ (wc ++ po))) (hk : ∀ q : Nat, q < H.size → ¬ va_A wc sz q → H1[q]? = H[q]?) (hF : ∀ q : Nat, va_A wc sz q → A q) (hP1 : va_P D vwCl w1 H1) (hD1 : va_D (va_A wc sz) w1) : va_P D vwCl (pre ++ (w1 ++ po)) H1 ∧ va_D A (pre ++ (w1 ++ po)) := by
  subst hsz
  have inPre : ∀ (k : Nat) (q : Nat × va_E), pre[k]? = some q → (pre ++ (wc ++ po))[k]? = some q := fun k q hq => by
    rw [List.getElem?_append_left (List.getElem?_eq_some_iff.mp hq).1]; exact hq
  have inWc : ∀ (k : Nat) (q : Nat × va_E), wc[k]? = some q → (pre ++ (wc ++ po))[pre.length + k]? = some q := fun k q hk => by
    rw [List.getElem?_append_right (by omega), Nat.add_sub_cancel_left]
    rw [List.getElem?_append_left (List.getElem?_eq_some_iff.mp hk).1]; exact hk
  have inPo : ∀ (k : Nat) (q : Nat × va_E), po[k]? = some q → (pre ++ (wc ++ po))[pre.length + (wc.length + k)]? = some q := fun k q hk => by
    rw [List.getElem?_append_right (by omega), Nat.add_sub_cancel_left, List.getElem?_append_right (by omega), Nat.add_sub_cancel_left]; exact hk
  have apartPre : ∀ (k : Nat) (q : Nat × va_E), pre[k]? = some q → ¬ va_A wc H.size q.1 := by
    intro k q hq hA
    have hl := (hP _ q (inPre k q hq)).lt
    rcases hA with ⟨k2, e2, h2⟩ | h2
    · have := hD.1 _ _ q (q.1, e2) (inPre k q hq) (inWc k2 _ h2) rfl
      have := (List.getElem?_eq_some_iff.mp hq).1
      omega
    · omega
  have apartPo : ∀ (k : Nat) (q : Nat × va_E), po[k]? = some q → ¬ va_A wc H.size q.1 := by
    intro k q hq hA
    have hl := (hP _ q (inPo k q hq)).lt
    rcases hA with ⟨k2, e2, h2⟩ | h2
    · have := hD.1 _ _ q (q.1, e2) (inPo k q hq) (inWc k2 _ h2) rfl
      have := (List.getElem?_eq_some_iff.mp h2).1
      omega
    · omega
  have pPre : va_P D vwCl pre H1 := fun k q hq => (hP _ q (inPre k q hq)).kept (hk q.1 ((hP _ q (inPre k q hq)).lt) (apartPre k q hq))
  have pPo : va_P D vwCl po H1 := fun k q hq => (hP _ q (inPo k q hq)).kept (hk q.1 ((hP _ q (inPo k q hq)).lt) (apartPo k q hq))
  have dPre : va_D A pre := ⟨fun i j x y hi hj h => hD.1 i j x y (inPre i x hi) (inPre j y hj) h, fun k q hq => hD.2 _ q (inPre k q hq)⟩
  have dPo : va_D A po := ⟨fun i j x y hi hj h => by have := hD.1 _ _ x y (inPo i x hi) (inPo j y hj) h; omega, fun k q hq => hD.2 _ q (inPo k q hq)⟩
  refine ⟨va_P.app pPre (va_P.app hP1 pPo), va_D.app dPre (va_D.app (hD1.weaken (fun _ q _ h => hF q.1 h)) dPo (fun i j x y hx hy hxy => ?_)) (fun i j x y hx hy hxy => ?_)⟩
  · exact apartPo j y hy (by rw [← hxy]; exact hD1.2 i x hx)
  · by_cases hl : j < w1.length
    · rw [List.getElem?_append_left hl] at hy
      exact apartPre i x hx (by rw [hxy]; exact hD1.2 j y hy)
    · rw [List.getElem?_append_right (by omega)] at hy
      have := hD.1 _ _ x y (inPre i x hx) (inPo _ y hy) hxy
      have := (List.getElem?_eq_some_iff.mp hx).1
      omega
/-- a call, by any row that gives va_Run -/
theorem ww_call {S : Type} {mc ms : Nat} {post : Option Value → S → Prop} {w' : S → va_W} {pre wc po : va_W} {st0 : List Value} {av : Array Value}
    (hr : va_Run p l e R s m args below meth c H locs cells slots mc ms (F0 m pc ls st0) rest (kQ D cI wc H.size post w' av) (va_A wc H.size))
    (hw : ww D cI A H0 s ws H locs) (he : ws = pre ++ (wc ++ po))
    (kk : ∀ (v : Option Value) (u : S) (H1 : Heap) (locs1 : List Loc), post v u → ww D cI A H0 s (pre ++ (w' u ++ po)) H1 locs1 → W p l e R s m args below meth c H1 locs1 (cells + mc) (slots + ms) Q (F0 m (pc + 3) ls (v.toList ++ rest))) :
    W p l e R s m args below meth c H locs cells slots Q (F0 m pc ls st0) := by
  subst he
  obtain ⟨hK, hP, hD, hS, hA⟩ := hw
  have hF : ∀ q : Nat, va_A wc H.size q → A q := by
    intro q h
    rcases h with ⟨k, e2, h⟩ | h
    · exact (ww_cutD hD).2 k (q, e2) h
    · exact hA q (Nat.le_trans hS.1 h)
  intro T hT X
  obtain ⟨v, st₀, t, T', L, h0, X', hL, e1, e2, ⟨⟨v', u, hv, hp, hP1, hK1, hD1⟩, hz, hk⟩, st⟩ := hr T hT X
  have hv : v = v' := Outcome.returned.inj hv
  subst hv
  rw [h0] at hz hk
  have hvm : s.vm.Alike t.vm := by rw [← e2]; exact X'.warmed.alike
  obtain ⟨gP, gD⟩ := ww_glue rfl hP hD (H1 := t.heap) hk hF hP1 hD1
  have hS1 : va_S A H0 t.heap (locs ++ L) := ⟨Nat.le_trans hS.1 hz, fun q h1 h2 => by
    rw [hk q (Nat.lt_of_lt_of_le h1 hS.1) (fun h => h2 (hF q h))]
    exact hS.2.1 q h1 h2, fun x hx => (List.mem_append.mp hx).elim (hS.2.2 x) (fun h => hF _ (hL x h))⟩
  obtain ⟨t2, g1, g2⟩ := kk v u t.heap (locs ++ L) hp ⟨hK, gP, gD, hS1, hA⟩ T' e1 X'
  exact ⟨t2, st t2 g1, g2⟩
end KR
