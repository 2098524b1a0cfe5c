/-! objects that are made: new, constructors, also a nest mate's -/
/-- a contract with words beside (N) -/
def KtN {S : Type} (N : State → Prop) (l : Launch) (y : MethodName) (ws : List Cond) (fr lo mc ms : Nat) (D : va_G) (cI : ClassId) (av : List Value) (w : va_W) (post : Option Value → S → Prop) (w' : S → va_W) : Prop :=
  ∀ sz : Nat, Met l y ws { frames := fr, cells := mc, slots := ms, locals := lo } (fun v U => kPre D cI av w sz v U ∧ N U) (kQ D cI w sz post w') mc ms (va_A w sz)
theorem Kt_N {S : Type} {l : Launch} {y : MethodName} {ws : List Cond} {fr lo mc ms : Nat} {D : va_G} {cI : ClassId} {av : List Value} {w : va_W} {post : Option Value → S → Prop} {w' : S → va_W} (h : Kt l y ws fr lo mc ms D cI av w post w') : KtN (fun _ => True) l y ws fr lo mc ms D cI av w post w' := by
  intro sz p e ha hc hk s m args below hf happ hP hK
  exact h sz p e ha hc hk s m args below hf happ hP.1 hK
theorem ktN_start {S : Type} {N : State → Prop} {l : Launch} {y : MethodName} {ws ws' : List Cond} {fr lo mc ms : Nat} {D : va_G} {cI : ClassId} {av : List Value} {w : va_W} {post : Option Value → S → Prop} {w' : S → va_W} {cc : ByteArray} {maxL : Nat} {ret : Option FieldType}
    (hy : plainName y.cls = true) (hw : ws = Cond.code y cc maxL ret :: ws') (hlen : (lg_sl av).length ≤ maxL)
    (body : ∀ (p : Program) (e : Env) (s : State) (m : MethodId) (below : List Frame) (meth : Method) (c : Code), p.tables.exec = Jvm.exec → c.code = cc → c.maxLocals = maxL → meth.sig.returnType = ret → meth.locks = false → s.vm.findClass y.cls = some m.cls → meth.name = y.name → (∀ q ∈ ws, q.before av.toArray s = true) →
      ∀ ls : Array Slot, lv_has ls maxL (lv_args 0 av) → ww D cI (va_A w s.heap.size) s.heap s w s.heap [] → N s →
      W p l e { frames := fr, cells := mc, slots := ms, locals := lo } s m av.toArray below meth c s.heap [] 0 0 (MQ below (kQ D cI w s.heap.size post w') av.toArray s mc ms (va_A w s.heap.size)) (F0 m 0 ls [])) :
    KtN N l y ws fr lo mc ms D cI av w post w' := by
  intro sz
  refine Met.ofW (cc := cc) (maxL := maxL) (ret := ret) hy hw ?_
  intro p e s m args below meth c s₁ B hml hv
  obtain ⟨⟨rfl, rfl, hP, hK, hD0⟩, hN⟩ := hv
  rw [lg_entry_eq]
  exact body p e s m below meth c B.exec B.bytes hml B.returns B.notSynchronized (findClass_of_methodNamed B.named) (name_of_methodNamed B.named B.method).1 (atoms_spec (ws := ws) B.pre) _ (lv_entry av hlen) ⟨hK, hP, hD0.self, va_S.rf, fun _ h => Or.inr h⟩ hN
section KV
variable {p : Program} {l : Launch} {e : Env} {R : Room} {s : State} {m : MethodId} {args : Array Value} {below : List Frame} {meth : Method} {c : Code} {H : Heap} {locs : List Loc} {cells slots : Nat} {Q : State → Prop}
variable {D : va_G} {cI : ClassId} {A : Nat → Prop} {H0 : Heap} {ws : va_W} {pc : Nat} {ls : Array Slot} {rest : List Value} {cc : ByteArray} {a : Nat}
theorem ww_new (hx : p.tables.exec = Jvm.exec) (hb : c.code = cc) {own C : String} {T : u_T} {N ci index : Nat} {Ts : List Cond} (hts : ∀ w ∈ Ts, w.before args s = true) (hin : ∀ w ∈ u_ws C T N, w ∈ Ts) (ty : Nat → FieldType) (hty : ∀ k, k < N → parseFieldDescriptor (T k).2.2.1 = some (ty k)) (hown : s.vm.findClass own = some m.cls) (hcl : (Cond.classLink own index C).before args s = true) (hinst : (Cond.instantiable C N).before args s = true) (hini : (Cond.initialized C).before args s = true)
    (hw : ww D cI A H0 s ws H locs) (hc : vwCl[ci]? = some (C, T, N)) {fs : List Value} (hfs : ∀ j, j < N → defaultValue (ty j) = vp_V fs j) (hcells : cells + 1 ≤ R.cells) (hslots : slots + N ≤ R.slots) (hdg : decode cc pc = .ok (.new index, 3))
    (kk : ∀ (q : Nat) (H1 : Heap), ww D cI A H0 s (ws ++ [(q, .inr (ci, fs))]) H1 locs → W p l e R s m args below meth c H1 locs (cells + 1) (slots + N) Q (F0 m (pc + 3) ls (.ref q :: rest))) : W p l e R s m args below meth c H locs cells slots Q (F0 m pc ls rest) :=
  va_new hx hb hts hin ty hty hown hcl hinst hini hw.1 hw.2.1 hw.2.2.1 hw.2.2.2.1 hw.2.2.2.2 hc hfs hcells hslots hdg (fun q H1 h1 h2 h3 => kk q H1 ⟨hw.1, h1, h2, h3, hw.2.2.2.2⟩)
/-- a nest mate's private constructor -/
theorem ww_callN {S : Type} {fr lo mc ms : Nat} {post : Option Value → S → Prop} {w' : S → va_W} {wc : va_W} (pre po : va_W) {st0 : List Value} {Ts wsy wsy' : List Cond} {own host : String} {index nL maxL n : Nat} {y : MethodName} {bytes : ByteArray} {b : Nat} {As : List Value}
    (F : CallFix p m c cc nL s args Ts own) (hM : Kt l y wsy fr lo mc ms D cI (.ref b :: As) wc post w') (hT : GoodIn Ts wsy) (hcode : wsy = Cond.code y bytes maxL none :: wsy') (hN : va_Nw (.methodLinkNest own index y host) s) (hini : (Cond.initialized y.cls).before args s = true) (hy : y.name = "<init>") (hin : (Cond.instanceMethod y).before args s = true)
    (hd : y.cls ≠ "java/lang/invoke/MethodHandle" ∧ y.cls ≠ "java/lang/invoke/VarHandle" ∧ (parseMethodDescriptor y.desc).map (fun d => d.parameters.length) = some n) (hR : fr + 1 ≤ R.frames ∧ 8 + (maxL + 11) + lo ≤ R.locals)
    (hw : ww D cI A H0 s ws H locs) (he : ws = pre ++ (wc ++ po)) (hst : st0 = As.reverse ++ .ref b :: rest) (hn : As.length = n) (hsz : ls.size = nL) (hroom : (rest.map fun v => v.category).sum ≤ 8) (hdg : decode cc pc = .ok (.invokespecial index, 3)) (hf : cells + mc ≤ R.cells ∧ slots + ms ≤ R.slots)
    (kk : ∀ (v : Option Value) (u : S) (H1 : Heap) (locs1 : List Loc), post v u → ww D cI A H0 s (pre ++ (w' u ++ po)) H1 locs1 → W p l e R s m args below meth c H1 locs1 (cells + mc) (slots + ms) Q (F0 m (pc + 3) ls (v.toList ++ rest))) :
    W p l e R s m args below meth c H locs cells slots Q (F0 m pc ls st0) := by
  subst he
  subst hst
  exact ww_call (va_runIN F (hM H.size) ⟨va_cnB n F.2.2.2.2 hT hcode rfl rfl hN hini hd hR, hy, hin⟩ ⟨kPre_blind D cI _ _ _, ww_pre hw⟩ rfl hn hsz rfl (lv_room hroom) hdg hf) hw rfl kk
/-- a constructor -/
theorem ww_callI {S : Type} {N : State → Prop} {fr lo mc ms : Nat} {post : Option Value → S → Prop} {w' : S → va_W} {wc : va_W} (pre po : va_W) {st0 : List Value} {Ts wsy wsy' : List Cond} {own : String} {index nL maxL n : Nat} {y : MethodName} {bytes : ByteArray} {b : Nat} {As : List Value}
    (F : CallFix p m c cc nL s args Ts own) (hM : KtN N l y wsy fr lo mc ms D cI (.ref b :: As) wc post w') (hNb : ∀ (U : State) g mk a, N U → N (U.calling g mk a)) (hNs : ∀ U : State, s.WarmedH U.vm → N U) (hT : GoodIn Ts wsy) (hcode : wsy = Cond.code y bytes maxL none :: wsy') (hini : (Cond.initialized y.cls).before args s = true) (hl : (Cond.methodLink own index y).before args s = true) (hin : (Cond.instanceMethod y).before args s = true) (hy : y.name = "<init>")
    (hd : y.cls ≠ "java/lang/invoke/MethodHandle" ∧ y.cls ≠ "java/lang/invoke/VarHandle" ∧ (parseMethodDescriptor y.desc).map (fun d => d.parameters.length) = some n) (hR : fr + 1 ≤ R.frames ∧ 8 + (maxL + 11) + lo ≤ R.locals)
    (hw : ww D cI A H0 s ws H locs) (he : ws = pre ++ (wc ++ po)) (hst : st0 = As.reverse ++ .ref b :: rest) (hn : As.length = n) (hsz : ls.size = nL) (hroom : (rest.map fun v => v.category).sum ≤ 8) (hdg : decode cc pc = .ok (.invokespecial index, 3)) (hf : cells + mc ≤ R.cells ∧ slots + ms ≤ R.slots)
    (kk : ∀ (v : Option Value) (u : S) (H1 : Heap) (locs1 : List Loc), post v u → ww D cI A H0 s (pre ++ (w' u ++ po)) H1 locs1 → W p l e R s m args below meth c H1 locs1 (cells + mc) (slots + ms) Q (F0 m (pc + 3) ls (v.toList ++ rest))) :
    W p l e R s m args below meth c H locs cells slots Q (F0 m pc ls st0) := by
  subst he
  subst hst
  exact ww_call (va_runI F (hM H.size) (cwI n F.2.2.2.2 hT hcode rfl rfl hini hl hin hy hd hR) ⟨fun a U g mk q => ⟨kPre_blind D cI _ _ _ a U g mk q.1, hNb U g mk a q.2⟩, fun U h1 h2 => ⟨ww_pre hw U h1 h2, hNs U h2⟩⟩ rfl hn hsz rfl (lv_room hroom) hdg hf) hw rfl kk
end KV
