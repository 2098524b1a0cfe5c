/-! the law: its calls, one by one -/
def wMS (cI : ClassId) (a : Nat) (ra : Nat → Nat) (S : SS) (g : Nat → Nat → Int32) (lt : Int32) : va_W := [(a, .inr (4, [.ref (ra 0), .ref (ra 1), .ref (ra 2), .ref (ra 3), .ref (ra 4), .ref (ra 5), .ref (ra 6), .int (nI (sN S)), .int (nI (sFo S)), .int (nI (sCh S)), .ref (ra 10), .ref (ra 11), .ref (ra 12), .ref (ra 13), .int (nI (sPt S)), .ref (ra 15), .ref (ra 16), .ref (ra 17), .ref (ra 18), .ref (ra 19), .int (nI (sWk S)), .ref (ra 21), .ref (ra 22), .ref (ra 23), .int (nI (sDo S)), .int (nI (sAt S)), .int lt, .ref (ra 27)])), ((ra 0), .inl (cI, 5200, .inl (g 0))), ((ra 1), .inl (cI, 5200, .inl (g 1))), ((ra 2), .inl (cI, 5200, .inl (g 2))), ((ra 3), .inl (cI, 5200, .inl (g 3))), ((ra 4), .inl (cI, 5200, .inl (g 4))), ((ra 5), .inl (cI, 5200, .inl (g 5))), ((ra 6), .inl (cI, 5200, .inl (g 6))), ((ra 10), .inl (cI, 20200, .inl (g 10))), ((ra 11), .inl (cI, 20200, .inl (g 11))), ((ra 12), .inl (cI, 20200, .inl (g 12))), ((ra 13), .inl (cI, 6500, .inl (g 13))), ((ra 15), .inl (cI, 512, .inl (g 15))), ((ra 16), .inl (cI, 64, .inl (g 16))), ((ra 17), .inl (cI, 64, .inl (g 17))), ((ra 18), .inl (cI, 512, .inl (g 18))), ((ra 19), .inl (cI, 64, .inl (g 19))), ((ra 21), .inl (cI, 201, .inl (g 21))), ((ra 22), .inl (cI, 201, .inl (g 22))), ((ra 23), .inl (cI, 201, .inl (g 23))), ((ra 27), .inl (cI, 4, .inl (g 27)))]
def R_law : String := "RestartBookLaw"
def lw_P (b : Addr) (xs : List Int32) (args : Array Value) (s : State) : Prop := args = #[.ref b] ∧ s.IntsAt b xs ∧ xs.length ≤ 2560 ∧ (Jvm.Cond.and given_1 narrow_1).before args s = true
def lw_Q (_ : Array Value) (s : State) (o : Outcome) (t : State) : Prop := o = .returned (some (.int 1)) ∧ Framed s o t [] 600000 7302250
def lw_Z (below : List Frame) (a : Array Value) (s : State) : State → Prop := fun t => ∃ o, t.status = .running ∧ Ended t below o ∧ lw_Q a s o t
/-- the law's own end, with 1 on the stack, nothing written that was there before, its room as the claim has it -/
theorem lw_ret {p : Program} {l : Launch} {e : Env} {s : State} {m : MethodId} {below : List Frame} {meth : Method} {c : Code} {b : Nat} (hx : p.tables.exec = Jvm.exec) (hb : c.code = code) (hr : meth.sig.returnType = ret) (hlocks : meth.locks = false) {pc : Nat} {H : Heap} {ls : Array Slot} (hdg : decode code pc = .ok (.ireturn, 1)) : W p l e room_1 s m #[Value.ref b] below meth c H [] 600000 7302250 (lw_Z below #[Value.ref b] s) (F0 m pc ls [.int 1]) := by
  intro T hT X
  obtain ⟨fs, hret, hrun, hended, hW, hframe⟩ := X.leave (v := some (.int 1)) (hlocks := hlocks) (fun h => by rw [hr] at h; cases h)
  have hmeth' : T.vm.method? m = some meth := X.method'
  refine ⟨T.setFrames fs, ?_, .returned (some (.int 1)), hrun, hended, rfl, ⟨_, rfl⟩, hW, hframe⟩
  jvm_step X.here [X.here.top, hx, hb, hdg, hmeth', hr, ret, narrow_b1]
  (try refine ⟨rfl, ?_⟩); (try refine ⟨rfl, ?_⟩)
  first | (intro acts; rw [hret _ acts rfl rfl rfl]) | rw [hret _ _ rfl rfl rfl]
  exact Steps.refl _
/-- what holds at the law's entry: the machine, the code, the tables' words (any of lw_tbl by 'hts w (by decide +kernel)'), the script of L ints xs at the cell b, what the Statement gives of the start (any of its parts by flat_of_before) -/
def lw_At (p : Program) (s : State) (m : MethodId) (meth : Method) (c : Code) (b L : Nat) (xs : Nat → Int32) : Prop :=
  p.tables.exec = Jvm.exec ∧ c.code = code ∧ meth.sig.returnType = ret ∧ c.maxLocals = 4 ∧ s.vm.findClass R_law = some m.cls ∧ (∀ w ∈ lw_tbl, w.before #[Value.ref b] s = true) ∧ va_X b L xs s s.heap ∧ b < s.heap.size ∧ meth.locks = false ∧ (Jvm.Cond.and given_1 narrow_1).before #[Value.ref b] s = true
