theorem ns_of {Φ : (Nat → Nat → Nat) → Prop} {G : GG} {B : Nat} {s : State} {M : Mem} {H : Heap} {locs : List Loc} (wo : Wo Φ G B 205 s M H locs) : ∀ w ∈ nsW, w.before #[] s = true := by
  obtain ⟨_, _, _, _, _, _, _, _, f4⟩ := wo.2.2.2.2
  exact f4
/-! the calls of the class that throw -/
abbrev NSE : String := "java/util/NoSuchElementException"
abbrev RTE : String := "java/lang/RuntimeException"
abbrev nsN : List String := [RTE, "java/lang/Exception"]
/-- the code of the exception's constructor: its superclass's stands at 13 -/
def nsC : ByteArray := ⟨#[42, 43, 183, 0, 13, 177]⟩
/-- the words of its throw: those of the library's, but for the constructor's own -/
def nsO : List Cond := (Bundle.ownAtoms RX9 142 NSE nsN).filter (fun w => decide (w ≠ .code (Bundle.initS NSE) Bundle.six 2 none) && decide (w ≠ .methodLink NSE 7 (Bundle.initS RTE))) ++ Bundle.passSAtoms NSE RTE 13 nsC
theorem ns_in1 : ∀ w ∈ Bundle.throwableAtoms, w ∈ nsO := by decide +kernel
theorem ns_in2 : ∀ w ∈ Bundle.throwableSAtoms, w ∈ nsO := by decide +kernel
theorem ns_in3 : ∀ w ∈ Bundle.passSAtoms NSE RTE 13 nsC, w ∈ nsO := by decide +kernel
theorem ns_in4 : ∀ w ∈ Bundle.chainSAtoms RTE ["java/lang/Exception"], w ∈ nsO := by decide +kernel
theorem ns_in5 : ∀ w ∈ (nsO.filter vx_no).filter goodWord, w ∈ lw_tbl := by decide +kernel
theorem ns_in6 : ∀ w ∈ (nsO.filter vx_no).filter (fun w => !goodWord w), w ∈ nsW := by decide +kernel
theorem ns_good : ∀ w ∈ Cond.classLink RX9 138 NSE :: Cond.initialized NSE :: nsO.filter vx_no, vx_ot w = true := by decide +kernel
theorem ns_x0 : decode nsC 0 = .ok (.aload_n 0, 1) := by decide +kernel
theorem ns_x1 : decode nsC 1 = .ok (.aload_n 1, 1) := by decide +kernel
theorem ns_x2 : decode nsC 2 = .ok (.invokespecial 13, 3) := by decide +kernel
theorem ns_x5 : decode nsC 5 = .ok (.return_, 1) := by decide +kernel
theorem ns_inA : ∀ w ∈ Bundle.passSAtoms RTE "java/lang/Exception" 7 Bundle.six, w ∈ nsO := by decide +kernel
theorem ns_inB : ∀ w ∈ Bundle.passSAtoms "java/lang/Exception" Bundle.tN 7 Bundle.six, w ∈ nsO := by decide +kernel
/-- the slots of the exception's class that are written, or read: each is laid, none twice -/
def nsF : List (String × String) := [("cause", "Ljava/lang/Throwable;"), ("stackTrace", Bundle.steD), ("suppressedExceptions", Bundle.listD), ("detailMessage", "Ljava/lang/String;"), ("backtrace", "Ljava/lang/Object;")]
theorem ns_inF : ∀ q ∈ nsF, Cond.lays NSE Bundle.tN q.1 q.2 ∈ nsO := by decide +kernel
section NsCtor
variable {p : Program} {l : Launch} {e : Env} {R : Room} {s : State} {m₀ : MethodId} {args : Array Value} {below : List Frame} {meth : Method} {c : Code} {W : State} {cells slots : Nat}
/-- what was written into cells that weren't there is no change -/
theorem nt_drop {U : State} {L L' : List Loc} {k n : Nat} (h : s.sameButNew U (L ++ L') k n) (hn : ∀ z ∈ L', s.heap.size ≤ z.base) : s.sameButNew U L k n := by
  obtain ⟨h1, h2, h3, h4, h5, h6⟩ := h
  refine ⟨h1, h2, h3, h4, h5, fun a c9 hc => ?_⟩
  obtain ⟨c', e1, e2, e3, e4⟩ := h6 a c9 hc
  refine ⟨c', e1, e2, e3, fun i hi => e4 i fun hm => ?_⟩
  rcases List.mem_append.mp hm with h | h
  · exact hi h
  · exact absurd (hn _ h) (Nat.not_le.mpr (Array.getElem?_eq_some_iff.mp hc).1)
/-- a call of the exception's class that the words select -/
theorem nt_sel {y : MethodName} {my : MethodId} {cX : ClassId} (X : Stand p l e R s m₀ args below meth c W [] cells slots) (hX : s.vm.findClass NSE = some cX) (hy : s.methodNamed? y = some my) (hn : y.cls ≠ "java/lang/invoke/MethodHandle" ∧ y.cls ≠ "java/lang/invoke/VarHandle") (h : (Cond.selects NSE y y).before args s = true) :
    selectMethod e.platform s.vm cX my = .method my := by
  obtain ⟨c1, r1, m1, a1, a2, a3, a4, -⟩ := Cond.selects_spec h
  cases hX.symm.trans a1
  cases hy.symm.trans a3
  cases (State.methodFound?_of_named hy hn).symm.trans a2
  rw [Launch.admits_selectMethod X.admits]
  exact a4
/-- a static field of Throwable that holds a reference, seen in the cell of its statics -/
theorem nt_stat {n d : String} {cT i aS : Nat} {kT : Class} {f : Field} {cS : Cell} (hf : s.fieldFound? Bundle.tN n d = some (cT, kT, i, f)) (hst : f.isStatic = true) (ha : kT.statics = some aS) (hc : s.heap[aS]? = some cS) (hi : cS.vm.isStatics = true)
    (h : (Cond.isRef (.static Bundle.tN n d)).before args s = true) : ∃ u : RefV, cS.slots[f.slot]? = some u.v := by
  obtain ⟨v, hv, hr⟩ := Cond.isRef_spec h
  refine ⟨⟨v, hr⟩, ?_⟩
  rw [← hv]
  simp [Term.eval, State.fieldNamed?, hf, hst, ha, hc, hi]
theorem nt_fit {t : FieldType} {v : Value} (ht : t.isReference = true) (hv : v.isRef = true) : fits t v = true := by
  cases v <;> simp [Value.isRef] at hv <;> cases t <;> simp [FieldType.isReference] at ht <;> rfl
theorem ns_ctor (X : Stand p l e R s m₀ args below meth c W [] cells slots) (hexec : p.tables.exec = Jvm.exec) (htr : e.platform.stackTraces = false)
    (hown : s.vm.findClass RX9 = some m₀.cls) (h : ∀ w ∈ nsO, w.before args s = true)
    {a : Addr} {cX : ClassId} {kX : Class} (hfoundX : s.vm.findClass NSE = some cX) (hkX : s.vm.classes[cX]? = some kX) (hcell : W.heap[a]? = some (freshCell cX kX)) (hnew : s.heap.size ≤ a)
    {msg : Value} (hmsg : msg.isRef = true)
    {g : JFrame} (hg : g.method = m₀) (hsize : g.locals.size = c.maxLocals) (hlocked : g.locked = none) (hentered : g.entered = []) {rest : List Value} (hstack : g.stack = msg :: .ref a :: .ref a :: rest)
    (hd6 : decode c.code g.pc = .ok (.invokespecial 142, 3)) (hd9 : decode c.code (g.pc + 3) = .ok (.athrow, 1)) (hout : ∀ x ∈ c.exceptionTable.toList, covers x (g.pc + 3) = false)
    (hRframes : 5 < R.frames) (hRlocals : 2 * g.monitorRoom + ((Value.ref a :: rest).map fun v => v.category).sum + 81 ≤ R.locals) (hlocks : meth.locks = false) :
    ∃ U : State, Steps p.tables e below (W.setTop g) U ∧ U.status = .running ∧ Ended U below (.threw a) ∧ s.WarmedH U.vm ∧ s.sameButNew ({ U with vm := s.vm } : State) [] cells slots ∧
      ∃ ce, U.heap[a]? = some ce ∧ s.vm.findClass NSE = some ce.cls ∧ ce.vm = .none := by
  have hw : ∀ w : Cond, decide (w ∈ nsO) = true → w.before args s = true := fun w hw => h w (of_decide_eq_true hw)
  have hpl := X.magic
  -- the classes: Throwable, and the three constructors ahead of its own
  obtain ⟨T, Z0, L, -, Y⟩ := ThrowableC.of_atoms (pl := e.platform) (args := args) (by rw [X.admits.platform]) (by rw [X.admits.platform]) hpl (fun w hw => h w (ns_in1 w hw))
  obtain ⟨Z, M, LZ, LM, hZ⟩ := Init0T.ofS_atoms hpl L Y (fun w hw => h w (ns_in2 w hw))
  obtain ⟨P1, L1, a1, b1⟩ := PassC.ofS_atoms hpl (by decide +kernel) (by decide) ns_x0 ns_x1 ns_x2 ns_x5 (fun w hw => h w (ns_in3 w hw))
  obtain ⟨P2, L2, a2, b2⟩ := PassC.ofS_atoms hpl (by decide +kernel) (by decide) Bundle.six_0 Bundle.six_1 Bundle.six_2 Bundle.six_5 (fun w hw => h w (ns_inA w hw))
  obtain ⟨P3, L3, a3, b3⟩ := PassC.ofS_atoms hpl (by decide +kernel) (by decide) Bundle.six_0 Bundle.six_1 Bundle.six_2 Bundle.six_5 (fun w hw => h w (ns_inB w hw))
  have hchain : PassesOn (Z.m T.toThrowableT) ([P1, P2, P3].map (·.toPassT)) := ⟨Option.some.inj (b1.symm.trans a2), Option.some.inj (b2.symm.trans a3), Option.some.inj (b3.symm.trans hZ), trivial⟩
  -- the slots of the new cell
  obtain ⟨c9, k9, f1, f2, hord, -⟩ := Cond.instantiable_spec (hw (.instantiable NSE 6) (by decide +kernel))
  cases hfoundX.symm.trans f1
  cases hkX.symm.trans f2
  obtain ⟨iM, yM⟩ := Y.msg
  obtain ⟨iB, jB, fB, k1, k2, k3, k4, -, k5, k6, k7⟩ := Cond.ownField (t := .object "java/lang/Object") Y.found L.cls (by decide +kernel) (hw (.fieldLink Bundle.tN 198 Bundle.tN "backtrace" "Ljava/lang/Object;") (by decide +kernel)) (hw (.lays Bundle.tN Bundle.tN "backtrace" "Ljava/lang/Object;") (by decide +kernel)) e.platform hpl
  obtain ⟨t1, d1, e1, o1⟩ := Cond.laysAt hfoundX hkX Y.cause (h _ (ns_inF ("cause", "Ljava/lang/Throwable;") (by decide)))
  obtain ⟨t2, d2, e2, o2⟩ := Cond.laysAt hfoundX hkX Y.stack (h _ (ns_inF ("stackTrace", Bundle.steD) (by decide)))
  obtain ⟨t3, d3, e3, o3⟩ := Cond.laysAt hfoundX hkX Y.supp (h _ (ns_inF ("suppressedExceptions", Bundle.listD) (by decide)))
  obtain ⟨t4, d4, e4, o4⟩ := Cond.laysAt hfoundX hkX yM (h _ (ns_inF ("detailMessage", "Ljava/lang/String;") (by decide)))
  obtain ⟨t5, d5, e5, o5⟩ := Cond.laysAt hfoundX hkX k7 (h _ (ns_inF ("backtrace", "Ljava/lang/Object;") (by decide)))
  -- the statics of Throwable: an old cell, as it was
  obtain ⟨cS, s1, s2⟩ := Y.statics
  obtain ⟨u0, v1⟩ := nt_stat Y.unassigned L.unassignedStatic L.statics s1 s2 (hw (.isRef (.static Bundle.tN "UNASSIGNED_STACK" Bundle.steD)) (by decide +kernel))
  obtain ⟨sen, v2⟩ := nt_stat Y.sentinel L.sentinelStatic L.statics s1 s2 (hw (.isRef (.static Bundle.tN "SUPPRESSED_SENTINEL" Bundle.listD)) (by decide +kernel))
  have hlt : T.aS < s.heap.size := (Array.getElem?_eq_some_iff.mp s1).1
  have hcS : W.heap[T.aS]? = some cS := ((vx_frame (U := W) X.same).2 T.aS hlt (fun z hz => nomatch hz)).trans s1
  have hback : (preparedCellV T.toThrowableT (freshCell cX kX) a u0 sen).slots[fB.slot]? = some .null := by
    show ((((freshCell cX kX).slots.setIfInBounds T.fCause.slot (.ref a)).setIfInBounds T.fStack.slot u0.v).setIfInBounds T.fSupp.slot sen.v)[fB.slot]? = some .null
    rw [Array.getElem?_setIfInBounds_ne (Cond.laysApart e3 e5 o3 o5 (by rw [Y.suppName, k5]; decide)), Array.getElem?_setIfInBounds_ne (Cond.laysApart e2 e5 o2 o5 (by rw [Y.stackName, k5]; decide)),
      Array.getElem?_setIfInBounds_ne (Cond.laysApart e1 e5 o1 o5 (by rw [Y.causeName, k5]; decide)), fresh_default t5, k6]
    rfl
  -- into the constructor, through it, and the throw
  obtain ⟨tm, -, -, -, vm1, n1, -, -, -, -, -, -, -, W1, st1⟩ := Steps.initColdS (tb := p.tables) (e := e) (U := W) (f := g) (t := Bundle.initS NSE) (bytes := nsC) (maxL := 2) (args := args) X.here hexec X.warmed hpl hown rfl rfl (by decide)
    (hw (.methodLink RX9 142 (Bundle.initS NSE)) (by decide +kernel)) (hw (.instanceMethod (Bundle.initS NSE)) (by decide +kernel)) (hw (.code (Bundle.initS NSE) nsC 2 none) (by decide +kernel)) hg hstack hd6
  cases n1.symm.trans a1
  obtain ⟨vm2, X2, st2⟩ := (X.noted W1).ctorMessageOffV hexec (g := { g with stack := .ref a :: rest }) hg hsize T L Z LZ M LM [P1, P2, P3] (by simp [L1, L2, L3]) hchain (u0 := u0) (sen := sen) (self := a) hmsg
    (cell := freshCell cX kX) (cellS := cS) hcell (fun k => nofun) nofun rfl rfl (nt_sel X hfoundX Y.fill0 (by decide) (hw (.selects NSE Bundle.tFill0 Bundle.tFill0) (by decide +kernel))) (nt_sel X hfoundX Y.fill (by decide) (hw (.selects NSE Bundle.tFill Bundle.tFill) (by decide +kernel)))
    hcS (fun hE => absurd (hE ▸ hlt) (Nat.not_lt.mpr hnew)) (fun hE => by rw [hE] at s2; cases s2) v1 v2
    (Takes.of_laid hkX hord t1 (nt_fit (by rw [Y.causeType]; rfl) rfl)) (Takes.of_laid hkX hord t2 (nt_fit (by rw [Y.stackType]; rfl) u0.ok)) (Takes.of_laid hkX hord t3 (nt_fit (by rw [Y.suppType]; rfl) sen.ok)) (Takes.of_laid hkX hord t4 (nt_fit (by rw [Y.msgType]; rfl) hmsg))
    Y.objLocals ⟨⟨iB, jB, fB⟩, ⟨k1, k2, k3, k4⟩, hback, fun _ _ => rfl⟩ htr [] hd6 hRframes hRlocals
  obtain ⟨y1, y2, y3, y4, y5⟩ := X2.athrowLeaves hexec (g := { g with pc := g.pc + 3, stack := .ref a :: rest }) hg hlocked hentered hout rfl hd9 hlocks
  refine ⟨_, st1 _ (fun acts => by rw [doInvoke_state]; exact st2 _ y1), y2, y3, y4, nt_drop (L := []) y5 (by simp [hnew]), plainBareV T.toThrowableT (freshCell cX kX) a u0 sen msg, ?_, hfoundX, rfl⟩
  show (W.heap.setIfInBounds a _)[a]? = _
  rw [Array.getElem?_setIfInBounds_self_of_lt (Array.getElem?_eq_some_iff.mp hcell).1]
end NsCtor
section NsThrow
variable {p : Program} {l : Launch} {e : Env} {R : Room} {s : State} {m : MethodId} {args : Array Value} {below : List Frame} {meth : Method} {c : Code} {H : Heap} {locs : List Loc} {cells slots : Nat} {ls : Array Slot} {rest : List Value} {Qc : Array Value → State → Outcome → State → Prop} {XC : String → State → State → Prop} {free : Addr → Prop}
theorem ns_thr {cc : ByteArray} {pc : Nat} (hexec : p.tables.exec = Jvm.exec) (hb : c.code = cc) (hl : l.stackTraces = false) {text : String} {is mc ms sa : Nat} {A : Nat → Prop}
    (hown : s.vm.findClass RX9 = some m.cls)
    (hk : (Cond.classLink RX9 138 NSE).before args s = true) (hini : (Cond.initialized NSE).before args s = true) (hstr : vk_R RX9 is text sa s) (hat : ∀ w ∈ nsO.filter vx_no, w.before args s = true)
    (hU : vx_Zq Bundle.tN "UNASSIGNED_STACK" Bundle.steD A s s.heap) (hN : vx_Zq Bundle.tN "SUPPRESSED_SENTINEL" Bundle.listD A s s.heap) (hS : va_S A s.heap H locs) (hsize : ls.size = c.maxLocals)
    (d0 : decode cc pc = .ok (.new 138, 3)) (d3 : decode cc (pc + 3) = .ok (.dup, 1)) (d4 : decode cc (pc + 4) = .ok (.ldc is, 2)) (d6 : decode cc (pc + 6) = .ok (.invokespecial 142, 3)) (d9 : decode cc (pc + 9) = .ok (.athrow, 1))
    (hout : ∀ x ∈ c.exceptionTable.toList, covers x (pc + 9) = false)
    (hRframes : 5 < R.frames) (hRlocals : (rest.map fun v => v.category).sum + 82 ≤ R.locals) (hRcells : cells + 1 ≤ R.cells) (hRslots : slots + 6 ≤ R.slots) (hlocks : meth.locks = false)
    (hx : ∀ t : State, s.vm.Alike t.vm → H.size ≤ t.heap.size → (∀ q : Nat, q < H.size → t.heap[q]? = H[q]?) → XC NSE s t)
    (hf : ∀ z ∈ locs, free z.base) (hc : cells + 1 ≤ mc) (hs : slots + 6 ≤ ms) :
    W p l e R s m args below meth c H locs cells slots (vx_MQ below Qc XC args s mc ms free) (F0 m pc ls rest) := by
  intro T hT X
  have htr : e.platform.stackTraces = false := (show e.platform.stackTraces = l.stackTraces by rw [X.admits.platform]).trans hl
  have Y := vx_rebase X (R' := { frames := R.frames, locals := R.locals, cells := 1, slots := 6 }) (Nat.le_refl _) (Nat.le_refl _) hRcells hRslots
  obtain ⟨s', hA⟩ : ∃ z, z = (T.setVm s.vm).setFrames (.invoking m args :: below) := ⟨_, rfl⟩
  rw [← hA] at Y
  have hvm : s'.vm = s.vm := by rw [hA]; rfl
  have hhp : s'.heap = H := by rw [hA]; exact hT
  have hW0 : s.WarmedH s'.vm := by rw [hvm]; exact State.WarmedH.refl s
  have hat' : ∀ w ∈ nsO.filter vx_no, w.before args s' = true := fun w hw => vx_ot_at hW0 hvm.symm (ns_good w (List.mem_cons_of_mem _ (List.mem_cons_of_mem _ hw))) (hat w hw)
  have hk' : (Cond.classLink RX9 138 NSE).before args s' = true := vx_ot_at hW0 hvm.symm (ns_good _ List.mem_cons_self) hk
  have hini' : (Cond.initialized NSE).before args s' = true := vx_ot_at hW0 hvm.symm (ns_good _ (List.mem_cons_of_mem _ List.mem_cons_self)) hini
  have hU' : vx_Zq Bundle.tN "UNASSIGNED_STACK" Bundle.steD A s' s'.heap := by rw [hhp]; exact vx_Zq.moved hW0.alike (hU.kept hS.2.1)
  have hN' : vx_Zq Bundle.tN "SUPPRESSED_SENTINEL" Bundle.listD A s' s'.heap := by rw [hhp]; exact vx_Zq.moved hW0.alike (hN.kept hS.2.1)
  have h : ∀ w ∈ nsO, w.before args s' = true := vx_own hat' (vx_isRefq hU'.1) (vx_isRefq hN'.1) hU'.2.word hN'.2.word
  have hown' : s'.vm.findClass RX9 = some m.cls := by rw [hvm]; exact hown
  have hins : (Cond.instantiable NSE 6).before args s' = true := h _ (by decide +kernel)
  obtain ⟨vm₁, cX, kX, hfX, hkX, -, -, X₁, st1⟩ := Y.newCold hexec (own := RX9) (C := NSE) (index := 138) (n := 6) hown' hk' hins hini'
    (g := F0 m pc ls rest) rfl (by rw [hb]; exact d0) (Nat.le_refl _) (Nat.le_refl _)
  generalize hT1 : (T.setVm vm₁).pushCell { cls := cX, slots := kX.instanceTypes.map defaultValue, vm := .none } = T1 at X₁ st1
  have hcat : (Value.ref T.heap.size).category = 1 := rfl
  have hcellA : T1.heap[T.heap.size]? = some (freshCell cX kX) := by rw [← hT1]; exact State.heap_pushCell_size _ _
  have d3' : decode c.code (pc + 3) = .ok (.dup, 1) := by rw [hb]; exact d3
  have d4' : decode c.code (pc + 4) = .ok (.ldc is, 2) := by rw [hb]; exact d4
  have hstr' : vk_R RX9 is text sa s' := vk_R.warm hW0 hstr
  obtain ⟨U, hsteps, hrun, hend, hW, hsame, ce, hce, hO, hOv⟩ := ns_ctor X₁ hexec htr hown' h hfX hkX hcellA (by rw [hhp, hT]; exact Nat.le_refl _) (msg := .ref sa) rfl
    (g := { method := m, pc := pc + 6, locals := ls, stack := .ref sa :: .ref T.heap.size :: .ref T.heap.size :: rest, locked := none }) rfl hsize rfl rfl (rest := rest) rfl
    (by rw [hb]; exact d6) (by rw [hb]; exact d9) hout hRframes (by simp only [List.map_cons, List.sum_cons, hcat]; omega) hlocks
  obtain ⟨f1, f2⟩ := vx_frame hsame
  rw [hhp] at f1 f2
  have hWs : s.WarmedH U.vm := State.WarmedH.trans hW0 hW
  have hcl : s.vm.findClass NSE = some ce.cls := by
    rw [hvm] at hO
    exact hO
  have hall : s.sameButNew ({ U with vm := s.vm } : State) locs mc ms := by
    subst hA
    obtain ⟨e1, e2⟩ := hsame
    rw [State.setFrames_setFrames] at e1
    have h2 : (T.setVm s.vm).sameButNew ({ U with vm := s.vm } : State) [] (0 + 1) (0 + 6) := ⟨e1, e2⟩
    have h3 := X.same.trans h2
    rw [List.append_nil] at h3
    exact h3.mono hc hs
  refine ⟨U, ?_, .threw T.heap.size, hrun, hend, Or.inr ⟨T.heap.size, rfl, NSE, ce, locs, hx U hWs.alike f1 (fun q hq => f2 q hq (fun z hz => nomatch hz)), hce, hOv, hcl, hWs, hall, hf⟩⟩
  refine st1 _ ?_
  show Steps p.tables e below (T1.setTop { method := m, pc := pc + 3, locals := ls, stack := .ref T.heap.size :: rest, locked := none }) _
  jvm_step X₁.here [X₁.here.top, hexec, d3', Value.category]
  exact X₁.ldcString hexec (own := RX9) (text := text) (index := is) (a := sa) hown' hstr'.1 hstr'.2
    (g := { method := m, pc := pc + 4, locals := ls, stack := .ref T.heap.size :: .ref T.heap.size :: rest, locked := none }) rfl d4' _ hsteps
theorem ns_thrW {cc : ByteArray} {pc : Nat} (hexec : p.tables.exec = Jvm.exec) (hb : c.code = cc) (hl : l.stackTraces = false) {text : String} {is mc ms sa : Nat} {A : Nat → Prop}
    (hown : s.vm.findClass RX9 = some m.cls)
    (hk : (Cond.classLink RX9 138 NSE).before args s = true) (hini : (Cond.initialized NSE).before args s = true) (hstr : vk_R RX9 is text sa s) (hat : ∀ w ∈ nsO.filter vx_no, w.before args s = true)
    (hU : vx_Zq Bundle.tN "UNASSIGNED_STACK" Bundle.steD A s s.heap) (hN : vx_Zq Bundle.tN "SUPPRESSED_SENTINEL" Bundle.listD A s s.heap) (hS : va_S A s.heap H locs) (hsize : ls.size = c.maxLocals)
    (d0 : decode cc pc = .ok (.new 138, 3)) (d3 : decode cc (pc + 3) = .ok (.dup, 1)) (d4 : decode cc (pc + 4) = .ok (.ldc_w is, 3)) (d6 : decode cc (pc + 7) = .ok (.invokespecial 142, 3)) (d9 : decode cc (pc + 10) = .ok (.athrow, 1))
    (hout : ∀ x ∈ c.exceptionTable.toList, covers x (pc + 10) = false)
    (hRframes : 5 < R.frames) (hRlocals : (rest.map fun v => v.category).sum + 82 ≤ R.locals) (hRcells : cells + 1 ≤ R.cells) (hRslots : slots + 6 ≤ R.slots) (hlocks : meth.locks = false)
    (hx : ∀ t : State, s.vm.Alike t.vm → H.size ≤ t.heap.size → (∀ q : Nat, q < H.size → t.heap[q]? = H[q]?) → XC NSE s t)
    (hf : ∀ z ∈ locs, free z.base) (hc : cells + 1 ≤ mc) (hs : slots + 6 ≤ ms) :
    W p l e R s m args below meth c H locs cells slots (vx_MQ below Qc XC args s mc ms free) (F0 m pc ls rest) := by
  intro T hT X
  have htr : e.platform.stackTraces = false := (show e.platform.stackTraces = l.stackTraces by rw [X.admits.platform]).trans hl
  have Y := vx_rebase X (R' := { frames := R.frames, locals := R.locals, cells := 1, slots := 6 }) (Nat.le_refl _) (Nat.le_refl _) hRcells hRslots
  obtain ⟨s', hA⟩ : ∃ z, z = (T.setVm s.vm).setFrames (.invoking m args :: below) := ⟨_, rfl⟩
  rw [← hA] at Y
  have hvm : s'.vm = s.vm := by rw [hA]; rfl
  have hhp : s'.heap = H := by rw [hA]; exact hT
  have hW0 : s.WarmedH s'.vm := by rw [hvm]; exact State.WarmedH.refl s
  have hat' : ∀ w ∈ nsO.filter vx_no, w.before args s' = true := fun w hw => vx_ot_at hW0 hvm.symm (ns_good w (List.mem_cons_of_mem _ (List.mem_cons_of_mem _ hw))) (hat w hw)
  have hk' : (Cond.classLink RX9 138 NSE).before args s' = true := vx_ot_at hW0 hvm.symm (ns_good _ List.mem_cons_self) hk
  have hini' : (Cond.initialized NSE).before args s' = true := vx_ot_at hW0 hvm.symm (ns_good _ (List.mem_cons_of_mem _ List.mem_cons_self)) hini
  have hU' : vx_Zq Bundle.tN "UNASSIGNED_STACK" Bundle.steD A s' s'.heap := by rw [hhp]; exact vx_Zq.moved hW0.alike (hU.kept hS.2.1)
  have hN' : vx_Zq Bundle.tN "SUPPRESSED_SENTINEL" Bundle.listD A s' s'.heap := by rw [hhp]; exact vx_Zq.moved hW0.alike (hN.kept hS.2.1)
  have h : ∀ w ∈ nsO, w.before args s' = true := vx_own hat' (vx_isRefq hU'.1) (vx_isRefq hN'.1) hU'.2.word hN'.2.word
  have hown' : s'.vm.findClass RX9 = some m.cls := by rw [hvm]; exact hown
  have hins : (Cond.instantiable NSE 6).before args s' = true := h _ (by decide +kernel)
  obtain ⟨vm₁, cX, kX, hfX, hkX, -, -, X₁, st1⟩ := Y.newCold hexec (own := RX9) (C := NSE) (index := 138) (n := 6) hown' hk' hins hini'
    (g := F0 m pc ls rest) rfl (by rw [hb]; exact d0) (Nat.le_refl _) (Nat.le_refl _)
  generalize hT1 : (T.setVm vm₁).pushCell { cls := cX, slots := kX.instanceTypes.map defaultValue, vm := .none } = T1 at X₁ st1
  have hcat : (Value.ref T.heap.size).category = 1 := rfl
  have hcellA : T1.heap[T.heap.size]? = some (freshCell cX kX) := by rw [← hT1]; exact State.heap_pushCell_size _ _
  have d3' : decode c.code (pc + 3) = .ok (.dup, 1) := by rw [hb]; exact d3
  have d4' : decode c.code (pc + 4) = .ok (.ldc_w is, 3) := by rw [hb]; exact d4
  have hstr' : vk_R RX9 is text sa s' := vk_R.warm hW0 hstr
  obtain ⟨U, hsteps, hrun, hend, hW, hsame, ce, hce, hO, hOv⟩ := ns_ctor X₁ hexec htr hown' h hfX hkX hcellA (by rw [hhp, hT]; exact Nat.le_refl _) (msg := .ref sa) rfl
    (g := { method := m, pc := pc + 7, locals := ls, stack := .ref sa :: .ref T.heap.size :: .ref T.heap.size :: rest, locked := none }) rfl hsize rfl rfl (rest := rest) rfl
    (by rw [hb]; exact d6) (by rw [hb]; exact d9) hout hRframes (by simp only [List.map_cons, List.sum_cons, hcat]; omega) hlocks
  obtain ⟨f1, f2⟩ := vx_frame hsame
  rw [hhp] at f1 f2
  have hWs : s.WarmedH U.vm := State.WarmedH.trans hW0 hW
  have hcl : s.vm.findClass NSE = some ce.cls := by
    rw [hvm] at hO
    exact hO
  have hall : s.sameButNew ({ U with vm := s.vm } : State) locs mc ms := by
    subst hA
    obtain ⟨e1, e2⟩ := hsame
    rw [State.setFrames_setFrames] at e1
    have h2 : (T.setVm s.vm).sameButNew ({ U with vm := s.vm } : State) [] (0 + 1) (0 + 6) := ⟨e1, e2⟩
    have h3 := X.same.trans h2
    rw [List.append_nil] at h3
    exact h3.mono hc hs
  refine ⟨U, ?_, .threw T.heap.size, hrun, hend, Or.inr ⟨T.heap.size, rfl, NSE, ce, locs, hx U hWs.alike f1 (fun q hq => f2 q hq (fun z hz => nomatch hz)), hce, hOv, hcl, hWs, hall, hf⟩⟩
  refine st1 _ ?_
  show Steps p.tables e below (T1.setTop { method := m, pc := pc + 3, locals := ls, stack := .ref T.heap.size :: rest, locked := none }) _
  jvm_step X₁.here [X₁.here.top, hexec, d3', Value.category]
  exact X₁.ldcStringW hexec (own := RX9) (text := text) (index := is) (a := sa) hown' hstr'.1 hstr'.2
    (g := { method := m, pc := pc + 4, locals := ls, stack := .ref T.heap.size :: .ref T.heap.size :: rest, locked := none }) rfl d4' _ hsteps
end NsThrow
abbrev rmX (k : Nat) : Room := { frames := k, cells := 1, slots := 6, locals := 64 * k }
/-- what a throw leaves: the class by its name, the world -/
def XT {V : Type} (G : GG) (B : Nat) (q : Option V × Mem) : String → State → State → Prop := vx_X (S := Unit) (fun _ => q.1 = none) (fun E _ t => E = NSE ∧ va_P G.1 vwCl (wl G B 205 q.2) t.heap ∧ Ph q.2.2.2) (fun q : Nat => B < q)
section Thr
variable {p : Program} {l : Launch} {e : Env} {R : Room} {s : State} {m : MethodId} {args : Array Value} {below : List Frame} {meth : Method} {c : Code} {H : Heap} {locs : List Loc} {cells slots : Nat} {cc : ByteArray} {pc nL : Nat} {ls : Array Slot} {rest : List Value} {G : GG} {B : Nat} {M : Mem}
theorem ns_at {PH : (Nat → Nat → Nat) → Prop} (cx : Cx p s m args c cc nL RX9 G) (wo : Wo PH G B 205 s M H locs) : ∀ w ∈ nsO.filter vx_no, w.before args s = true :=
  vx_hat (B := nsW) (fun w hw => cx.2.2.2.2.1 w (List.mem_filter.mpr ⟨ns_in5 w hw, (List.mem_filter.mp hw).2⟩)) ns_in6 (fun w hw => va_tabs (ns_tab w hw).1 rfl (ns_of wo w hw))
theorem ns_x {V : Type} (wo : Wo Ph G B 205 s M H locs) : ∀ t : State, s.vm.Alike t.vm → H.size ≤ t.heap.size → (∀ q : Nat, q < H.size → t.heap[q]? = H[q]?) → XT G B ((none : Option V), M) NSE s t := by
  intro t _ hsz hk
  refine ⟨(), rfl, ⟨rfl, wo.1.kept (fun k q hq => hk _ (vx_lt wo.1 hq)), wo.2.2.2.1⟩, Nat.le_trans wo.2.1.1 hsz, fun q hq hA => ?_⟩
  rw [hk q (Nat.lt_of_lt_of_le hq wo.2.1.1)]
  exact wo.2.1.2.1 q hq hA
/-- a throw of the class, with its text -/
theorem r_thr {V : Type} {Qc : Array Value → State → Outcome → State → Prop} {text : String} {is j : Nat} (hl : l.stackTraces = false) (cx : Cx p s m args c cc nL RX9 G) (wo : Wo Ph G B 205 s M H locs) (hj : strT[j]? = some (RX9, is, text)) (hls : ls.size = nL)
    (d0 : decode cc pc = .ok (.new 138, 3)) (d3 : decode cc (pc + 3) = .ok (.dup, 1)) (d4 : decode cc (pc + 4) = .ok (.ldc is, 2)) (d6 : decode cc (pc + 6) = .ok (.invokespecial 142, 3)) (d9 : decode cc (pc + 9) = .ok (.athrow, 1))
    (hout : ∀ x ∈ c.exceptionTable.toList, covers x (pc + 9) = false) (hRf : 5 < R.frames) (hRl : 82 ≤ R.locals) (hRc : 1 ≤ R.cells) (hRs : 6 ≤ R.slots) (hlk : meth.locks = false) :
    W p l e R s m args below meth c H locs 0 0 (vx_MQ below Qc (XT G B ((none : Option V), M)) args s 1 6 (fr B)) (F0 m pc ls []) := by
  have ht := cx.2.2.2.2.1
  obtain ⟨_, _, _, _, e1, _, f2, f3, _⟩ := wo.2.2.2.2
  exact ns_thr cx.1 cx.2.1 hl cx.2.2.2.1 (ht _ (mem_t4 196 (by decide +kernel))) (ht _ (mem_t1 20 (by decide +kernel))) (e1 j _ hj) (ns_at cx wo) f2 f3 wo.2.1 (hls.trans cx.2.2.1.symm) d0 d3 d4 d6 d9 hout hRf hRl hRc hRs hlk (ns_x wo) wo.2.1.2.2 (Nat.le_refl _) (Nat.le_refl _)
/-- the same with a wide index of its text -/
theorem r_thrW {V : Type} {Qc : Array Value → State → Outcome → State → Prop} {text : String} {is j : Nat} (hl : l.stackTraces = false) (cx : Cx p s m args c cc nL RX9 G) (wo : Wo Ph G B 205 s M H locs) (hj : strT[j]? = some (RX9, is, text)) (hls : ls.size = nL)
    (d0 : decode cc pc = .ok (.new 138, 3)) (d3 : decode cc (pc + 3) = .ok (.dup, 1)) (d4 : decode cc (pc + 4) = .ok (.ldc_w is, 3)) (d7 : decode cc (pc + 7) = .ok (.invokespecial 142, 3)) (d10 : decode cc (pc + 10) = .ok (.athrow, 1))
    (hout : ∀ x ∈ c.exceptionTable.toList, covers x (pc + 10) = false) (hRf : 5 < R.frames) (hRl : 82 ≤ R.locals) (hRc : 1 ≤ R.cells) (hRs : 6 ≤ R.slots) (hlk : meth.locks = false) :
    W p l e R s m args below meth c H locs 0 0 (vx_MQ below Qc (XT G B ((none : Option V), M)) args s 1 6 (fr B)) (F0 m pc ls []) := by
  have ht := cx.2.2.2.2.1
  obtain ⟨_, _, _, _, e1, _, f2, f3, _⟩ := wo.2.2.2.2
  exact ns_thrW cx.1 cx.2.1 hl cx.2.2.2.1 (ht _ (mem_t4 196 (by decide +kernel))) (ht _ (mem_t1 20 (by decide +kernel))) (e1 j _ hj) (ns_at cx wo) f2 f3 wo.2.1 (hls.trans cx.2.2.1.symm) d0 d3 d4 d7 d10 hout hRf hRl hRc hRs hlk (ns_x wo) wo.2.1.2.2 (Nat.le_refl _) (Nat.le_refl _)
theorem w_wide {k n : Nat} {Q : State → Prop} {g : JFrame} (h1 : cells ≤ k) (h2 : slots ≤ n) (kk : W p l e R s m args below meth c H locs k n Q g) : W p l e R s m args below meth c H locs cells slots Q g := fun T hT X => kk T hT (stand_widen X h1 h2)
def QtI (G : GG) (B : Nat) (q : Option Int32 × Mem) : Array Value → State → Outcome → State → Prop := va_Qi (S := Unit) (fun x _ => q.1 = some x) (fun _ t => BW Ph G B 205 q.2 t) (fun q : Nat => B < q)
def QtJ (G : GG) (B : Nat) (q : Option Int64 × Mem) : Array Value → State → Outcome → State → Prop := va_Ql (S := Unit) (fun x _ => q.1 = some x) (fun _ t => BW Ph G B 205 q.2 t) (fun q : Nat => B < q)
theorem t_iret {XC : String → State → State → Prop} {r : Int32} (cx : Cx p s m args c cc nL RX9 G) (wo : Wo Ph G B 205 s M H locs) (hr : meth.sig.returnType = some .int) (hlk : meth.locks = false) (hdg : decode cc pc = .ok (.ireturn, 1)) : W p l e R s m args below meth c H locs 0 0 (vx_MQ below (QtI G B (some r, M)) XC args s 1 6 (fr B)) (F0 m pc ls [.int r]) :=
  w_wide (k := 1) (n := 6) (by omega) (by omega) (vx_ret (W.iret cx.1 cx.2.1 hr (fun t ht hW => ⟨⟨r, (), rfl, rfl, wo_BW cx wo ht hW⟩, wo.2.1.F ht⟩) wo.2.1.2.2 hdg))
theorem t_lret {XC : String → State → State → Prop} {r : Int64} (cx : Cx p s m args c cc nL RX9 G) (wo : Wo Ph G B 205 s M H locs) (hr : meth.sig.returnType = some .long) (hlk : meth.locks = false) (hdg : decode cc pc = .ok (.lreturn, 1)) : W p l e R s m args below meth c H locs 0 0 (vx_MQ below (QtJ G B (some r, M)) XC args s 1 6 (fr B)) (F0 m pc ls [.long r]) :=
  w_wide (k := 1) (n := 6) (by omega) (by omega) (vx_ret (W.lret cx.1 cx.2.1 hr (fun t ht hW => ⟨⟨r, (), rfl, rfl, wo_BW cx wo ht hW⟩, wo.2.1.F ht⟩) wo.2.1.2.2 hdg))
theorem mk_vx {av : List Value} {y : MethodName} {bytes : ByteArray} {maxL k : Nat} {ret : Option FieldType} {Qc : Array Value → State → Outcome → State → Prop} {XC : String → State → State → Prop} (hy : plainName y.cls = true) (ho : y.cls = RX9) (hlen : (lg_sl av).length ≤ maxL)
    (body : ∀ (p : Program) (e : Env) (s : State) (m : MethodId) (below : List Frame) (meth : Method) (c : Code) (ls : Array Slot), Cx p s m av.toArray c bytes maxL RX9 G → meth.sig.returnType = ret → meth.locks = false → (∀ x ∈ c.exceptionTable.toList, False) → Wo Ph G B 205 s M s.heap [] → lv_has ls maxL (lv_args 0 av) → W p l e (rmX k) s m av.toArray below meth c s.heap [] 0 0 (vx_MQ below Qc XC av.toArray s 1 6 (fr B)) (F0 m 0 ls [])) :
    vx_Met l y (wsG y bytes maxL ret) (rmX k) (PcW Ph G B 205 M av) Qc XC 1 6 (fr B) := by
  refine vx_ofW (cc := bytes) (maxL := maxL) (ret := ret) hy rfl ?_
  intro p e s m args below meth c s₁ B' hml hex hv
  obtain ⟨rfl, ⟨hP, hK, hF, hE⟩, hB⟩ := hv
  have hx := B'.exec
  have hb := B'.bytes
  have hr := B'.returns
  have hts := wsG_ok (atoms_spec (ws := wsG y bytes maxL ret) B'.pre)
  have hown : s.vm.findClass RX9 = some m.cls := by rw [← ho]; exact findClass_of_methodNamed B'.named
  have hlocks := B'.notSynchronized
  have hl := lv_entry av (n := maxL) hlen
  rw [lg_entry_eq]
  exact body p e s m below meth c _ ⟨hx, hb, hml, hown, hts, hK⟩ hr hlocks hex ⟨hP, va_S.rf, hB, hF, hE⟩ hl
end Thr
theorem dX9_boat_0 : decode cX9_boat 0 = .ok (.aload_n 0, 1) := by decide +kernel
theorem dX9_boat_1 : decode cX9_boat 1 = .ok (.getfield 26, 3) := by decide +kernel
theorem dX9_boat_4 : decode cX9_boat 4 = .ok (.iload_n 1, 1) := by decide +kernel
theorem dX9_boat_5 : decode cX9_boat 5 = .ok (.invokevirtual 134, 3) := by decide +kernel
theorem dX9_boat_8 : decode cX9_boat 8 = .ok (.ifCond .ne 13, 3) := by decide +kernel
theorem dX9_boat_11 : decode cX9_boat 11 = .ok (.new 138, 3) := by decide +kernel
theorem dX9_boat_14 : decode cX9_boat 14 = .ok (.dup, 1) := by decide +kernel
theorem dX9_boat_15 : decode cX9_boat 15 = .ok (.ldc 140, 2) := by decide +kernel
theorem dX9_boat_17 : decode cX9_boat 17 = .ok (.invokespecial 142, 3) := by decide +kernel
theorem dX9_boat_20 : decode cX9_boat 20 = .ok (.athrow, 1) := by decide +kernel
theorem dX9_boat_21 : decode cX9_boat 21 = .ok (.iload_n 2, 1) := by decide +kernel
theorem dX9_boat_22 : decode cX9_boat 22 = .ok (.tableswitch 135 0 5 #[38, 48, 58, 68, 87, 111], 38) := by decide +kernel
theorem dX9_boat_60 : decode cX9_boat 60 = .ok (.aload_n 0, 1) := by decide +kernel
theorem dX9_boat_61 : decode cX9_boat 61 = .ok (.getfield 26, 3) := by decide +kernel
theorem dX9_boat_64 : decode cX9_boat 64 = .ok (.getfield 145, 3) := by decide +kernel
theorem dX9_boat_67 : decode cX9_boat 67 = .ok (.iload_n 1, 1) := by decide +kernel
theorem dX9_boat_68 : decode cX9_boat 68 = .ok (.iaload, 1) := by decide +kernel
theorem dX9_boat_69 : decode cX9_boat 69 = .ok (.ireturn, 1) := by decide +kernel
theorem dX9_boat_70 : decode cX9_boat 70 = .ok (.aload_n 0, 1) := by decide +kernel
theorem dX9_boat_71 : decode cX9_boat 71 = .ok (.getfield 26, 3) := by decide +kernel
theorem dX9_boat_74 : decode cX9_boat 74 = .ok (.getfield 148, 3) := by decide +kernel
theorem dX9_boat_77 : decode cX9_boat 77 = .ok (.iload_n 1, 1) := by decide +kernel
theorem dX9_boat_78 : decode cX9_boat 78 = .ok (.iaload, 1) := by decide +kernel
theorem dX9_boat_79 : decode cX9_boat 79 = .ok (.ireturn, 1) := by decide +kernel
theorem dX9_boat_80 : decode cX9_boat 80 = .ok (.aload_n 0, 1) := by decide +kernel
theorem dX9_boat_81 : decode cX9_boat 81 = .ok (.getfield 26, 3) := by decide +kernel
theorem dX9_boat_84 : decode cX9_boat 84 = .ok (.getfield 151, 3) := by decide +kernel
theorem dX9_boat_87 : decode cX9_boat 87 = .ok (.iload_n 1, 1) := by decide +kernel
theorem dX9_boat_88 : decode cX9_boat 88 = .ok (.iaload, 1) := by decide +kernel
theorem dX9_boat_89 : decode cX9_boat 89 = .ok (.ireturn, 1) := by decide +kernel
theorem dX9_boat_90 : decode cX9_boat 90 = .ok (.aload_n 0, 1) := by decide +kernel
theorem dX9_boat_91 : decode cX9_boat 91 = .ok (.getfield 26, 3) := by decide +kernel
theorem dX9_boat_94 : decode cX9_boat 94 = .ok (.aload_n 0, 1) := by decide +kernel
theorem dX9_boat_95 : decode cX9_boat 95 = .ok (.getfield 26, 3) := by decide +kernel
theorem dX9_boat_98 : decode cX9_boat 98 = .ok (.getfield 151, 3) := by decide +kernel
theorem dX9_boat_101 : decode cX9_boat 101 = .ok (.iload_n 1, 1) := by decide +kernel
theorem dX9_boat_102 : decode cX9_boat 102 = .ok (.iaload, 1) := by decide +kernel
theorem dX9_boat_103 : decode cX9_boat 103 = .ok (.iconst 1, 1) := by decide +kernel
theorem dX9_boat_104 : decode cX9_boat 104 = .ok (.isub, 1) := by decide +kernel
theorem dX9_boat_105 : decode cX9_boat 105 = .ok (.invokevirtual 154, 3) := by decide +kernel
theorem dX9_boat_108 : decode cX9_boat 108 = .ok (.ireturn, 1) := by decide +kernel
theorem dX9_boat_109 : decode cX9_boat 109 = .ok (.aload_n 0, 1) := by decide +kernel
theorem dX9_boat_110 : decode cX9_boat 110 = .ok (.getfield 64, 3) := by decide +kernel
theorem dX9_boat_113 : decode cX9_boat 113 = .ok (.aload_n 0, 1) := by decide +kernel
theorem dX9_boat_114 : decode cX9_boat 114 = .ok (.getfield 26, 3) := by decide +kernel
theorem dX9_boat_117 : decode cX9_boat 117 = .ok (.aload_n 0, 1) := by decide +kernel
theorem dX9_boat_118 : decode cX9_boat 118 = .ok (.getfield 100, 3) := by decide +kernel
theorem dX9_boat_121 : decode cX9_boat 121 = .ok (.invokevirtual 157, 3) := by decide +kernel
theorem dX9_boat_124 : decode cX9_boat 124 = .ok (.aload_n 0, 1) := by decide +kernel
theorem dX9_boat_125 : decode cX9_boat 125 = .ok (.getfield 64, 3) := by decide +kernel
theorem dX9_boat_128 : decode cX9_boat 128 = .ok (.iload_n 1, 1) := by decide +kernel
theorem dX9_boat_129 : decode cX9_boat 129 = .ok (.invokevirtual 161, 3) := by decide +kernel
theorem dX9_boat_132 : decode cX9_boat 132 = .ok (.ireturn, 1) := by decide +kernel
theorem dX9_boat_133 : decode cX9_boat 133 = .ok (.aload_n 0, 1) := by decide +kernel
theorem dX9_boat_134 : decode cX9_boat 134 = .ok (.getfield 64, 3) := by decide +kernel
theorem dX9_boat_137 : decode cX9_boat 137 = .ok (.aload_n 0, 1) := by decide +kernel
theorem dX9_boat_138 : decode cX9_boat 138 = .ok (.getfield 26, 3) := by decide +kernel
theorem dX9_boat_141 : decode cX9_boat 141 = .ok (.aload_n 0, 1) := by decide +kernel
theorem dX9_boat_142 : decode cX9_boat 142 = .ok (.getfield 100, 3) := by decide +kernel
theorem dX9_boat_145 : decode cX9_boat 145 = .ok (.invokevirtual 157, 3) := by decide +kernel
theorem dX9_boat_148 : decode cX9_boat 148 = .ok (.aload_n 0, 1) := by decide +kernel
theorem dX9_boat_149 : decode cX9_boat 149 = .ok (.getfield 64, 3) := by decide +kernel
theorem dX9_boat_152 : decode cX9_boat 152 = .ok (.iload_n 1, 1) := by decide +kernel
theorem dX9_boat_153 : decode cX9_boat 153 = .ok (.invokevirtual 164, 3) := by decide +kernel
theorem dX9_boat_156 : decode cX9_boat 156 = .ok (.ireturn, 1) := by decide +kernel
theorem dX9_boat_157 : decode cX9_boat 157 = .ok (.new 138, 3) := by decide +kernel
theorem dX9_boat_160 : decode cX9_boat 160 = .ok (.dup, 1) := by decide +kernel
theorem dX9_boat_161 : decode cX9_boat 161 = .ok (.ldc 167, 2) := by decide +kernel
theorem dX9_boat_163 : decode cX9_boat 163 = .ok (.invokespecial 142, 3) := by decide +kernel
theorem dX9_boat_166 : decode cX9_boat 166 = .ok (.athrow, 1) := by decide +kernel
theorem dX9_at_0 : decode cX9_at 0 = .ok (.aload_n 0, 1) := by decide +kernel
theorem dX9_at_1 : decode cX9_at 1 = .ok (.getfield 26, 3) := by decide +kernel
theorem dX9_at_4 : decode cX9_at 4 = .ok (.iload_n 1, 1) := by decide +kernel
theorem dX9_at_5 : decode cX9_at 5 = .ok (.invokevirtual 154, 3) := by decide +kernel
theorem dX9_at_8 : decode cX9_at 8 = .ok (.istore_n 2, 1) := by decide +kernel
theorem dX9_at_9 : decode cX9_at 9 = .ok (.iload_n 2, 1) := by decide +kernel
theorem dX9_at_10 : decode cX9_at 10 = .ok (.ifCond .ge 13, 3) := by decide +kernel
theorem dX9_at_13 : decode cX9_at 13 = .ok (.new 138, 3) := by decide +kernel
theorem dX9_at_16 : decode cX9_at 16 = .ok (.dup, 1) := by decide +kernel
theorem dX9_at_17 : decode cX9_at 17 = .ok (.ldc 169, 2) := by decide +kernel
theorem dX9_at_19 : decode cX9_at 19 = .ok (.invokespecial 142, 3) := by decide +kernel
theorem dX9_at_22 : decode cX9_at 22 = .ok (.athrow, 1) := by decide +kernel
theorem dX9_at_23 : decode cX9_at 23 = .ok (.iload_n 2, 1) := by decide +kernel
theorem dX9_at_24 : decode cX9_at 24 = .ok (.ireturn, 1) := by decide +kernel
theorem dX9_row_0 : decode cX9_row 0 = .ok (.iload_n 1, 1) := by decide +kernel
theorem dX9_row_1 : decode cX9_row 1 = .ok (.ifCond .lt 14, 3) := by decide +kernel
theorem dX9_row_4 : decode cX9_row 4 = .ok (.iload_n 1, 1) := by decide +kernel
theorem dX9_row_5 : decode cX9_row 5 = .ok (.aload_n 0, 1) := by decide +kernel
theorem dX9_row_6 : decode cX9_row 6 = .ok (.getfield 19, 3) := by decide +kernel
theorem dX9_row_9 : decode cX9_row 9 = .ok (.getfield 235, 3) := by decide +kernel
theorem dX9_row_12 : decode cX9_row 12 = .ok (.if_icmp .lt 14, 3) := by decide +kernel
theorem dX9_row_15 : decode cX9_row 15 = .ok (.new 138, 3) := by decide +kernel
theorem dX9_row_18 : decode cX9_row 18 = .ok (.dup, 1) := by decide +kernel
theorem dX9_row_19 : decode cX9_row 19 = .ok (.ldc_w 411, 3) := by decide +kernel
theorem dX9_row_22 : decode cX9_row 22 = .ok (.invokespecial 142, 3) := by decide +kernel
theorem dX9_row_25 : decode cX9_row 25 = .ok (.athrow, 1) := by decide +kernel
theorem dX9_row_26 : decode cX9_row 26 = .ok (.aload_n 0, 1) := by decide +kernel
theorem dX9_row_27 : decode cX9_row 27 = .ok (.getfield 19, 3) := by decide +kernel
theorem dX9_row_30 : decode cX9_row 30 = .ok (.getfield 413, 3) := by decide +kernel
theorem dX9_row_33 : decode cX9_row 33 = .ok (.iload_n 1, 1) := by decide +kernel
theorem dX9_row_34 : decode cX9_row 34 = .ok (.laload, 1) := by decide +kernel
theorem dX9_row_35 : decode cX9_row 35 = .ok (.lreturn, 1) := by decide +kernel
theorem cvX9_164 : CV RX9 164 yX3_toucherOf cX3_toucherOf 3 (some .int) 1 := ⟨(mem_t5 22 (by decide +kernel)), (mem_t5 23 (by decide +kernel)), (mem_t5 24 (by decide +kernel)), (mem_t1 7 (by decide +kernel)), (mem_t5 25 (by decide +kernel)), ⟨by decide +kernel, by decide +kernel, by decide +kernel⟩, by decide⟩
theorem fiX9_413 : FI RX9 413 5 0 1 := ⟨RX5, TX5, 2, rfl, by decide, (mem_t1 55 (by decide +kernel)), uwsX5, rfl⟩
theorem hX_ok {k K : Nat} (h : k + 1 ≤ K) : k + 1 ≤ (rmX K).frames ∧ 64 * (k + 1) ≤ (rmX K).locals ∧ 0 ≤ (rmX K).cells ∧ 0 ≤ (rmX K).slots := ⟨h, by show 64 * (k + 1) ≤ 64 * K; omega, Nat.zero_le _, Nat.zero_le _⟩
set_option maxHeartbeats 1000000 in
set_option maxRecDepth 10000 in
theorem vmX9_at (l : Launch) (hst : l.stackTraces = false) {G : GG} {B : Nat} {x1 : Int32} {M : Mem} {q : Option Int32 × Mem} (hf : gX9_at x1 M = some q) : vx_Met l yX9_at (wsG yX9_at cX9_at 3 (some .int)) (rmX (7)) (PcW Ph G B 205 M [.ref (B + 1), .int x1]) (QtI G B q) (XT G B q) 1 6 (fr B) := by
  refine mk_vx rfl rfl (Nat.le_of_ble_eq_true rfl) ?_
  intro p e s m below meth c ls cx hr hlk hex wo hl
  have hl : lv_has ls 3 [(0, .ref (B + 1)), (1, .int x1)] := hl
  unfold gX9_at at hf
  refine lv_aload_n cx.1 cx.2.1 dX9_at_0 rfl (lv_at hl 0 rfl) ?_
  refine r_getR cx wo ad_1.1 ad_1.2.1 ad_1.2.2 fiX9_26 (fn_1_2 wo.2.2.2.1) (by decide) dX9_at_1 ?_
  refine lv_iload_n cx.1 cx.2.1 dX9_at_4 rfl (lv_at hl 1 rfl) ?_
  obtain ⟨q1, e2, hf⟩ := bd_elim hf
  refine r_Vi (rest := []) cx wo (mX4_boatOn l (by decide) e2) cvX9_154 rfl ad_6.1 ad_6.2.1 ad_6.2.2 rfl rfl hl.1 rfl (Nat.le_of_ble_eq_true rfl) (hX_ok (by decide)) dX9_at_5 (fun H locs wo => ?_)
  refine lv_istore_n (lv' := [(2, .int q1.1), (0, .ref (B + 1)), (1, .int x1)]) cx.1 cx.2.1 dX9_at_8 rfl hl (by decide) rfl (fun ls hl => ?_)
  refine lv_iload_n cx.1 cx.2.1 dX9_at_9 rfl (lv_at hl 0 rfl) ?_
  refine lv_if_ge (tgt := 23) cx.1 cx.2.1 dX9_at_10 (by decide) (fun c3 => ?_) (fun c3 => ?_)
  · rw [if_neg (by intro h; exact absurd c3 (fun g => by rw [Int32.le_iff_toInt_le] at g; rw [Int32.lt_iff_toInt_lt] at h; omega))] at hf
    refine lv_iload_n cx.1 cx.2.1 dX9_at_23 rfl (lv_at hl 0 rfl) ?_
    have hq := Option.some.inj hf
    subst hq
    exact t_iret cx wo hr hlk dX9_at_24
  · rw [if_pos (by rw [Int32.lt_iff_toInt_lt]; rw [Int32.le_iff_toInt_le] at c3; omega)] at hf
    have hq := Option.some.inj hf
    subst hq
    exact r_thr (j := 7) hst cx wo rfl hl.1 dX9_at_13 dX9_at_16 dX9_at_17 dX9_at_19 dX9_at_22 (fun x hx => (hex x hx).elim) (by decide) (by decide) (by decide) (by decide) hlk
set_option maxHeartbeats 1000000 in
set_option maxRecDepth 10000 in
theorem vmX9_row (l : Launch) (hst : l.stackTraces = false) {G : GG} {B : Nat} {x1 : Int32} {M : Mem} {q : Option Int64 × Mem} (hf : gX9_row x1 M = some q) : vx_Met l yX9_row (wsG yX9_row cX9_row 2 (some .long)) (rmX (7)) (PcW Ph G B 205 M [.ref (B + 1), .int x1]) (QtJ G B q) (XT G B q) 1 6 (fr B) := by
  refine mk_vx rfl rfl (Nat.le_of_ble_eq_true rfl) ?_
  intro p e s m below meth c ls cx hr hlk hex wo hl
  have hl : lv_has ls 2 [(0, .ref (B + 1)), (1, .int x1)] := hl
  unfold gX9_row at hf
  refine lv_iload_n cx.1 cx.2.1 dX9_row_0 rfl (lv_at hl 1 rfl) ?_
  refine lv_if_lt (tgt := 15) cx.1 cx.2.1 dX9_row_1 (by decide) (fun c1 => ?_) (fun c1 => ?_)
  · rw [if_pos c1] at hf
    have hq := Option.some.inj hf
    subst hq
    exact r_thrW (j := 8) hst cx wo rfl hl.1 dX9_row_15 dX9_row_18 dX9_row_19 dX9_row_22 dX9_row_25 (fun x hx => (hex x hx).elim) (by decide) (by decide) (by decide) (by decide) hlk
  · rw [if_neg c1] at hf
    refine lv_iload_n cx.1 cx.2.1 dX9_row_4 rfl (lv_at hl 1 rfl) ?_
    refine lv_aload_n cx.1 cx.2.1 dX9_row_5 rfl (lv_at hl 0 rfl) ?_
    refine r_getR cx wo ad_1.1 ad_1.2.1 ad_1.2.2 fiX9_19 (fn_1_1 wo.2.2.2.1) (by decide) dX9_row_6 ?_
    refine r_getI cx wo ad_4.1 ad_4.2.1 ad_4.2.2 fiX9_235 dX9_row_9 ?_
    refine lv_icmp_lt (tgt := 26) cx.1 cx.2.1 dX9_row_12 (by decide) (fun c2 => ?_) (fun c2 => ?_)
    · rw [if_neg (by intro h; rw [Int32.lt_iff_toInt_lt] at c2; rw [Int32.le_iff_toInt_le] at h; omega)] at hf
      refine lv_aload_n cx.1 cx.2.1 dX9_row_26 rfl (lv_at hl 0 rfl) ?_
      refine r_getR cx wo ad_1.1 ad_1.2.1 ad_1.2.2 fiX9_19 (fn_1_1 wo.2.2.2.1) (by decide) dX9_row_27 ?_
      refine r_getR cx wo ad_4.1 ad_4.2.1 ad_4.2.2 fiX9_413 (fn_4_0 wo.2.2.2.1) (by decide) dX9_row_30 ?_
      refine lv_iload_n cx.1 cx.2.1 dX9_row_33 rfl (lv_at hl 1 rfl) ?_
      obtain ⟨g6, hf⟩ := gd_elim hf
      refine r_lald cx wo ad_5.1 ad_5.2.1 ad_5.2.2 (by rw [ln_5]; exact g6) dX9_row_34 ?_
      have hq := Option.some.inj hf
      subst hq
      exact t_lret cx wo hr hlk dX9_row_35
    · rw [if_pos (by rw [Int32.le_iff_toInt_le]; rw [Int32.lt_iff_toInt_lt] at c2; omega)] at hf
      have hq := Option.some.inj hf
      subst hq
      exact r_thrW (j := 8) hst cx wo rfl hl.1 dX9_row_15 dX9_row_18 dX9_row_19 dX9_row_22 dX9_row_25 (fun x hx => (hex x hx).elim) (by decide) (by decide) (by decide) (by decide) hlk
set_option maxHeartbeats 1000000 in
set_option maxRecDepth 10000 in
theorem vmX9_boat (l : Launch) (hst : l.stackTraces = false) {G : GG} {B : Nat} {x1 x2 : Int32} {M : Mem} {q : Option Int32 × Mem} (hf : gX9_boat x1 x2 M = some q) : vx_Met l yX9_boat (wsG yX9_boat cX9_boat 3 (some .int)) (rmX (8)) (PcW Ph G B 205 M [.ref (B + 1), .int x1, .int x2]) (QtI G B q) (XT G B q) 1 6 (fr B) := by
  refine mk_vx rfl rfl (Nat.le_of_ble_eq_true rfl) ?_
  intro p e s m below meth c ls cx hr hlk hex wo hl
  have hl : lv_has ls 3 [(0, .ref (B + 1)), (1, .int x1), (2, .int x2)] := hl
  unfold gX9_boat at hf
  refine lv_aload_n cx.1 cx.2.1 dX9_boat_0 rfl (lv_at hl 0 rfl) ?_
  refine r_getR cx wo ad_1.1 ad_1.2.1 ad_1.2.2 fiX9_26 (fn_1_2 wo.2.2.2.1) (by decide) dX9_boat_1 ?_
  refine lv_iload_n cx.1 cx.2.1 dX9_boat_4 rfl (lv_at hl 1 rfl) ?_
  obtain ⟨q1, e2, hf⟩ := bd_elim hf
  refine r_Vi (rest := []) cx wo (mX4_has l (by decide) e2) cvX9_134 rfl ad_6.1 ad_6.2.1 ad_6.2.2 rfl rfl hl.1 rfl (Nat.le_of_ble_eq_true rfl) (hX_ok (by decide)) dX9_boat_5 (fun H locs wo => ?_)
  refine lv_if_ne (tgt := 21) cx.1 cx.2.1 dX9_boat_8 (by decide) (fun c3 => ?_) (fun c3 => ?_)
  · rw [if_neg c3] at hf
    refine lv_iload_n cx.1 cx.2.1 dX9_boat_21 rfl (lv_at hl 2 rfl) ?_
    by_cases k0 : x2 = 0
    · refine r_tin (tgt := 60) cx k0 dX9_boat_22 (by decide) (by decide) rfl (by decide) ?_
      rw [if_pos k0] at hf
      refine lv_aload_n cx.1 cx.2.1 dX9_boat_60 rfl (lv_at hl 0 rfl) ?_
      refine r_getR cx wo ad_1.1 ad_1.2.1 ad_1.2.2 fiX9_26 (fn_1_2 wo.2.2.2.1) (by decide) dX9_boat_61 ?_
      refine r_getR cx wo ad_6.1 ad_6.2.1 ad_6.2.2 fiX9_145 (fn_6_1 wo.2.2.2.1) (by decide) dX9_boat_64 ?_
      refine lv_iload_n cx.1 cx.2.1 dX9_boat_67 rfl (lv_at hl 1 rfl) ?_
      obtain ⟨g6, hf⟩ := gd_elim hf
      refine r_iald cx wo ad_7.1 ad_7.2.1 ad_7.2.2 (by rw [ln_7]; exact g6) dX9_boat_68 ?_
      have hq := Option.some.inj hf
      subst hq
      exact t_iret cx wo hr hlk dX9_boat_69
    · rw [if_neg k0] at hf
      by_cases k1 : x2 = 1
      · refine r_tin (tgt := 70) cx k1 dX9_boat_22 (by decide) (by decide) rfl (by decide) ?_
        rw [if_pos k1] at hf
        refine lv_aload_n cx.1 cx.2.1 dX9_boat_70 rfl (lv_at hl 0 rfl) ?_
        refine r_getR cx wo ad_1.1 ad_1.2.1 ad_1.2.2 fiX9_26 (fn_1_2 wo.2.2.2.1) (by decide) dX9_boat_71 ?_
        refine r_getR cx wo ad_6.1 ad_6.2.1 ad_6.2.2 fiX9_148 (fn_6_2 wo.2.2.2.1) (by decide) dX9_boat_74 ?_
        refine lv_iload_n cx.1 cx.2.1 dX9_boat_77 rfl (lv_at hl 1 rfl) ?_
        obtain ⟨g6, hf⟩ := gd_elim hf
        refine r_iald cx wo ad_8.1 ad_8.2.1 ad_8.2.2 (by rw [ln_8]; exact g6) dX9_boat_78 ?_
        have hq := Option.some.inj hf
        subst hq
        exact t_iret cx wo hr hlk dX9_boat_79
      · rw [if_neg k1] at hf
        by_cases k2 : x2 = 2
        · refine r_tin (tgt := 80) cx k2 dX9_boat_22 (by decide) (by decide) rfl (by decide) ?_
          rw [if_pos k2] at hf
          refine lv_aload_n cx.1 cx.2.1 dX9_boat_80 rfl (lv_at hl 0 rfl) ?_
          refine r_getR cx wo ad_1.1 ad_1.2.1 ad_1.2.2 fiX9_26 (fn_1_2 wo.2.2.2.1) (by decide) dX9_boat_81 ?_
          refine r_getR cx wo ad_6.1 ad_6.2.1 ad_6.2.2 fiX9_151 (fn_6_3 wo.2.2.2.1) (by decide) dX9_boat_84 ?_
          refine lv_iload_n cx.1 cx.2.1 dX9_boat_87 rfl (lv_at hl 1 rfl) ?_
          obtain ⟨g6, hf⟩ := gd_elim hf
          refine r_iald cx wo ad_9.1 ad_9.2.1 ad_9.2.2 (by rw [ln_9]; exact g6) dX9_boat_88 ?_
          have hq := Option.some.inj hf
          subst hq
          exact t_iret cx wo hr hlk dX9_boat_89
        · rw [if_neg k2] at hf
          by_cases k3 : x2 = 3
          · refine r_tin (tgt := 90) cx k3 dX9_boat_22 (by decide) (by decide) rfl (by decide) ?_
            rw [if_pos k3] at hf
            refine lv_aload_n cx.1 cx.2.1 dX9_boat_90 rfl (lv_at hl 0 rfl) ?_
            refine r_getR cx wo ad_1.1 ad_1.2.1 ad_1.2.2 fiX9_26 (fn_1_2 wo.2.2.2.1) (by decide) dX9_boat_91 ?_
            refine lv_aload_n cx.1 cx.2.1 dX9_boat_94 rfl (lv_at hl 0 rfl) ?_
            refine r_getR cx wo ad_1.1 ad_1.2.1 ad_1.2.2 fiX9_26 (fn_1_2 wo.2.2.2.1) (by decide) dX9_boat_95 ?_
            refine r_getR cx wo ad_6.1 ad_6.2.1 ad_6.2.2 fiX9_151 (fn_6_3 wo.2.2.2.1) (by decide) dX9_boat_98 ?_
            refine lv_iload_n cx.1 cx.2.1 dX9_boat_101 rfl (lv_at hl 1 rfl) ?_
            obtain ⟨g6, hf⟩ := gd_elim hf
            refine r_iald cx wo ad_9.1 ad_9.2.1 ad_9.2.2 (by rw [ln_9]; exact g6) dX9_boat_102 ?_
            refine lv_iconst (v := 1) cx.1 cx.2.1 dX9_boat_103 (by decide) ?_
            refine lv_isub cx.1 cx.2.1 dX9_boat_104 ?_
            obtain ⟨q7, e8, hf⟩ := bd_elim hf
            refine r_Vi (rest := []) cx wo (mX4_boatOn l (by decide) e8) cvX9_154 rfl ad_6.1 ad_6.2.1 ad_6.2.2 rfl rfl hl.1 rfl (Nat.le_of_ble_eq_true rfl) (hX_ok (by decide)) dX9_boat_105 (fun H locs wo => ?_)
            have hq := Option.some.inj hf
            subst hq
            exact t_iret cx wo hr hlk dX9_boat_108
          · rw [if_neg k3] at hf
            by_cases k4 : x2 = 4
            · refine r_tin (tgt := 109) cx k4 dX9_boat_22 (by decide) (by decide) rfl (by decide) ?_
              rw [if_pos k4] at hf
              refine lv_aload_n cx.1 cx.2.1 dX9_boat_109 rfl (lv_at hl 0 rfl) ?_
              refine r_getR cx wo ad_1.1 ad_1.2.1 ad_1.2.2 fiX9_64 (fn_1_10 wo.2.2.2.1) (by decide) dX9_boat_110 ?_
              refine lv_aload_n cx.1 cx.2.1 dX9_boat_113 rfl (lv_at hl 0 rfl) ?_
              refine r_getR cx wo ad_1.1 ad_1.2.1 ad_1.2.2 fiX9_26 (fn_1_2 wo.2.2.2.1) (by decide) dX9_boat_114 ?_
              refine lv_aload_n cx.1 cx.2.1 dX9_boat_117 rfl (lv_at hl 0 rfl) ?_
              have hm1 : q1.2.2.2 1 17 ∈ rules := wo.2.2.2.1.2.2.1
              refine r_getR cx wo ad_1.1 ad_1.2.1 ad_1.2.2 fiX9_100 rfl (rul_ok _ hm1).1.1 dX9_boat_118 ?_
              obtain ⟨q3, e4, hf⟩ := bd_elim hf
              refine r_Vv (rest := []) cx wo (mX3_run l (by decide) hm1 e4) cvX9_157 rfl ad_108.1 ad_108.2.1 ad_108.2.2 rfl rfl hl.1 rfl (Nat.le_of_ble_eq_true rfl) (hX_ok (by decide)) dX9_boat_121 (fun H locs wo => ?_)
              refine lv_aload_n cx.1 cx.2.1 dX9_boat_124 rfl (lv_at hl 0 rfl) ?_
              refine r_getR cx wo ad_1.1 ad_1.2.1 ad_1.2.2 fiX9_64 (fn_1_10 wo.2.2.2.1) (by decide) dX9_boat_125 ?_
              refine lv_iload_n cx.1 cx.2.1 dX9_boat_128 rfl (lv_at hl 1 rfl) ?_
              obtain ⟨q5, e6, hf⟩ := bd_elim hf
              refine r_Vi (rest := []) cx wo (mX3_touchedBy l e6) cvX9_161 rfl ad_108.1 ad_108.2.1 ad_108.2.2 rfl rfl hl.1 rfl (Nat.le_of_ble_eq_true rfl) (hX_ok (by decide)) dX9_boat_129 (fun H locs wo => ?_)
              have hq := Option.some.inj hf
              subst hq
              exact t_iret cx wo hr hlk dX9_boat_132
            · rw [if_neg k4] at hf
              by_cases k5 : x2 = 5
              · refine r_tin (tgt := 133) cx k5 dX9_boat_22 (by decide) (by decide) rfl (by decide) ?_
                rw [if_pos k5] at hf
                refine lv_aload_n cx.1 cx.2.1 dX9_boat_133 rfl (lv_at hl 0 rfl) ?_
                refine r_getR cx wo ad_1.1 ad_1.2.1 ad_1.2.2 fiX9_64 (fn_1_10 wo.2.2.2.1) (by decide) dX9_boat_134 ?_
                refine lv_aload_n cx.1 cx.2.1 dX9_boat_137 rfl (lv_at hl 0 rfl) ?_
                refine r_getR cx wo ad_1.1 ad_1.2.1 ad_1.2.2 fiX9_26 (fn_1_2 wo.2.2.2.1) (by decide) dX9_boat_138 ?_
                refine lv_aload_n cx.1 cx.2.1 dX9_boat_141 rfl (lv_at hl 0 rfl) ?_
                have hm1 : q1.2.2.2 1 17 ∈ rules := wo.2.2.2.1.2.2.1
                refine r_getR cx wo ad_1.1 ad_1.2.1 ad_1.2.2 fiX9_100 rfl (rul_ok _ hm1).1.1 dX9_boat_142 ?_
                obtain ⟨q3, e4, hf⟩ := bd_elim hf
                refine r_Vv (rest := []) cx wo (mX3_run l (by decide) hm1 e4) cvX9_157 rfl ad_108.1 ad_108.2.1 ad_108.2.2 rfl rfl hl.1 rfl (Nat.le_of_ble_eq_true rfl) (hX_ok (by decide)) dX9_boat_145 (fun H locs wo => ?_)
                refine lv_aload_n cx.1 cx.2.1 dX9_boat_148 rfl (lv_at hl 0 rfl) ?_
                refine r_getR cx wo ad_1.1 ad_1.2.1 ad_1.2.2 fiX9_64 (fn_1_10 wo.2.2.2.1) (by decide) dX9_boat_149 ?_
                refine lv_iload_n cx.1 cx.2.1 dX9_boat_152 rfl (lv_at hl 1 rfl) ?_
                obtain ⟨q5, e6, hf⟩ := bd_elim hf
                refine r_Vi (rest := []) cx wo (mX3_toucherOf l e6) cvX9_164 rfl ad_108.1 ad_108.2.1 ad_108.2.2 rfl rfl hl.1 rfl (Nat.le_of_ble_eq_true rfl) (hX_ok (by decide)) dX9_boat_153 (fun H locs wo => ?_)
                have hq := Option.some.inj hf
                subst hq
                exact t_iret cx wo hr hlk dX9_boat_156
              · rw [if_neg k5] at hf
                have nc0 := i_ne (n := 0) k0 (by decide)
                have mc0 : ¬ (0 : Int) = x2.toInt := fun h => nc0 h.symm
                have nc1 := i_ne (n := 1) k1 (by decide)
                have mc1 : ¬ (1 : Int) = x2.toInt := fun h => nc1 h.symm
                have nc2 := i_ne (n := 2) k2 (by decide)
                have mc2 : ¬ (2 : Int) = x2.toInt := fun h => nc2 h.symm
                have nc3 := i_ne (n := 3) k3 (by decide)
                have mc3 : ¬ (3 : Int) = x2.toInt := fun h => nc3 h.symm
                have nc4 := i_ne (n := 4) k4 (by decide)
                have mc4 : ¬ (4 : Int) = x2.toInt := fun h => nc4 h.symm
                have nc5 := i_ne (n := 5) k5 (by decide)
                have mc5 : ¬ (5 : Int) = x2.toInt := fun h => nc5 h.symm
                refine lv_tableOut (tgt := 157) cx.1 cx.2.1 dX9_boat_22 (by omega) (by decide) ?_
                have hq := Option.some.inj hf
                subst hq
                exact r_thr (j := 6) hst cx wo rfl hl.1 dX9_boat_157 dX9_boat_160 dX9_boat_161 dX9_boat_163 dX9_boat_166 (fun x hx => (hex x hx).elim) (by decide) (by decide) (by decide) (by decide) hlk
  · have c3 : q1.1 = 0 := c3
    rw [if_pos c3] at hf
    have hq := Option.some.inj hf
    subst hq
    exact r_thr (j := 5) hst cx wo rfl hl.1 dX9_boat_11 dX9_boat_14 dX9_boat_15 dX9_boat_17 dX9_boat_20 (fun x hx => (hex x hx).elim) (by decide) (by decide) (by decide) (by decide) hlk
