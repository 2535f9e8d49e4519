/-! the law's own calls of boat, at, row -/
abbrev wsH (y : MethodName) (bytes : ByteArray) (maxL : Nat) (ret : Option FieldType) (hh : List (Nat × Nat × Nat × Nat)) : List Cond := Cond.codeWith y bytes maxL ret hh :: gtbl
theorem dL_boat_0 : decode cL_boat 0 = .ok (.aload_n 3, 1) := by decide +kernel
theorem dL_boat_1 : decode cL_boat 1 = .ok (.iconst 0, 1) := by decide +kernel
theorem dL_boat_2 : decode cL_boat 2 = .ok (.aload_n 0, 1) := by decide +kernel
theorem dL_boat_3 : decode cL_boat 3 = .ok (.iload_n 1, 1) := by decide +kernel
theorem dL_boat_4 : decode cL_boat 4 = .ok (.iload_n 2, 1) := by decide +kernel
theorem dL_boat_5 : decode cL_boat 5 = .ok (.invokevirtual 7, 3) := by decide +kernel
theorem dL_boat_8 : decode cL_boat 8 = .ok (.i2l, 1) := by decide +kernel
theorem dL_boat_9 : decode cL_boat 9 = .ok (.lastore, 1) := by decide +kernel
theorem dL_boat_10 : decode cL_boat 10 = .ok (.goto 7, 3) := by decide +kernel
theorem dL_boat_13 : decode cL_boat 13 = .ok (.astore 4, 2) := by decide +kernel
theorem dL_boat_15 : decode cL_boat 15 = .ok (.iconst 1, 1) := by decide +kernel
theorem dL_boat_16 : decode cL_boat 16 = .ok (.ireturn, 1) := by decide +kernel
theorem dL_boat_17 : decode cL_boat 17 = .ok (.iconst 0, 1) := by decide +kernel
theorem dL_boat_18 : decode cL_boat 18 = .ok (.ireturn, 1) := by decide +kernel
theorem dL_at_0 : decode cL_at 0 = .ok (.aload_n 2, 1) := by decide +kernel
theorem dL_at_1 : decode cL_at 1 = .ok (.iconst 0, 1) := by decide +kernel
theorem dL_at_2 : decode cL_at 2 = .ok (.aload_n 0, 1) := by decide +kernel
theorem dL_at_3 : decode cL_at 3 = .ok (.iload_n 1, 1) := by decide +kernel
theorem dL_at_4 : decode cL_at 4 = .ok (.invokevirtual 15, 3) := by decide +kernel
theorem dL_at_7 : decode cL_at 7 = .ok (.i2l, 1) := by decide +kernel
theorem dL_at_8 : decode cL_at 8 = .ok (.lastore, 1) := by decide +kernel
theorem dL_at_9 : decode cL_at 9 = .ok (.goto 6, 3) := by decide +kernel
theorem dL_at_12 : decode cL_at 12 = .ok (.astore_n 3, 1) := by decide +kernel
theorem dL_at_13 : decode cL_at 13 = .ok (.iconst 1, 1) := by decide +kernel
theorem dL_at_14 : decode cL_at 14 = .ok (.ireturn, 1) := by decide +kernel
theorem dL_at_15 : decode cL_at 15 = .ok (.iconst 0, 1) := by decide +kernel
theorem dL_at_16 : decode cL_at 16 = .ok (.ireturn, 1) := by decide +kernel
theorem dL_row_0 : decode cL_row 0 = .ok (.aload_n 2, 1) := by decide +kernel
theorem dL_row_1 : decode cL_row 1 = .ok (.iconst 0, 1) := by decide +kernel
theorem dL_row_2 : decode cL_row 2 = .ok (.aload_n 0, 1) := by decide +kernel
theorem dL_row_3 : decode cL_row 3 = .ok (.iload_n 1, 1) := by decide +kernel
theorem dL_row_4 : decode cL_row 4 = .ok (.invokevirtual 19, 3) := by decide +kernel
theorem dL_row_7 : decode cL_row 7 = .ok (.lastore, 1) := by decide +kernel
theorem dL_row_8 : decode cL_row 8 = .ok (.goto 6, 3) := by decide +kernel
theorem dL_row_11 : decode cL_row 11 = .ok (.astore_n 3, 1) := by decide +kernel
theorem dL_row_12 : decode cL_row 12 = .ok (.iconst 1, 1) := by decide +kernel
theorem dL_row_13 : decode cL_row 13 = .ok (.ireturn, 1) := by decide +kernel
theorem dL_row_14 : decode cL_row 14 = .ok (.iconst 0, 1) := by decide +kernel
theorem dL_row_15 : decode cL_row 15 = .ok (.ireturn, 1) := by decide +kernel
theorem cvL_7 : CV RL 7 yX9_boat cX9_boat 3 (some .int) 2 := ⟨(mem_t4 192 (by decide +kernel)), (mem_t4 193 (by decide +kernel)), (mem_t4 194 (by decide +kernel)), (mem_t1 1 (by decide +kernel)), (mem_t4 195 (by decide +kernel)), ⟨by decide +kernel, by decide +kernel, by decide +kernel⟩, by decide⟩
theorem cvL_15 : CV RL 15 yX9_at cX9_at 3 (some .int) 1 := ⟨(mem_t5 30 (by decide +kernel)), (mem_t5 31 (by decide +kernel)), (mem_t5 32 (by decide +kernel)), (mem_t1 1 (by decide +kernel)), (mem_t5 33 (by decide +kernel)), ⟨by decide +kernel, by decide +kernel, by decide +kernel⟩, by decide⟩
theorem cvL_19 : CV RL 19 yX9_row cX9_row 2 (some .long) 1 := ⟨(mem_t5 38 (by decide +kernel)), (mem_t5 39 (by decide +kernel)), (mem_t5 40 (by decide +kernel)), (mem_t1 1 (by decide +kernel)), (mem_t5 41 (by decide +kernel)), ⟨by decide +kernel, by decide +kernel, by decide +kernel⟩, by decide⟩
def lwI (q : Option Int32 × Mem) : Mem := match q.1 with
  | some v => sJ q.2 205 0 v.toInt64
  | none => q.2
def lwJ (q : Option Int64 × Mem) : Mem := match q.1 with
  | some v => sJ q.2 205 0 v
  | none => q.2
theorem ad_205 : 205 ≠ 0 ∧ 205 ≤ 205 ∧ (sh 205).1 = 2 := by decide +kernel
def XF : String → State → State → Prop := vx_X (S := Unit) (fun _ => False) (fun _ _ _ => True) (fun _ : Nat => False)
theorem goodIn_h {y : MethodName} {bytes : ByteArray} {maxL : Nat} {ret : Option FieldType} {hh : List (Nat × Nat × Nat × Nat)} (h : Cond.codeWith y bytes maxL ret hh ∈ gtbl) : GoodIn gtbl (wsH y bytes maxL ret hh) := fun w hw => by
  rcases List.mem_cons.mp hw with e | e
  · rw [e]; exact ⟨h, good_of_word (good_g h)⟩
  · exact ⟨e, good_of_word (good_g e)⟩
section CatchOne
variable {p : Program} {l : Launch} {e : Env} {R : Room} {s : State} {m : MethodId} {args : Array Value} {below : List Frame} {meth : Method} {c : Code} {H : Heap} {locs : List Loc} {cells slots : Nat} {pc : Nat} {ls : Array Slot} {rest : List Value} {Q : State → Prop}
/-- the search sees the tables that the first covering entry's own class leaves -/
theorem ct_sees {S : State} {f : JFrame} {a : Addr} {x : ExceptionTableEntry} {tl : List ExceptionTableEntry} {k : ClassId} {vm' : Vm} (hx : covers x f.pc = true) (h0 : x.catchType ≠ 0)
    (hg : (Jvm.resolveClass f.method.cls x.catchType).Gives e.toSetting S.vm (.ok k) vm') (hr : vm'.classReady f.method.cls x.catchType k) (hsz : vm'.classes.size ≤ S.vm.classes.size)
    (P : Handler → Pre) (E : CtlPost) (d : Bool) (acts : List Action) : wp (findHandler.go f a (x :: tl)) P E e d acts S ↔ wp (findHandler.go f a (x :: tl)) P E e d acts (S.setVm vm') := by
  obtain ⟨k9, hk9, hm9⟩ := hr
  obtain ⟨h1, h2⟩ := hg.op (op := VmOp.resolveClass f.method.cls x.catchType) rfl
  have hy : (decide (x.startPc ≤ f.pc) && decide (f.pc < x.endPc)) = true := hx
  have e9 : (S.setVm vm').setVm vm' = S.setVm vm' := rfl
  rw [findHandler.go, if_pos hy, if_neg (by simpa using h0)]
  simp [h1, h2, hsz, resolveClass_memo e hk9 hm9, VmOp.dirties, VmOp.acts, e9]
/-- a step of the unwinding whose search sees other tables, and finds there -/
theorem ct_step {S : State} {f : JFrame} {a : Addr} {F : List Frame} {j : Nat} {vm' : Vm} (hs : ∀ (P : Handler → Pre) (E : CtlPost) (d : Bool) (acts : List Action), wp (findHandler f a) P E e d acts S ↔ wp (findHandler f a) P E e d acts (S.setVm vm'))
    (hf : Finds e (S.setVm vm') f a (.found j)) : (stepThrowing e S a (.java f :: F)).1 = (S.setVm vm').setFrames (.java { f with pc := j, stack := [.ref a] } :: F) := by
  have hd : stepThrowing e S a (.java f :: F) = searchFrame e S [] a f f F := rfl
  rw [hd]
  unfold searchFrame vmDo
  generalize hg : Sem.go _ e false [] S = res
  obtain ⟨z, rfl, -⟩ := Sem.eq_ok_of hg (a := Handler.found j) (s' := S.setVm vm') (acts' := []) (by simp [hs, hf _ _ _ _])
  rfl
theorem vx_catch {own name : String} {E : String} {ce : Cell} {q : Addr} (hown : s.vm.findClass own = some m.cls) (x : ExceptionTableEntry) (ht : c.exceptionTable.toList = [x]) (hx : covers x pc = true) (h0 : x.catchType ≠ 0)
    (hlink : (Cond.classLink own x.catchType name).before args s = true) (hcast : (Cond.castable E name).before args s = true) (hcell : H[q]? = some ce) (hv : ce.vm = .none) (hcl : s.vm.findClass E = some ce.cls)
    (kk : W p l e R s m args below meth c H locs cells slots Q (F0 m x.handlerPc ls [.ref q])) : vx_W p l e R s m args below meth c H locs cells slots Q (F0 m pc ls rest) q := by
  intro T hT X
  obtain ⟨k1, k2, a1, a2, a3⟩ := Cond.castable_spec hcast
  obtain ⟨k3, b1, b2⟩ := Cond.classLink_spec hown hlink e.platform (by rw [X.admits.platform])
  cases hcl.symm.trans a1
  cases a2.symm.trans b1
  obtain ⟨g1, g2, g3⟩ := State.classEntry (e := e) X.warmed b2
  have hz : (T.vm.noted m.cls x.catchType (.cls k2)).classes.size ≤ T.vm.classes.size := by no_record
  generalize T.vm.noted m.cls x.catchType (.cls k2) = vm9 at g1 g2 g3 hz
  obtain ⟨t, ht1, ht2⟩ := kk (T.setVm vm9) hT (X.noted g2)
  refine ⟨t, ?_, ht2⟩
  have hvS : ((T.setTop (F0 m pc ls rest)).pushFrame (.throwing q)).vm = T.vm := Stand.throwing_vm T _ q
  have hhS : ((T.setTop (F0 m pc ls rest)).pushFrame (.throwing q)).heap = H := (Stand.throwing_heap T _ q).trans hT
  obtain ⟨g0, hg0⟩ := Option.isSome_iff_exists.mp X.here.top
  obtain ⟨F, hF⟩ := State.topJava?_eq_some.mp hg0
  have hin : ∀ L : List Frame, (((T.setTop (F0 m pc ls rest)).pushFrame (.throwing q)).setVm vm9).setFrames L = (T.setVm vm9).setFrames L := by
    intro L
    rw [State.pushFrame, State.setTop_of_frames _ hF, State.setFrames_setFrames]
    show ((T.setFrames _).setFrames L).setVm vm9 = (T.setFrames L).setVm vm9
    rw [State.setFrames_setFrames]
  rw [State.setTop_of_frames (s := T.setVm vm9) _ (show (T.setVm vm9).frames = _ from hF)] at ht1
  obtain ⟨z1, z2⟩ := At.throwing (g := F0 m pc ls rest) X.here q
  have hfr := frames_entered (g := F0 m pc ls rest) X.here.top (.throwing q)
  rw [hF] at hfr
  refine Steps.head z1 z2 ?_
  generalize (T.setTop (F0 m pc ls rest)).pushFrame (.throwing q) = S at hvS hhS hin hfr ⊢
  rw [stepThread_throwing hfr]
  have m1 : S.vm.method? m = some meth := by rw [hvS]; exact X.warmed.methodAt X.method
  have m2 : vm9.method? m = some meth := g2.methodAt X.method
  have hs : ∀ (P : Handler → Pre) (E : CtlPost) (d : Bool) (acts : List Action), wp (findHandler (F0 m pc ls rest) q) P E e d acts S ↔ wp (findHandler (F0 m pc ls rest) q) P E e d acts (S.setVm vm9) := by
    intro P E d acts
    rw [Jvm.W.findHandler_eq (f := F0 m pc ls rest) m1 X.code, Jvm.W.findHandler_eq (f := F0 m pc ls rest) (s := S.setVm vm9) m2 X.code, ht]
    exact ct_sees (f := F0 m pc ls rest) hx h0 (by rw [hvS]; exact g1) g3 (by rw [hvS]; exact hz) P E d acts
  have n1 : vm9.findClass E = some ce.cls := by rw [g2.alike.findClass]; exact hcl
  have n2 : vm9.findClass name = some k2 := by rw [g2.alike.findClass]; exact a2
  have n3 : vm9.assignable ce.cls k2 = true := by rw [g2.alike.assignable]; exact a3
  have n4 : (S.setVm vm9).heap[q]? = some ce := by show S.heap[q]? = _; rw [hhS]; exact hcell
  have hf : Finds e (S.setVm vm9) (F0 m pc ls rest) q (.found x.handlerPc) :=
    Finds.catchReady (f := F0 m pc ls rest) (s := S.setVm vm9) m2 X.code [] x [] ht (fun y hy => nomatch hy) hx h0 g3 n4 (fun k => by rw [hv]; nofun)
      (Vm.classAt_of_findClass n1) (Vm.classAt_of_findClass n2) n3
  rw [List.tail_cons, ct_step hs hf, hin]
  exact ht1
end CatchOne
section LawCalls
variable {p : Program} {l : Launch} {e : Env} {R : Room} {s : State} {m : MethodId} {args : Array Value} {below : List Frame} {meth : Method} {c : Code} {H : Heap} {locs : List Loc} {cells slots : Nat} {cc : ByteArray} {pc nL : Nat} {ls : Array Slot} {rest st : List Value} {own : String} {G : GG} {B : Nat} {M : Mem} {a ci k idx n : Nat} {Q : State → Prop}
variable {y : MethodName} {bytes : ByteArray} {maxL : Nat} {ret : Option FieldType} {As : List Value}
theorem x_run {Qc : Array Value → State → Outcome → State → Prop} {XC : String → State → State → Prop} (cx : Cx p s m args c cc nL own G) (wo : Wo Ph G B 205 s M H locs) (hM : vx_Met l y (wsG y bytes maxL ret) (rmX k) (PcW Ph G B 205 M (.ref (B + a) :: As)) Qc XC 1 6 (fr B)) (cv : CV own idx y bytes maxL ret n) (hn : As.length = n) (h0 : a ≠ 0) (hN : a ≤ 205) (hs : (sh a).1 = ci + 10) {q : vw_C} (hc : vwCl[ci]? = some q) (hq : q.1 = y.cls) (hls : ls.size = nL) (hst : st = As.reverse ++ .ref (B + a) :: rest) (hrest : (rest.map fun v => v.category).sum ≤ 8) (hR : k + 1 ≤ R.frames ∧ 64 * (k + 1) ≤ R.locals ∧ cells + 1 ≤ R.cells ∧ slots + 6 ≤ R.slots) (hdg : decode cc pc = .ok (.invokevirtual idx, 3)) :
    vx_Run p l e R s m args below meth c H locs cells slots 1 6 (F0 m pc ls st) rest (Qc (Value.ref (B + a) :: As).toArray) XC (fr B) := by
  obtain ⟨hx, hb, hml, hown, hts, hK⟩ := cx
  obtain ⟨c1, c2, c3, c4, c5, c6, c7⟩ := cv
  refine vx_runV (own := own) (C := y.cls) (index := idx) (y := y) (bytes := bytes) (maxL := maxL) (ret := ret) (n := n) ⟨hx, hb, hml, hown, hts⟩ hM ?_ ⟨blind_W, ?_, fun U hU hW => ⟨rfl, ⟨by rw [hU]; exact wo.1, va_K.moved hW.alike hK, wo.2.2.2.1, ex_go wo.2.2.2.2 wo.2.1 hU hW⟩, by rw [hU]; exact Nat.lt_of_lt_of_le wo.2.2.1 wo.2.1.1⟩⟩ rfl hn hls hst (lv_room hrest) hdg ⟨hR.2.2.1, hR.2.2.2⟩
  · exact ⟨callB_of n hts (goodIn_g c5) rfl rfl rfl (hts _ c4) (hts _ c1) c6 ⟨hR.1, by have := hR.2.1; show 8 + (maxL + 11) + 64 * k ≤ R.locals; omega⟩, hts _ c2, hts _ c3⟩
  · obtain ⟨cell, g1, g2, g3⟩ := va_recv hK wo.1 hc (q0 := a - 1) (by rw [wl_get h0 hN, ce_o hs])
    exact ⟨cell, g1, g2, by rw [← hq]; exact g3⟩
theorem x_Vi {q : Option Int32 × Mem} (cx : Cx p s m args c cc nL own G) (wo : Wo Ph G B 205 s M H locs)
    (hr : vx_Run p l e R s m args below meth c H locs cells slots 1 6 (F0 m pc ls st) rest (QtI G B q (Value.ref (B + a) :: As).toArray) (XT G B q) (fr B))
    (kx : q.1 = none → ∀ (ce : Cell) (q9 : Addr) (H1 : Heap) (locs1 : List Loc), Wo Ph G B 205 s q.2 H1 locs1 → H1[q9]? = some ce → ce.vm = .none → s.vm.findClass NSE = some ce.cls → vx_W p l e R s m args below meth c H1 locs1 (cells + 1) (slots + 6) Q (F0 m pc ls rest) q9)
    (kk : ∀ v : Int32, q.1 = some v → ∀ (H1 : Heap) (locs1 : List Loc), Wo Ph G B 205 s q.2 H1 locs1 → W p l e R s m args below meth c H1 locs1 (cells + 1) (slots + 6) Q (F0 m (pc + 3) ls (.int v :: rest))) : W p l e R s m args below meth c H locs cells slots Q (F0 m pc ls st) :=
  vx_calli hr wo.2.1 (fun q _ h => h) (fun q h => h) (fun q _ h => h)
    (fun E ce q9 u t H1 locs1 ht hvm hp hB hz hk hS h1 h2 h3 => by
      obtain ⟨rfl, hB1, hB2⟩ := hB
      exact kx hp ce q9 H1 locs1 ⟨by rw [← ht]; exact hB1, hS, wo.2.2.1, hB2, wo.2.2.2.2⟩ h1 h2 h3)
    (fun r u t H1 locs1 ht hvm hp hB hz hk hS => kk r hp H1 locs1 ⟨by rw [← ht]; exact hB.1, hS, wo.2.2.1, hB.2.2.1, wo.2.2.2.2⟩)
theorem x_Vl {q : Option Int64 × Mem} (cx : Cx p s m args c cc nL own G) (wo : Wo Ph G B 205 s M H locs)
    (hr : vx_Run p l e R s m args below meth c H locs cells slots 1 6 (F0 m pc ls st) rest (QtJ G B q (Value.ref (B + a) :: As).toArray) (XT G B q) (fr B))
    (kx : q.1 = none → ∀ (ce : Cell) (q9 : Addr) (H1 : Heap) (locs1 : List Loc), Wo Ph G B 205 s q.2 H1 locs1 → H1[q9]? = some ce → ce.vm = .none → s.vm.findClass NSE = some ce.cls → vx_W p l e R s m args below meth c H1 locs1 (cells + 1) (slots + 6) Q (F0 m pc ls rest) q9)
    (kk : ∀ v : Int64, q.1 = some v → ∀ (H1 : Heap) (locs1 : List Loc), Wo Ph G B 205 s q.2 H1 locs1 → W p l e R s m args below meth c H1 locs1 (cells + 1) (slots + 6) Q (F0 m (pc + 3) ls (.long v :: rest))) : W p l e R s m args below meth c H locs cells slots Q (F0 m pc ls st) :=
  vx_calll hr wo.2.1 (fun q _ h => h) (fun q h => h) (fun q _ h => h)
    (fun E ce q9 u t H1 locs1 ht hvm hp hB hz hk hS h1 h2 h3 => by
      obtain ⟨rfl, hB1, hB2⟩ := hB
      exact kx hp ce q9 H1 locs1 ⟨by rw [← ht]; exact hB1, hS, wo.2.2.1, hB2, wo.2.2.2.2⟩ h1 h2 h3)
    (fun r u t H1 locs1 ht hvm hp hB hz hk hS => kk r hp H1 locs1 ⟨by rw [← ht]; exact hB.1, hS, wo.2.2.1, hB.2.2.1, wo.2.2.2.2⟩)
theorem mk_H {av : List Value} {hh : List (Nat × Nat × Nat × Nat)} {Qc : Array Value → State → Outcome → State → Prop} {XC : String → State → State → Prop} (hy : plainName y.cls = true) (ho : y.cls = RL) (hlen : (lg_sl av).length ≤ maxL)
    (body : ∀ (p : Program) (e : Env) (s : State) (m : MethodId) (below : List Frame) (meth : Method) (c : Code) (ls : Array Slot), Cx p s m av.toArray c bytes maxL RL G → meth.sig.returnType = ret → meth.locks = false → c.exceptionTable.toList = tableOf hh → Wo Ph G B 205 s M s.heap [] → lv_has ls maxL (lv_args 0 av) → W p l e (rmX k) s m av.toArray below meth c s.heap [] 0 0 (vx_MQ below Qc XC av.toArray s 1 6 (fr B)) (F0 m 0 ls [])) :
    vx_Met l y (wsH y bytes maxL ret hh) (rmX k) (PcW Ph G B 205 M av) Qc XC 1 6 (fr B) := by
  refine vx_ofWH (cc := bytes) (maxL := maxL) (ret := ret) (hh := hh) hy rfl ?_
  intro p e s m args below meth c s₁ B' hml hv
  obtain ⟨rfl, ⟨hP, hK, hF, hE⟩, hB⟩ := hv
  have hx := B'.exec
  have hb := B'.bytes
  have hr := B'.returns
  have hws := atoms_spec (ws := wsH y bytes maxL ret hh) B'.pre
  have hts : ∀ w ∈ gtbl, w.before av.toArray s = true := fun w hw => hws w (List.mem_cons_of_mem _ hw)
  have htab := vx_table (x := y) B' (hws _ List.mem_cons_self)
  have hown : s.vm.findClass RL = some m.cls := by rw [← ho]; exact findClass_of_methodNamed B'.named
  have hlocks := B'.notSynchronized
  have hl := lv_entry av (n := maxL) hlen
  rw [lg_entry_eq]
  exact body p e s m below meth c _ ⟨hx, hb, hml, hown, hts, hK⟩ hr hlocks htab ⟨hP, va_S.rf, hB, hF, hE⟩ hl
theorem x_SHi {hh : List (Nat × Nat × Nat × Nat)} {r : Int32} {M' : Mem} (cx : Cx p s m args c cc nL own G) (wo : Wo Ph G B 205 s M H locs) (hM : vx_Met l y (wsH y bytes maxL ret hh) (rmX k) (PcW Ph G B 205 M As) (QcI Ph G B 205 r M') XF 1 6 (fr B))
    (cv : Cond.methodLink own idx y ∈ gtbl ∧ Cond.static y ∈ gtbl ∧ Cond.initialized y.cls ∈ gtbl ∧ Cond.codeWith y bytes maxL ret hh ∈ gtbl ∧ (y.cls ≠ "java/lang/invoke/MethodHandle" ∧ y.cls ≠ "java/lang/invoke/VarHandle" ∧ (parseMethodDescriptor y.desc).map (fun d => d.parameters.length) = some n) ∧ maxL ≤ 40) (hn : As.length = n) (hls : ls.size = nL) (hst : st = As.reverse ++ rest) (hrest : (rest.map fun v => v.category).sum ≤ 8) (hR : k + 1 ≤ R.frames ∧ 64 * (k + 1) ≤ R.locals ∧ cells + 1 ≤ R.cells ∧ slots + 6 ≤ R.slots) (hdg : decode cc pc = .ok (.invokestatic idx, 3))
    (kk : ∀ (H1 : Heap) (locs1 : List Loc), Wo Ph G B 205 s M' H1 locs1 → W p l e R s m args below meth c H1 locs1 (cells + 1) (slots + 6) Q (F0 m (pc + 3) ls (.int r :: rest))) : W p l e R s m args below meth c H locs cells slots Q (F0 m pc ls st) := by
  obtain ⟨hx, hb, hml, hown, hts, hK⟩ := cx
  obtain ⟨c1, c2, c4, c5, c6, c7⟩ := cv
  have hr : vx_Run p l e R s m args below meth c H locs cells slots 1 6 (F0 m pc ls st) rest (QcI Ph G B 205 r M' As.toArray) XF (fr B) := by
    refine vx_runSX (hh := hh) (own := own) (index := idx) (y := y) (bytes := bytes) (maxL := maxL) (ret := ret) (n := n) ⟨hx, hb, hml, hown, hts⟩ hM ?_ ⟨blind_W, fun U hU hW => ⟨rfl, ⟨by rw [hU]; exact wo.1, va_K.moved hW.alike hK, wo.2.2.2.1, ex_go wo.2.2.2.2 wo.2.1 hU hW⟩, by rw [hU]; exact Nat.lt_of_lt_of_le wo.2.2.1 wo.2.1.1⟩⟩ rfl hn hls hst (lv_room hrest) hdg ⟨hR.2.2.1, hR.2.2.2⟩
    refine ⟨⟨rfl, rfl, hR.1, by have := hR.2.1; show 8 + (maxL + 11) + 64 * k ≤ R.locals; omega, pay_in hts (goodIn_h c5), List.mem_cons_self⟩, hts _ c5, hts _ c4, ⟨c6.1, c6.2.1⟩, fun sig h => ?_, hts _ c1, hts _ c2⟩
    have h2 := c6.2.2
    rw [h] at h2
    exact (Option.some.inj h2).symm
  exact vx_calli hr wo.2.1 (fun q _ h => h) (fun q h => h) (fun q _ h => h.elim)
    (fun E ce q9 u t H1 locs1 ht hvm hp hB hz hk hS h1 h2 h3 => hp.elim)
    (fun r1 u t H1 locs1 ht hvm hp hB hz hk hS => by
      subst hp
      exact kk H1 locs1 ⟨by rw [← ht]; exact hB.1, hS, wo.2.2.1, hB.2.2.1, wo.2.2.2.2⟩)
end LawCalls
set_option maxHeartbeats 1000000 in
set_option maxRecDepth 10000 in
theorem mL_boat (l : Launch) (hst : l.stackTraces = false) {G : GG} {B : Nat} {x1 x2 : Int32} {M : Mem} {q : Option Int32 × Mem} (hf : gX9_boat x1 x2 M = some q) : vx_Met l yL_boat (wsH yL_boat cL_boat 5 (some .int) [(0, 10, 13, 13)]) (rmX (9)) (PcW Ph G B 205 M [.ref (B + 1), .int x1, .int x2, .ref (B + 205)]) (QcI Ph G B 205 (thr q.1) (lwI q)) XF 1 6 (fr B) := by
  refine mk_H rfl rfl (Nat.le_of_ble_eq_true rfl) ?_
  intro p e s m below meth c ls cx hr hlk htab wo hl
  have hl : lv_has ls 5 [(0, .ref (B + 1)), (1, .int x1), (2, .int x2), (3, .ref (B + 205))] := hl
  refine lv_aload_n cx.1 cx.2.1 dL_boat_0 rfl (lv_at hl 3 rfl) ?_
  refine lv_iconst (v := 0) cx.1 cx.2.1 dL_boat_1 (by decide) ?_
  refine lv_aload_n cx.1 cx.2.1 dL_boat_2 rfl (lv_at hl 0 rfl) ?_
  refine lv_iload_n cx.1 cx.2.1 dL_boat_3 rfl (lv_at hl 1 rfl) ?_
  refine lv_iload_n cx.1 cx.2.1 dL_boat_4 rfl (lv_at hl 2 rfl) ?_
  refine x_Vi (q := q) (rest := [.int 0, .ref (B + 205)]) (As := [.int x1, .int x2]) cx wo (x_run cx wo (vmX9_boat l hst hf) cvL_7 rfl ad_1.1 ad_1.2.1 ad_1.2.2 rfl rfl hl.1 rfl (Nat.le_of_ble_eq_true rfl) ⟨by decide, by decide, by decide, by decide⟩ dL_boat_5) (fun hn ce q9 H locs wo h1 h2 h3 => ?_) (fun v hv H locs wo => ?_)
  · refine vx_catch (own := RL) (name := NSE) (E := NSE) (ce := ce) cx.2.2.2.1 ⟨0, 10, 13, 13⟩ htab (by decide) (by decide) (cx.2.2.2.2.1 _ (mem_t4 191 (by decide +kernel))) (va_tabs (by decide) rfl (ns_of wo _ (by decide +kernel))) h1 h2 h3 ?_
    refine lv_astore (lv' := (4, .ref q9) :: [(0, .ref (B + 1)), (1, .int x1), (2, .int x2), (3, .ref (B + 205))]) cx.1 cx.2.1 dL_boat_13 hl (by decide) rfl (fun ls hl => ?_)
    refine lv_iconst (v := 1) cx.1 cx.2.1 dL_boat_15 (by decide) ?_
    have e1 : thr q.1 = 1 := by rw [hn]; rfl
    have e2 : lwI q = q.2 := by unfold lwI; rw [hn]
    rw [e1, e2]
    exact vx_ret (r_iret cx wo hr hlk dL_boat_16)
  · refine lv_i2l (v := v.toInt64) cx.1 cx.2.1 dL_boat_8 rfl ?_
    refine r_last cx wo ad_205.1 ad_205.2.1 ad_205.2.2 (by decide +kernel) dL_boat_9 (fun H locs wo => ?_)
    refine lv_goto (tgt := 17) cx.1 cx.2.1 dL_boat_10 (by decide) ?_
    refine lv_iconst (v := 0) cx.1 cx.2.1 dL_boat_17 (by decide) ?_
    have e1 : thr q.1 = 0 := by rw [hv]; rfl
    have e2 : lwI q = sJ q.2 205 (ix 0) v.toInt64 := by unfold lwI; rw [hv]; rfl
    rw [e1, e2]
    exact vx_ret (r_iret cx wo hr hlk dL_boat_18)
set_option maxHeartbeats 1000000 in
set_option maxRecDepth 10000 in
theorem mL_at (l : Launch) (hst : l.stackTraces = false) {G : GG} {B : Nat} {x1 : Int32} {M : Mem} {q : Option Int32 × Mem} (hf : gX9_at x1 M = some q) : vx_Met l yL_at (wsH yL_at cL_at 4 (some .int) [(0, 9, 12, 13)]) (rmX (8)) (PcW Ph G B 205 M [.ref (B + 1), .int x1, .ref (B + 205)]) (QcI Ph G B 205 (thr q.1) (lwI q)) XF 1 6 (fr B) := by
  refine mk_H rfl rfl (Nat.le_of_ble_eq_true rfl) ?_
  intro p e s m below meth c ls cx hr hlk htab wo hl
  have hl : lv_has ls 4 [(0, .ref (B + 1)), (1, .int x1), (2, .ref (B + 205))] := hl
  refine lv_aload_n cx.1 cx.2.1 dL_at_0 rfl (lv_at hl 2 rfl) ?_
  refine lv_iconst (v := 0) cx.1 cx.2.1 dL_at_1 (by decide) ?_
  refine lv_aload_n cx.1 cx.2.1 dL_at_2 rfl (lv_at hl 0 rfl) ?_
  refine lv_iload_n cx.1 cx.2.1 dL_at_3 rfl (lv_at hl 1 rfl) ?_
  refine x_Vi (q := q) (rest := [.int 0, .ref (B + 205)]) (As := [.int x1]) cx wo (x_run cx wo (vmX9_at l hst hf) cvL_15 rfl ad_1.1 ad_1.2.1 ad_1.2.2 rfl rfl hl.1 rfl (Nat.le_of_ble_eq_true rfl) ⟨by decide, by decide, by decide, by decide⟩ dL_at_4) (fun hn ce q9 H locs wo h1 h2 h3 => ?_) (fun v hv H locs wo => ?_)
  · refine vx_catch (own := RL) (name := NSE) (E := NSE) (ce := ce) cx.2.2.2.1 ⟨0, 9, 12, 13⟩ htab (by decide) (by decide) (cx.2.2.2.2.1 _ (mem_t4 191 (by decide +kernel))) (va_tabs (by decide) rfl (ns_of wo _ (by decide +kernel))) h1 h2 h3 ?_
    refine lv_astore_n (lv' := (3, .ref q9) :: [(0, .ref (B + 1)), (1, .int x1), (2, .ref (B + 205))]) cx.1 cx.2.1 dL_at_12 rfl hl (by decide) rfl (fun ls hl => ?_)
    refine lv_iconst (v := 1) cx.1 cx.2.1 dL_at_13 (by decide) ?_
    have e1 : thr q.1 = 1 := by rw [hn]; rfl
    have e2 : lwI q = q.2 := by unfold lwI; rw [hn]
    rw [e1, e2]
    exact vx_ret (r_iret cx wo hr hlk dL_at_14)
  · refine lv_i2l (v := v.toInt64) cx.1 cx.2.1 dL_at_7 rfl ?_
    refine r_last cx wo ad_205.1 ad_205.2.1 ad_205.2.2 (by decide +kernel) dL_at_8 (fun H locs wo => ?_)
    refine lv_goto (tgt := 15) cx.1 cx.2.1 dL_at_9 (by decide) ?_
    refine lv_iconst (v := 0) cx.1 cx.2.1 dL_at_15 (by decide) ?_
    have e1 : thr q.1 = 0 := by rw [hv]; rfl
    have e2 : lwI q = sJ q.2 205 (ix 0) v.toInt64 := by unfold lwI; rw [hv]; rfl
    rw [e1, e2]
    exact vx_ret (r_iret cx wo hr hlk dL_at_16)
set_option maxHeartbeats 1000000 in
set_option maxRecDepth 10000 in
theorem mL_row (l : Launch) (hst : l.stackTraces = false) {G : GG} {B : Nat} {x1 : Int32} {M : Mem} {q : Option Int64 × Mem} (hf : gX9_row x1 M = some q) : vx_Met l yL_row (wsH yL_row cL_row 4 (some .int) [(0, 8, 11, 13)]) (rmX (8)) (PcW Ph G B 205 M [.ref (B + 1), .int x1, .ref (B + 205)]) (QcI Ph G B 205 (thr q.1) (lwJ q)) XF 1 6 (fr B) := by
  refine mk_H rfl rfl (Nat.le_of_ble_eq_true rfl) ?_
  intro p e s m below meth c ls cx hr hlk htab wo hl
  have hl : lv_has ls 4 [(0, .ref (B + 1)), (1, .int x1), (2, .ref (B + 205))] := hl
  refine lv_aload_n cx.1 cx.2.1 dL_row_0 rfl (lv_at hl 2 rfl) ?_
  refine lv_iconst (v := 0) cx.1 cx.2.1 dL_row_1 (by decide) ?_
  refine lv_aload_n cx.1 cx.2.1 dL_row_2 rfl (lv_at hl 0 rfl) ?_
  refine lv_iload_n cx.1 cx.2.1 dL_row_3 rfl (lv_at hl 1 rfl) ?_
  refine x_Vl (q := q) (rest := [.int 0, .ref (B + 205)]) (As := [.int x1]) cx wo (x_run cx wo (vmX9_row l hst hf) cvL_19 rfl ad_1.1 ad_1.2.1 ad_1.2.2 rfl rfl hl.1 rfl (Nat.le_of_ble_eq_true rfl) ⟨by decide, by decide, by decide, by decide⟩ dL_row_4) (fun hn ce q9 H locs wo h1 h2 h3 => ?_) (fun v hv H locs wo => ?_)
  · refine vx_catch (own := RL) (name := NSE) (E := NSE) (ce := ce) cx.2.2.2.1 ⟨0, 8, 11, 13⟩ htab (by decide) (by decide) (cx.2.2.2.2.1 _ (mem_t4 191 (by decide +kernel))) (va_tabs (by decide) rfl (ns_of wo _ (by decide +kernel))) h1 h2 h3 ?_
    refine lv_astore_n (lv' := (3, .ref q9) :: [(0, .ref (B + 1)), (1, .int x1), (2, .ref (B + 205))]) cx.1 cx.2.1 dL_row_11 rfl hl (by decide) rfl (fun ls hl => ?_)
    refine lv_iconst (v := 1) cx.1 cx.2.1 dL_row_12 (by decide) ?_
    have e1 : thr q.1 = 1 := by rw [hn]; rfl
    have e2 : lwJ q = q.2 := by unfold lwJ; rw [hn]
    rw [e1, e2]
    exact vx_ret (r_iret cx wo hr hlk dL_row_13)
  · refine r_last cx wo ad_205.1 ad_205.2.1 ad_205.2.2 (by decide +kernel) dL_row_7 (fun H locs wo => ?_)
    refine lv_goto (tgt := 14) cx.1 cx.2.1 dL_row_8 (by decide) ?_
    refine lv_iconst (v := 0) cx.1 cx.2.1 dL_row_14 (by decide) ?_
    have e1 : thr q.1 = 0 := by rw [hv]; rfl
    have e2 : lwJ q = sJ q.2 205 (ix 0) v := by unfold lwJ; rw [hv]; rfl
    rw [e1, e2]
    exact vx_ret (r_iret cx wo hr hlk dL_row_15)
