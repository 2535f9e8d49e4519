/-! contracts over the world, returns, calls -/
def BW (Φ : (Nat → Nat → Nat) → Prop) (G : GG) (B N : Nat) (M : Mem) (t : State) : Prop := va_P G.1 vwCl (wl G B N M) t.heap ∧ va_K G.1 vwCl (tysG G) t ∧ Φ M.2.2 ∧ Ex G B t
def PcW (Φ : (Nat → Nat → Nat) → Prop) (G : GG) (B N : Nat) (M : Mem) (av : List Value) : Array Value → State → Prop := va_Pc av (fun U => BW Φ G B N M U ∧ B < U.heap.size)
def QcI (Φ : (Nat → Nat → Nat) → Prop) (G : GG) (B N : Nat) (r : Int32) (M : Mem) : Array Value → State → Outcome → State → Prop := va_Qi (S := Unit) (fun x _ => x = r) (fun _ t => BW Φ G B N M t) (fun q : Nat => B < q)
def QcJ (Φ : (Nat → Nat → Nat) → Prop) (G : GG) (B N : Nat) (r : Int64) (M : Mem) : Array Value → State → Outcome → State → Prop := va_Ql (S := Unit) (fun x _ => x = r) (fun _ t => BW Φ G B N M t) (fun q : Nat => B < q)
def QcV (Φ : (Nat → Nat → Nat) → Prop) (G : GG) (B N : Nat) (M : Mem) : Array Value → State → Outcome → State → Prop := va_Qv (S := Unit) (fun _ => True) (fun _ t => BW Φ G B N M t) (fun q : Nat => B < q)
abbrev rmN (k : Nat) : Room := { frames := k, cells := 0, slots := 0, locals := 64 * k }
abbrev fr (B : Nat) : Addr → Prop := fun q => B < q
/-- an instance method that the code of a class calls -/
def CV (own : String) (idx : Nat) (y : MethodName) (bytes : ByteArray) (maxL : Nat) (ret : Option FieldType) (n : Nat) : Prop :=
  Cond.methodLink own idx y ∈ gtbl ∧ Cond.instanceMethod y ∈ gtbl ∧ Cond.selects y.cls y y ∈ gtbl ∧ Cond.initialized y.cls ∈ gtbl ∧ Cond.code y bytes maxL ret ∈ gtbl ∧ (y.cls ≠ "java/lang/invoke/MethodHandle" ∧ y.cls ≠ "java/lang/invoke/VarHandle" ∧ (parseMethodDescriptor y.desc).map (fun d => d.parameters.length) = some n) ∧ maxL ≤ 45
def CS (own : String) (idx : Nat) (y : MethodName) (bytes : ByteArray) (maxL : Nat) (ret : Option FieldType) (n : Nat) : Prop :=
  Cond.methodLink own idx y ∈ gtbl ∧ Cond.static y ∈ gtbl ∧ Cond.initialized y.cls ∈ gtbl ∧ Cond.code y bytes maxL ret ∈ gtbl ∧ (y.cls ≠ "java/lang/invoke/MethodHandle" ∧ y.cls ≠ "java/lang/invoke/VarHandle" ∧ (parseMethodDescriptor y.desc).map (fun d => d.parameters.length) = some n) ∧ maxL ≤ 45
theorem blind_W {Φ : (Nat → Nat → Nat) → Prop} {G : GG} {B N : Nat} {M : Mem} {av : List Value} : FrameBlind (PcW Φ G B N M av) := by
  intro a U g mk q
  obtain ⟨q0, ⟨qP, qK, qF, qE⟩, qB⟩ := q
  exact ⟨q0, ⟨qP, va_K.moved (u := U) (U := U.calling g mk a) (Vm.Alike.refl U.vm) qK, qF, ex_call g mk a qE⟩, qB⟩
section Calls
variable {p : Program} {l : Launch} {e : Env} {R : Room} {s : State} {m : MethodId} {args : Array Value} {below : List Frame} {meth : Method} {c : Code} {H : Heap} {locs : List Loc} {cells slots : Nat} {Q : State → Prop} {cc : ByteArray} {pc nL : Nat} {ls : Array Slot} {rest st : List Value} {own : String} {Φ : (Nat → Nat → Nat) → Prop} {G : GG} {B N : Nat} {M M' : Mem} {a ci k idx n : Nat}
variable {y : MethodName} {bytes : ByteArray} {maxL : Nat} {ret : Option FieldType} {As : List Value}
theorem wo_BW (cx : Cx p s m args c cc nL own G) (wo : Wo Φ G B N s M H locs) {t : State} (ht : t.heap = H) (hW : s.WarmedH t.vm) : BW Φ G B N M t := ⟨by rw [ht]; exact wo.1, va_K.moved hW.alike cx.2.2.2.2.2, wo.2.2.2.1, ex_go wo.2.2.2.2 wo.2.1 ht hW⟩
theorem r_iret {r : Int32} (cx : Cx p s m args c cc nL own G) (wo : Wo Φ G B N s M H locs) (hr : meth.sig.returnType = some .int) (hlk : meth.locks = false) (hdg : decode cc pc = .ok (.ireturn, 1)) : W p l e R s m args below meth c H locs cells slots (MQ below (QcI Φ G B N r M) args s cells slots (fr B)) (F0 m pc ls [.int r]) :=
  W.iret cx.1 cx.2.1 hr (fun t ht hW => ⟨⟨r, (), rfl, rfl, wo_BW cx wo ht hW⟩, wo.2.1.F ht⟩) wo.2.1.2.2 hdg
theorem r_zret {r : Int32} (cx : Cx p s m args c cc nL own G) (wo : Wo Φ G B N s M H locs) (hr : meth.sig.returnType = some .boolean) (hlk : meth.locks = false) (hbx : r = 0 ∨ r = 1) (hdg : decode cc pc = .ok (.ireturn, 1)) : W p l e R s m args below meth c H locs cells slots (MQ below (QcI Φ G B N r M) args s cells slots (fr B)) (F0 m pc ls [.int r]) :=
  W.zret cx.1 cx.2.1 hr (by rcases hbx with rfl | rfl <;> rfl) (fun t ht hW => ⟨⟨r, (), rfl, rfl, wo_BW cx wo ht hW⟩, wo.2.1.F ht⟩) wo.2.1.2.2 hdg
theorem r_lret {r : Int64} (cx : Cx p s m args c cc nL own G) (wo : Wo Φ G B N s M H locs) (hr : meth.sig.returnType = some .long) (hlk : meth.locks = false) (hdg : decode cc pc = .ok (.lreturn, 1)) : W p l e R s m args below meth c H locs cells slots (MQ below (QcJ Φ G B N r M) args s cells slots (fr B)) (F0 m pc ls [.long r]) :=
  W.lret cx.1 cx.2.1 hr (fun t ht hW => ⟨⟨r, (), rfl, rfl, wo_BW cx wo ht hW⟩, wo.2.1.F ht⟩) wo.2.1.2.2 hdg
theorem r_vret (cx : Cx p s m args c cc nL own G) (wo : Wo Φ G B N s M H locs) (hr : meth.sig.returnType = none) (hlk : meth.locks = false) (hdg : decode cc pc = .ok (.return_, 1)) : W p l e R s m args below meth c H locs cells slots (MQ below (QcV Φ G B N M) args s cells slots (fr B)) (F0 m pc ls []) :=
  W.vret cx.1 cx.2.1 hr (fun t ht hW => ⟨⟨(), rfl, trivial, wo_BW cx wo ht hW⟩, wo.2.1.F ht⟩) wo.2.1.2.2 hdg
theorem r_run (cx : Cx p s m args c cc nL own G) (wo : Wo Φ G B N s M H locs) {Qc : Array Value → State → Outcome → State → Prop} (hM : Met l y (wsG y bytes maxL ret) (rmN k) (PcW Φ G B N M (.ref (B + a) :: As)) Qc 0 0 (fr B)) (cv : CV own idx y bytes maxL ret n) (hn : As.length = n) (h0 : a ≠ 0) (hN : a ≤ N) (hs : (sh a).1 = ci + 10) {q : vw_C} (hc : vwCl[ci]? = some q) (hq : q.1 = y.cls) (hls : ls.size = nL) (hst : st = As.reverse ++ .ref (B + a) :: rest) (hrest : (rest.map fun v => v.category).sum ≤ 8) (hR : k + 1 ≤ R.frames ∧ 64 * (k + 1) ≤ R.locals ∧ cells ≤ R.cells ∧ slots ≤ R.slots) (hdg : decode cc pc = .ok (.invokevirtual idx, 3)) :
    va_Run p l e R s m args below meth c H locs cells slots 0 0 (F0 m pc ls st) rest (Qc (Value.ref (B + a) :: As).toArray) (fr B) := by
  obtain ⟨hx, hb, hml, hown, hts, hK⟩ := cx
  obtain ⟨c1, c2, c3, c4, c5, c6, c7⟩ := cv
  refine va_runV (own := own) (C := y.cls) (index := idx) (y := y) (bytes := bytes) (maxL := maxL) (ret := ret) (n := n) ⟨hx, hb, hml, hown, hts⟩ hM ?_ ⟨blind_W, ?_, fun U hU hW => ⟨rfl, ⟨by rw [hU]; exact wo.1, va_K.moved hW.alike hK, wo.2.2.2.1, ex_go wo.2.2.2.2 wo.2.1 hU hW⟩, by rw [hU]; exact Nat.lt_of_lt_of_le wo.2.2.1 wo.2.1.1⟩⟩ rfl hn hls hst (lv_room hrest) hdg ⟨hR.2.2.1, hR.2.2.2⟩
  · exact ⟨callB_of n hts (goodIn_g c5) rfl rfl rfl (hts _ c4) (hts _ c1) c6 ⟨hR.1, by have := hR.2.1; show 8 + (maxL + 11) + 64 * k ≤ R.locals; omega⟩, hts _ c2, hts _ c3⟩
  · obtain ⟨cell, g1, g2, g3⟩ := va_recv hK wo.1 hc (q0 := a - 1) (by rw [wl_get h0 hN, ce_o hs])
    exact ⟨cell, g1, g2, by rw [← hq]; exact g3⟩
theorem r_Vi {r : Int32} (cx : Cx p s m args c cc nL own G) (wo : Wo Φ G B N s M H locs) (hM : Met l y (wsG y bytes maxL ret) (rmN k) (PcW Φ G B N M (.ref (B + a) :: As)) (QcI Φ G B N r M') 0 0 (fr B)) (cv : CV own idx y bytes maxL ret n) (hn : As.length = n) (h0 : a ≠ 0) (hN : a ≤ N) (hs : (sh a).1 = ci + 10) {q : vw_C} (hc : vwCl[ci]? = some q) (hq : q.1 = y.cls) (hls : ls.size = nL) (hst : st = As.reverse ++ .ref (B + a) :: rest) (hrest : (rest.map fun v => v.category).sum ≤ 8) (hR : k + 1 ≤ R.frames ∧ 64 * (k + 1) ≤ R.locals ∧ cells ≤ R.cells ∧ slots ≤ R.slots) (hdg : decode cc pc = .ok (.invokevirtual idx, 3))
    (kk : ∀ (H1 : Heap) (locs1 : List Loc), Wo Φ G B N s M' H1 locs1 → W p l e R s m args below meth c H1 locs1 cells slots Q (F0 m (pc + 3) ls (.int r :: rest))) : W p l e R s m args below meth c H locs cells slots Q (F0 m pc ls st) :=
  va_calli (r_run cx wo hM cv hn h0 hN hs hc hq hls hst hrest hR hdg) wo.2.1 (fun q _ h => h) (fun q h => h) (fun r1 u t H1 locs1 ht hvm hw hB hz hk hS => by
    subst hw
    exact kk H1 locs1 ⟨by rw [← ht]; exact hB.1, hS, wo.2.2.1, hB.2.2.1, wo.2.2.2.2⟩)
theorem r_Vl {r : Int64} (cx : Cx p s m args c cc nL own G) (wo : Wo Φ G B N s M H locs) (hM : Met l y (wsG y bytes maxL ret) (rmN k) (PcW Φ G B N M (.ref (B + a) :: As)) (QcJ Φ G B N r M') 0 0 (fr B)) (cv : CV own idx y bytes maxL ret n) (hn : As.length = n) (h0 : a ≠ 0) (hN : a ≤ N) (hs : (sh a).1 = ci + 10) {q : vw_C} (hc : vwCl[ci]? = some q) (hq : q.1 = y.cls) (hls : ls.size = nL) (hst : st = As.reverse ++ .ref (B + a) :: rest) (hrest : (rest.map fun v => v.category).sum ≤ 8) (hR : k + 1 ≤ R.frames ∧ 64 * (k + 1) ≤ R.locals ∧ cells ≤ R.cells ∧ slots ≤ R.slots) (hdg : decode cc pc = .ok (.invokevirtual idx, 3))
    (kk : ∀ (H1 : Heap) (locs1 : List Loc), Wo Φ G B N s M' H1 locs1 → W p l e R s m args below meth c H1 locs1 cells slots Q (F0 m (pc + 3) ls (.long r :: rest))) : W p l e R s m args below meth c H locs cells slots Q (F0 m pc ls st) :=
  va_calll (r_run cx wo hM cv hn h0 hN hs hc hq hls hst hrest hR hdg) wo.2.1 (fun q _ h => h) (fun q h => h) (fun r1 u t H1 locs1 ht hvm hw hB hz hk hS => by
    subst hw
    exact kk H1 locs1 ⟨by rw [← ht]; exact hB.1, hS, wo.2.2.1, hB.2.2.1, wo.2.2.2.2⟩)
theorem r_Vv (cx : Cx p s m args c cc nL own G) (wo : Wo Φ G B N s M H locs) (hM : Met l y (wsG y bytes maxL ret) (rmN k) (PcW Φ G B N M (.ref (B + a) :: As)) (QcV Φ G B N M') 0 0 (fr B)) (cv : CV own idx y bytes maxL ret n) (hn : As.length = n) (h0 : a ≠ 0) (hN : a ≤ N) (hs : (sh a).1 = ci + 10) {q : vw_C} (hc : vwCl[ci]? = some q) (hq : q.1 = y.cls) (hls : ls.size = nL) (hst : st = As.reverse ++ .ref (B + a) :: rest) (hrest : (rest.map fun v => v.category).sum ≤ 8) (hR : k + 1 ≤ R.frames ∧ 64 * (k + 1) ≤ R.locals ∧ cells ≤ R.cells ∧ slots ≤ R.slots) (hdg : decode cc pc = .ok (.invokevirtual idx, 3))
    (kk : ∀ (H1 : Heap) (locs1 : List Loc), Wo Φ G B N s M' H1 locs1 → W p l e R s m args below meth c H1 locs1 cells slots Q (F0 m (pc + 3) ls rest)) : W p l e R s m args below meth c H locs cells slots Q (F0 m pc ls st) :=
  va_callv (r_run cx wo hM cv hn h0 hN hs hc hq hls hst hrest hR hdg) wo.2.1 (fun q _ h => h) (fun q h => h) (fun u t H1 locs1 ht hvm hw hB hz hk hS => kk H1 locs1 ⟨by rw [← ht]; exact hB.1, hS, wo.2.2.1, hB.2.2.1, wo.2.2.2.2⟩)
theorem r_runS (cx : Cx p s m args c cc nL own G) (wo : Wo Φ G B N s M H locs) {Qc : Array Value → State → Outcome → State → Prop} (hM : Met l y (wsG y bytes maxL ret) (rmN k) (PcW Φ G B N M As) Qc 0 0 (fr B)) (cv : CS own idx y bytes maxL ret n) (hn : As.length = n) (hls : ls.size = nL) (hst : st = As.reverse ++ rest) (hrest : (rest.map fun v => v.category).sum ≤ 8) (hR : k + 1 ≤ R.frames ∧ 64 * (k + 1) ≤ R.locals ∧ cells ≤ R.cells ∧ slots ≤ R.slots) (hdg : decode cc pc = .ok (.invokestatic idx, 3)) :
    va_Run p l e R s m args below meth c H locs cells slots 0 0 (F0 m pc ls st) rest (Qc As.toArray) (fr B) := by
  obtain ⟨hx, hb, hml, hown, hts, hK⟩ := cx
  obtain ⟨c1, c2, c4, c5, c6, c7⟩ := cv
  refine va_runS (own := own) (index := idx) (y := y) (bytes := bytes) (maxL := maxL) (ret := ret) (n := n) ⟨hx, hb, hml, hown, hts⟩ hM ?_ ⟨blind_W, fun U hU hW => ⟨rfl, ⟨by rw [hU]; exact wo.1, va_K.moved hW.alike hK, wo.2.2.2.1, ex_go wo.2.2.2.2 wo.2.1 hU hW⟩, by rw [hU]; exact Nat.lt_of_lt_of_le wo.2.2.1 wo.2.1.1⟩⟩ rfl hn hls hst (lv_room hrest) hdg ⟨hR.2.2.1, hR.2.2.2⟩
  exact ⟨callB_of n hts (goodIn_g c5) rfl rfl rfl (hts _ c4) (hts _ c1) c6 ⟨hR.1, by have := hR.2.1; show 8 + (maxL + 11) + 64 * k ≤ R.locals; omega⟩, hts _ c2⟩
theorem r_Si {r : Int32} (cx : Cx p s m args c cc nL own G) (wo : Wo Φ G B N s M H locs) (hM : Met l y (wsG y bytes maxL ret) (rmN k) (PcW Φ G B N M As) (QcI Φ G B N r M') 0 0 (fr B)) (cv : CS own idx y bytes maxL ret n) (hn : As.length = n) (hls : ls.size = nL) (hst : st = As.reverse ++ rest) (hrest : (rest.map fun v => v.category).sum ≤ 8) (hR : k + 1 ≤ R.frames ∧ 64 * (k + 1) ≤ R.locals ∧ cells ≤ R.cells ∧ slots ≤ R.slots) (hdg : decode cc pc = .ok (.invokestatic idx, 3))
    (kk : ∀ (H1 : Heap) (locs1 : List Loc), Wo Φ G B N s M' H1 locs1 → W p l e R s m args below meth c H1 locs1 cells slots Q (F0 m (pc + 3) ls (.int r :: rest))) : W p l e R s m args below meth c H locs cells slots Q (F0 m pc ls st) :=
  va_calli (r_runS cx wo hM cv hn hls hst hrest hR hdg) wo.2.1 (fun q _ h => h) (fun q h => h) (fun r1 u t H1 locs1 ht hvm hw hB hz hk hS => by
    subst hw
    exact kk H1 locs1 ⟨by rw [← ht]; exact hB.1, hS, wo.2.2.1, hB.2.2.1, wo.2.2.2.2⟩)
theorem r_Sl {r : Int64} (cx : Cx p s m args c cc nL own G) (wo : Wo Φ G B N s M H locs) (hM : Met l y (wsG y bytes maxL ret) (rmN k) (PcW Φ G B N M As) (QcJ Φ G B N r M') 0 0 (fr B)) (cv : CS own idx y bytes maxL ret n) (hn : As.length = n) (hls : ls.size = nL) (hst : st = As.reverse ++ rest) (hrest : (rest.map fun v => v.category).sum ≤ 8) (hR : k + 1 ≤ R.frames ∧ 64 * (k + 1) ≤ R.locals ∧ cells ≤ R.cells ∧ slots ≤ R.slots) (hdg : decode cc pc = .ok (.invokestatic idx, 3))
    (kk : ∀ (H1 : Heap) (locs1 : List Loc), Wo Φ G B N s M' H1 locs1 → W p l e R s m args below meth c H1 locs1 cells slots Q (F0 m (pc + 3) ls (.long r :: rest))) : W p l e R s m args below meth c H locs cells slots Q (F0 m pc ls st) :=
  va_calll (r_runS cx wo hM cv hn hls hst hrest hR hdg) wo.2.1 (fun q _ h => h) (fun q h => h) (fun r1 u t H1 locs1 ht hvm hw hB hz hk hS => by
    subst hw
    exact kk H1 locs1 ⟨by rw [← ht]; exact hB.1, hS, wo.2.2.1, hB.2.2.1, wo.2.2.2.2⟩)
theorem r_Sv (cx : Cx p s m args c cc nL own G) (wo : Wo Φ G B N s M H locs) (hM : Met l y (wsG y bytes maxL ret) (rmN k) (PcW Φ G B N M As) (QcV Φ G B N M') 0 0 (fr B)) (cv : CS own idx y bytes maxL ret n) (hn : As.length = n) (hls : ls.size = nL) (hst : st = As.reverse ++ rest) (hrest : (rest.map fun v => v.category).sum ≤ 8) (hR : k + 1 ≤ R.frames ∧ 64 * (k + 1) ≤ R.locals ∧ cells ≤ R.cells ∧ slots ≤ R.slots) (hdg : decode cc pc = .ok (.invokestatic idx, 3))
    (kk : ∀ (H1 : Heap) (locs1 : List Loc), Wo Φ G B N s M' H1 locs1 → W p l e R s m args below meth c H1 locs1 cells slots Q (F0 m (pc + 3) ls rest)) : W p l e R s m args below meth c H locs cells slots Q (F0 m pc ls st) :=
  va_callv (r_runS cx wo hM cv hn hls hst hrest hR hdg) wo.2.1 (fun q _ h => h) (fun q h => h) (fun u t H1 locs1 ht hvm hw hB hz hk hS => kk H1 locs1 ⟨by rw [← ht]; exact hB.1, hS, wo.2.2.1, hB.2.2.1, wo.2.2.2.2⟩)
theorem mk_Met {av : List Value} {Qc : Array Value → State → Outcome → State → Prop} (hy : plainName y.cls = true) (ho : y.cls = own) (hlen : (lg_sl av).length ≤ maxL)
    (body : ∀ (p : Program) (e : Env) (s : State) (m : MethodId) (below : List Frame) (meth : Method) (c : Code) (ls : Array Slot), Cx p s m av.toArray c bytes maxL own G → meth.sig.returnType = ret → meth.locks = false → Wo Φ G B N s M s.heap [] → lv_has ls maxL (lv_args 0 av) → W p l e (rmN k) s m av.toArray below meth c s.heap [] 0 0 (MQ below Qc av.toArray s 0 0 (fr B)) (F0 m 0 ls [])) :
    Met l y (wsG y bytes maxL ret) (rmN k) (PcW Φ G B N M av) Qc 0 0 (fr B) := by
  refine Met.ofW (cc := bytes) (maxL := maxL) (ret := ret) hy rfl ?_
  intro p e s m args below meth c s₁ B' hml hv
  obtain ⟨rfl, ⟨hP, hK, hF, hE⟩, hB⟩ := hv
  have hx := B'.exec
  have hb := B'.bytes
  have hr := B'.returns
  have hts := wsG_ok (atoms_spec (ws := wsG y bytes maxL ret) B'.pre)
  have hown : s.vm.findClass own = some m.cls := by rw [← ho]; exact findClass_of_methodNamed B'.named
  have hlocks := B'.notSynchronized
  have hl := lv_entry av (n := maxL) hlen
  rw [lg_entry_eq]
  exact body p e s m below meth c _ ⟨hx, hb, hml, hown, hts, hK⟩ hr hlocks ⟨hP, va_S.rf, hB, hF, hE⟩ hl
theorem r_topi {x z : Int32} (h : x = z) (kk : W p l e R s m args below meth c H locs cells slots Q (F0 m pc ls (.int x :: rest))) : W p l e R s m args below meth c H locs cells slots Q (F0 m pc ls (.int z :: rest)) := h ▸ kk
theorem r_topl {x z : Int64} (h : x = z) (kk : W p l e R s m args below meth c H locs cells slots Q (F0 m pc ls (.long x :: rest))) : W p l e R s m args below meth c H locs cells slots Q (F0 m pc ls (.long z :: rest)) := h ▸ kk
theorem r_tin {dflt lo hi : Int} {offs : Array Int} {len : Nat} {x v : Int32} {off : Int} {tgt : Nat} (cx : Cx p s m args c cc nL own G) (hv : x = v) (hdg : decode cc pc = .ok (.tableswitch dflt lo hi offs, len)) (h1 : ¬ v.toInt < lo) (h2 : ¬ hi < v.toInt) (ho : offs[(v.toInt - lo).toNat]? = some off) (ht : (pc : Int) + off = (tgt : Int)) (kk : W p l e R s m args below meth c H locs cells slots Q (F0 m tgt ls rest)) : W p l e R s m args below meth c H locs cells slots Q (F0 m pc ls (.int x :: rest)) := by
  subst hv
  exact lv_tableIn cx.1 cx.2.1 hdg h1 h2 ho ht kk
theorem r_tlk {dflt : Int} {ps : Array (Int × Int)} {len : Nat} {x v : Int32} {off : Int} {tgt : Nat} (cx : Cx p s m args c cc nL own G) (hv : x = v) (hdg : decode cc pc = .ok (.lookupswitch dflt ps, len)) (hp : (ps.toList.zip (ps.toList.drop 1)).all (fun (a, next) => a.1 < next.1) = true) (ho : Op.lookupswitch.offset ps.toList dflt v.toInt = off) (ht : (pc : Int) + off = (tgt : Int)) (kk : W p l e R s m args below meth c H locs cells slots Q (F0 m tgt ls rest)) : W p l e R s m args below meth c H locs cells slots Q (F0 m pc ls (.int x :: rest)) := by
  subst hv
  exact lv_lookup cx.1 cx.2.1 hdg hp ho ht kk
end Calls
theorem gd_elim {α : Type} {c : Prop} [Decidable c] {x : Option α} {q : α} (h : (if c then x else none) = some q) : c ∧ x = some q := by
  by_cases hc : c
  · rw [if_pos hc] at h; exact ⟨hc, h⟩
  · rw [if_neg hc] at h; cases h
theorem bd_elim {α β : Type} {o : Option α} {f : α → Option β} {q : β} (h : o.bind f = some q) : ∃ x, o = some x ∧ f x = some q := Option.bind_eq_some_iff.mp h
theorem i_ne {x : Int32} {n : Int} (h : ¬ x = Int32.ofInt n) (hn : (Int32.ofInt n).toInt = n) : ¬ x.toInt = n := fun e => h (Int32.toInt.inj (by rw [hn]; exact e))
/-- so many turns of any loop -/
def FU : Nat := 1048576
/-- what never changes among the references, and of what kind the others are -/
def Ph (R : Nat → Nat → Nat) : Prop := (∀ q ∈ finT, R q.1 q.2.1 = q.2.2) ∧ (∀ i, i < 15 → R 27 i ∈ rivers) ∧ R 1 17 ∈ rules ∧ R 1 18 ∈ rules
theorem riv_ok : ∀ r ∈ rivers, (r ≠ 0 ∧ r ≤ 205 ∧ (sh r).1 = 4 + 10) ∧ (r + 1 ≠ 0 ∧ r + 1 ≤ 205 ∧ sh (r + 1) = (0, 6)) ∧ (r + 2 ≠ 0 ∧ r + 2 ≤ 205 ∧ sh (r + 2) = (0, 6)) ∧ (r + 3 ≠ 0 ∧ r + 3 ≤ 205 ∧ sh (r + 3) = (0, 6)) ∧ (r + 4 ≠ 0 ∧ r + 4 ≤ 205 ∧ sh (r + 4) = (0, 6)) := by decide +kernel
theorem riv_fin : ∀ r ∈ rivers, (r, 1, r + 1) ∈ finT ∧ (r, 2, r + 2) ∈ finT ∧ (r, 3, r + 3) ∈ finT ∧ (r, 4, r + 4) ∈ finT := by decide +kernel
theorem rul_ok : ∀ r ∈ rules, (r ≠ 0 ∧ r ≤ 205 ∧ (sh r).1 = 6 + 10) ∧ (r + 1 ≠ 0 ∧ r + 1 ≤ 205 ∧ sh (r + 1) = (0, 40)) ∧ (r + 2 ≠ 0 ∧ r + 2 ≤ 205 ∧ sh (r + 2) = (0, 7)) ∧ (r + 3 ≠ 0 ∧ r + 3 ≤ 205 ∧ sh (r + 3) = (0, 40)) := by decide +kernel
