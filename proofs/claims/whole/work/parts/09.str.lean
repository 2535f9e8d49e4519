/-! texts: length, charAt -/
section Str
variable {p : Program} {l : Launch} {e : Env} {R : Room} {s : State} {m : MethodId} {args : Array Value} {below : List Frame} {meth : Method} {c : Code} {H : Heap} {locs : List Loc} {cells slots : Nat} {Q : State → Prop} {cc : ByteArray} {pc nL : Nat} {ls : Array Slot} {rest st : List Value} {own : String} {Φ : (Nat → Nat → Nat) → Prop} {G : GG} {B N : Nat} {M M' : Mem} {a ci k idx n j : Nat}
theorem va_ldcSW (hexec : p.tables.exec = Jvm.exec) (hb : c.code = cc) {own tx : String} {index q : Nat} (hown : s.vm.findClass own = some m.cls) (hZ : vk_R own index tx q s) (hdg : decode cc pc = .ok (.ldc_w index, 3))
    (k : W p l e R s m args below meth c H locs cells slots Q (F0 m (pc + 3) ls (.ref q :: rest))) : W p l e R s m args below meth c H locs cells slots Q (F0 m pc ls rest) := by
  intro T hT X
  obtain ⟨t, a1, b1⟩ := k T hT X
  exact ⟨t, X.ldcStringW hexec hown (text := tx) (a := q) hZ.1 hZ.2 (g := F0 m pc ls rest) rfl (by rw [hb]; exact hdg) t a1, b1⟩
theorem r_slen (cx : Cx p s m args c cc nL RX10 G) (wo : Wo Φ G B N s M H locs) (hls : ls.size = nL) (hj : j < 5) (hrest : (rest.map fun v => v.category).sum ≤ 8) (hR : 6 ≤ R.frames ∧ 384 ≤ R.locals) (hdg : decode cc pc = .ok (.invokevirtual 161, 3))
    (kk : W p l e R s m args below meth c H locs cells slots Q (F0 m (pc + 3) ls (.int (slen j) :: rest))) : W p l e R s m args below meth c H locs cells slots Q (F0 m pc ls (.ref (G.2.2 (2 + j)) :: rest)) := sorry
theorem r_schr {i : Int32} (cx : Cx p s m args c cc nL RX10 G) (wo : Wo Φ G B N s M H locs) (hls : ls.size = nL) (hj : j < 5) (hin : inb i (slenN j) = true) (hrest : (rest.map fun v => v.category).sum ≤ 8) (hR : 6 ≤ R.frames ∧ 384 ≤ R.locals) (hdg : decode cc pc = .ok (.invokevirtual 167, 3))
    (kk : W p l e R s m args below meth c H locs cells slots Q (F0 m (pc + 3) ls (.int (sch j (ix i)) :: rest))) : W p l e R s m args below meth c H locs cells slots Q (F0 m pc ls (.int i :: .ref (G.2.2 (2 + j)) :: rest)) := sorry
end Str
