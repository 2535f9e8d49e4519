/-! addresses, what of the references never changes, Math, static arrays -/
def isI (a : Nat) : Prop := a ≠ 0 ∧ a ≤ 205 ∧ (sh a).1 = 0
theorem isI_of {a n : Nat} (h : a ≠ 0 ∧ a ≤ 205 ∧ sh a = (0, n)) : isI a := ⟨h.1, h.2.1, by rw [h.2.2]⟩
theorem ln_of {a n : Nat} (h : a ≠ 0 ∧ a ≤ 205 ∧ sh a = (0, n)) : ln a = n := by unfold ln; rw [h.2.2]
theorem rvA1 {r : Nat} (h : r ∈ rivers) : isI (r + 1) := isI_of (riv_ok r h).2.1
theorem rvA2 {r : Nat} (h : r ∈ rivers) : isI (r + 2) := isI_of (riv_ok r h).2.2.1
theorem rvA3 {r : Nat} (h : r ∈ rivers) : isI (r + 3) := isI_of (riv_ok r h).2.2.2.1
theorem rvA4 {r : Nat} (h : r ∈ rivers) : isI (r + 4) := isI_of (riv_ok r h).2.2.2.2
theorem rvL1 {r : Nat} (h : r ∈ rivers) : ln (r + 1) = 6 := ln_of (riv_ok r h).2.1
theorem rvL2 {r : Nat} (h : r ∈ rivers) : ln (r + 2) = 6 := ln_of (riv_ok r h).2.2.1
theorem rvL3 {r : Nat} (h : r ∈ rivers) : ln (r + 3) = 6 := ln_of (riv_ok r h).2.2.2.1
theorem rvL4 {r : Nat} (h : r ∈ rivers) : ln (r + 4) = 6 := ln_of (riv_ok r h).2.2.2.2
theorem ruA1 {r : Nat} (h : r ∈ rules) : isI (r + 1) := isI_of (rul_ok r h).2.1
theorem ruA2 {r : Nat} (h : r ∈ rules) : isI (r + 2) := isI_of (rul_ok r h).2.2.1
theorem ruA3 {r : Nat} (h : r ∈ rules) : isI (r + 3) := isI_of (rul_ok r h).2.2.2
theorem ruL1 {r : Nat} (h : r ∈ rules) : ln (r + 1) = 40 := ln_of (rul_ok r h).2.1
theorem ruL2 {r : Nat} (h : r ∈ rules) : ln (r + 2) = 7 := ln_of (rul_ok r h).2.2.1
theorem ruL3 {r : Nat} (h : r ∈ rules) : ln (r + 3) = 40 := ln_of (rul_ok r h).2.2.2
theorem rv_fn1 {R : Nat → Nat → Nat} {r : Nat} (h : Ph R) (hr : r ∈ rivers) : R r 1 = r + 1 := h.1 _ (riv_fin r hr).1
theorem rv_fn2 {R : Nat → Nat → Nat} {r : Nat} (h : Ph R) (hr : r ∈ rivers) : R r 2 = r + 2 := h.1 _ (riv_fin r hr).2.1
theorem rv_fn3 {R : Nat → Nat → Nat} {r : Nat} (h : Ph R) (hr : r ∈ rivers) : R r 3 = r + 3 := h.1 _ (riv_fin r hr).2.2.1
theorem rv_fn4 {R : Nat → Nat → Nat} {r : Nat} (h : Ph R) (hr : r ∈ rivers) : R r 4 = r + 4 := h.1 _ (riv_fin r hr).2.2.2
theorem rul_fin : ∀ r ∈ rules, (r, 0, r + 1) ∈ finT ∧ (r, 3, r + 2) ∈ finT ∧ (r, 4, r + 3) ∈ finT ∧ (r, 5, 2) ∈ finT := by decide +kernel
theorem ru_fn0 {R : Nat → Nat → Nat} {r : Nat} (h : Ph R) (hr : r ∈ rules) : R r 0 = r + 1 := h.1 _ (rul_fin r hr).1
theorem ru_fn3 {R : Nat → Nat → Nat} {r : Nat} (h : Ph R) (hr : r ∈ rules) : R r 3 = r + 2 := h.1 _ (rul_fin r hr).2.1
theorem ru_fn4 {R : Nat → Nat → Nat} {r : Nat} (h : Ph R) (hr : r ∈ rules) : R r 4 = r + 3 := h.1 _ (rul_fin r hr).2.2.1
theorem ru_fn5 {R : Nat → Nat → Nat} {r : Nat} (h : Ph R) (hr : r ∈ rules) : R r 5 = 2 := h.1 _ (rul_fin r hr).2.2.2
theorem inb_lt {i : Int32} {n : Nat} (h : inb i n = true) : ix i < n := by
  have h1 := inb_vp h
  exact Nat.not_le.mp fun q => h1 (Or.inr q)
theorem mt_ok : ∀ i, i < 20 → (117 + i ≠ 0 ∧ 117 + i ≤ 205 ∧ sh (117 + i) = (0, 6)) ∧ (116, i, 117 + i) ∈ finT := by decide +kernel
theorem mtA0 {i : Nat} (h : i < 20) : isI (117 + i) := isI_of (mt_ok i h).1
theorem mtL0 {i : Nat} (h : i < 20) : ln (117 + i) = 6 := ln_of (mt_ok i h).1
theorem mt_fn {R : Nat → Nat → Nat} {i : Nat} (h : Ph R) (hi : i < 20) : R 116 i = 117 + i := h.1 _ (mt_ok i hi).2
theorem kept_ok : ∀ i, i < 3 → (154 + 5 * i) ∈ rivers ∧ (103, i, 154 + 5 * i) ∈ finT := by decide +kernel
theorem kept_fn {R : Nat → Nat → Nat} {i : Nat} (h : Ph R) (hi : i < 3) : R 103 i = 154 + 5 * i := h.1 _ (kept_ok i hi).2
theorem kept_riv {R : Nat → Nat → Nat} {i : Nat} (h : Ph R) (hi : i < 3) : R 103 i ∈ rivers := by rw [kept_fn h hi]; exact (kept_ok i hi).1
theorem fin_ne : ∀ q ∈ finT, ¬ (q.1 = 1 ∧ q.2.1 = 17) ∧ ¬ (q.1 = 1 ∧ q.2.1 = 18) ∧ q.1 ≠ 27 := by decide +kernel
theorem ph_17 {R : Nat → Nat → Nat} {v : Nat} (h : Ph R) (hv : v ∈ rules) : Ph (up2 R 1 17 v) :=
  ⟨fun q hq => by rw [up2_ne (fin_ne q hq).1]; exact h.1 q hq, fun i hi => by rw [up2_ne (by omega)]; exact h.2.1 i hi, by rw [up2_at]; exact hv, by rw [up2_ne (by omega)]; exact h.2.2.2⟩
theorem ph_18 {R : Nat → Nat → Nat} {v : Nat} (h : Ph R) (hv : v ∈ rules) : Ph (up2 R 1 18 v) :=
  ⟨fun q hq => by rw [up2_ne (fin_ne q hq).2.1]; exact h.1 q hq, fun i hi => by rw [up2_ne (by omega)]; exact h.2.1 i hi, by rw [up2_ne (by omega)]; exact h.2.2.1, by rw [up2_at]; exact hv⟩
theorem ph_27 {R : Nat → Nat → Nat} {j v : Nat} (h : Ph R) (hv : v ∈ rivers) : Ph (up2 R 27 j v) :=
  ⟨fun q hq => by rw [up2_ne (fun z => (fin_ne q hq).2.2 z.1)]; exact h.1 q hq, fun i hi => by
    by_cases e : i = j
    · subst e; rw [up2_at]; exact hv
    · rw [up2_ne (fun z => e z.2)]; exact h.2.1 i hi, by rw [up2_ne (by omega)]; exact h.2.2.1, by rw [up2_ne (by omega)]; exact h.2.2.2⟩
theorem hR_ok {k K : Nat} (h : k + 1 ≤ K) : k + 1 ≤ (rmN K).frames ∧ 64 * (k + 1) ≤ (rmN K).locals ∧ 0 ≤ (rmN K).cells ∧ 0 ≤ (rmN K).slots := ⟨h, by show 64 * (k + 1) ≤ 64 * K; omega, Nat.zero_le _, Nat.zero_le _⟩
def MM (own : String) (idx : Nat) (y : MethodName) (bytes : ByteArray) (maxL : Nat) : Prop := Cond.methodLink own idx y ∈ gtbl ∧ Cond.static y ∈ gtbl ∧ Cond.initialized "java/lang/Math" ∈ gtbl ∧ Cond.code y bytes maxL (some .int) ∈ gtbl
section Help
variable {p : Program} {l : Launch} {e : Env} {R : Room} {s : State} {m : MethodId} {args : Array Value} {below : List Frame} {meth : Method} {c : Code} {H : Heap} {locs : List Loc} {cells slots : Nat} {Q : State → Prop} {cc : ByteArray} {pc nL : Nat} {ls : Array Slot} {rest st : List Value} {own : String} {Φ : (Nat → Nat → Nat) → Prop} {G : GG} {B N : Nat} {M M' : Mem} {a ci k idx n : Nat}
theorem r_mmax {x y : Int32} (cx : Cx p s m args c cc nL own G) (hls : ls.size = nL) (mm : MM own idx Lib.Math.max.name Lib.Math.max.code 2) (hfr : 1 ≤ R.frames) (hlo : (rest.map fun v => v.category).sum + 13 ≤ R.locals) (hc : cells ≤ R.cells) (hs : slots ≤ R.slots) (hdg : decode cc pc = .ok (.invokestatic idx, 3))
    (kk : W p l e R s m args below meth c H locs cells slots Q (F0 m (pc + 3) ls (.int (if x < y then y else x) :: rest))) : W p l e R s m args below meth c H locs cells slots Q (F0 m pc ls (.int y :: .int x :: rest)) :=
  va_mmax cx.1 cx.2.1 (cx.2.2.1.trans hls.symm) cx.2.2.2.1 (cx.2.2.2.2.1 _ mm.1) (cx.2.2.2.2.1 _ mm.2.1) (cx.2.2.2.2.1 _ mm.2.2.1) (cx.2.2.2.2.1 _ mm.2.2.2) hfr hlo hc hs hdg kk
theorem r_mmin {x y : Int32} (cx : Cx p s m args c cc nL own G) (hls : ls.size = nL) (mm : MM own idx Lib.Math.min.name Lib.Math.min.code 2) (hfr : 1 ≤ R.frames) (hlo : (rest.map fun v => v.category).sum + 13 ≤ R.locals) (hc : cells ≤ R.cells) (hs : slots ≤ R.slots) (hdg : decode cc pc = .ok (.invokestatic idx, 3))
    (kk : W p l e R s m args below meth c H locs cells slots Q (F0 m (pc + 3) ls (.int (if y < x then y else x) :: rest))) : W p l e R s m args below meth c H locs cells slots Q (F0 m pc ls (.int y :: .int x :: rest)) :=
  va_mmin cx.1 cx.2.1 (cx.2.2.1.trans hls.symm) cx.2.2.2.1 (cx.2.2.2.2.1 _ mm.1) (cx.2.2.2.2.1 _ mm.2.1) (cx.2.2.2.2.1 _ mm.2.2.1) (cx.2.2.2.2.1 _ mm.2.2.2) hfr hlo hc hs hdg kk
theorem r_mabs {x : Int32} (cx : Cx p s m args c cc nL own G) (hls : ls.size = nL) (mm : MM own idx Lib.Math.abs.name Lib.Math.abs.code 1) (hfr : 1 ≤ R.frames) (hlo : (rest.map fun v => v.category).sum + 13 ≤ R.locals) (hc : cells ≤ R.cells) (hs : slots ≤ R.slots) (hdg : decode cc pc = .ok (.invokestatic idx, 3))
    (kk : W p l e R s m args below meth c H locs cells slots Q (F0 m (pc + 3) ls (.int (if 0 ≤ x then x else 0 - x) :: rest))) : W p l e R s m args below meth c H locs cells slots Q (F0 m pc ls (.int x :: rest)) :=
  va_mabs cx.1 cx.2.1 (cx.2.2.1.trans hls.symm) cx.2.2.2.1 (cx.2.2.2.2.1 _ mm.1) (cx.2.2.2.2.1 _ mm.2.1) (cx.2.2.2.2.1 _ mm.2.2.1) (cx.2.2.2.2.1 _ mm.2.2.2) hfr hlo hc hs hdg kk
theorem r_aald4 (cx : Cx p s m args c cc nL own G) (wo : Wo Φ G B N s M H locs) (h0 : a ≠ 0) (hN : a ≤ N) (hs : (sh a).1 = 4) {i : Int32} (hin : inb i (ln a) = true) {v : Nat} (hv : M.2.2 a (ix i) = v) (hv0 : v ≠ 0) (hdg : decode cc pc = .ok (.aaload, 1))
    (kk : W p l e R s m args below meth c H locs cells slots Q (F0 m (pc + 1) ls (.ref (B + v) :: rest))) : W p l e R s m args below meth c H locs cells slots Q (F0 m pc ls (.int i :: .ref (B + a) :: rest)) := by
  obtain ⟨hx, hb, hml, hown, hts, hK⟩ := cx
  have ha : (wl G B N M)[a - 1]? = some (B + a, .inl (G.2.1 4, ln a, .inr (.inr (.inr (.inr fun i => rv B (M.2.2 a i)))))) := by rw [wl_get h0 hN, ce_4 hs]
  have hi := inb_vp hin
  have hlt : i.toNatClampNeg < ln a := Nat.not_le.mp fun q => hi (Or.inr q)
  have ht : (tysG G)[4]? = some (G.2.1 4, .array .int) := rfl
  refine W.aald (v := va_rf (rv B (M.2.2 a i.toNatClampNeg))) (ty := .array .int) hx hb (wo.1 (a - 1) _ ha) ((hK.2 4 _ ht).1 (ln a) (fun j => va_rf (rv B (M.2.2 a j)))) rfl (fun q => by cases q) (by show ¬ (i < 0 ∨ (arrV _ _ _).slots.size ≤ _); rw [arrV_size]; exact hi) (by show (arrV _ _ _).slots[_]? = _; rw [arrV_read _ _ hlt]) rfl rfl hdg ?_
  show W p l e R s m args below meth c H locs cells slots Q (F0 m (pc + 1) ls (va_rf (rv B (M.2.2 a (ix i))) :: rest))
  rw [hv, rv_pos hv0]
  exact kk
theorem r_gst0 (cx : Cx p s m args c cc nL own G) (wo : Wo Φ G B N s M H locs) (hw : Cond.fieldLink own idx "BumpsRiver" "HEARD_LEAST" "[I" ∈ gtbl) (hdg : decode cc pc = .ok (.getstatic idx, 3))
    (kk : W p l e R s m args below meth c H locs cells slots Q (F0 m (pc + 3) ls (.ref (G.2.2 0) :: rest))) : W p l e R s m args below meth c H locs cells slots Q (F0 m pc ls rest) :=
  va_gets cx.1 cx.2.1 wo.2.2.2.2.1.1 wo.2.1 cx.2.2.2.1 (cx.2.2.2.2.1 _ hw) (fun _ h => h) hdg kk
theorem r_gst1 (cx : Cx p s m args c cc nL own G) (wo : Wo Φ G B N s M H locs) (hw : Cond.fieldLink own idx "BumpsRiver" "HEARD_MOST" "[I" ∈ gtbl) (hdg : decode cc pc = .ok (.getstatic idx, 3))
    (kk : W p l e R s m args below meth c H locs cells slots Q (F0 m (pc + 3) ls (.ref (G.2.2 1) :: rest))) : W p l e R s m args below meth c H locs cells slots Q (F0 m pc ls rest) :=
  va_gets cx.1 cx.2.1 wo.2.2.2.2.2.1.1 wo.2.1 cx.2.2.2.1 (cx.2.2.2.2.1 _ hw) (fun _ h => h) hdg kk
theorem r_tld0 {i : Int32} (cx : Cx p s m args c cc nL own G) (wo : Wo Φ G B N s M H locs) (hin : inb i 5 = true) (hdg : decode cc pc = .ok (.iaload, 1))
    (kk : W p l e R s m args below meth c H locs cells slots Q (F0 m (pc + 1) ls (.int (hLeast (ix i)) :: rest))) : W p l e R s m args below meth c H locs cells slots Q (F0 m pc ls (.int i :: .ref (G.2.2 0) :: rest)) :=
  va_ti cx.1 cx.2.1 wo.2.2.2.2.1.2 wo.2.1 (inb_vp hin) rfl hdg kk
theorem r_tld1 {i : Int32} (cx : Cx p s m args c cc nL own G) (wo : Wo Φ G B N s M H locs) (hin : inb i 5 = true) (hdg : decode cc pc = .ok (.iaload, 1))
    (kk : W p l e R s m args below meth c H locs cells slots Q (F0 m (pc + 1) ls (.int (hMost (ix i)) :: rest))) : W p l e R s m args below meth c H locs cells slots Q (F0 m pc ls (.int i :: .ref (G.2.2 1) :: rest)) :=
  va_ti cx.1 cx.2.1 wo.2.2.2.2.2.1.2 wo.2.1 (inb_vp hin) rfl hdg kk
theorem r_tln0 (cx : Cx p s m args c cc nL own G) (wo : Wo Φ G B N s M H locs) (hdg : decode cc pc = .ok (.arraylength, 1))
    (kk : W p l e R s m args below meth c H locs cells slots Q (F0 m (pc + 1) ls (.int 5 :: rest))) : W p l e R s m args below meth c H locs cells slots Q (F0 m pc ls (.ref (G.2.2 0) :: rest)) :=
  va_tlen cx.1 cx.2.1 wo.2.2.2.2.1.2 wo.2.1 rfl hdg kk
end Help
/-! the texts of the reference: 0 .. 4 -/
def slenN (j : Nat) : Nat := lenS.getD j 0
def slen (j : Nat) : Int32 := nI (slenN j)
def sch (j k : Nat) : Int32 := (bytS.getD j []).getD k 0
