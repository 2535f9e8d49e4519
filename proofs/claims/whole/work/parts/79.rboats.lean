/-! PURE: boats of the reference -/
def BtR (n j m a : Nat) (f : Nat → Nat) (M s : Mem) : Prop := AtR a m f s ∧ s.1 169 3 = nI n ∧ s.1 169 13 = nI j ∧ (∀ i, i < j → s.1 174 (2 * i) = nI (f (3 * i) - 48) ∧ s.1 174 (2 * i + 1) = nI (f (3 * i + 1) - 48)) ∧ FrR (fun a => a = 174) (fun i => i = 9 ∨ i = 13) M s
theorem bF_is {L room a : Nat} {f : Nat → Nat} (ha : a ≤ min L 17) (hall : ∀ p, p < a → fl room f p = true) (hno : a < min L 17 → fl room f a = false) : bF L room f = a := by
  by_cases c : a < min L 17
  · exact bF_first c (hno c) hall
  · rw [bF_none (fun i hi => hall i (by omega))]; omega
theorem r_read61 {s : Mem} {j : Nat} {v : Int32} (hj : j ≤ 5) : fX10_readsBoat_61 (nI (2 * j)) v (nI (2 * j + 1)) s = some (if v < 0 then 0 else 1, sI (sI s 174 (2 * j + 1) v) 169 13 (s.1 169 13 + 1)) := by
  rw [e_X10_readsBoat_61]
  by_cases c : v < 0
  · rw [if_pos c]
    simp (disch := omega) only [↓reduceIte, ic_t, ic_f, not_true_eq_false, not_false_eq_true, ↓lt_v, rdR, rdE, rdS, leT, leTc, leTd, leF, leFc, leFd, ltT, ltTc, ltTd, ltF, ltFc, ltFd, eqT, eqTc, eqTd, eqF, eqFc, eqFd, m1T, m1F, m1T', m1F', inb_nI, ix_nI, inb_c, ix_c, nI_1, nI_pred, nI_m1, add_nIc, add_cnI, bd_v, reduceCtorEq, eqFcc, m1e0, m1e1, m1l0, m1g0, m2l0, m2g0, Int32.reduceLT, Int32.reduceLE, Int32.reduceAdd, Int32.reduceSub, Int32.reduceMul, eq_self, Bool.false_eq_true, c]
  · rw [if_neg c]
    simp (disch := omega) only [↓reduceIte, ic_t, ic_f, not_true_eq_false, not_false_eq_true, ↓lt_v, rdR, rdE, rdS, leT, leTc, leTd, leF, leFc, leFd, ltT, ltTc, ltTd, ltF, ltFc, ltFd, eqT, eqTc, eqTd, eqF, eqFc, eqFd, m1T, m1F, m1T', m1F', inb_nI, ix_nI, inb_c, ix_c, nI_1, nI_pred, nI_m1, add_nIc, add_cnI, bd_v, reduceCtorEq, eqFcc, m1e0, m1e1, m1l0, m1g0, m2l0, m2g0, Int32.reduceLT, Int32.reduceLE, Int32.reduceAdd, Int32.reduceSub, Int32.reduceMul, eq_self, Bool.false_eq_true, c]
theorem r_readsBoat {n j m : Nat} {f : Nat → Nat} {M s : Mem} (hm : m ≤ 17) (hn : n + j ≤ 6) (h : BtR n j m (3 * j) f M s) : Ok (fX10_readsBoat s) (fun q => (q.1 = 1 ∧ 3 * j + 2 ≤ m ∧ fl (6 - n) f (3 * j) = true ∧ fl (6 - n) f (3 * j + 1) = true ∧ BtR n (j + 1) m (3 * j + 2) f M q.2 ∧ n + j + 1 ≤ 6) ∨ (q.1 = 0 ∧ ∃ a, 3 * j ≤ a ∧ a ≤ 3 * j + 1 ∧ AtR a m f q.2 ∧ FrR (fun a => a = 174) (fun i => i = 9 ∨ i = 13) M q.2 ∧ (∀ p, 3 * j ≤ p → p < a → fl (6 - n) f p = true) ∧ (a < m → fl (6 - n) f a = false))) := by
  obtain ⟨hA, h3, h13, hd, hf⟩ := h
  have hA' := hA
  obtain ⟨a1, a2, a3, a4, a5⟩ := hA'
  have m2 : (2 : Int32) * nI j = nI (2 * j) := by rw [show (2 : Int32) = nI 2 from rfl, pk_mul]
  have fl0 : fl (6 - n) f (3 * j) = (decide (j < 6 - n) && (isD (f (3 * j)) && decide (f (3 * j) ≠ 48))) := by unfold fl; rw [if_pos (by omega), show 3 * j / 3 = j by omega]
  have fl1 : fl (6 - n) f (3 * j + 1) = isD (f (3 * j + 1)) := by unfold fl; rw [if_neg (by omega), if_pos (by omega)]
  rw [e_X10_readsBoat]
  by_cases c6 : n + j = 6
  · simp (disch := omega) only [↓reduceIte, ic_t, ic_f, not_true_eq_false, not_false_eq_true, ↓lt_v, rdR, rdE, rdS, leT, leTc, leTd, leF, leFc, leFd, ltT, ltTc, ltTd, ltF, ltFc, ltFd, eqT, eqTc, eqTd, eqF, eqFc, eqFd, m1T, m1F, m1T', m1F', inb_nI, ix_nI, inb_c, ix_c, nI_1, nI_pred, nI_m1, add_nIc, add_cnI, bd_v, reduceCtorEq, eqFcc, m1e0, m1e1, m1l0, m1g0, m2l0, m2g0, Int32.reduceLT, Int32.reduceLE, Int32.reduceAdd, Int32.reduceSub, Int32.reduceMul, eq_self, Bool.false_eq_true, h3, h13, nI_add]
    refine ok_some (Or.inr ⟨rfl, 3 * j, Nat.le_refl _, by omega, hA, hf, fun p h1 h2 => absurd h2 (by omega), fun _ => ?_⟩)
    rw [fl0, decide_eq_false (by omega)]; rfl
  · have hdg : fX10_digitIn 1 9 s = _ := r_digitIn (lo := 1) (hi := 9) hA (by omega) (by omega)
    by_cases c : 3 * j < m ∧ 48 + 1 ≤ f (3 * j) ∧ f (3 * j) ≤ 48 + 9
    · rw [if_pos c] at hdg
      have bb := (a5 (3 * j) c.1).1
      have F0 : fl (6 - n) f (3 * j) = true := by
        rw [fl0, decide_eq_true (by omega), isD_t (by omega), decide_eq_true (by omega)]; rfl
      have hA1 : AtR (3 * j + 1) m f (sI (sI s 169 9 (nI (3 * j + 1))) 174 (2 * j) (nI (f (3 * j) - 48))) := atR_fr (atR_set hA (by omega)) (rdR (by omega)) (rdR (by omega)) (row_n (by omega))
      have hnm := r_number1 hA1
      by_cases c' : 3 * j + 1 < m ∧ isD (f (3 * j + 1)) = true
      · rw [if_pos c'] at hnm
        have d1 := isD_i c'.2
        simp (disch := omega) only [↓reduceIte, ic_t, ic_f, not_true_eq_false, not_false_eq_true, ↓lt_v, rdR, rdE, rdS, leT, leTc, leTd, leF, leFc, leFd, ltT, ltTc, ltTd, ltF, ltFc, ltFd, eqT, eqTc, eqTd, eqF, eqFc, eqFd, m1T, m1F, m1T', m1F', inb_nI, ix_nI, inb_c, ix_c, nI_1, nI_pred, nI_m1, add_nIc, add_cnI, bd_v, reduceCtorEq, eqFcc, m1e0, m1e1, m1l0, m1g0, m2l0, m2g0, Int32.reduceLT, Int32.reduceLE, Int32.reduceAdd, Int32.reduceSub, Int32.reduceMul, eq_self, Bool.false_eq_true, h3, h13, nI_add, m2, hdg, hnm]
        rw [r_read61 (by omega)]
        simp (disch := omega) only [↓reduceIte, ic_t, ic_f, not_true_eq_false, not_false_eq_true, ↓lt_v, rdR, rdE, rdS, leT, leTc, leTd, leF, leFc, leFd, ltT, ltTc, ltTd, ltF, ltFc, ltFd, eqT, eqTc, eqTd, eqF, eqFc, eqFd, m1T, m1F, m1T', m1F', inb_nI, ix_nI, inb_c, ix_c, nI_1, nI_pred, nI_m1, add_nIc, add_cnI, bd_v, reduceCtorEq, eqFcc, m1e0, m1e1, m1l0, m1g0, m2l0, m2g0, Int32.reduceLT, Int32.reduceLE, Int32.reduceAdd, Int32.reduceSub, Int32.reduceMul, eq_self, Bool.false_eq_true, h13]
        refine ok_some (Or.inl ⟨rfl, by omega, F0, by rw [fl1]; exact c'.2, ⟨?_, ?_, ?_, fun i hi => ?_, ?_⟩, by omega⟩)
        · exact atR_fr (atR_set hA1 (b := 3 * j + 2) (by omega)) (by simp (disch := omega) only [↓reduceIte, ic_t, ic_f, not_true_eq_false, not_false_eq_true, ↓lt_v, rdR, rdE, rdS, leT, leTc, leTd, leF, leFc, leFd, ltT, ltTc, ltTd, ltF, ltFc, ltFd, eqT, eqTc, eqTd, eqF, eqFc, eqFd, m1T, m1F, m1T', m1F', inb_nI, ix_nI, inb_c, ix_c, nI_1, nI_pred, nI_m1, add_nIc, add_cnI, bd_v, reduceCtorEq, eqFcc, m1e0, m1e1, m1l0, m1g0, m2l0, m2g0, Int32.reduceLT, Int32.reduceLE, Int32.reduceAdd, Int32.reduceSub, Int32.reduceMul, eq_self, Bool.false_eq_true]) (by simp (disch := omega) only [↓reduceIte, ic_t, ic_f, not_true_eq_false, not_false_eq_true, ↓lt_v, rdR, rdE, rdS, leT, leTc, leTd, leF, leFc, leFd, ltT, ltTc, ltTd, ltF, ltFc, ltFd, eqT, eqTc, eqTd, eqF, eqFc, eqFd, m1T, m1F, m1T', m1F', inb_nI, ix_nI, inb_c, ix_c, nI_1, nI_pred, nI_m1, add_nIc, add_cnI, bd_v, reduceCtorEq, eqFcc, m1e0, m1e1, m1l0, m1g0, m2l0, m2g0, Int32.reduceLT, Int32.reduceLE, Int32.reduceAdd, Int32.reduceSub, Int32.reduceMul, eq_self, Bool.false_eq_true]) (by rw [row_n (by omega), row_n (by omega)])
        · simp (disch := omega) only [↓reduceIte, ic_t, ic_f, not_true_eq_false, not_false_eq_true, ↓lt_v, rdR, rdE, rdS, leT, leTc, leTd, leF, leFc, leFd, ltT, ltTc, ltTd, ltF, ltFc, ltFd, eqT, eqTc, eqTd, eqF, eqFc, eqFd, m1T, m1F, m1T', m1F', inb_nI, ix_nI, inb_c, ix_c, nI_1, nI_pred, nI_m1, add_nIc, add_cnI, bd_v, reduceCtorEq, eqFcc, m1e0, m1e1, m1l0, m1g0, m2l0, m2g0, Int32.reduceLT, Int32.reduceLE, Int32.reduceAdd, Int32.reduceSub, Int32.reduceMul, eq_self, Bool.false_eq_true, h3]
        · simp (disch := omega) only [↓reduceIte, ic_t, ic_f, not_true_eq_false, not_false_eq_true, ↓lt_v, rdR, rdE, rdS, leT, leTc, leTd, leF, leFc, leFd, ltT, ltTc, ltTd, ltF, ltFc, ltFd, eqT, eqTc, eqTd, eqF, eqFc, eqFd, m1T, m1F, m1T', m1F', inb_nI, ix_nI, inb_c, ix_c, nI_1, nI_pred, nI_m1, add_nIc, add_cnI, bd_v, reduceCtorEq, eqFcc, m1e0, m1e1, m1l0, m1g0, m2l0, m2g0, Int32.reduceLT, Int32.reduceLE, Int32.reduceAdd, Int32.reduceSub, Int32.reduceMul, eq_self, Bool.false_eq_true]
        · by_cases e : i = j
          · subst e
            constructor <;> simp (disch := omega) only [↓reduceIte, ic_t, ic_f, not_true_eq_false, not_false_eq_true, ↓lt_v, rdR, rdE, rdS, leT, leTc, leTd, leF, leFc, leFd, ltT, ltTc, ltTd, ltF, ltFc, ltFd, eqT, eqTc, eqTd, eqF, eqFc, eqFd, m1T, m1F, m1T', m1F', inb_nI, ix_nI, inb_c, ix_c, nI_1, nI_pred, nI_m1, add_nIc, add_cnI, bd_v, reduceCtorEq, eqFcc, m1e0, m1e1, m1l0, m1g0, m2l0, m2g0, Int32.reduceLT, Int32.reduceLE, Int32.reduceAdd, Int32.reduceSub, Int32.reduceMul, eq_self, Bool.false_eq_true]
          · have := hd i (by omega)
            simp (disch := omega) only [↓reduceIte, ic_t, ic_f, not_true_eq_false, not_false_eq_true, ↓lt_v, rdR, rdE, rdS, leT, leTc, leTd, leF, leFc, leFd, ltT, ltTc, ltTd, ltF, ltFc, ltFd, eqT, eqTc, eqTd, eqF, eqFc, eqFd, m1T, m1F, m1T', m1F', inb_nI, ix_nI, inb_c, ix_c, nI_1, nI_pred, nI_m1, add_nIc, add_cnI, bd_v, reduceCtorEq, eqFcc, m1e0, m1e1, m1l0, m1g0, m2l0, m2g0, Int32.reduceLT, Int32.reduceLE, Int32.reduceAdd, Int32.reduceSub, Int32.reduceMul, eq_self, Bool.false_eq_true]
            exact this
        · exact frR_trans hf (by repeat (first | exact frR_rfl | refine frR_trans ?_ (frR_sI (by omega) (by omega))))
      · rw [if_neg c'] at hnm
        simp (disch := omega) only [↓reduceIte, ic_t, ic_f, not_true_eq_false, not_false_eq_true, ↓lt_v, rdR, rdE, rdS, leT, leTc, leTd, leF, leFc, leFd, ltT, ltTc, ltTd, ltF, ltFc, ltFd, eqT, eqTc, eqTd, eqF, eqFc, eqFd, m1T, m1F, m1T', m1F', inb_nI, ix_nI, inb_c, ix_c, nI_1, nI_pred, nI_m1, add_nIc, add_cnI, bd_v, reduceCtorEq, eqFcc, m1e0, m1e1, m1l0, m1g0, m2l0, m2g0, Int32.reduceLT, Int32.reduceLE, Int32.reduceAdd, Int32.reduceSub, Int32.reduceMul, eq_self, Bool.false_eq_true, h3, h13, nI_add, m2, hdg, hnm]
        rw [r_read61 (by omega)]
        simp (disch := omega) only [↓reduceIte, ic_t, ic_f, not_true_eq_false, not_false_eq_true, ↓lt_v, rdR, rdE, rdS, leT, leTc, leTd, leF, leFc, leFd, ltT, ltTc, ltTd, ltF, ltFc, ltFd, eqT, eqTc, eqTd, eqF, eqFc, eqFd, m1T, m1F, m1T', m1F', inb_nI, ix_nI, inb_c, ix_c, nI_1, nI_pred, nI_m1, add_nIc, add_cnI, bd_v, reduceCtorEq, eqFcc, m1e0, m1e1, m1l0, m1g0, m2l0, m2g0, Int32.reduceLT, Int32.reduceLE, Int32.reduceAdd, Int32.reduceSub, Int32.reduceMul, eq_self, Bool.false_eq_true, h13]
        refine ok_some (Or.inr ⟨rfl, 3 * j + 1, by omega, Nat.le_refl _, ?_, frR_trans hf (by repeat (first | exact frR_rfl | refine frR_trans ?_ (frR_sI (by omega) (by omega)))), fun p h1 h2 => by rw [show p = 3 * j by omega]; exact F0, fun hl => ?_⟩)
        · exact atR_fr hA1 (by simp (disch := omega) only [↓reduceIte, ic_t, ic_f, not_true_eq_false, not_false_eq_true, ↓lt_v, rdR, rdE, rdS, leT, leTc, leTd, leF, leFc, leFd, ltT, ltTc, ltTd, ltF, ltFc, ltFd, eqT, eqTc, eqTd, eqF, eqFc, eqFd, m1T, m1F, m1T', m1F', inb_nI, ix_nI, inb_c, ix_c, nI_1, nI_pred, nI_m1, add_nIc, add_cnI, bd_v, reduceCtorEq, eqFcc, m1e0, m1e1, m1l0, m1g0, m2l0, m2g0, Int32.reduceLT, Int32.reduceLE, Int32.reduceAdd, Int32.reduceSub, Int32.reduceMul, eq_self, Bool.false_eq_true]) (by simp (disch := omega) only [↓reduceIte, ic_t, ic_f, not_true_eq_false, not_false_eq_true, ↓lt_v, rdR, rdE, rdS, leT, leTc, leTd, leF, leFc, leFd, ltT, ltTc, ltTd, ltF, ltFc, ltFd, eqT, eqTc, eqTd, eqF, eqFc, eqFd, m1T, m1F, m1T', m1F', inb_nI, ix_nI, inb_c, ix_c, nI_1, nI_pred, nI_m1, add_nIc, add_cnI, bd_v, reduceCtorEq, eqFcc, m1e0, m1e1, m1l0, m1g0, m2l0, m2g0, Int32.reduceLT, Int32.reduceLE, Int32.reduceAdd, Int32.reduceSub, Int32.reduceMul, eq_self, Bool.false_eq_true]) (by rw [row_n (by omega), row_n (by omega)])
        · rw [fl1]
          cases hh : isD (f (3 * j + 1))
          · rfl
          · exact absurd ⟨hl, hh⟩ c'
    · rw [if_neg c] at hdg
      simp (disch := omega) only [↓reduceIte, ic_t, ic_f, not_true_eq_false, not_false_eq_true, ↓lt_v, rdR, rdE, rdS, leT, leTc, leTd, leF, leFc, leFd, ltT, ltTc, ltTd, ltF, ltFc, ltFd, eqT, eqTc, eqTd, eqF, eqFc, eqFd, m1T, m1F, m1T', m1F', inb_nI, ix_nI, inb_c, ix_c, nI_1, nI_pred, nI_m1, add_nIc, add_cnI, bd_v, reduceCtorEq, eqFcc, m1e0, m1e1, m1l0, m1g0, m2l0, m2g0, Int32.reduceLT, Int32.reduceLE, Int32.reduceAdd, Int32.reduceSub, Int32.reduceMul, eq_self, Bool.false_eq_true, h3, h13, nI_add, m2, hdg]
      rw [r_read61 (by omega)]
      simp (disch := omega) only [↓reduceIte, ic_t, ic_f, not_true_eq_false, not_false_eq_true, ↓lt_v, rdR, rdE, rdS, leT, leTc, leTd, leF, leFc, leFd, ltT, ltTc, ltTd, ltF, ltFc, ltFd, eqT, eqTc, eqTd, eqF, eqFc, eqFd, m1T, m1F, m1T', m1F', inb_nI, ix_nI, inb_c, ix_c, nI_1, nI_pred, nI_m1, add_nIc, add_cnI, bd_v, reduceCtorEq, eqFcc, m1e0, m1e1, m1l0, m1g0, m2l0, m2g0, Int32.reduceLT, Int32.reduceLE, Int32.reduceAdd, Int32.reduceSub, Int32.reduceMul, eq_self, Bool.false_eq_true, h13]
      refine ok_some (Or.inr ⟨rfl, 3 * j, Nat.le_refl _, by omega, ?_, frR_trans hf (by repeat (first | exact frR_rfl | refine frR_trans ?_ (frR_sI (by omega) (by omega)))), fun p h1 h2 => absurd h2 (by omega), fun hl => ?_⟩)
      · exact atR_fr hA (by simp (disch := omega) only [↓reduceIte, ic_t, ic_f, not_true_eq_false, not_false_eq_true, ↓lt_v, rdR, rdE, rdS, leT, leTc, leTd, leF, leFc, leFd, ltT, ltTc, ltTd, ltF, ltFc, ltFd, eqT, eqTc, eqTd, eqF, eqFc, eqFd, m1T, m1F, m1T', m1F', inb_nI, ix_nI, inb_c, ix_c, nI_1, nI_pred, nI_m1, add_nIc, add_cnI, bd_v, reduceCtorEq, eqFcc, m1e0, m1e1, m1l0, m1g0, m2l0, m2g0, Int32.reduceLT, Int32.reduceLE, Int32.reduceAdd, Int32.reduceSub, Int32.reduceMul, eq_self, Bool.false_eq_true]) (by simp (disch := omega) only [↓reduceIte, ic_t, ic_f, not_true_eq_false, not_false_eq_true, ↓lt_v, rdR, rdE, rdS, leT, leTc, leTd, leF, leFc, leFd, ltT, ltTc, ltTd, ltF, ltFc, ltFd, eqT, eqTc, eqTd, eqF, eqFc, eqFd, m1T, m1F, m1T', m1F', inb_nI, ix_nI, inb_c, ix_c, nI_1, nI_pred, nI_m1, add_nIc, add_cnI, bd_v, reduceCtorEq, eqFcc, m1e0, m1e1, m1l0, m1g0, m2l0, m2g0, Int32.reduceLT, Int32.reduceLE, Int32.reduceAdd, Int32.reduceSub, Int32.reduceMul, eq_self, Bool.false_eq_true]) (by rw [row_n (by omega), row_n (by omega), row_n (by omega)])
      · rw [fl0]
        cases hh : isD (f (3 * j))
        · simp
        · have := isD_i hh
          rw [show decide (f (3 * j) ≠ 48) = false from decide_eq_false (by omega)]
          simp
def EnR (n L : Nat) (f : Nat → Nat) (M : Mem) (z : Bool) (a : Nat) (s : Mem) : Prop := AtR a (min L 17) f s ∧ bF L (6 - n) f = a ∧ (z = true ↔ (a % 3 = 2 ∨ L = 0)) ∧ (z = true → s.1 169 13 = nI ((a + 1) / 3) ∧ n + (a + 1) / 3 ≤ 6 ∧ ∀ i, i < (a + 1) / 3 → s.1 174 (2 * i) = nI (f (3 * i) - 48) ∧ s.1 174 (2 * i + 1) = nI (f (3 * i + 1) - 48)) ∧ FrR (fun a => a = 174) (fun i => i = 9 ∨ i = 13) M s
theorem r_b29 {n L : Nat} {f : Nat → Nat} {M : Mem} {Q : Int32 × Mem → Prop} (hL : L ≠ 0) (K : ∀ fu z a s, EnR n L f M z a s → Ok (fX10_boats_29 (fu + 1) (nI L) (bI z) 0 s) Q) : ∀ d fu j s x, n + j ≤ 6 → 6 - j ≤ d → d + 2 ≤ fu → (∀ p, p < 3 * j → fl (6 - n) f p = true) → BtR n j (min L 17) (3 * j) f M s → Ok (fX10_boats_29 fu (nI L) x 1 s) Q := by
  intro d
  induction d with
  | zero =>
    intro fu j s x h1 h2 h3 h4 h5
    have := h5.1.2.2.2.1
    omega
  | succ d ih =>
    intro fu j s x hj h2 h3 hall hb
    obtain ⟨fu, rfl⟩ : ∃ m, fu = m + 1 + 1 := ⟨fu - 2, by omega⟩
    rw [e_X10_boats_29]
    simp (disch := omega) only [↓reduceIte, ic_t, ic_f, not_true_eq_false, not_false_eq_true, ↓lt_v, rdR, rdE, rdS, leT, leTc, leTd, leF, leFc, leFd, ltT, ltTc, ltTd, ltF, ltFc, ltFd, eqT, eqTc, eqTd, eqF, eqFc, eqFd, m1T, m1F, m1T', m1F', inb_nI, ix_nI, inb_c, ix_c, nI_1, nI_pred, nI_m1, add_nIc, add_cnI, bd_v, reduceCtorEq, eqFcc, m1e0, m1e1, m1l0, m1g0, m2l0, m2g0, Int32.reduceLT, Int32.reduceLE, Int32.reduceAdd, Int32.reduceSub, Int32.reduceMul, eq_self, Bool.false_eq_true]
    refine ok_call (r_readsBoat (by omega) hj hb) (fun q g => ?_)
    rcases g with ⟨g1, g2, g3, g4, g5, g6⟩ | ⟨g1, a, g2, g3, g4, g5, g6, g7⟩
    · have all : ∀ p, p < 3 * j + 2 → fl (6 - n) f p = true := fun p hp => by
        by_cases c : p < 3 * j
        · exact hall p c
        · by_cases c1 : p = 3 * j
          · rw [c1]; exact g3
          · rw [show p = 3 * j + 1 by omega]; exact g4
      have f2 : fl (6 - n) f (3 * j + 2) = decide (f (3 * j + 2) = 59) := by unfold fl; rw [if_neg (by omega), if_neg (by omega)]
      have ht : fX10_takes 59 q.2 = _ := r_takes (c := 59) g5.1 (by omega)
      rw [g1]
      by_cases c : 3 * j + 2 < min L 17 ∧ f (3 * j + 2) = 59
      · have b1 : bI true = 1 := rfl
        rw [decide_eq_true c, if_pos c, b1] at ht
        simp (disch := omega) only [↓reduceIte, ic_t, ic_f, not_true_eq_false, not_false_eq_true, ↓lt_v, rdR, rdE, rdS, leT, leTc, leTd, leF, leFc, leFd, ltT, ltTc, ltTd, ltF, ltFc, ltFd, eqT, eqTc, eqTd, eqF, eqFc, eqFd, m1T, m1F, m1T', m1F', inb_nI, ix_nI, inb_c, ix_c, nI_1, nI_pred, nI_m1, add_nIc, add_cnI, bd_v, reduceCtorEq, eqFcc, m1e0, m1e1, m1l0, m1g0, m2l0, m2g0, Int32.reduceLT, Int32.reduceLE, Int32.reduceAdd, Int32.reduceSub, Int32.reduceMul, eq_self, Bool.false_eq_true, ht]
        obtain ⟨i1, i2, i3, i4, i5⟩ := g5
        refine ih _ (j + 1) _ _ (by omega) (by omega) (by omega) (fun p hp => ?_) ⟨atR_set i1 (b := 3 * (j + 1)) (by omega), by simp (disch := omega) only [↓reduceIte, ic_t, ic_f, not_true_eq_false, not_false_eq_true, ↓lt_v, rdR, rdE, rdS, leT, leTc, leTd, leF, leFc, leFd, ltT, ltTc, ltTd, ltF, ltFc, ltFd, eqT, eqTc, eqTd, eqF, eqFc, eqFd, m1T, m1F, m1T', m1F', inb_nI, ix_nI, inb_c, ix_c, nI_1, nI_pred, nI_m1, add_nIc, add_cnI, bd_v, reduceCtorEq, eqFcc, m1e0, m1e1, m1l0, m1g0, m2l0, m2g0, Int32.reduceLT, Int32.reduceLE, Int32.reduceAdd, Int32.reduceSub, Int32.reduceMul, eq_self, Bool.false_eq_true, i2], by simp (disch := omega) only [↓reduceIte, ic_t, ic_f, not_true_eq_false, not_false_eq_true, ↓lt_v, rdR, rdE, rdS, leT, leTc, leTd, leF, leFc, leFd, ltT, ltTc, ltTd, ltF, ltFc, ltFd, eqT, eqTc, eqTd, eqF, eqFc, eqFd, m1T, m1F, m1T', m1F', inb_nI, ix_nI, inb_c, ix_c, nI_1, nI_pred, nI_m1, add_nIc, add_cnI, bd_v, reduceCtorEq, eqFcc, m1e0, m1e1, m1l0, m1g0, m2l0, m2g0, Int32.reduceLT, Int32.reduceLE, Int32.reduceAdd, Int32.reduceSub, Int32.reduceMul, eq_self, Bool.false_eq_true, i3], fun i hi => by simp (disch := omega) only [↓reduceIte, ic_t, ic_f, not_true_eq_false, not_false_eq_true, ↓lt_v, rdR, rdE, rdS, leT, leTc, leTd, leF, leFc, leFd, ltT, ltTc, ltTd, ltF, ltFc, ltFd, eqT, eqTc, eqTd, eqF, eqFc, eqFd, m1T, m1F, m1T', m1F', inb_nI, ix_nI, inb_c, ix_c, nI_1, nI_pred, nI_m1, add_nIc, add_cnI, bd_v, reduceCtorEq, eqFcc, m1e0, m1e1, m1l0, m1g0, m2l0, m2g0, Int32.reduceLT, Int32.reduceLE, Int32.reduceAdd, Int32.reduceSub, Int32.reduceMul, eq_self, Bool.false_eq_true]; exact i4 i hi, frR_trans i5 (frR_sI (by omega) (by omega))⟩
        by_cases c1 : p < 3 * j + 2
        · exact all p c1
        · rw [show p = 3 * j + 2 by omega, f2]; exact decide_eq_true c.2
      · have b0 : bI false = 0 := rfl
        rw [decide_eq_false c, if_neg c, b0] at ht
        simp (disch := omega) only [↓reduceIte, ic_t, ic_f, not_true_eq_false, not_false_eq_true, ↓lt_v, rdR, rdE, rdS, leT, leTc, leTd, leF, leFc, leFd, ltT, ltTc, ltTd, ltF, ltFc, ltFd, eqT, eqTc, eqTd, eqF, eqFc, eqFd, m1T, m1F, m1T', m1F', inb_nI, ix_nI, inb_c, ix_c, nI_1, nI_pred, nI_m1, add_nIc, add_cnI, bd_v, reduceCtorEq, eqFcc, m1e0, m1e1, m1l0, m1g0, m2l0, m2g0, Int32.reduceLT, Int32.reduceLE, Int32.reduceAdd, Int32.reduceSub, Int32.reduceMul, eq_self, Bool.false_eq_true, ht]
        obtain ⟨i1, i2, i3, i4, i5⟩ := g5
        refine K fu true (3 * j + 2) _ ⟨atR_set i1 (b := 3 * j + 2) (by omega), bF_is (by omega) all (fun hl => ?_), ⟨fun _ => Or.inl (by omega), fun _ => rfl⟩, fun _ => ?_, frR_trans i5 (frR_sI (by omega) (by omega))⟩
        · rw [f2]; exact decide_eq_false (fun e => c ⟨hl, e⟩)
        · rw [show (3 * j + 2 + 1) / 3 = j + 1 by omega]
          exact ⟨by simp (disch := omega) only [↓reduceIte, ic_t, ic_f, not_true_eq_false, not_false_eq_true, ↓lt_v, rdR, rdE, rdS, leT, leTc, leTd, leF, leFc, leFd, ltT, ltTc, ltTd, ltF, ltFc, ltFd, eqT, eqTc, eqTd, eqF, eqFc, eqFd, m1T, m1F, m1T', m1F', inb_nI, ix_nI, inb_c, ix_c, nI_1, nI_pred, nI_m1, add_nIc, add_cnI, bd_v, reduceCtorEq, eqFcc, m1e0, m1e1, m1l0, m1g0, m2l0, m2g0, Int32.reduceLT, Int32.reduceLE, Int32.reduceAdd, Int32.reduceSub, Int32.reduceMul, eq_self, Bool.false_eq_true, i3], by omega, fun i hi => by simp (disch := omega) only [↓reduceIte, ic_t, ic_f, not_true_eq_false, not_false_eq_true, ↓lt_v, rdR, rdE, rdS, leT, leTc, leTd, leF, leFc, leFd, ltT, ltTc, ltTd, ltF, ltFc, ltFd, eqT, eqTc, eqTd, eqF, eqFc, eqFd, m1T, m1F, m1T', m1F', inb_nI, ix_nI, inb_c, ix_c, nI_1, nI_pred, nI_m1, add_nIc, add_cnI, bd_v, reduceCtorEq, eqFcc, m1e0, m1e1, m1l0, m1g0, m2l0, m2g0, Int32.reduceLT, Int32.reduceLE, Int32.reduceAdd, Int32.reduceSub, Int32.reduceMul, eq_self, Bool.false_eq_true]; exact i4 i hi⟩
    · rw [g1]
      simp (disch := omega) only [↓reduceIte, ic_t, ic_f, not_true_eq_false, not_false_eq_true, ↓lt_v, rdR, rdE, rdS, leT, leTc, leTd, leF, leFc, leFd, ltT, ltTc, ltTd, ltF, ltFc, ltFd, eqT, eqTc, eqTd, eqF, eqFc, eqFd, m1T, m1F, m1T', m1F', inb_nI, ix_nI, inb_c, ix_c, nI_1, nI_pred, nI_m1, add_nIc, add_cnI, bd_v, reduceCtorEq, eqFcc, m1e0, m1e1, m1l0, m1g0, m2l0, m2g0, Int32.reduceLT, Int32.reduceLE, Int32.reduceAdd, Int32.reduceSub, Int32.reduceMul, eq_self, Bool.false_eq_true]
      have := g4.2.2.2.1
      refine K fu false a _ ⟨g4, bF_is (by omega) (fun p hp => ?_) g7, ⟨fun e => Bool.noConfusion e, fun e => ?_⟩, fun e => Bool.noConfusion e, g5⟩
      · by_cases c : p < 3 * j
        · exact hall p c
        · exact g6 p (by omega) hp
      · omega
