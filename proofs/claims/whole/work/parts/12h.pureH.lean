theorem qn_bv (n : Nat) : (qn n).toBitVec = BitVec.ofNat 32 n := rfl
theorem qn_and (a b : Nat) : qn a &&& qn b = qn (a &&& b) := by
  apply Int32.toBitVec_inj.mp
  rw [Int32.toBitVec_and, qn_bv, qn_bv, qn_bv]
  apply BitVec.eq_of_toNat_eq
  simp only [BitVec.toNat_and, BitVec.toNat_ofNat, Nat.and_mod_two_pow]
theorem qn_shr {a k : Nat} (ha : a < 2147483648) (hk : k < 32) : qn a >>> qn k = qn (a / 2 ^ k) := by
  apply Int32.toBitVec_inj.mp
  rw [Int32.toBitVec_shiftRight, qn_bv, qn_bv, qn_bv]
  have e : (BitVec.ofNat 32 k).smod 32 = BitVec.ofNat 32 k := by
    have : k = 0 ∨ k = 1 ∨ k = 2 ∨ k = 3 ∨ k = 4 ∨ k = 5 ∨ k = 6 ∨ k = 7 ∨ k = 8 ∨ k = 9 ∨ k = 10 ∨ k = 11 ∨ k = 12 ∨ k = 13 ∨ k = 14 ∨ k = 15 ∨ k = 16 ∨ k = 17 ∨ k = 18 ∨ k = 19 ∨ k = 20 ∨ k = 21 ∨ k = 22 ∨ k = 23 ∨ k = 24 ∨ k = 25 ∨ k = 26 ∨ k = 27 ∨ k = 28 ∨ k = 29 ∨ k = 30 ∨ k = 31 := by omega
    rcases this with rfl | rfl | rfl | rfl | rfl | rfl | rfl | rfl | rfl | rfl | rfl | rfl | rfl | rfl | rfl | rfl | rfl | rfl | rfl | rfl | rfl | rfl | rfl | rfl | rfl | rfl | rfl | rfl | rfl | rfl | rfl | rfl <;> decide
  rw [e]
  have hm : (BitVec.ofNat 32 a).msb = false := by
    rw [BitVec.msb_eq_decide, BitVec.toNat_ofNat]; simp; omega
  rw [BitVec.sshiftRight_eq', BitVec.sshiftRight_eq_of_msb_false hm]
  apply BitVec.eq_of_toNat_eq
  have h1 : a / 2 ^ k ≤ a := Nat.div_le_self _ _
  rw [BitVec.toNat_ushiftRight, BitVec.toNat_ofNat, BitVec.toNat_ofNat, BitVec.toNat_ofNat, Nat.mod_eq_of_lt (show a < 2 ^ 32 by omega), Nat.mod_eq_of_lt (show k < 2 ^ 32 by omega), Nat.mod_eq_of_lt (show a / 2 ^ k < 2 ^ 32 by omega), Nat.shiftRight_eq_div_pow]
def pz (w : Nat → Nat) : Int32 := qn (w 0 + 16 * w 1 + 256 * w 2)
def w16 (w : Nat → Nat) : Prop := w 0 < 16 ∧ w 1 < 16 ∧ w 2 < 16
def nset (w : Nat → Nat) (c x : Nat) : Nat → Nat := fun j => if j = c then x else w j
theorem nset_at (w : Nat → Nat) (c x : Nat) : nset w c x c = x := by simp [nset]
theorem nset_ne (w : Nat → Nat) {c j : Nat} (x : Nat) (h : j ≠ c) : nset w c x j = w j := by simp [nset, h]
theorem w16.at {w : Nat → Nat} (h : w16 w) {c : Nat} (hc : c < 3) : w c < 16 := by
  have : c = 0 ∨ c = 1 ∨ c = 2 := by omega
  rcases this with rfl | rfl | rfl
  · exact h.1
  · exact h.2.1
  · exact h.2.2
theorem w16.st {w : Nat → Nat} (h : w16 w) {c x : Nat} (hx : x < 16) : w16 (nset w c x) := by
  unfold w16 nset
  obtain ⟨h0, h1, h2⟩ := h
  refine ⟨?_, ?_, ?_⟩ <;> split <;> assumption
theorem sh4 {c : Nat} (hc : c < 3) : (qn 4 * qn c) &&& qn 31 = qn (4 * c) := by
  have : c = 0 ∨ c = 1 ∨ c = 2 := by omega
  rcases this with rfl | rfl | rfl <;> decide
theorem pz_shr {w : Nat → Nat} (h : w16 w) {c : Nat} (hc : c < 3) : ∃ q, pz w >>> qn (4 * c) = qn q ∧ q < 4096 ∧ q % 16 = w c := by
  obtain ⟨h0, h1, h2⟩ := h
  unfold pz
  refine ⟨_, qn_shr (by omega) (by omega), ?_, ?_⟩
  · exact Nat.lt_of_le_of_lt (Nat.div_le_self _ _) (by omega)
  · have : c = 0 ∨ c = 1 ∨ c = 2 := by omega
    rcases this with rfl | rfl | rfl
    · simp only [Nat.mul_zero, Nat.pow_zero, Nat.div_one]; omega
    · simp only [Nat.reduceMul, Nat.reducePow]; omega
    · simp only [Nat.reduceMul, Nat.reducePow]; omega
theorem and15 (q : Nat) : q &&& 15 = q % 16 := Nat.and_two_pow_sub_one_eq_mod q 4
theorem and7 (q : Nat) : q &&& 7 = q % 8 := Nat.and_two_pow_sub_one_eq_mod q 3
theorem and1 (q : Nat) : q &&& 1 = q % 2 := Nat.and_two_pow_sub_one_eq_mod q 1
theorem and8 (q : Nat) : q &&& 8 = if q % 16 < 8 then 0 else 8 := by
  have h : q &&& 8 = (q % 16) &&& 8 := by
    rw [← and15, Nat.and_assoc]; rfl
  have h2 : q % 16 < 16 := Nat.mod_lt _ (by omega)
  rw [h]
  revert h2
  generalize q % 16 = x
  intro h2
  have : x = 0 ∨ x = 1 ∨ x = 2 ∨ x = 3 ∨ x = 4 ∨ x = 5 ∨ x = 6 ∨ x = 7 ∨ x = 8 ∨ x = 9 ∨ x = 10 ∨ x = 11 ∨ x = 12 ∨ x = 13 ∨ x = 14 ∨ x = 15 := by omega
  rcases this with rfl | rfl | rfl | rfl | rfl | rfl | rfl | rfl | rfl | rfl | rfl | rfl | rfl | rfl | rfl | rfl <;> decide
theorem t_O_content {fu : Nat} {w : Nat → Nat} (h : w16 w) {c : Nat} (hc : c < 3) : f_O_content fu (pz w) (qn c) = some (qn (w c)) := by
  obtain ⟨q, h1, h2, h3⟩ := pz_shr h hc
  simp (disch := omega) only [q0, q1, q2, q3, q4, q5, q6, q7, q8, q14, q15, q16, q20, q31, q44, q50, q70, q1000, qn_le, qn_lt, qn_eq, qn_add, qn_inb, qn_ix, qn_dec, qn_m1, ck_tt, bd_ss, ix, isB0, isB1, if_pos, if_neg, if_true, if_false, Nat.reduceAdd, Nat.reduceLeDiff, Nat.reduceSub, Nat.reduceEqDiff, Nat.reduceMul, Nat.reduceLT, Nat.zero_add, not_true, not_false_iff, f_O_content, sh4 hc, h1, qn_and, and15, h3]
theorem t_O_held {fu : Nat} {w : Nat → Nat} (h : w16 w) {c : Nat} (hc : c < 3) : f_O_held fu (pz w) (qn c) = some (qn (w c % 8)) := by
  obtain ⟨q, h1, h2, h3⟩ := pz_shr h hc
  have h4 : q % 8 = w c % 8 := by omega
  simp (disch := omega) only [q0, q1, q2, q3, q4, q5, q6, q7, q8, q14, q15, q16, q20, q31, q44, q50, q70, q1000, qn_le, qn_lt, qn_eq, qn_add, qn_inb, qn_ix, qn_dec, qn_m1, ck_tt, bd_ss, ix, isB0, isB1, if_pos, if_neg, if_true, if_false, Nat.reduceAdd, Nat.reduceLeDiff, Nat.reduceSub, Nat.reduceEqDiff, Nat.reduceMul, Nat.reduceLT, Nat.zero_add, not_true, not_false_iff, f_O_held, sh4 hc, h1, qn_and, and7, h4]
theorem t_O_isOpen {fu : Nat} {w : Nat → Nat} (h : w16 w) {c : Nat} (hc : c < 3) : bqr (f_O_isOpen fu (pz w) (qn c)) (8 ≤ w c) := by
  obtain ⟨q, h1, h2, h3⟩ := pz_shr h hc
  refine ⟨fun hx => ?_, fun hx => ?_⟩
  · simp (disch := omega) only [q0, q1, q2, q3, q4, q5, q6, q7, q8, q14, q15, q16, q20, q31, q44, q50, q70, q1000, qn_le, qn_lt, qn_eq, qn_add, qn_inb, qn_ix, qn_dec, qn_m1, ck_tt, bd_ss, ix, isB0, isB1, if_pos, if_neg, if_true, if_false, Nat.reduceAdd, Nat.reduceLeDiff, Nat.reduceSub, Nat.reduceEqDiff, Nat.reduceMul, Nat.reduceLT, Nat.zero_add, not_true, not_false_iff, f_O_isOpen, sh4 hc, h1, qn_and, and8, h3]
  · simp (disch := omega) only [q0, q1, q2, q3, q4, q5, q6, q7, q8, q14, q15, q16, q20, q31, q44, q50, q70, q1000, qn_le, qn_lt, qn_eq, qn_add, qn_inb, qn_ix, qn_dec, qn_m1, ck_tt, bd_ss, ix, isB0, isB1, if_pos, if_neg, if_true, if_false, Nat.reduceAdd, Nat.reduceLeDiff, Nat.reduceSub, Nat.reduceEqDiff, Nat.reduceMul, Nat.reduceLT, Nat.zero_add, not_true, not_false_iff, f_O_isOpen, sh4 hc, h1, qn_and, and8, h3]
theorem t_O_source {fu : Nat} {c : Nat} (hc : c < 3) : f_O_source fu (qn c) = some (qn ((c + 1) % 3)) := by
  simp (disch := omega) only [q0, q1, q2, q3, q4, q5, q6, q7, q8, q14, q15, q16, q20, q31, q44, q50, q70, q1000, qn_le, qn_lt, qn_eq, qn_add, qn_inb, qn_ix, qn_dec, qn_m1, ck_tt, bd_ss, ix, isB0, isB1, if_pos, if_neg, if_true, if_false, Nat.reduceAdd, Nat.reduceLeDiff, Nat.reduceSub, Nat.reduceEqDiff, Nat.reduceMul, Nat.reduceLT, Nat.zero_add, not_true, not_false_iff, f_O_source, nz_qn, qn_mod]
