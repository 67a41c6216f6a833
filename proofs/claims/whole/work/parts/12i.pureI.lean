theorem mask0 : ∀ a, a < 16 → ∀ b, b < 16 → ∀ c, c < 16 → (a + 16 * b + 256 * c) &&& 4294967280 = 16 * b + 256 * c := by decide +kernel
theorem mask1 : ∀ a, a < 16 → ∀ b, b < 16 → ∀ c, c < 16 → (a + 16 * b + 256 * c) &&& 4294967055 = a + 256 * c := by decide +kernel
theorem mask2 : ∀ a, a < 16 → ∀ b, b < 16 → ∀ c, c < 16 → (a + 16 * b + 256 * c) &&& 4294963455 = a + 16 * b := by decide +kernel
theorem or0 : ∀ a, a < 16 → ∀ c, c < 256 → (16 * c) ||| a = 16 * c + a := by decide +kernel
theorem or1a : ∀ a, a < 16 → ∀ x, x < 16 → a ||| (16 * x) = a + 16 * x := by decide +kernel
theorem or2 : ∀ a, a < 256 → ∀ x, x < 16 → a ||| (256 * x) = a + 256 * x := by decide +kernel
theorem qn_or (a b : Nat) : qn a ||| qn b = qn (a ||| b) := by
  apply Int32.toBitVec_inj.mp
  rw [Int32.toBitVec_or, qn_bv, qn_bv, qn_bv]
  apply BitVec.eq_of_toNat_eq
  simp only [BitVec.toNat_or, BitVec.toNat_ofNat, Nat.or_mod_two_pow]
theorem t_O_after_L118 {fu : Nat} {w : Nat → Nat} (h : w16 w) {c x : Nat} (hc : c < 3) (hx : x < 16) : f_O_after_L118 fu (pz w) (qn c) (qn x) = some (pz (nset w c x)) := by
  obtain ⟨h0, h1, h2⟩ := h
  have : c = 0 ∨ c = 1 ∨ c = 2 := by omega
  rcases this with rfl | rfl | rfl
  · have e1 : ((15 : Int32) <<< ((4 * qn 0) &&& 31)) ^^^ (-1) = qn 4294967280 := by decide
    have e2 : qn x <<< ((4 * qn 0) &&& 31) = qn x := by
      have : ∀ x, x < 16 → qn x <<< ((4 * qn 0) &&& 31) = qn x := by decide
      exact this x hx
    unfold f_O_after_L118 pz
    rw [e1, e2, qn_and, mask0 _ h0 _ h1 _ h2]
    have e3 : 16 * w 1 + 256 * w 2 = 16 * (w 1 + 16 * w 2) := by omega
    rw [e3, qn_or, or0 x hx _ (by omega)]
    congr 2
    show _ = x + 16 * w 1 + 256 * w 2
    omega
  · have e1 : ((15 : Int32) <<< ((4 * qn 1) &&& 31)) ^^^ (-1) = qn 4294967055 := by decide
    have e2 : qn x <<< ((4 * qn 1) &&& 31) = qn (16 * x) := by
      have : ∀ x, x < 16 → qn x <<< ((4 * qn 1) &&& 31) = qn (16 * x) := by decide
      exact this x hx
    unfold f_O_after_L118 pz
    rw [e1, e2, qn_and, mask1 _ h0 _ h1 _ h2]
    have e3 : w 0 + 256 * w 2 = w 0 ||| (256 * w 2) := (or2 _ (by omega) _ h2).symm
    have e4 : w 0 ||| (256 * w 2) ||| (16 * x) = w 0 ||| (16 * x) ||| (256 * w 2) := by
      rw [Nat.or_assoc, Nat.or_assoc, Nat.or_comm (256 * w 2)]
    rw [e3, qn_or, e4, or1a _ h0 _ hx, or2 _ (by omega) _ h2]
    rfl
  · have e1 : ((15 : Int32) <<< ((4 * qn 2) &&& 31)) ^^^ (-1) = qn 4294963455 := by decide
    have e2 : qn x <<< ((4 * qn 2) &&& 31) = qn (256 * x) := by
      have : ∀ x, x < 16 → qn x <<< ((4 * qn 2) &&& 31) = qn (256 * x) := by decide
      exact this x hx
    unfold f_O_after_L118 pz
    rw [e1, e2, qn_and, mask2 _ h0 _ h1 _ h2, qn_or, or2 _ (by omega) _ hx]
    rfl
def naft (w : Nat → Nat) (k c v : Nat) : Nat → Nat :=
  nset w c (if k = 0 then 8 + v else if k = 1 then 0 else if k = 2 then w c else if k = 4 then w c / 8 * 8 + (w c % 8 + v) % 8 else if k = 6 then w c / 8 * 8 + w ((c + 1) % 3) % 8 else w c / 8 * 8 + v)
def nans (w : Nat → Nat) (k c v : Nat) : Nat := if k = 0 ∨ k = 3 then 0 else if k = 4 then (w c % 8 + v) % 8 else w c % 8
theorem and8' {x : Nat} (hx : x < 16) : x &&& 8 = x / 8 * 8 := by
  rw [and8, Nat.mod_eq_of_lt hx]; split <;> omega
theorem t_O_after {fu : Nat} {w : Nat → Nat} (h : w16 w) {k c v : Nat} (hk : k ≤ 6) (hc : c < 3) (hv : v < 8) : f_O_after fu (pz w) (qn k) (qn c) (qn v) = some (pz (naft w k c v)) ∧ w16 (naft w k c v) := by
  have hw := h.at hc
  have hs : (c + 1) % 3 < 3 := Nat.mod_lt _ (by omega)
  have hws := h.at hs
  have h8 : w c / 8 * 8 ≤ 8 := by omega
  have : k = 0 ∨ k = 1 ∨ k = 2 ∨ k = 3 ∨ k = 4 ∨ k = 5 ∨ k = 6 := by omega
  rcases this with rfl | rfl | rfl | rfl | rfl | rfl | rfl
  · refine ⟨?_, h.st (by simp; omega)⟩
    simp (disch := omega) only [q0, q1, q2, q3, q4, q5, q6, q7, q8, q14, q15, q16, q20, q31, q44, q50, q70, q1000, qn_le, qn_lt, qn_eq, qn_add, qn_inb, qn_ix, qn_dec, qn_m1, ck_tt, bd_ss, ix, isB0, isB1, if_pos, if_neg, if_true, if_false, Nat.reduceAdd, Nat.reduceLeDiff, Nat.reduceSub, Nat.reduceEqDiff, Nat.reduceMul, Nat.reduceLT, Nat.zero_add, not_true, not_false_iff, f_O_after, t_O_content h hc, t_O_after_L118 h hc]
    rfl
  · refine ⟨?_, h.st (by simp)⟩
    simp (disch := omega) only [q0, q1, q2, q3, q4, q5, q6, q7, q8, q14, q15, q16, q20, q31, q44, q50, q70, q1000, qn_le, qn_lt, qn_eq, qn_add, qn_inb, qn_ix, qn_dec, qn_m1, ck_tt, bd_ss, ix, isB0, isB1, if_pos, if_neg, if_true, if_false, Nat.reduceAdd, Nat.reduceLeDiff, Nat.reduceSub, Nat.reduceEqDiff, Nat.reduceMul, Nat.reduceLT, Nat.zero_add, not_true, not_false_iff, f_O_after, t_O_content h hc, t_O_after_L118 h hc]
    rfl
  · refine ⟨?_, h.st (by simp; omega)⟩
    simp (disch := omega) only [q0, q1, q2, q3, q4, q5, q6, q7, q8, q14, q15, q16, q20, q31, q44, q50, q70, q1000, qn_le, qn_lt, qn_eq, qn_add, qn_inb, qn_ix, qn_dec, qn_m1, ck_tt, bd_ss, ix, isB0, isB1, if_pos, if_neg, if_true, if_false, Nat.reduceAdd, Nat.reduceLeDiff, Nat.reduceSub, Nat.reduceEqDiff, Nat.reduceMul, Nat.reduceLT, Nat.zero_add, not_true, not_false_iff, f_O_after, t_O_content h hc, t_O_after_L118 h hc]
    rfl
  · refine ⟨?_, h.st (by simp; omega)⟩
    simp (disch := omega) only [q0, q1, q2, q3, q4, q5, q6, q7, q8, q14, q15, q16, q20, q31, q44, q50, q70, q1000, qn_le, qn_lt, qn_eq, qn_add, qn_inb, qn_ix, qn_dec, qn_m1, ck_tt, bd_ss, ix, isB0, isB1, if_pos, if_neg, if_true, if_false, Nat.reduceAdd, Nat.reduceLeDiff, Nat.reduceSub, Nat.reduceEqDiff, Nat.reduceMul, Nat.reduceLT, Nat.zero_add, not_true, not_false_iff, f_O_after, t_O_content h hc, qn_and, and8' hw, t_O_after_L118 h hc]
    rfl
  · refine ⟨?_, h.st (by simp; omega)⟩
    simp (disch := omega) only [q0, q1, q2, q3, q4, q5, q6, q7, q8, q14, q15, q16, q20, q31, q44, q50, q70, q1000, qn_le, qn_lt, qn_eq, qn_add, qn_inb, qn_ix, qn_dec, qn_m1, ck_tt, bd_ss, ix, isB0, isB1, if_pos, if_neg, if_true, if_false, Nat.reduceAdd, Nat.reduceLeDiff, Nat.reduceSub, Nat.reduceEqDiff, Nat.reduceMul, Nat.reduceLT, Nat.zero_add, not_true, not_false_iff, f_O_after, t_O_content h hc, t_O_held h hc, nz_qn, qn_mod, qn_and, and8' hw, t_O_after_L118 h hc]
    rfl
  · refine ⟨?_, h.st (by simp; omega)⟩
    simp (disch := omega) only [q0, q1, q2, q3, q4, q5, q6, q7, q8, q14, q15, q16, q20, q31, q44, q50, q70, q1000, qn_le, qn_lt, qn_eq, qn_add, qn_inb, qn_ix, qn_dec, qn_m1, ck_tt, bd_ss, ix, isB0, isB1, if_pos, if_neg, if_true, if_false, Nat.reduceAdd, Nat.reduceLeDiff, Nat.reduceSub, Nat.reduceEqDiff, Nat.reduceMul, Nat.reduceLT, Nat.zero_add, not_true, not_false_iff, f_O_after, t_O_content h hc, qn_and, and8' hw, t_O_after_L118 h hc]
    rfl
  · refine ⟨?_, h.st (by simp; omega)⟩
    simp (disch := omega) only [q0, q1, q2, q3, q4, q5, q6, q7, q8, q14, q15, q16, q20, q31, q44, q50, q70, q1000, qn_le, qn_lt, qn_eq, qn_add, qn_inb, qn_ix, qn_dec, qn_m1, ck_tt, bd_ss, ix, isB0, isB1, if_pos, if_neg, if_true, if_false, Nat.reduceAdd, Nat.reduceLeDiff, Nat.reduceSub, Nat.reduceEqDiff, Nat.reduceMul, Nat.reduceLT, Nat.zero_add, not_true, not_false_iff, f_O_after, t_O_content h hc, t_O_source hc, t_O_held h hs, qn_and, and8' hw, t_O_after_L118 h hc]
    rfl
theorem t_O_answer {fu : Nat} {w : Nat → Nat} (h : w16 w) {k c v : Nat} (hk : k ≤ 6) (hc : c < 3) (hv : v < 8) : f_O_answer fu (pz w) (qn k) (qn c) (qn v) = some (qn (nans w k c v)) := by
  have : k = 0 ∨ k = 1 ∨ k = 2 ∨ k = 3 ∨ k = 4 ∨ k = 5 ∨ k = 6 := by omega
  rcases this with rfl | rfl | rfl | rfl | rfl | rfl | rfl <;> simp (disch := omega) only [q0, q1, q2, q3, q4, q5, q6, q7, q8, q14, q15, q16, q20, q31, q44, q50, q70, q1000, qn_le, qn_lt, qn_eq, qn_add, qn_inb, qn_ix, qn_dec, qn_m1, ck_tt, bd_ss, ix, isB0, isB1, if_pos, if_neg, if_true, if_false, Nat.reduceAdd, Nat.reduceLeDiff, Nat.reduceSub, Nat.reduceEqDiff, Nat.reduceMul, Nat.reduceLT, Nat.zero_add, not_true, not_false_iff, f_O_answer, t_O_held h hc, nz_qn, qn_mod] <;> rfl
def nall (w : Nat → Nat) (k c : Nat) : Prop := if k = 0 then w c < 8 else if k = 6 then 8 ≤ w c ∧ 8 ≤ w ((c + 1) % 3) else 8 ≤ w c
theorem t_O_allows {fu : Nat} {w : Nat → Nat} (h : w16 w) {k c : Nat} (hk : k ≤ 6) (hc : c < 3) : bqr (f_O_allows fu (pz w) (qn k) (qn c)) (nall w k c) := by
  have hs : (c + 1) % 3 < 3 := Nat.mod_lt _ (by omega)
  have ho := t_O_isOpen (fu := fu) h hc
  have ho2 := t_O_isOpen (fu := fu) h hs
  unfold nall
  by_cases h0 : k = 0
  · rw [if_pos h0]
    refine ⟨fun hx => ?_, fun hx => ?_⟩
    · simp (disch := omega) only [q0, q1, q2, q3, q4, q5, q6, q7, q8, q14, q15, q16, q20, q31, q44, q50, q70, q1000, qn_le, qn_lt, qn_eq, qn_add, qn_inb, qn_ix, qn_dec, qn_m1, ck_tt, bd_ss, ix, isB0, isB1, if_pos, if_neg, if_true, if_false, Nat.reduceAdd, Nat.reduceLeDiff, Nat.reduceSub, Nat.reduceEqDiff, Nat.reduceMul, Nat.reduceLT, Nat.zero_add, not_true, not_false_iff, f_O_allows, ho.2 (show ¬ 8 ≤ w c by omega)]
    · simp (disch := omega) only [q0, q1, q2, q3, q4, q5, q6, q7, q8, q14, q15, q16, q20, q31, q44, q50, q70, q1000, qn_le, qn_lt, qn_eq, qn_add, qn_inb, qn_ix, qn_dec, qn_m1, ck_tt, bd_ss, ix, isB0, isB1, if_pos, if_neg, if_true, if_false, Nat.reduceAdd, Nat.reduceLeDiff, Nat.reduceSub, Nat.reduceEqDiff, Nat.reduceMul, Nat.reduceLT, Nat.zero_add, not_true, not_false_iff, f_O_allows, ho.1 (show 8 ≤ w c by omega)]
  · rw [if_neg h0]
    by_cases h6 : k = 6
    · rw [if_pos h6]
      refine ⟨fun hx => ?_, fun hx => ?_⟩
      · simp (disch := omega) only [q0, q1, q2, q3, q4, q5, q6, q7, q8, q14, q15, q16, q20, q31, q44, q50, q70, q1000, qn_le, qn_lt, qn_eq, qn_add, qn_inb, qn_ix, qn_dec, qn_m1, ck_tt, bd_ss, ix, isB0, isB1, if_pos, if_neg, if_true, if_false, Nat.reduceAdd, Nat.reduceLeDiff, Nat.reduceSub, Nat.reduceEqDiff, Nat.reduceMul, Nat.reduceLT, Nat.zero_add, not_true, not_false_iff, f_O_allows, ho.1 hx.1, t_O_source hc, ho2.1 hx.2]
      · by_cases h8 : 8 ≤ w c
        · have h9 : ¬ 8 ≤ w ((c + 1) % 3) := fun h10 => hx ⟨h8, h10⟩
          simp (disch := omega) only [q0, q1, q2, q3, q4, q5, q6, q7, q8, q14, q15, q16, q20, q31, q44, q50, q70, q1000, qn_le, qn_lt, qn_eq, qn_add, qn_inb, qn_ix, qn_dec, qn_m1, ck_tt, bd_ss, ix, isB0, isB1, if_pos, if_neg, if_true, if_false, Nat.reduceAdd, Nat.reduceLeDiff, Nat.reduceSub, Nat.reduceEqDiff, Nat.reduceMul, Nat.reduceLT, Nat.zero_add, not_true, not_false_iff, f_O_allows, ho.1 h8, t_O_source hc, ho2.2 h9]
        · simp (disch := omega) only [q0, q1, q2, q3, q4, q5, q6, q7, q8, q14, q15, q16, q20, q31, q44, q50, q70, q1000, qn_le, qn_lt, qn_eq, qn_add, qn_inb, qn_ix, qn_dec, qn_m1, ck_tt, bd_ss, ix, isB0, isB1, if_pos, if_neg, if_true, if_false, Nat.reduceAdd, Nat.reduceLeDiff, Nat.reduceSub, Nat.reduceEqDiff, Nat.reduceMul, Nat.reduceLT, Nat.zero_add, not_true, not_false_iff, f_O_allows, ho.2 h8]
    · rw [if_neg h6]
      refine ⟨fun hx => ?_, fun hx => ?_⟩
      · simp (disch := omega) only [q0, q1, q2, q3, q4, q5, q6, q7, q8, q14, q15, q16, q20, q31, q44, q50, q70, q1000, qn_le, qn_lt, qn_eq, qn_add, qn_inb, qn_ix, qn_dec, qn_m1, ck_tt, bd_ss, ix, isB0, isB1, if_pos, if_neg, if_true, if_false, Nat.reduceAdd, Nat.reduceLeDiff, Nat.reduceSub, Nat.reduceEqDiff, Nat.reduceMul, Nat.reduceLT, Nat.zero_add, not_true, not_false_iff, f_O_allows, ho.1 hx]
      · simp (disch := omega) only [q0, q1, q2, q3, q4, q5, q6, q7, q8, q14, q15, q16, q20, q31, q44, q50, q70, q1000, qn_le, qn_lt, qn_eq, qn_add, qn_inb, qn_ix, qn_dec, qn_m1, ck_tt, bd_ss, ix, isB0, isB1, if_pos, if_neg, if_true, if_false, Nat.reduceAdd, Nat.reduceLeDiff, Nat.reduceSub, Nat.reduceEqDiff, Nat.reduceMul, Nat.reduceLT, Nat.zero_add, not_true, not_false_iff, f_O_allows, ho.2 hx]
