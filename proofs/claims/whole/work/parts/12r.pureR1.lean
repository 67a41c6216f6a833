abbrev S_R22 : Type := Int32 × Int32 × Int32 × Int32 × Int32 × (Nat → Int32)
def gspk (k f : Nat) : Prop := (k = 4 ∧ f % 2 = 1) ∨ (k = 5 ∧ f / 2 % 2 = 1) ∨ (k = 6 ∧ f / 4 % 2 = 1)
def gltk (k f : Nat) : Prop := k = 3 ∧ 8 ≤ f
theorem fl1 : ∀ f, f < 16 → f &&& 1 = f % 2 := by decide
theorem fl2 : ∀ f, f < 16 → f &&& 2 = f / 2 % 2 * 2 := by decide
theorem fl4 : ∀ f, f < 16 → f &&& 4 = f / 4 % 2 * 4 := by decide
theorem fl8 : ∀ f, f < 16 → f &&& 8 = f / 8 * 8 := by decide
theorem t_M_isSplit {fu k f : Nat} {an nu ca ba : Nat → Int32} {z : Int32} {nc ne no : Nat → Int32} (hk : k ≤ 6) (hf : f < 16) : bqr (f_M_isSplit fu (an, nu, ca, ba, z, nc, ne, no, qn f) (qn k)) (gspk k f) := by
  have e1 := fl1 f hf
  have e2 := fl2 f hf
  have e4 := fl4 f hf
  have : k = 0 ∨ k = 1 ∨ k = 2 ∨ k = 3 ∨ k = 4 ∨ k = 5 ∨ k = 6 := by omega
  refine ⟨fun hx => ?_, fun hx => ?_⟩
  · unfold gspk at hx
    rcases this with rfl | rfl | rfl | rfl | rfl | rfl | rfl
    · omega
    · omega
    · omega
    · omega
    · simp (disch := omega) only [q0, q1, q2, q3, q4, q5, q6, q7, q8, q14, q15, q16, q20, q31, q44, q50, q70, q1000, qn_le, qn_lt, qn_eq, qn_add, qn_inb, qn_ix, qn_dec, qn_m1, ck_tt, bd_ss, ix, isB0, isB1, if_pos, if_neg, if_true, if_false, Nat.reduceAdd, Nat.reduceLeDiff, Nat.reduceSub, Nat.reduceEqDiff, Nat.reduceMul, Nat.reduceLT, Nat.zero_add, not_true, not_false_iff, f_M_isSplit, qn_and, e1]
    · simp (disch := omega) only [q0, q1, q2, q3, q4, q5, q6, q7, q8, q14, q15, q16, q20, q31, q44, q50, q70, q1000, qn_le, qn_lt, qn_eq, qn_add, qn_inb, qn_ix, qn_dec, qn_m1, ck_tt, bd_ss, ix, isB0, isB1, if_pos, if_neg, if_true, if_false, Nat.reduceAdd, Nat.reduceLeDiff, Nat.reduceSub, Nat.reduceEqDiff, Nat.reduceMul, Nat.reduceLT, Nat.zero_add, not_true, not_false_iff, f_M_isSplit, qn_and, e2]
    · simp (disch := omega) only [q0, q1, q2, q3, q4, q5, q6, q7, q8, q14, q15, q16, q20, q31, q44, q50, q70, q1000, qn_le, qn_lt, qn_eq, qn_add, qn_inb, qn_ix, qn_dec, qn_m1, ck_tt, bd_ss, ix, isB0, isB1, if_pos, if_neg, if_true, if_false, Nat.reduceAdd, Nat.reduceLeDiff, Nat.reduceSub, Nat.reduceEqDiff, Nat.reduceMul, Nat.reduceLT, Nat.zero_add, not_true, not_false_iff, f_M_isSplit, qn_and, e4]
  · unfold gspk at hx
    rcases this with rfl | rfl | rfl | rfl | rfl | rfl | rfl
    · simp (disch := omega) only [q0, q1, q2, q3, q4, q5, q6, q7, q8, q14, q15, q16, q20, q31, q44, q50, q70, q1000, qn_le, qn_lt, qn_eq, qn_add, qn_inb, qn_ix, qn_dec, qn_m1, ck_tt, bd_ss, ix, isB0, isB1, if_pos, if_neg, if_true, if_false, Nat.reduceAdd, Nat.reduceLeDiff, Nat.reduceSub, Nat.reduceEqDiff, Nat.reduceMul, Nat.reduceLT, Nat.zero_add, not_true, not_false_iff, f_M_isSplit]
    · simp (disch := omega) only [q0, q1, q2, q3, q4, q5, q6, q7, q8, q14, q15, q16, q20, q31, q44, q50, q70, q1000, qn_le, qn_lt, qn_eq, qn_add, qn_inb, qn_ix, qn_dec, qn_m1, ck_tt, bd_ss, ix, isB0, isB1, if_pos, if_neg, if_true, if_false, Nat.reduceAdd, Nat.reduceLeDiff, Nat.reduceSub, Nat.reduceEqDiff, Nat.reduceMul, Nat.reduceLT, Nat.zero_add, not_true, not_false_iff, f_M_isSplit]
    · simp (disch := omega) only [q0, q1, q2, q3, q4, q5, q6, q7, q8, q14, q15, q16, q20, q31, q44, q50, q70, q1000, qn_le, qn_lt, qn_eq, qn_add, qn_inb, qn_ix, qn_dec, qn_m1, ck_tt, bd_ss, ix, isB0, isB1, if_pos, if_neg, if_true, if_false, Nat.reduceAdd, Nat.reduceLeDiff, Nat.reduceSub, Nat.reduceEqDiff, Nat.reduceMul, Nat.reduceLT, Nat.zero_add, not_true, not_false_iff, f_M_isSplit]
    · simp (disch := omega) only [q0, q1, q2, q3, q4, q5, q6, q7, q8, q14, q15, q16, q20, q31, q44, q50, q70, q1000, qn_le, qn_lt, qn_eq, qn_add, qn_inb, qn_ix, qn_dec, qn_m1, ck_tt, bd_ss, ix, isB0, isB1, if_pos, if_neg, if_true, if_false, Nat.reduceAdd, Nat.reduceLeDiff, Nat.reduceSub, Nat.reduceEqDiff, Nat.reduceMul, Nat.reduceLT, Nat.zero_add, not_true, not_false_iff, f_M_isSplit]
    · simp (disch := omega) only [q0, q1, q2, q3, q4, q5, q6, q7, q8, q14, q15, q16, q20, q31, q44, q50, q70, q1000, qn_le, qn_lt, qn_eq, qn_add, qn_inb, qn_ix, qn_dec, qn_m1, ck_tt, bd_ss, ix, isB0, isB1, if_pos, if_neg, if_true, if_false, Nat.reduceAdd, Nat.reduceLeDiff, Nat.reduceSub, Nat.reduceEqDiff, Nat.reduceMul, Nat.reduceLT, Nat.zero_add, not_true, not_false_iff, f_M_isSplit, qn_and, e1]
    · simp (disch := omega) only [q0, q1, q2, q3, q4, q5, q6, q7, q8, q14, q15, q16, q20, q31, q44, q50, q70, q1000, qn_le, qn_lt, qn_eq, qn_add, qn_inb, qn_ix, qn_dec, qn_m1, ck_tt, bd_ss, ix, isB0, isB1, if_pos, if_neg, if_true, if_false, Nat.reduceAdd, Nat.reduceLeDiff, Nat.reduceSub, Nat.reduceEqDiff, Nat.reduceMul, Nat.reduceLT, Nat.zero_add, not_true, not_false_iff, f_M_isSplit, qn_and, e2]
    · simp (disch := omega) only [q0, q1, q2, q3, q4, q5, q6, q7, q8, q14, q15, q16, q20, q31, q44, q50, q70, q1000, qn_le, qn_lt, qn_eq, qn_add, qn_inb, qn_ix, qn_dec, qn_m1, ck_tt, bd_ss, ix, isB0, isB1, if_pos, if_neg, if_true, if_false, Nat.reduceAdd, Nat.reduceLeDiff, Nat.reduceSub, Nat.reduceEqDiff, Nat.reduceMul, Nat.reduceLT, Nat.zero_add, not_true, not_false_iff, f_M_isSplit, qn_and, e4]
theorem t_M_isLate {fu k f : Nat} {an nu ca ba : Nat → Int32} {z : Int32} {nc ne no : Nat → Int32} (hk : k ≤ 6) (hf : f < 16) : bqr (f_M_isLate fu (an, nu, ca, ba, z, nc, ne, no, qn f) (qn k)) (gltk k f) := by
  have e8 := fl8 f hf
  refine ⟨fun hx => ?_, fun hx => ?_⟩
  · unfold gltk at hx
    simp (disch := omega) only [q0, q1, q2, q3, q4, q5, q6, q7, q8, q14, q15, q16, q20, q31, q44, q50, q70, q1000, qn_le, qn_lt, qn_eq, qn_add, qn_inb, qn_ix, qn_dec, qn_m1, ck_tt, bd_ss, ix, isB0, isB1, if_pos, if_neg, if_true, if_false, Nat.reduceAdd, Nat.reduceLeDiff, Nat.reduceSub, Nat.reduceEqDiff, Nat.reduceMul, Nat.reduceLT, Nat.zero_add, not_true, not_false_iff, f_M_isLate, qn_and, e8]
  · unfold gltk at hx
    by_cases h3 : k = 3
    · simp (disch := omega) only [q0, q1, q2, q3, q4, q5, q6, q7, q8, q14, q15, q16, q20, q31, q44, q50, q70, q1000, qn_le, qn_lt, qn_eq, qn_add, qn_inb, qn_ix, qn_dec, qn_m1, ck_tt, bd_ss, ix, isB0, isB1, if_pos, if_neg, if_true, if_false, Nat.reduceAdd, Nat.reduceLeDiff, Nat.reduceSub, Nat.reduceEqDiff, Nat.reduceMul, Nat.reduceLT, Nat.zero_add, not_true, not_false_iff, f_M_isLate, qn_and, e8]
    · simp (disch := omega) only [q0, q1, q2, q3, q4, q5, q6, q7, q8, q14, q15, q16, q20, q31, q44, q50, q70, q1000, qn_le, qn_lt, qn_eq, qn_add, qn_inb, qn_ix, qn_dec, qn_m1, ck_tt, bd_ss, ix, isB0, isB1, if_pos, if_neg, if_true, if_false, Nat.reduceAdd, Nat.reduceLeDiff, Nat.reduceSub, Nat.reduceEqDiff, Nat.reduceMul, Nat.reduceLT, Nat.zero_add, not_true, not_false_iff, f_M_isLate]
theorem t_R_twoParts {fu f : Nat} {th : Int32} {sz kd ce ar ks kp : Nat → Int32} {r : Int64 × (Nat → Int32) × (Nat → Int32) × S_R11} {i k : Nat} (hi : i < 14) (e : kd i = qn k) (hk : k ≤ 6) (hf : f < 16) : bqr (f_R_twoParts fu (th, sz, kd, ce, ar, ks, kp, qn f, r) (qn i)) (gspk k f) := by
  have e1 := fl1 f hf
  have e2 := fl2 f hf
  have e4 := fl4 f hf
  have : k = 0 ∨ k = 1 ∨ k = 2 ∨ k = 3 ∨ k = 4 ∨ k = 5 ∨ k = 6 := by omega
  refine ⟨fun hx => ?_, fun hx => ?_⟩
  · unfold gspk at hx
    rcases this with rfl | rfl | rfl | rfl | rfl | rfl | rfl
    · omega
    · omega
    · omega
    · omega
    · simp (disch := omega) only [q0, q1, q2, q3, q4, q5, q6, q7, q8, q14, q15, q16, q20, q31, q44, q50, q70, q1000, qn_le, qn_lt, qn_eq, qn_add, qn_inb, qn_ix, qn_dec, qn_m1, ck_tt, bd_ss, ix, isB0, isB1, if_pos, if_neg, if_true, if_false, Nat.reduceAdd, Nat.reduceLeDiff, Nat.reduceSub, Nat.reduceEqDiff, Nat.reduceMul, Nat.reduceLT, Nat.zero_add, not_true, not_false_iff, f_R_twoParts, f_R_twoParts_L19, f_R_twoParts_L38, e, qn_and, e1]
    · simp (disch := omega) only [q0, q1, q2, q3, q4, q5, q6, q7, q8, q14, q15, q16, q20, q31, q44, q50, q70, q1000, qn_le, qn_lt, qn_eq, qn_add, qn_inb, qn_ix, qn_dec, qn_m1, ck_tt, bd_ss, ix, isB0, isB1, if_pos, if_neg, if_true, if_false, Nat.reduceAdd, Nat.reduceLeDiff, Nat.reduceSub, Nat.reduceEqDiff, Nat.reduceMul, Nat.reduceLT, Nat.zero_add, not_true, not_false_iff, f_R_twoParts, f_R_twoParts_L19, f_R_twoParts_L38, e, qn_and, e2]
    · simp (disch := omega) only [q0, q1, q2, q3, q4, q5, q6, q7, q8, q14, q15, q16, q20, q31, q44, q50, q70, q1000, qn_le, qn_lt, qn_eq, qn_add, qn_inb, qn_ix, qn_dec, qn_m1, ck_tt, bd_ss, ix, isB0, isB1, if_pos, if_neg, if_true, if_false, Nat.reduceAdd, Nat.reduceLeDiff, Nat.reduceSub, Nat.reduceEqDiff, Nat.reduceMul, Nat.reduceLT, Nat.zero_add, not_true, not_false_iff, f_R_twoParts, f_R_twoParts_L19, f_R_twoParts_L38, e, qn_and, e4]
  · unfold gspk at hx
    rcases this with rfl | rfl | rfl | rfl | rfl | rfl | rfl
    · simp (disch := omega) only [q0, q1, q2, q3, q4, q5, q6, q7, q8, q14, q15, q16, q20, q31, q44, q50, q70, q1000, qn_le, qn_lt, qn_eq, qn_add, qn_inb, qn_ix, qn_dec, qn_m1, ck_tt, bd_ss, ix, isB0, isB1, if_pos, if_neg, if_true, if_false, Nat.reduceAdd, Nat.reduceLeDiff, Nat.reduceSub, Nat.reduceEqDiff, Nat.reduceMul, Nat.reduceLT, Nat.zero_add, not_true, not_false_iff, f_R_twoParts, f_R_twoParts_L19, f_R_twoParts_L38, e]
    · simp (disch := omega) only [q0, q1, q2, q3, q4, q5, q6, q7, q8, q14, q15, q16, q20, q31, q44, q50, q70, q1000, qn_le, qn_lt, qn_eq, qn_add, qn_inb, qn_ix, qn_dec, qn_m1, ck_tt, bd_ss, ix, isB0, isB1, if_pos, if_neg, if_true, if_false, Nat.reduceAdd, Nat.reduceLeDiff, Nat.reduceSub, Nat.reduceEqDiff, Nat.reduceMul, Nat.reduceLT, Nat.zero_add, not_true, not_false_iff, f_R_twoParts, f_R_twoParts_L19, f_R_twoParts_L38, e]
    · simp (disch := omega) only [q0, q1, q2, q3, q4, q5, q6, q7, q8, q14, q15, q16, q20, q31, q44, q50, q70, q1000, qn_le, qn_lt, qn_eq, qn_add, qn_inb, qn_ix, qn_dec, qn_m1, ck_tt, bd_ss, ix, isB0, isB1, if_pos, if_neg, if_true, if_false, Nat.reduceAdd, Nat.reduceLeDiff, Nat.reduceSub, Nat.reduceEqDiff, Nat.reduceMul, Nat.reduceLT, Nat.zero_add, not_true, not_false_iff, f_R_twoParts, f_R_twoParts_L19, f_R_twoParts_L38, e]
    · simp (disch := omega) only [q0, q1, q2, q3, q4, q5, q6, q7, q8, q14, q15, q16, q20, q31, q44, q50, q70, q1000, qn_le, qn_lt, qn_eq, qn_add, qn_inb, qn_ix, qn_dec, qn_m1, ck_tt, bd_ss, ix, isB0, isB1, if_pos, if_neg, if_true, if_false, Nat.reduceAdd, Nat.reduceLeDiff, Nat.reduceSub, Nat.reduceEqDiff, Nat.reduceMul, Nat.reduceLT, Nat.zero_add, not_true, not_false_iff, f_R_twoParts, f_R_twoParts_L19, f_R_twoParts_L38, e]
    · simp (disch := omega) only [q0, q1, q2, q3, q4, q5, q6, q7, q8, q14, q15, q16, q20, q31, q44, q50, q70, q1000, qn_le, qn_lt, qn_eq, qn_add, qn_inb, qn_ix, qn_dec, qn_m1, ck_tt, bd_ss, ix, isB0, isB1, if_pos, if_neg, if_true, if_false, Nat.reduceAdd, Nat.reduceLeDiff, Nat.reduceSub, Nat.reduceEqDiff, Nat.reduceMul, Nat.reduceLT, Nat.zero_add, not_true, not_false_iff, f_R_twoParts, f_R_twoParts_L19, f_R_twoParts_L38, e, qn_and, e1]
    · simp (disch := omega) only [q0, q1, q2, q3, q4, q5, q6, q7, q8, q14, q15, q16, q20, q31, q44, q50, q70, q1000, qn_le, qn_lt, qn_eq, qn_add, qn_inb, qn_ix, qn_dec, qn_m1, ck_tt, bd_ss, ix, isB0, isB1, if_pos, if_neg, if_true, if_false, Nat.reduceAdd, Nat.reduceLeDiff, Nat.reduceSub, Nat.reduceEqDiff, Nat.reduceMul, Nat.reduceLT, Nat.zero_add, not_true, not_false_iff, f_R_twoParts, f_R_twoParts_L19, f_R_twoParts_L38, e, qn_and, e2]
    · simp (disch := omega) only [q0, q1, q2, q3, q4, q5, q6, q7, q8, q14, q15, q16, q20, q31, q44, q50, q70, q1000, qn_le, qn_lt, qn_eq, qn_add, qn_inb, qn_ix, qn_dec, qn_m1, ck_tt, bd_ss, ix, isB0, isB1, if_pos, if_neg, if_true, if_false, Nat.reduceAdd, Nat.reduceLeDiff, Nat.reduceSub, Nat.reduceEqDiff, Nat.reduceMul, Nat.reduceLT, Nat.zero_add, not_true, not_false_iff, f_R_twoParts, f_R_twoParts_L19, f_R_twoParts_L38, e, qn_and, e4]
theorem t_R_isLate {fu f : Nat} {th : Int32} {sz kd ce ar ks kp : Nat → Int32} {r : Int64 × (Nat → Int32) × (Nat → Int32) × S_R11} {i k : Nat} (hi : i < 14) (e : kd i = qn k) (hk : k ≤ 6) (hf : f < 16) : bqr (f_R_isLate fu (th, sz, kd, ce, ar, ks, kp, qn f, r) (qn i)) (gltk k f) := by
  have e8 := fl8 f hf
  refine ⟨fun hx => ?_, fun hx => ?_⟩
  · unfold gltk at hx
    simp (disch := omega) only [q0, q1, q2, q3, q4, q5, q6, q7, q8, q14, q15, q16, q20, q31, q44, q50, q70, q1000, qn_le, qn_lt, qn_eq, qn_add, qn_inb, qn_ix, qn_dec, qn_m1, ck_tt, bd_ss, ix, isB0, isB1, if_pos, if_neg, if_true, if_false, Nat.reduceAdd, Nat.reduceLeDiff, Nat.reduceSub, Nat.reduceEqDiff, Nat.reduceMul, Nat.reduceLT, Nat.zero_add, not_true, not_false_iff, f_R_isLate, e, qn_and, e8]
  · unfold gltk at hx
    by_cases h3 : k = 3
    · simp (disch := omega) only [q0, q1, q2, q3, q4, q5, q6, q7, q8, q14, q15, q16, q20, q31, q44, q50, q70, q1000, qn_le, qn_lt, qn_eq, qn_add, qn_inb, qn_ix, qn_dec, qn_m1, ck_tt, bd_ss, ix, isB0, isB1, if_pos, if_neg, if_true, if_false, Nat.reduceAdd, Nat.reduceLeDiff, Nat.reduceSub, Nat.reduceEqDiff, Nat.reduceMul, Nat.reduceLT, Nat.zero_add, not_true, not_false_iff, f_R_isLate, e, qn_and, e8]
    · simp (disch := omega) only [q0, q1, q2, q3, q4, q5, q6, q7, q8, q14, q15, q16, q20, q31, q44, q50, q70, q1000, qn_le, qn_lt, qn_eq, qn_add, qn_inb, qn_ix, qn_dec, qn_m1, ck_tt, bd_ss, ix, isB0, isB1, if_pos, if_neg, if_true, if_false, Nat.reduceAdd, Nat.reduceLeDiff, Nat.reduceSub, Nat.reduceEqDiff, Nat.reduceMul, Nat.reduceLT, Nat.zero_add, not_true, not_false_iff, f_R_isLate, e]
theorem t_R_events {fu f : Nat} {th : Int32} {sz kd ce ar ks kp : Nat → Int32} {r : Int64 × (Nat → Int32) × (Nat → Int32) × S_R11} {i k : Nat} (hi : i < 14) (e : kd i = qn k) (hk : k ≤ 6) (hf : f < 16) : (gspk k f → f_R_events fu (th, sz, kd, ce, ar, ks, kp, qn f, r) (qn i) = some (qn 4)) ∧ (¬ gspk k f → gltk k f → f_R_events fu (th, sz, kd, ce, ar, ks, kp, qn f, r) (qn i) = some (qn 4)) ∧ (¬ gspk k f → ¬ gltk k f → f_R_events fu (th, sz, kd, ce, ar, ks, kp, qn f, r) (qn i) = some (qn 3)) := by
  have h1 := t_R_twoParts (fu := fu) (th := th) (sz := sz) (ce := ce) (ar := ar) (ks := ks) (kp := kp) (r := r) hi e hk hf
  have h2 := t_R_isLate (fu := fu) (th := th) (sz := sz) (ce := ce) (ar := ar) (ks := ks) (kp := kp) (r := r) hi e hk hf
  refine ⟨fun hx => ?_, fun hx hy => ?_, fun hx hy => ?_⟩
  · have hy : ¬ gltk k f := by unfold gltk; unfold gspk at hx; omega
    simp (disch := omega) only [q0, q1, q2, q3, q4, q5, q6, q7, q8, q14, q15, q16, q20, q31, q44, q50, q70, q1000, qn_le, qn_lt, qn_eq, qn_add, qn_inb, qn_ix, qn_dec, qn_m1, ck_tt, bd_ss, ix, isB0, isB1, if_pos, if_neg, if_true, if_false, Nat.reduceAdd, Nat.reduceLeDiff, Nat.reduceSub, Nat.reduceEqDiff, Nat.reduceMul, Nat.reduceLT, Nat.zero_add, not_true, not_false_iff, f_R_events, h1.1 hx, f_R_events_L13, h2.2 hy]
  · simp (disch := omega) only [q0, q1, q2, q3, q4, q5, q6, q7, q8, q14, q15, q16, q20, q31, q44, q50, q70, q1000, qn_le, qn_lt, qn_eq, qn_add, qn_inb, qn_ix, qn_dec, qn_m1, ck_tt, bd_ss, ix, isB0, isB1, if_pos, if_neg, if_true, if_false, Nat.reduceAdd, Nat.reduceLeDiff, Nat.reduceSub, Nat.reduceEqDiff, Nat.reduceMul, Nat.reduceLT, Nat.zero_add, not_true, not_false_iff, f_R_events, h1.2 hx, f_R_events_L13, h2.1 hy]
  · simp (disch := omega) only [q0, q1, q2, q3, q4, q5, q6, q7, q8, q14, q15, q16, q20, q31, q44, q50, q70, q1000, qn_le, qn_lt, qn_eq, qn_add, qn_inb, qn_ix, qn_dec, qn_m1, ck_tt, bd_ss, ix, isB0, isB1, if_pos, if_neg, if_true, if_false, Nat.reduceAdd, Nat.reduceLeDiff, Nat.reduceSub, Nat.reduceEqDiff, Nat.reduceMul, Nat.reduceLT, Nat.zero_add, not_true, not_false_iff, f_R_events, h1.2 hx, f_R_events_L13, h2.2 hy]
def hvr (ha io : Nat → Int32) (w : Nat → Nat) : Prop := ∀ c, c < 3 → ha c = qn (w c % 8) ∧ io c = qn (w c / 8)
def dans (w : Nat → Nat) (k c v n : Nat) : Nat := if k = 1 ∨ k = 2 then w c % 8 else if k = 4 then (n + v) % 8 else if k = 5 then n else if k = 6 then w c % 8 else 0
def dnew (x k v n l : Nat) : Nat := if k = 0 then 8 + v else if k = 1 then 0 else if k = 2 then x else if k = 3 then (if l = 1 then x else x / 8 * 8 + v) else if k = 4 then x / 8 * 8 + (n + v) % 8 else if k = 5 then x / 8 * 8 + v else x / 8 * 8 + n
theorem hvr_upd {ha io : Nat → Int32} {w : Nat → Nat} (h : hvr ha io w) {c x : Nat} {y z : Int32} (hy : y = qn (x % 8)) (hz : z = qn (x / 8)) : hvr (upd ha c y) (upd io c z) (nset w c x) := by
  intro j hj
  by_cases hjc : j = c
  · subst hjc; rw [upd_at, upd_at, nset_at]; exact ⟨hy, hz⟩
  · rw [upd_ne _ _ _ _ hjc, upd_ne _ _ _ _ hjc, nset_ne _ _ hjc]; exact h j hj
theorem hvr_upd2 {ha io : Nat → Int32} {w : Nat → Nat} (h : hvr ha io w) {c x : Nat} {y z y0 : Int32} (hy : y = qn (x % 8)) (hz : z = qn (x / 8)) : hvr (upd (upd ha c y0) c y) (upd io c z) (nset w c x) := by
  have e : upd (upd ha c y0) c y = upd ha c y := by
    funext j; unfold upd; split <;> rfl
  rw [e]; exact hvr_upd h hy hz
theorem hvr_io {ha io : Nat → Int32} {w : Nat → Nat} (h : hvr ha io w) {c : Nat} (hc : c < 3) {x : Nat} {z : Int32} (hx : x % 8 = w c % 8) (hz : z = qn (x / 8)) : hvr ha (upd io c z) (nset w c x) := by
  have := hvr_upd h (c := c) (x := x) (y := ha c) (z := z) (by rw [(h c hc).1, hx]) hz
  rw [upd_self] at this; exact this
