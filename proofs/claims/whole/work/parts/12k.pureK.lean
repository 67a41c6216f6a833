def gnxs (g : pg) : Nat → Nat → (Nat → Bool) → (Nat → Bool)
  | 0, _, o => o
  | n + 1, i, o => gnxs g n (i + 1) (gnx g o i)
def gvalid (g : pg) : Prop := grun g (gp g) 0 (fun _ => false) ∧ gW g (gb g) (gp g + ga g) (ga g) (gp g) (gnxs g (gp g) 0 (fun _ => false))
theorem p_allows {fu : Nat} {P : S_P} {g : pg} (h : pgr P g) (hg : gok g) (o : Nat → Bool) {i : Nat} (hi : i < gn g) : bqr (f_O_allows fu (pz (ow o)) (P.2.1 i) (P.2.2.1 i)) (gok_ g o i) := by
  have h1 := h.2.2.2 i hi
  have h2 := hg.2.2.2 i hi
  rw [h1.1, h1.2.1]
  unfold gok_
  rw [← nall_ow]
  exact t_O_allows (ow16 o) h2.1 (by omega)
theorem p_after {fu : Nat} {P : S_P} {g : pg} (h : pgr P g) (hg : gok g) (o : Nat → Bool) {i : Nat} (hi : i < gn g) : f_O_after fu (pz (ow o)) (P.2.1 i) (P.2.2.1 i) (qn 0) = some (pz (ow (gnx g o i))) := by
  have h1 := h.2.2.2 i hi
  have h2 := hg.2.2.2 i hi
  rw [h1.1, h1.2.1]
  have h3 := (t_O_after (fu := fu) (ow16 o) h2.1 (show gc g i < 3 by omega) (show 0 < 8 by omega)).1
  rw [h3, naft_ow]
  rfl
theorem t_P_vb_none (fu : Nat) {P : S_P} {g : pg} (h : pgr P g) (hg : gok g) : ∀ (b n j : Nat) (o : Nat → Bool), b < n → j + b = gn g → bqr (f_P_isValidBeside_L16 fu P n (-qn 1) (pz (ow o)) (qn (gn g)) (qn j)) (grun g b j o) := by
  have h14 := hg.n14
  intro b
  induction b with
  | zero =>
    intro n j o hn hj
    obtain ⟨m, rfl⟩ : ∃ m, n = m + 1 := ⟨n - 1, by omega⟩
    refine ⟨fun _ => ?_, fun hx => absurd trivial hx⟩
    simp (disch := omega) only [q0, q1, q2, q3, q4, q5, q6, q7, q8, q14, q15, q16, q20, q31, q44, q50, q70, q1000, qn_le, qn_lt, qn_eq, qn_add, qn_inb, qn_ix, qn_dec, qn_m1, ck_tt, bd_ss, ix, isB0, isB1, if_pos, if_neg, if_true, if_false, Nat.reduceAdd, Nat.reduceLeDiff, Nat.reduceSub, Nat.reduceEqDiff, Nat.reduceMul, Nat.reduceLT, Nat.zero_add, not_true, not_false_iff, f_P_isValidBeside_L16, f_P_isValidBeside_L98]
  | succ b ih =>
    intro n j o hn hj
    obtain ⟨m, rfl⟩ : ∃ m, n = m + 1 := ⟨n - 1, by omega⟩
    have ha := p_allows (fu := fu) h hg o (i := j) (by omega)
    have hi := ih m (j + 1) (gnx g o j) (by omega) (by omega)
    refine ⟨fun hx => ?_, fun hx => ?_⟩
    · simp (disch := omega) only [q0, q1, q2, q3, q4, q5, q6, q7, q8, q14, q15, q16, q20, q31, q44, q50, q70, q1000, qn_le, qn_lt, qn_eq, qn_add, qn_inb, qn_ix, qn_dec, qn_m1, ck_tt, bd_ss, ix, isB0, isB1, if_pos, if_neg, if_true, if_false, Nat.reduceAdd, Nat.reduceLeDiff, Nat.reduceSub, Nat.reduceEqDiff, Nat.reduceMul, Nat.reduceLT, Nat.zero_add, not_true, not_false_iff, f_P_isValidBeside_L16, f_P_isValidBeside_L49, ha.1 hx.1, p_after h hg, hi.1 hx.2]
    · by_cases h1 : gok_ g o j
      · have h2 : ¬ grun g b (j + 1) (gnx g o j) := fun h3 => hx ⟨h1, h3⟩
        simp (disch := omega) only [q0, q1, q2, q3, q4, q5, q6, q7, q8, q14, q15, q16, q20, q31, q44, q50, q70, q1000, qn_le, qn_lt, qn_eq, qn_add, qn_inb, qn_ix, qn_dec, qn_m1, ck_tt, bd_ss, ix, isB0, isB1, if_pos, if_neg, if_true, if_false, Nat.reduceAdd, Nat.reduceLeDiff, Nat.reduceSub, Nat.reduceEqDiff, Nat.reduceMul, Nat.reduceLT, Nat.zero_add, not_true, not_false_iff, f_P_isValidBeside_L16, f_P_isValidBeside_L49, ha.1 h1, p_after h hg, hi.2 h2]
      · simp (disch := omega) only [q0, q1, q2, q3, q4, q5, q6, q7, q8, q14, q15, q16, q20, q31, q44, q50, q70, q1000, qn_le, qn_lt, qn_eq, qn_add, qn_inb, qn_ix, qn_dec, qn_m1, ck_tt, bd_ss, ix, isB0, isB1, if_pos, if_neg, if_true, if_false, Nat.reduceAdd, Nat.reduceLeDiff, Nat.reduceSub, Nat.reduceEqDiff, Nat.reduceMul, Nat.reduceLT, Nat.zero_add, not_true, not_false_iff, f_P_isValidBeside_L16, f_P_isValidBeside_L49, ha.2 h1]
theorem t_P_vb_one (fu : Nat) {P : S_P} {g : pg} (h : pgr P g) (hg : gok g) {i : Nat} (hin : i < gn g) : ∀ (b n j : Nat) (o : Nat → Bool), b < n → j + b = gn g → bqr (f_P_isValidBeside_L16 fu P n (qn i) (pz (ow o)) (qn (gn g)) (qn j)) (gB g i b j o) := by
  have h14 := hg.n14
  intro b
  induction b with
  | zero =>
    intro n j o hn hj
    obtain ⟨m, rfl⟩ : ∃ m, n = m + 1 := ⟨n - 1, by omega⟩
    have ha := p_allows (fu := fu) h hg o hin
    refine ⟨fun hx => ?_, fun hx => ?_⟩
    · simp (disch := omega) only [q0, q1, q2, q3, q4, q5, q6, q7, q8, q14, q15, q16, q20, q31, q44, q50, q70, q1000, qn_le, qn_lt, qn_eq, qn_add, qn_inb, qn_ix, qn_dec, qn_m1, ck_tt, bd_ss, ix, isB0, isB1, if_pos, if_neg, if_true, if_false, Nat.reduceAdd, Nat.reduceLeDiff, Nat.reduceSub, Nat.reduceEqDiff, Nat.reduceMul, Nat.reduceLT, Nat.zero_add, not_true, not_false_iff, f_P_isValidBeside_L16, f_P_isValidBeside_L98, ha.1 hx]
    · simp (disch := omega) only [q0, q1, q2, q3, q4, q5, q6, q7, q8, q14, q15, q16, q20, q31, q44, q50, q70, q1000, qn_le, qn_lt, qn_eq, qn_add, qn_inb, qn_ix, qn_dec, qn_m1, ck_tt, bd_ss, ix, isB0, isB1, if_pos, if_neg, if_true, if_false, Nat.reduceAdd, Nat.reduceLeDiff, Nat.reduceSub, Nat.reduceEqDiff, Nat.reduceMul, Nat.reduceLT, Nat.zero_add, not_true, not_false_iff, f_P_isValidBeside_L16, f_P_isValidBeside_L98, ha.2 hx]
  | succ b ih =>
    intro n j o hn hj
    obtain ⟨m, rfl⟩ : ∃ m, n = m + 1 := ⟨n - 1, by omega⟩
    have ha := p_allows (fu := fu) h hg o hin
    have hb := p_allows (fu := fu) h hg o (i := j) (by omega)
    have hi := ih m (j + 1) (gnx g o j) (by omega) (by omega)
    refine ⟨fun hx => ?_, fun hx => ?_⟩
    · simp (disch := omega) only [q0, q1, q2, q3, q4, q5, q6, q7, q8, q14, q15, q16, q20, q31, q44, q50, q70, q1000, qn_le, qn_lt, qn_eq, qn_add, qn_inb, qn_ix, qn_dec, qn_m1, ck_tt, bd_ss, ix, isB0, isB1, if_pos, if_neg, if_true, if_false, Nat.reduceAdd, Nat.reduceLeDiff, Nat.reduceSub, Nat.reduceEqDiff, Nat.reduceMul, Nat.reduceLT, Nat.zero_add, not_true, not_false_iff, f_P_isValidBeside_L16, f_P_isValidBeside_L49, ha.1 hx.1, hb.1 hx.2.1, p_after h hg, hi.1 hx.2.2]
    · by_cases h0 : gok_ g o i
      · by_cases h1 : gok_ g o j
        · have h2 : ¬ gB g i b (j + 1) (gnx g o j) := fun h3 => hx ⟨h0, h1, h3⟩
          simp (disch := omega) only [q0, q1, q2, q3, q4, q5, q6, q7, q8, q14, q15, q16, q20, q31, q44, q50, q70, q1000, qn_le, qn_lt, qn_eq, qn_add, qn_inb, qn_ix, qn_dec, qn_m1, ck_tt, bd_ss, ix, isB0, isB1, if_pos, if_neg, if_true, if_false, Nat.reduceAdd, Nat.reduceLeDiff, Nat.reduceSub, Nat.reduceEqDiff, Nat.reduceMul, Nat.reduceLT, Nat.zero_add, not_true, not_false_iff, f_P_isValidBeside_L16, f_P_isValidBeside_L49, ha.1 h0, hb.1 h1, p_after h hg, hi.2 h2]
        · simp (disch := omega) only [q0, q1, q2, q3, q4, q5, q6, q7, q8, q14, q15, q16, q20, q31, q44, q50, q70, q1000, qn_le, qn_lt, qn_eq, qn_add, qn_inb, qn_ix, qn_dec, qn_m1, ck_tt, bd_ss, ix, isB0, isB1, if_pos, if_neg, if_true, if_false, Nat.reduceAdd, Nat.reduceLeDiff, Nat.reduceSub, Nat.reduceEqDiff, Nat.reduceMul, Nat.reduceLT, Nat.zero_add, not_true, not_false_iff, f_P_isValidBeside_L16, f_P_isValidBeside_L49, ha.1 h0, hb.2 h1]
      · simp (disch := omega) only [q0, q1, q2, q3, q4, q5, q6, q7, q8, q14, q15, q16, q20, q31, q44, q50, q70, q1000, qn_le, qn_lt, qn_eq, qn_add, qn_inb, qn_ix, qn_dec, qn_m1, ck_tt, bd_ss, ix, isB0, isB1, if_pos, if_neg, if_true, if_false, Nat.reduceAdd, Nat.reduceLeDiff, Nat.reduceSub, Nat.reduceEqDiff, Nat.reduceMul, Nat.reduceLT, Nat.zero_add, not_true, not_false_iff, f_P_isValidBeside_L16, f_P_isValidBeside_L49, ha.2 h0]
theorem t_P_vb0 {fu : Nat} (hf : 20000 ≤ fu) {P : S_P} {g : pg} (h : pgr P g) (hg : gok g) (o : Nat → Bool) : bqr (f_P_isValidBeside fu P (pz (ow o)) (-qn 1)) (grun g (gb g) (gp g + ga g) o) := by
  have h1 := t_P_vb_none fu h hg (gb g) fu (gp g + ga g) o (by have := hg.2.2.1; omega) rfl
  have h2 : f_P_isValidBeside fu P (pz (ow o)) (-qn 1) = f_P_isValidBeside_L16 fu P fu (-qn 1) (pz (ow o)) (qn (gn g)) (qn (gp g + ga g)) := by
    simp (disch := omega) only [q0, q1, q2, q3, q4, q5, q6, q7, q8, q14, q15, q16, q20, q31, q44, q50, q70, q1000, qn_le, qn_lt, qn_eq, qn_add, qn_inb, qn_ix, qn_dec, qn_m1, ck_tt, bd_ss, ix, isB0, isB1, if_pos, if_neg, if_true, if_false, Nat.reduceAdd, Nat.reduceLeDiff, Nat.reduceSub, Nat.reduceEqDiff, Nat.reduceMul, Nat.reduceLT, Nat.zero_add, not_true, not_false_iff, f_P_isValidBeside, t_P_end h, t_P_start h]
    rfl
  rw [h2]; exact h1
theorem t_P_vb1 {fu : Nat} (hf : 20000 ≤ fu) {P : S_P} {g : pg} (h : pgr P g) (hg : gok g) (o : Nat → Bool) {i : Nat} (hi : i < gn g) : bqr (f_P_isValidBeside fu P (pz (ow o)) (qn i)) (gB g i (gb g) (gp g + ga g) o) := by
  have h1 := t_P_vb_one fu h hg hi (gb g) fu (gp g + ga g) o (by have := hg.2.2.1; omega) rfl
  have h2 : f_P_isValidBeside fu P (pz (ow o)) (qn i) = f_P_isValidBeside_L16 fu P fu (qn i) (pz (ow o)) (qn (gn g)) (qn (gp g + ga g)) := by
    simp (disch := omega) only [q0, q1, q2, q3, q4, q5, q6, q7, q8, q14, q15, q16, q20, q31, q44, q50, q70, q1000, qn_le, qn_lt, qn_eq, qn_add, qn_inb, qn_ix, qn_dec, qn_m1, ck_tt, bd_ss, ix, isB0, isB1, if_pos, if_neg, if_true, if_false, Nat.reduceAdd, Nat.reduceLeDiff, Nat.reduceSub, Nat.reduceEqDiff, Nat.reduceMul, Nat.reduceLT, Nat.zero_add, not_true, not_false_iff, f_P_isValidBeside, t_P_end h, t_P_start h]
    rfl
  rw [h2]; exact h1
theorem t_P_v73 {fu : Nat} (hf : 20000 ≤ fu) {P : S_P} {g : pg} (h : pgr P g) (hg : gok g) : ∀ (a n i : Nat) (o : Nat → Bool), a < n → i + a = gp g + ga g → bqr (f_P_isValid_L73 fu P n (pz (ow o)) (qn (gp g + ga g)) (qn i)) (gW g (gb g) (gp g + ga g) a i o) := by
  have h14 := hg.n14
  have hd := gn_def g
  intro a
  induction a with
  | zero =>
    intro n i o hn hj
    obtain ⟨m, rfl⟩ : ∃ m, n = m + 1 := ⟨n - 1, by omega⟩
    have ha := t_P_vb0 hf h hg o
    refine ⟨fun hx => ?_, fun hx => ?_⟩
    · simp (disch := omega) only [q0, q1, q2, q3, q4, q5, q6, q7, q8, q14, q15, q16, q20, q31, q44, q50, q70, q1000, qn_le, qn_lt, qn_eq, qn_add, qn_inb, qn_ix, qn_dec, qn_m1, ck_tt, bd_ss, ix, isB0, isB1, if_pos, if_neg, if_true, if_false, Nat.reduceAdd, Nat.reduceLeDiff, Nat.reduceSub, Nat.reduceEqDiff, Nat.reduceMul, Nat.reduceLT, Nat.zero_add, not_true, not_false_iff, f_P_isValid_L73, f_P_isValid_L117, ha.1 hx]
    · simp (disch := omega) only [q0, q1, q2, q3, q4, q5, q6, q7, q8, q14, q15, q16, q20, q31, q44, q50, q70, q1000, qn_le, qn_lt, qn_eq, qn_add, qn_inb, qn_ix, qn_dec, qn_m1, ck_tt, bd_ss, ix, isB0, isB1, if_pos, if_neg, if_true, if_false, Nat.reduceAdd, Nat.reduceLeDiff, Nat.reduceSub, Nat.reduceEqDiff, Nat.reduceMul, Nat.reduceLT, Nat.zero_add, not_true, not_false_iff, f_P_isValid_L73, f_P_isValid_L117, ha.2 hx]
  | succ a ih =>
    intro n i o hn hj
    obtain ⟨m, rfl⟩ : ∃ m, n = m + 1 := ⟨n - 1, by omega⟩
    have ha := t_P_vb1 hf h hg o (i := i) (by omega)
    have hi := ih m (i + 1) (gnx g o i) (by omega) (by omega)
    refine ⟨fun hx => ?_, fun hx => ?_⟩
    · simp (disch := omega) only [q0, q1, q2, q3, q4, q5, q6, q7, q8, q14, q15, q16, q20, q31, q44, q50, q70, q1000, qn_le, qn_lt, qn_eq, qn_add, qn_inb, qn_ix, qn_dec, qn_m1, ck_tt, bd_ss, ix, isB0, isB1, if_pos, if_neg, if_true, if_false, Nat.reduceAdd, Nat.reduceLeDiff, Nat.reduceSub, Nat.reduceEqDiff, Nat.reduceMul, Nat.reduceLT, Nat.zero_add, not_true, not_false_iff, f_P_isValid_L73, ha.1 hx.1, p_after h hg, hi.1 hx.2]
    · by_cases h1 : gB g i (gb g) (gp g + ga g) o
      · have h2 : ¬ gW g (gb g) (gp g + ga g) a (i + 1) (gnx g o i) := fun h3 => hx ⟨h1, h3⟩
        simp (disch := omega) only [q0, q1, q2, q3, q4, q5, q6, q7, q8, q14, q15, q16, q20, q31, q44, q50, q70, q1000, qn_le, qn_lt, qn_eq, qn_add, qn_inb, qn_ix, qn_dec, qn_m1, ck_tt, bd_ss, ix, isB0, isB1, if_pos, if_neg, if_true, if_false, Nat.reduceAdd, Nat.reduceLeDiff, Nat.reduceSub, Nat.reduceEqDiff, Nat.reduceMul, Nat.reduceLT, Nat.zero_add, not_true, not_false_iff, f_P_isValid_L73, ha.1 h1, p_after h hg, hi.2 h2]
      · simp (disch := omega) only [q0, q1, q2, q3, q4, q5, q6, q7, q8, q14, q15, q16, q20, q31, q44, q50, q70, q1000, qn_le, qn_lt, qn_eq, qn_add, qn_inb, qn_ix, qn_dec, qn_m1, ck_tt, bd_ss, ix, isB0, isB1, if_pos, if_neg, if_true, if_false, Nat.reduceAdd, Nat.reduceLeDiff, Nat.reduceSub, Nat.reduceEqDiff, Nat.reduceMul, Nat.reduceLT, Nat.zero_add, not_true, not_false_iff, f_P_isValid_L73, ha.2 h1]
theorem t_P_v10 {fu : Nat} (hf : 20000 ≤ fu) {P : S_P} {g : pg} (h : pgr P g) (hg : gok g) : ∀ (a n i : Nat) (o : Nat → Bool), a < n → i + a = gp g → bqr (f_P_isValid_L10 fu P n (pz (ow o)) (qn (gp g)) (qn i)) (grun g a i o ∧ gW g (gb g) (gp g + ga g) (ga g) (gp g) (gnxs g a i o)) := by
  have h14 := hg.n14
  have hd := gn_def g
  intro a
  induction a with
  | zero =>
    intro n i o hn hj
    obtain ⟨m, rfl⟩ : ∃ m, n = m + 1 := ⟨n - 1, by omega⟩
    have ha := t_P_v73 hf h hg (ga g) fu (gp g) o (by omega) rfl
    have e : f_P_isValid_L10 fu P (m + 1) (pz (ow o)) (qn (gp g)) (qn i) = f_P_isValid_L73 fu P fu (pz (ow o)) (qn (gp g + ga g)) (qn (gp g)) := by
      simp (disch := omega) only [q0, q1, q2, q3, q4, q5, q6, q7, q8, q14, q15, q16, q20, q31, q44, q50, q70, q1000, qn_le, qn_lt, qn_eq, qn_add, qn_inb, qn_ix, qn_dec, qn_m1, ck_tt, bd_ss, ix, isB0, isB1, if_pos, if_neg, if_true, if_false, Nat.reduceAdd, Nat.reduceLeDiff, Nat.reduceSub, Nat.reduceEqDiff, Nat.reduceMul, Nat.reduceLT, Nat.zero_add, not_true, not_false_iff, f_P_isValid_L10, f_P_isValid_L60, t_P_end h, t_P_start h]
      rfl
    rw [e]
    exact ⟨fun hx => ha.1 hx.2, fun hx => ha.2 (fun h3 => hx ⟨trivial, h3⟩)⟩
  | succ a ih =>
    intro n i o hn hj
    obtain ⟨m, rfl⟩ : ∃ m, n = m + 1 := ⟨n - 1, by omega⟩
    have ha := p_allows (fu := fu) h hg o (i := i) (by omega)
    have hi := ih m (i + 1) (gnx g o i) (by omega) (by omega)
    refine ⟨fun hx => ?_, fun hx => ?_⟩
    · simp (disch := omega) only [q0, q1, q2, q3, q4, q5, q6, q7, q8, q14, q15, q16, q20, q31, q44, q50, q70, q1000, qn_le, qn_lt, qn_eq, qn_add, qn_inb, qn_ix, qn_dec, qn_m1, ck_tt, bd_ss, ix, isB0, isB1, if_pos, if_neg, if_true, if_false, Nat.reduceAdd, Nat.reduceLeDiff, Nat.reduceSub, Nat.reduceEqDiff, Nat.reduceMul, Nat.reduceLT, Nat.zero_add, not_true, not_false_iff, f_P_isValid_L10, ha.1 hx.1.1, p_after h hg, hi.1 ⟨hx.1.2, hx.2⟩]
    · by_cases h1 : gok_ g o i
      · have h2 : ¬ (grun g a (i + 1) (gnx g o i) ∧ gW g (gb g) (gp g + ga g) (ga g) (gp g) (gnxs g a (i + 1) (gnx g o i))) := fun h3 => hx ⟨⟨h1, h3.1⟩, h3.2⟩
        simp (disch := omega) only [q0, q1, q2, q3, q4, q5, q6, q7, q8, q14, q15, q16, q20, q31, q44, q50, q70, q1000, qn_le, qn_lt, qn_eq, qn_add, qn_inb, qn_ix, qn_dec, qn_m1, ck_tt, bd_ss, ix, isB0, isB1, if_pos, if_neg, if_true, if_false, Nat.reduceAdd, Nat.reduceLeDiff, Nat.reduceSub, Nat.reduceEqDiff, Nat.reduceMul, Nat.reduceLT, Nat.zero_add, not_true, not_false_iff, f_P_isValid_L10, ha.1 h1, p_after h hg, hi.2 h2]
      · simp (disch := omega) only [q0, q1, q2, q3, q4, q5, q6, q7, q8, q14, q15, q16, q20, q31, q44, q50, q70, q1000, qn_le, qn_lt, qn_eq, qn_add, qn_inb, qn_ix, qn_dec, qn_m1, ck_tt, bd_ss, ix, isB0, isB1, if_pos, if_neg, if_true, if_false, Nat.reduceAdd, Nat.reduceLeDiff, Nat.reduceSub, Nat.reduceEqDiff, Nat.reduceMul, Nat.reduceLT, Nat.zero_add, not_true, not_false_iff, f_P_isValid_L10, ha.2 h1]
theorem t_P_isValid {fu : Nat} (hf : 20000 ≤ fu) {P : S_P} {g : pg} (h : pgr P g) (hg : gok g) : bqr (f_P_isValid fu P) (gvalid g) := by
  have h14 := hg.n14
  have hd := gn_def g
  have h1 := t_P_v10 hf h hg (gp g) fu 0 (fun _ => false) (by omega) (by omega)
  have h2 : f_P_isValid fu P = f_P_isValid_L10 fu P fu (pz (ow (fun _ => false))) (qn (gp g)) (qn 0) := by
    simp (disch := omega) only [q0, q1, q2, q3, q4, q5, q6, q7, q8, q14, q15, q16, q20, q31, q44, q50, q70, q1000, qn_le, qn_lt, qn_eq, qn_add, qn_inb, qn_ix, qn_dec, qn_m1, ck_tt, bd_ss, ix, isB0, isB1, if_pos, if_neg, if_true, if_false, Nat.reduceAdd, Nat.reduceLeDiff, Nat.reduceSub, Nat.reduceEqDiff, Nat.reduceMul, Nat.reduceLT, Nat.zero_add, not_true, not_false_iff, f_P_isValid, t_P_end h]
    have : gst g 0 + gsz g 0 = gp g := Nat.zero_add _
    rw [this]
    rfl
  rw [h2]; exact h1
