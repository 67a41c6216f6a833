theorem i32_ofnat (x : Int32) (h : 0 ≤ x.toInt) : x = qn x.toInt.toNat := by
  have h2 : x.toInt < 2147483648 := Int32.toInt_lt x
  apply Int32.toInt_inj.mp
  rw [qn_toInt (by omega)]; omega
def xin (x : Int32) (n : Nat) : Prop := ∃ k, k < n ∧ x = qn k
theorem xin_iff (x : Int32) (n : Nat) (hn : n < 2147483648) : xin x n ↔ 0 ≤ x.toInt ∧ x.toInt < n := by
  constructor
  · rintro ⟨k, h1, h2⟩
    rw [h2, qn_toInt (by omega)]; omega
  · intro h
    exact ⟨x.toInt.toNat, by omega, i32_ofnat x h.1⟩
theorem t_below {fu : Nat} (x : Int32) {n : Nat} (hn : n < 2147483648) : bqr (f_H_isBelow fu x (qn n)) (xin x n) := by
  rw [xin_iff x n hn]
  have h0 : (qn 0).toInt = 0 := by decide
  have l0 : x < qn 0 ↔ x.toInt < 0 := by rw [Int32.lt_iff_toInt_lt, h0]
  have l1 : qn n ≤ x ↔ (n : Int) ≤ x.toInt := by rw [Int32.le_iff_toInt_le, qn_toInt hn]
  refine ⟨fun h => ?_, fun h => ?_⟩
  · have a : ¬ x < qn 0 := by rw [l0]; omega
    have b : ¬ qn n ≤ x := by rw [l1]; omega
    simp (disch := omega) only [↓reduceIte, q0, q1, q2, q3, q4, q5, q6, q7, q8, q14, q15, q16, q20, q31, q44, q50, q70, q1000, qn_le_t, qn_le_f, qn_lt_t, qn_lt_f, qn_eq_t, qn_eq_f, qn_add, qn_inb, qn_ix, qn_dec, qn_m1, ck_tt, bd_ss, ix, isB0, isB1, Nat.reduceAdd, Nat.reduceSub, Nat.reduceMul, Nat.zero_add, f_H_isBelow, a, b]
  · by_cases a : x < qn 0
    · simp (disch := omega) only [↓reduceIte, q0, q1, q2, q3, q4, q5, q6, q7, q8, q14, q15, q16, q20, q31, q44, q50, q70, q1000, qn_le_t, qn_le_f, qn_lt_t, qn_lt_f, qn_eq_t, qn_eq_f, qn_add, qn_inb, qn_ix, qn_dec, qn_m1, ck_tt, bd_ss, ix, isB0, isB1, Nat.reduceAdd, Nat.reduceSub, Nat.reduceMul, Nat.zero_add, f_H_isBelow, a]
    · have b : qn n ≤ x := by rw [l1]; rw [l0] at a; omega
      simp (disch := omega) only [↓reduceIte, q0, q1, q2, q3, q4, q5, q6, q7, q8, q14, q15, q16, q20, q31, q44, q50, q70, q1000, qn_le_t, qn_le_f, qn_lt_t, qn_lt_f, qn_eq_t, qn_eq_f, qn_add, qn_inb, qn_ix, qn_dec, qn_m1, ck_tt, bd_ss, ix, isB0, isB1, Nat.reduceAdd, Nat.reduceSub, Nat.reduceMul, Nat.zero_add, f_H_isBelow, a, b]
theorem t_within {fu : Nat} (x b : Int32) {n : Nat} (hn : n < 2147483648) (hb : b.toInt = (n : Int) - 1) : bqr (f_R_within fu x (qn 0) b) (xin x n) := by
  rw [xin_iff x n hn]
  have h0 : (qn 0).toInt = 0 := by decide
  have l0 : x < qn 0 ↔ x.toInt < 0 := by rw [Int32.lt_iff_toInt_lt, h0]
  have l1 : b < x ↔ (n : Int) - 1 < x.toInt := by rw [Int32.lt_iff_toInt_lt, hb]
  refine ⟨fun h => ?_, fun h => ?_⟩
  · have a : ¬ x < qn 0 := by rw [l0]; omega
    have b : ¬ b < x := by rw [l1]; omega
    simp (disch := omega) only [↓reduceIte, q0, q1, q2, q3, q4, q5, q6, q7, q8, q14, q15, q16, q20, q31, q44, q50, q70, q1000, qn_le_t, qn_le_f, qn_lt_t, qn_lt_f, qn_eq_t, qn_eq_f, qn_add, qn_inb, qn_ix, qn_dec, qn_m1, ck_tt, bd_ss, ix, isB0, isB1, Nat.reduceAdd, Nat.reduceSub, Nat.reduceMul, Nat.zero_add, f_R_within, a, b]
  · by_cases a : x < qn 0
    · simp (disch := omega) only [↓reduceIte, q0, q1, q2, q3, q4, q5, q6, q7, q8, q14, q15, q16, q20, q31, q44, q50, q70, q1000, qn_le_t, qn_le_f, qn_lt_t, qn_lt_f, qn_eq_t, qn_eq_f, qn_add, qn_inb, qn_ix, qn_dec, qn_m1, ck_tt, bd_ss, ix, isB0, isB1, Nat.reduceAdd, Nat.reduceSub, Nat.reduceMul, Nat.zero_add, f_R_within, a]
    · have b : b < x := by rw [l1]; rw [l0] at a; omega
      simp (disch := omega) only [↓reduceIte, q0, q1, q2, q3, q4, q5, q6, q7, q8, q14, q15, q16, q20, q31, q44, q50, q70, q1000, qn_le_t, qn_le_f, qn_lt_t, qn_lt_f, qn_eq_t, qn_eq_f, qn_add, qn_inb, qn_ix, qn_dec, qn_m1, ck_tt, bd_ss, ix, isB0, isB1, Nat.reduceAdd, Nat.reduceSub, Nat.reduceMul, Nat.zero_add, f_R_within, a, b]
def HR (H : S_H) (R : S_R) : Prop := ∃ (g : pg) (f : Nat) (P Q : S_P) (an nu ca ba nc ne no J tl sz kd ce ar ks kp ho op ha io no' at_ ev : Nat → Int32) (z f0 ru wr sc exC ta cur th ex wi fa : Int32) (dr dw gg : Int64), H = (P, Q, ((an, nu, ca, ba, z, nc, ne, no, f0), J, tl, qn f, ru, wr, sc, exC, dr), dw, ta, cur) ∧ R = (th, sz, kd, ce, ar, ks, kp, qn f, gg, ho, op, ha, io, cur, ex, an, nu, ca, ba, no', at_, ev, wi, ru, wr, ta, fa, tl) ∧ pgr P g ∧ pgr (sz, kd, ce, ar) g ∧ gok g ∧ f < 16 ∧ a8 an ∧ a8 nu ∧ (cur = qn 0 ∨ cur = qn 1 ∧ ∃ w, z = pz w ∧ exC = ex ∧ rdat g w J ha io ex wi)
def okr (c : UInt32 → Int32) (res : Int32 ⊕ UInt32) (b th : Int32) : Prop := (res = .inl b ∧ th = qn 0) ∨ ∃ e, res = .inr e ∧ th = c e ∧ c e ≠ qn 0
def cd1 : UInt32 → Int32 := fun e => if e = 1 then qn 1 else qn 0
def cd4 : UInt32 → Int32 := fun e => if e = 4 then qn 1 else qn 0
def cda : UInt32 → Int32 := fun e => if e = 1 then qn 1 else if e = 2 then qn 2 else if e = 3 then qn 3 else qn 0
def cdi : UInt32 → Int32 := fun e => if e = 4 then qn 1 else if e = 2 then qn 2 else qn 0
def cdo : UInt32 → Int32 := fun e => if e = 2 then qn 1 else if e = 5 then qn 2 else qn 0
theorem qne (a b : Nat) (h : ¬ a = b) (ha : a < 2147483648) (hb : b < 2147483648) : qn a ≠ qn b := by
  rw [ne_eq, qn_eq ha hb]; exact h
theorem HR_th {H : S_H} {R : S_R} (h : HR H R) (t : Int32) : HR H (t, R.2) := by
  obtain ⟨g, f, P, Q, an, nu, ca, ba, nc, ne, no, J, tl, sz, kd, ce, ar, ks, kp, ho, op, ha, io, no', at_, ev, z, f0, ru, wr, sc, exC, ta, cur, th, ex, wi, fa, dr, dw, gg, rfl, rfl, h1, h2, h3, h4, h5, h6, h7⟩ := h
  exact ⟨g, f, P, Q, an, nu, ca, ba, nc, ne, no, J, tl, sz, kd, ce, ar, ks, kp, ho, op, ha, io, no', at_, ev, z, f0, ru, wr, sc, exC, ta, cur, t, ex, wi, fa, dr, dw, gg, rfl, rfl, h1, h2, h3, h4, h5, h6, h7⟩
theorem m_tally {fu : Nat} {H : S_H} {R : S_R} (h : HR H R) (a1 : Int32) : ∃ res b R', f_H_tally fu H a1 = some res ∧ f_R_tally fu R a1 = some (b, R') ∧ HR H R' ∧ okr cd4 res b R'.1 := by
  have hth := HR_th h
  obtain ⟨g, f, P, Q, an, nu, ca, ba, nc, ne, no, J, tl, sz, kd, ce, ar, ks, kp, ho, op, ha, io, no', at_, ev, z, f0, ru, wr, sc, exC, ta, cur, th, ex, wi, fa, dr, dw, gg, rfl, rfl, h1, h2, h3, h4, h5, h6, h7⟩ := h
  have t1 := t_below (fu := fu) a1 (n := 7) (by omega)
  have t2 := t_within (fu := fu) a1 (qn 6) (n := 7) (by omega) (by decide)
  by_cases hx : xin a1 7
  · obtain ⟨k, hk, rfl⟩ := hx
    refine ⟨.inl (tl k), tl k, _, ?_, ?_, hth (qn 0), Or.inl ⟨rfl, rfl⟩⟩
    · simp (disch := omega) only [↓reduceIte, q0, q1, q2, q3, q4, q5, q6, q7, q8, q14, q15, q16, q20, q31, q44, q50, q70, q1000, qn_le_t, qn_le_f, qn_lt_t, qn_lt_f, qn_eq_t, qn_eq_f, qn_add, qn_inb, qn_ix, qn_dec, qn_m1, ck_tt, bd_ss, ix, isB0, isB1, Nat.reduceAdd, Nat.reduceSub, Nat.reduceMul, Nat.zero_add, f_H_tally, t1.1 ⟨k, hk, rfl⟩]
    · simp (disch := omega) only [↓reduceIte, q0, q1, q2, q3, q4, q5, q6, q7, q8, q14, q15, q16, q20, q31, q44, q50, q70, q1000, qn_le_t, qn_le_f, qn_lt_t, qn_lt_f, qn_eq_t, qn_eq_f, qn_add, qn_inb, qn_ix, qn_dec, qn_m1, ck_tt, bd_ss, ix, isB0, isB1, Nat.reduceAdd, Nat.reduceSub, Nat.reduceMul, Nat.zero_add, f_R_tally, t2.1 ⟨k, hk, rfl⟩]
  · refine ⟨.inr 4, qn 0, _, ?_, ?_, hth (qn 1), Or.inr ⟨4, rfl, rfl, qne 1 0 (by omega) (by omega) (by omega)⟩⟩
    · simp (disch := omega) only [↓reduceIte, q0, q1, q2, q3, q4, q5, q6, q7, q8, q14, q15, q16, q20, q31, q44, q50, q70, q1000, qn_le_t, qn_le_f, qn_lt_t, qn_lt_f, qn_eq_t, qn_eq_f, qn_add, qn_inb, qn_ix, qn_dec, qn_m1, ck_tt, bd_ss, ix, isB0, isB1, Nat.reduceAdd, Nat.reduceSub, Nat.reduceMul, Nat.zero_add, f_H_tally, t1.2 hx]
    · simp (disch := omega) only [↓reduceIte, q0, q1, q2, q3, q4, q5, q6, q7, q8, q14, q15, q16, q20, q31, q44, q50, q70, q1000, qn_le_t, qn_le_f, qn_lt_t, qn_lt_f, qn_eq_t, qn_eq_f, qn_add, qn_inb, qn_ix, qn_dec, qn_m1, ck_tt, bd_ss, ix, isB0, isB1, Nat.reduceAdd, Nat.reduceSub, Nat.reduceMul, Nat.zero_add, f_R_tally, t2.2 hx, f_R_fail]
theorem m_count {fu : Nat} {H : S_H} {R : S_R} (h : HR H R) (a1 : Int32) : ∃ res b R', f_H_count fu H a1 = some res ∧ f_R_count fu R a1 = some (b, R') ∧ HR H R' ∧ okr cd4 res b R'.1 := by
  have hth := HR_th h
  obtain ⟨g, f, P, Q, an, nu, ca, ba, nc, ne, no, J, tl, sz, kd, ce, ar, ks, kp, ho, op, ha, io, no', at_, ev, z, f0, ru, wr, sc, exC, ta, cur, th, ex, wi, fa, dr, dw, gg, rfl, rfl, h1, h2, h3, h4, h5, h6, h7⟩ := h
  have t2 := t_within (fu := fu) a1 (qn 3) (n := 4) (by omega) (by decide)
  by_cases hx : xin a1 4
  · obtain ⟨k, hk, rfl⟩ := hx
    have t3 := t2.1 ⟨k, hk, rfl⟩
    have : k = 0 ∨ k = 1 ∨ k = 2 ∨ k = 3 := by omega
    rcases this with rfl | rfl | rfl | rfl
    · refine ⟨.inl (qn (gn g)), qn (gn g), _, ?_, ?_, hth (qn 0), Or.inl ⟨rfl, rfl⟩⟩
      · simp (disch := omega) only [↓reduceIte, q0, q1, q2, q3, q4, q5, q6, q7, q8, q14, q15, q16, q20, q31, q44, q50, q70, q1000, qn_le_t, qn_le_f, qn_lt_t, qn_lt_f, qn_eq_t, qn_eq_f, qn_add, qn_inb, qn_ix, qn_dec, qn_m1, ck_tt, bd_ss, ix, isB0, isB1, Nat.reduceAdd, Nat.reduceSub, Nat.reduceMul, Nat.zero_add, f_H_count, t_P_size h1]
      · simp (disch := omega) only [↓reduceIte, q0, q1, q2, q3, q4, q5, q6, q7, q8, q14, q15, q16, q20, q31, q44, q50, q70, q1000, qn_le_t, qn_le_f, qn_lt_t, qn_lt_f, qn_eq_t, qn_eq_f, qn_add, qn_inb, qn_ix, qn_dec, qn_m1, ck_tt, bd_ss, ix, isB0, isB1, Nat.reduceAdd, Nat.reduceSub, Nat.reduceMul, Nat.zero_add, f_R_count, t3, t_R_many h2]
    · refine ⟨.inl ru, ru, _, ?_, ?_, hth (qn 0), Or.inl ⟨rfl, rfl⟩⟩
      · simp (disch := omega) only [↓reduceIte, q0, q1, q2, q3, q4, q5, q6, q7, q8, q14, q15, q16, q20, q31, q44, q50, q70, q1000, qn_le_t, qn_le_f, qn_lt_t, qn_lt_f, qn_eq_t, qn_eq_f, qn_add, qn_inb, qn_ix, qn_dec, qn_m1, ck_tt, bd_ss, ix, isB0, isB1, Nat.reduceAdd, Nat.reduceSub, Nat.reduceMul, Nat.zero_add, f_H_count]
      · simp (disch := omega) only [↓reduceIte, q0, q1, q2, q3, q4, q5, q6, q7, q8, q14, q15, q16, q20, q31, q44, q50, q70, q1000, qn_le_t, qn_le_f, qn_lt_t, qn_lt_f, qn_eq_t, qn_eq_f, qn_add, qn_inb, qn_ix, qn_dec, qn_m1, ck_tt, bd_ss, ix, isB0, isB1, Nat.reduceAdd, Nat.reduceSub, Nat.reduceMul, Nat.zero_add, f_R_count, t3]
    · refine ⟨.inl wr, wr, _, ?_, ?_, hth (qn 0), Or.inl ⟨rfl, rfl⟩⟩
      · simp (disch := omega) only [↓reduceIte, q0, q1, q2, q3, q4, q5, q6, q7, q8, q14, q15, q16, q20, q31, q44, q50, q70, q1000, qn_le_t, qn_le_f, qn_lt_t, qn_lt_f, qn_eq_t, qn_eq_f, qn_add, qn_inb, qn_ix, qn_dec, qn_m1, ck_tt, bd_ss, ix, isB0, isB1, Nat.reduceAdd, Nat.reduceSub, Nat.reduceMul, Nat.zero_add, f_H_count]
      · simp (disch := omega) only [↓reduceIte, q0, q1, q2, q3, q4, q5, q6, q7, q8, q14, q15, q16, q20, q31, q44, q50, q70, q1000, qn_le_t, qn_le_f, qn_lt_t, qn_lt_f, qn_eq_t, qn_eq_f, qn_add, qn_inb, qn_ix, qn_dec, qn_m1, ck_tt, bd_ss, ix, isB0, isB1, Nat.reduceAdd, Nat.reduceSub, Nat.reduceMul, Nat.zero_add, f_R_count, t3]
    · refine ⟨.inl ta, ta, _, ?_, ?_, hth (qn 0), Or.inl ⟨rfl, rfl⟩⟩
      · simp (disch := omega) only [↓reduceIte, q0, q1, q2, q3, q4, q5, q6, q7, q8, q14, q15, q16, q20, q31, q44, q50, q70, q1000, qn_le_t, qn_le_f, qn_lt_t, qn_lt_f, qn_eq_t, qn_eq_f, qn_add, qn_inb, qn_ix, qn_dec, qn_m1, ck_tt, bd_ss, ix, isB0, isB1, Nat.reduceAdd, Nat.reduceSub, Nat.reduceMul, Nat.zero_add, f_H_count]
      · simp (disch := omega) only [↓reduceIte, q0, q1, q2, q3, q4, q5, q6, q7, q8, q14, q15, q16, q20, q31, q44, q50, q70, q1000, qn_le_t, qn_le_f, qn_lt_t, qn_lt_f, qn_eq_t, qn_eq_f, qn_add, qn_inb, qn_ix, qn_dec, qn_m1, ck_tt, bd_ss, ix, isB0, isB1, Nat.reduceAdd, Nat.reduceSub, Nat.reduceMul, Nat.zero_add, f_R_count, t3]
  · have n0 : ¬ a1 = qn 0 := fun h => hx ⟨0, by omega, h⟩
    have n1 : ¬ a1 = qn 1 := fun h => hx ⟨1, by omega, h⟩
    have n2 : ¬ a1 = qn 2 := fun h => hx ⟨2, by omega, h⟩
    have n3 : ¬ a1 = qn 3 := fun h => hx ⟨3, by omega, h⟩
    refine ⟨.inr 4, qn 0, _, ?_, ?_, hth (qn 1), Or.inr ⟨4, rfl, rfl, qne 1 0 (by omega) (by omega) (by omega)⟩⟩
    · simp (disch := omega) only [↓reduceIte, q0, q1, q2, q3, q4, q5, q6, q7, q8, q14, q15, q16, q20, q31, q44, q50, q70, q1000, qn_le_t, qn_le_f, qn_lt_t, qn_lt_f, qn_eq_t, qn_eq_f, qn_add, qn_inb, qn_ix, qn_dec, qn_m1, ck_tt, bd_ss, ix, isB0, isB1, Nat.reduceAdd, Nat.reduceSub, Nat.reduceMul, Nat.zero_add, f_H_count, n0, n1, n2, n3]
    · simp (disch := omega) only [↓reduceIte, q0, q1, q2, q3, q4, q5, q6, q7, q8, q14, q15, q16, q20, q31, q44, q50, q70, q1000, qn_le_t, qn_le_f, qn_lt_t, qn_lt_f, qn_eq_t, qn_eq_f, qn_add, qn_inb, qn_ix, qn_dec, qn_m1, ck_tt, bd_ss, ix, isB0, isB1, Nat.reduceAdd, Nat.reduceSub, Nat.reduceMul, Nat.zero_add, f_R_count, t2.2 hx, f_R_fail]
theorem m_cell {fu : Nat} {H : S_H} {R : S_R} (h : HR H R) (a1 : Int32) : ∃ res b R', f_H_cell fu H a1 = some res ∧ f_R_cell fu R a1 = some (b, R') ∧ HR H R' ∧ okr cdi res b R'.1 := by
  have hth := HR_th h
  obtain ⟨g, f, P, Q, an, nu, ca, ba, nc, ne, no, J, tl, sz, kd, ce, ar, ks, kp, ho, op, ha, io, no', at_, ev, z, f0, ru, wr, sc, exC, ta, cur, th, ex, wi, fa, dr, dw, gg, rfl, rfl, h1, h2, h3, h4, h5, h6, h7⟩ := h
  have t1 := t_below (fu := fu) a1 (n := 3) (by omega)
  have t2 := t_within (fu := fu) a1 (qn 2) (n := 3) (by omega) (by decide)
  by_cases hx : xin a1 3
  · obtain ⟨k, hk, rfl⟩ := hx
    rcases h7 with hc | ⟨hc, w, rfl, rfl, h8⟩
    · subst hc
      refine ⟨.inr 2, qn 0, _, ?_, ?_, hth (qn 2), Or.inr ⟨2, rfl, rfl, qne 2 0 (by omega) (by omega) (by omega)⟩⟩
      · simp (disch := omega) only [↓reduceIte, q0, q1, q2, q3, q4, q5, q6, q7, q8, q14, q15, q16, q20, q31, q44, q50, q70, q1000, qn_le_t, qn_le_f, qn_lt_t, qn_lt_f, qn_eq_t, qn_eq_f, qn_add, qn_inb, qn_ix, qn_dec, qn_m1, ck_tt, bd_ss, ix, isB0, isB1, Nat.reduceAdd, Nat.reduceSub, Nat.reduceMul, Nat.zero_add, f_H_cell, t1.1 ⟨k, hk, rfl⟩]
      · simp (disch := omega) only [↓reduceIte, q0, q1, q2, q3, q4, q5, q6, q7, q8, q14, q15, q16, q20, q31, q44, q50, q70, q1000, qn_le_t, qn_le_f, qn_lt_t, qn_lt_f, qn_eq_t, qn_eq_f, qn_add, qn_inb, qn_ix, qn_dec, qn_m1, ck_tt, bd_ss, ix, isB0, isB1, Nat.reduceAdd, Nat.reduceSub, Nat.reduceMul, Nat.zero_add, f_R_cell, t2.1 ⟨k, hk, rfl⟩, f_R_fail]
    · subst hc
      have hw := h8.1.at hk
      have hv := h8.2.1 k hk
      refine ⟨.inl (qn (w k)), qn (w k), _, ?_, ?_, hth (qn 0), Or.inl ⟨rfl, rfl⟩⟩
      · simp (disch := omega) only [↓reduceIte, q0, q1, q2, q3, q4, q5, q6, q7, q8, q14, q15, q16, q20, q31, q44, q50, q70, q1000, qn_le_t, qn_le_f, qn_lt_t, qn_lt_f, qn_eq_t, qn_eq_f, qn_add, qn_inb, qn_ix, qn_dec, qn_m1, ck_tt, bd_ss, ix, isB0, isB1, Nat.reduceAdd, Nat.reduceSub, Nat.reduceMul, Nat.zero_add, f_H_cell, t1.1 ⟨k, hk, rfl⟩, t_O_content h8.1 hk]
      · by_cases h9 : w k / 8 = 0
        · have e : w k % 8 + 0 = w k := by omega
          simp (disch := omega) only [↓reduceIte, q0, q1, q2, q3, q4, q5, q6, q7, q8, q14, q15, q16, q20, q31, q44, q50, q70, q1000, qn_le_t, qn_le_f, qn_lt_t, qn_lt_f, qn_eq_t, qn_eq_f, qn_add, qn_inb, qn_ix, qn_dec, qn_m1, ck_tt, bd_ss, ix, isB0, isB1, Nat.reduceAdd, Nat.reduceSub, Nat.reduceMul, Nat.zero_add, f_R_cell, t2.1 ⟨k, hk, rfl⟩, hv.1, hv.2, e]
        · have e : w k % 8 + 8 = w k := by omega
          simp (disch := omega) only [↓reduceIte, q0, q1, q2, q3, q4, q5, q6, q7, q8, q14, q15, q16, q20, q31, q44, q50, q70, q1000, qn_le_t, qn_le_f, qn_lt_t, qn_lt_f, qn_eq_t, qn_eq_f, qn_add, qn_inb, qn_ix, qn_dec, qn_m1, ck_tt, bd_ss, ix, isB0, isB1, Nat.reduceAdd, Nat.reduceSub, Nat.reduceMul, Nat.zero_add, f_R_cell, t2.1 ⟨k, hk, rfl⟩, hv.1, hv.2, e]
  · refine ⟨.inr 4, qn 0, _, ?_, ?_, hth (qn 1), Or.inr ⟨4, rfl, rfl, qne 1 0 (by omega) (by omega) (by omega)⟩⟩
    · simp (disch := omega) only [↓reduceIte, q0, q1, q2, q3, q4, q5, q6, q7, q8, q14, q15, q16, q20, q31, q44, q50, q70, q1000, qn_le_t, qn_le_f, qn_lt_t, qn_lt_f, qn_eq_t, qn_eq_f, qn_add, qn_inb, qn_ix, qn_dec, qn_m1, ck_tt, bd_ss, ix, isB0, isB1, Nat.reduceAdd, Nat.reduceSub, Nat.reduceMul, Nat.zero_add, f_H_cell, t1.2 hx]
    · simp (disch := omega) only [↓reduceIte, q0, q1, q2, q3, q4, q5, q6, q7, q8, q14, q15, q16, q20, q31, q44, q50, q70, q1000, qn_le_t, qn_le_f, qn_lt_t, qn_lt_f, qn_eq_t, qn_eq_f, qn_add, qn_inb, qn_ix, qn_dec, qn_m1, ck_tt, bd_ss, ix, isB0, isB1, Nat.reduceAdd, Nat.reduceSub, Nat.reduceMul, Nat.zero_add, f_R_cell, t2.2 hx, f_R_fail]
theorem qn_m1_int {n : Nat} (h : n < 100) : (qn n - qn 1).toInt = (n : Int) - 1 := by
  rw [qn_sub_toInt (by omega) (by omega)]; omega
theorem m_command {fu : Nat} {H : S_H} {R : S_R} (h : HR H R) (a1 a2 : Int32) : ∃ res b R', f_H_command fu H a1 a2 = some res ∧ f_R_command fu R a1 a2 = some (b, R') ∧ HR H R' ∧ okr cd4 res b R'.1 := by
  have hth := HR_th h
  obtain ⟨g, f, P, Q, an, nu, ca, ba, nc, ne, no, J, tl, sz, kd, ce, ar, ks, kp, ho, op, ha, io, no', at_, ev, z, f0, ru, wr, sc, exC, ta, cur, th, ex, wi, fa, dr, dw, gg, rfl, rfl, h1, h2, h3, h4, h5, h6, h7⟩ := h
  have h14 := h3.n14
  have t1 := t_below (fu := fu) a1 (n := gn g) (by omega)
  have t2 := t_within (fu := fu) a1 (qn (gn g) - qn 1) (n := gn g) (by omega) (qn_m1_int (by omega))
  have t3 := t_below (fu := fu) a2 (n := 4) (by omega)
  have t4 := t_within (fu := fu) a2 (qn 3) (n := 4) (by omega) (by decide)
  by_cases hx : xin a1 (gn g)
  · have t1' := t1.1 hx
    have t2' := t2.1 hx
    by_cases hy : xin a2 4
    · have t3' := t3.1 hy
      have t4' := t4.1 hy
      obtain ⟨i, hi, rfl⟩ := hx
      obtain ⟨k, hk, rfl⟩ := hy
      have p := h1.2.2.2 i hi
      have q := h2.2.2.2 i hi
      dsimp only at q
      have : k = 0 ∨ k = 1 ∨ k = 2 ∨ k = 3 := by omega
      rcases this with rfl | rfl | rfl | rfl
      · refine ⟨.inl (qn (gbr g i)), qn (gbr g i), _, ?_, ?_, hth (qn 0), Or.inl ⟨rfl, rfl⟩⟩
        · simp (disch := omega) only [↓reduceIte, q0, q1, q2, q3, q4, q5, q6, q7, q8, q14, q15, q16, q20, q31, q44, q50, q70, q1000, qn_le_t, qn_le_f, qn_lt_t, qn_lt_f, qn_eq_t, qn_eq_f, qn_add, qn_inb, qn_ix, qn_dec, qn_m1, ck_tt, bd_ss, ix, isB0, isB1, Nat.reduceAdd, Nat.reduceSub, Nat.reduceMul, Nat.zero_add, f_H_command, t_P_size h1, t1', t3', t_P_branchOf h1 h3]
        · simp (disch := omega) only [↓reduceIte, q0, q1, q2, q3, q4, q5, q6, q7, q8, q14, q15, q16, q20, q31, q44, q50, q70, q1000, qn_le_t, qn_le_f, qn_lt_t, qn_lt_f, qn_eq_t, qn_eq_f, qn_add, qn_inb, qn_ix, qn_dec, qn_m1, ck_tt, bd_ss, ix, isB0, isB1, Nat.reduceAdd, Nat.reduceSub, Nat.reduceMul, Nat.zero_add, f_R_command, t_R_many h2, t2', t4', t_R_branch h2 h3]
      · refine ⟨.inl (qn (gk g i)), qn (gk g i), _, ?_, ?_, hth (qn 0), Or.inl ⟨rfl, rfl⟩⟩
        · simp (disch := omega) only [↓reduceIte, q0, q1, q2, q3, q4, q5, q6, q7, q8, q14, q15, q16, q20, q31, q44, q50, q70, q1000, qn_le_t, qn_le_f, qn_lt_t, qn_lt_f, qn_eq_t, qn_eq_f, qn_add, qn_inb, qn_ix, qn_dec, qn_m1, ck_tt, bd_ss, ix, isB0, isB1, Nat.reduceAdd, Nat.reduceSub, Nat.reduceMul, Nat.zero_add, f_H_command, t_P_size h1, t1', t3', p.1]
        · simp (disch := omega) only [↓reduceIte, q0, q1, q2, q3, q4, q5, q6, q7, q8, q14, q15, q16, q20, q31, q44, q50, q70, q1000, qn_le_t, qn_le_f, qn_lt_t, qn_lt_f, qn_eq_t, qn_eq_f, qn_add, qn_inb, qn_ix, qn_dec, qn_m1, ck_tt, bd_ss, ix, isB0, isB1, Nat.reduceAdd, Nat.reduceSub, Nat.reduceMul, Nat.zero_add, f_R_command, t_R_many h2, t2', t4', q.1]
      · refine ⟨.inl (qn (gc g i)), qn (gc g i), _, ?_, ?_, hth (qn 0), Or.inl ⟨rfl, rfl⟩⟩
        · simp (disch := omega) only [↓reduceIte, q0, q1, q2, q3, q4, q5, q6, q7, q8, q14, q15, q16, q20, q31, q44, q50, q70, q1000, qn_le_t, qn_le_f, qn_lt_t, qn_lt_f, qn_eq_t, qn_eq_f, qn_add, qn_inb, qn_ix, qn_dec, qn_m1, ck_tt, bd_ss, ix, isB0, isB1, Nat.reduceAdd, Nat.reduceSub, Nat.reduceMul, Nat.zero_add, f_H_command, t_P_size h1, t1', t3', p.2.1]
        · simp (disch := omega) only [↓reduceIte, q0, q1, q2, q3, q4, q5, q6, q7, q8, q14, q15, q16, q20, q31, q44, q50, q70, q1000, qn_le_t, qn_le_f, qn_lt_t, qn_lt_f, qn_eq_t, qn_eq_f, qn_add, qn_inb, qn_ix, qn_dec, qn_m1, ck_tt, bd_ss, ix, isB0, isB1, Nat.reduceAdd, Nat.reduceSub, Nat.reduceMul, Nat.zero_add, f_R_command, t_R_many h2, t2', t4', q.2.1]
      · refine ⟨.inl (qn (gv g i)), qn (gv g i), _, ?_, ?_, hth (qn 0), Or.inl ⟨rfl, rfl⟩⟩
        · simp (disch := omega) only [↓reduceIte, q0, q1, q2, q3, q4, q5, q6, q7, q8, q14, q15, q16, q20, q31, q44, q50, q70, q1000, qn_le_t, qn_le_f, qn_lt_t, qn_lt_f, qn_eq_t, qn_eq_f, qn_add, qn_inb, qn_ix, qn_dec, qn_m1, ck_tt, bd_ss, ix, isB0, isB1, Nat.reduceAdd, Nat.reduceSub, Nat.reduceMul, Nat.zero_add, f_H_command, t_P_size h1, t1', t3', p.2.2]
        · simp (disch := omega) only [↓reduceIte, q0, q1, q2, q3, q4, q5, q6, q7, q8, q14, q15, q16, q20, q31, q44, q50, q70, q1000, qn_le_t, qn_le_f, qn_lt_t, qn_lt_f, qn_eq_t, qn_eq_f, qn_add, qn_inb, qn_ix, qn_dec, qn_m1, ck_tt, bd_ss, ix, isB0, isB1, Nat.reduceAdd, Nat.reduceSub, Nat.reduceMul, Nat.zero_add, f_R_command, t_R_many h2, t2', t4', q.2.2]
    · refine ⟨.inr 4, qn 0, _, ?_, ?_, hth (qn 1), Or.inr ⟨4, rfl, rfl, qne 1 0 (by omega) (by omega) (by omega)⟩⟩
      · simp (disch := omega) only [↓reduceIte, q0, q1, q2, q3, q4, q5, q6, q7, q8, q14, q15, q16, q20, q31, q44, q50, q70, q1000, qn_le_t, qn_le_f, qn_lt_t, qn_lt_f, qn_eq_t, qn_eq_f, qn_add, qn_inb, qn_ix, qn_dec, qn_m1, ck_tt, bd_ss, ix, isB0, isB1, Nat.reduceAdd, Nat.reduceSub, Nat.reduceMul, Nat.zero_add, f_H_command, t_P_size h1, t1', t3.2 hy]
      · simp (disch := omega) only [↓reduceIte, q0, q1, q2, q3, q4, q5, q6, q7, q8, q14, q15, q16, q20, q31, q44, q50, q70, q1000, qn_le_t, qn_le_f, qn_lt_t, qn_lt_f, qn_eq_t, qn_eq_f, qn_add, qn_inb, qn_ix, qn_dec, qn_m1, ck_tt, bd_ss, ix, isB0, isB1, Nat.reduceAdd, Nat.reduceSub, Nat.reduceMul, Nat.zero_add, f_R_command, t_R_many h2, t2', t4.2 hy, f_R_fail]
  · refine ⟨.inr 4, qn 0, _, ?_, ?_, hth (qn 1), Or.inr ⟨4, rfl, rfl, qne 1 0 (by omega) (by omega) (by omega)⟩⟩
    · simp (disch := omega) only [↓reduceIte, q0, q1, q2, q3, q4, q5, q6, q7, q8, q14, q15, q16, q20, q31, q44, q50, q70, q1000, qn_le_t, qn_le_f, qn_lt_t, qn_lt_f, qn_eq_t, qn_eq_f, qn_add, qn_inb, qn_ix, qn_dec, qn_m1, ck_tt, bd_ss, ix, isB0, isB1, Nat.reduceAdd, Nat.reduceSub, Nat.reduceMul, Nat.zero_add, f_H_command, t_P_size h1, t1.2 hx]
    · simp (disch := omega) only [↓reduceIte, q0, q1, q2, q3, q4, q5, q6, q7, q8, q14, q15, q16, q20, q31, q44, q50, q70, q1000, qn_le_t, qn_le_f, qn_lt_t, qn_lt_f, qn_eq_t, qn_eq_f, qn_add, qn_inb, qn_ix, qn_dec, qn_m1, ck_tt, bd_ss, ix, isB0, isB1, Nat.reduceAdd, Nat.reduceSub, Nat.reduceMul, Nat.zero_add, f_R_command, t_R_many h2, t2.2 hx, f_R_fail]
theorem m_event {fu : Nat} {H : S_H} {R : S_R} (h : HR H R) (a1 a2 : Int32) : ∃ res b R', f_H_event fu H a1 a2 = some res ∧ f_R_event fu R a1 a2 = some (b, R') ∧ HR H R' ∧ okr cdi res b R'.1 := by
  have hth := HR_th h
  obtain ⟨g, f, P, Q, an, nu, ca, ba, nc, ne, no, J, tl, sz, kd, ce, ar, ks, kp, ho, op, ha, io, no', at_, ev, z, f0, ru, wr, sc, exC, ta, cur, th, ex, wi, fa, dr, dw, gg, rfl, rfl, h1, h2, h3, h4, h5, h6, h7⟩ := h
  have h14 := h3.n14
  have t1 := t_below (fu := fu) a1 (n := gn g) (by omega)
  have t2 := t_within (fu := fu) a1 (qn (gn g) - qn 1) (n := gn g) (by omega) (qn_m1_int (by omega))
  have t3 := t_below (fu := fu) a2 (n := 4) (by omega)
  have t4 := t_within (fu := fu) a2 (qn 3) (n := 4) (by omega) (by decide)
  by_cases hx : xin a1 (gn g)
  · have t1' := t1.1 hx
    have t2' := t2.1 hx
    by_cases hy : xin a2 4
    · have t3' := t3.1 hy
      have t4' := t4.1 hy
      obtain ⟨i, hi, rfl⟩ := hx
      obtain ⟨k, hk, rfl⟩ := hy
      rcases h7 with hc | ⟨hc, h8⟩
      · subst hc
        refine ⟨.inr 2, qn 0, _, ?_, ?_, hth (qn 2), Or.inr ⟨2, rfl, rfl, qne 2 0 (by omega) (by omega) (by omega)⟩⟩
        · simp (disch := omega) only [↓reduceIte, q0, q1, q2, q3, q4, q5, q6, q7, q8, q14, q15, q16, q20, q31, q44, q50, q70, q1000, qn_le_t, qn_le_f, qn_lt_t, qn_lt_f, qn_eq_t, qn_eq_f, qn_add, qn_inb, qn_ix, qn_dec, qn_m1, ck_tt, bd_ss, ix, isB0, isB1, Nat.reduceAdd, Nat.reduceSub, Nat.reduceMul, Nat.zero_add, f_H_event, t_P_size h1, t1', t3']
        · simp (disch := omega) only [↓reduceIte, q0, q1, q2, q3, q4, q5, q6, q7, q8, q14, q15, q16, q20, q31, q44, q50, q70, q1000, qn_le_t, qn_le_f, qn_lt_t, qn_lt_f, qn_eq_t, qn_eq_f, qn_add, qn_inb, qn_ix, qn_dec, qn_m1, ck_tt, bd_ss, ix, isB0, isB1, Nat.reduceAdd, Nat.reduceSub, Nat.reduceMul, Nat.zero_add, f_R_event, t_R_many h2, t2', t4', f_R_fail]
      · subst hc
        have : k = 0 ∨ k = 1 ∨ k = 2 ∨ k = 3 := by omega
        rcases this with rfl | rfl | rfl | rfl
        · refine ⟨.inl (an i), an i, _, ?_, ?_, hth (qn 0), Or.inl ⟨rfl, rfl⟩⟩
          · simp (disch := omega) only [↓reduceIte, q0, q1, q2, q3, q4, q5, q6, q7, q8, q14, q15, q16, q20, q31, q44, q50, q70, q1000, qn_le_t, qn_le_f, qn_lt_t, qn_lt_f, qn_eq_t, qn_eq_f, qn_add, qn_inb, qn_ix, qn_dec, qn_m1, ck_tt, bd_ss, ix, isB0, isB1, Nat.reduceAdd, Nat.reduceSub, Nat.reduceMul, Nat.zero_add, f_H_event, t_P_size h1, t1', t3']
          · simp (disch := omega) only [↓reduceIte, q0, q1, q2, q3, q4, q5, q6, q7, q8, q14, q15, q16, q20, q31, q44, q50, q70, q1000, qn_le_t, qn_le_f, qn_lt_t, qn_lt_f, qn_eq_t, qn_eq_f, qn_add, qn_inb, qn_ix, qn_dec, qn_m1, ck_tt, bd_ss, ix, isB0, isB1, Nat.reduceAdd, Nat.reduceSub, Nat.reduceMul, Nat.zero_add, f_R_event, t_R_many h2, t2', t4']
        · refine ⟨.inl (nu i), nu i, _, ?_, ?_, hth (qn 0), Or.inl ⟨rfl, rfl⟩⟩
          · simp (disch := omega) only [↓reduceIte, q0, q1, q2, q3, q4, q5, q6, q7, q8, q14, q15, q16, q20, q31, q44, q50, q70, q1000, qn_le_t, qn_le_f, qn_lt_t, qn_lt_f, qn_eq_t, qn_eq_f, qn_add, qn_inb, qn_ix, qn_dec, qn_m1, ck_tt, bd_ss, ix, isB0, isB1, Nat.reduceAdd, Nat.reduceSub, Nat.reduceMul, Nat.zero_add, f_H_event, t_P_size h1, t1', t3']
          · simp (disch := omega) only [↓reduceIte, q0, q1, q2, q3, q4, q5, q6, q7, q8, q14, q15, q16, q20, q31, q44, q50, q70, q1000, qn_le_t, qn_le_f, qn_lt_t, qn_lt_f, qn_eq_t, qn_eq_f, qn_add, qn_inb, qn_ix, qn_dec, qn_m1, ck_tt, bd_ss, ix, isB0, isB1, Nat.reduceAdd, Nat.reduceSub, Nat.reduceMul, Nat.zero_add, f_R_event, t_R_many h2, t2', t4']
        · refine ⟨.inl (ca i), ca i, _, ?_, ?_, hth (qn 0), Or.inl ⟨rfl, rfl⟩⟩
          · simp (disch := omega) only [↓reduceIte, q0, q1, q2, q3, q4, q5, q6, q7, q8, q14, q15, q16, q20, q31, q44, q50, q70, q1000, qn_le_t, qn_le_f, qn_lt_t, qn_lt_f, qn_eq_t, qn_eq_f, qn_add, qn_inb, qn_ix, qn_dec, qn_m1, ck_tt, bd_ss, ix, isB0, isB1, Nat.reduceAdd, Nat.reduceSub, Nat.reduceMul, Nat.zero_add, f_H_event, t_P_size h1, t1', t3']
          · simp (disch := omega) only [↓reduceIte, q0, q1, q2, q3, q4, q5, q6, q7, q8, q14, q15, q16, q20, q31, q44, q50, q70, q1000, qn_le_t, qn_le_f, qn_lt_t, qn_lt_f, qn_eq_t, qn_eq_f, qn_add, qn_inb, qn_ix, qn_dec, qn_m1, ck_tt, bd_ss, ix, isB0, isB1, Nat.reduceAdd, Nat.reduceSub, Nat.reduceMul, Nat.zero_add, f_R_event, t_R_many h2, t2', t4']
        · refine ⟨.inl (ba i), ba i, _, ?_, ?_, hth (qn 0), Or.inl ⟨rfl, rfl⟩⟩
          · simp (disch := omega) only [↓reduceIte, q0, q1, q2, q3, q4, q5, q6, q7, q8, q14, q15, q16, q20, q31, q44, q50, q70, q1000, qn_le_t, qn_le_f, qn_lt_t, qn_lt_f, qn_eq_t, qn_eq_f, qn_add, qn_inb, qn_ix, qn_dec, qn_m1, ck_tt, bd_ss, ix, isB0, isB1, Nat.reduceAdd, Nat.reduceSub, Nat.reduceMul, Nat.zero_add, f_H_event, t_P_size h1, t1', t3']
          · simp (disch := omega) only [↓reduceIte, q0, q1, q2, q3, q4, q5, q6, q7, q8, q14, q15, q16, q20, q31, q44, q50, q70, q1000, qn_le_t, qn_le_f, qn_lt_t, qn_lt_f, qn_eq_t, qn_eq_f, qn_add, qn_inb, qn_ix, qn_dec, qn_m1, ck_tt, bd_ss, ix, isB0, isB1, Nat.reduceAdd, Nat.reduceSub, Nat.reduceMul, Nat.zero_add, f_R_event, t_R_many h2, t2', t4']
    · refine ⟨.inr 4, qn 0, _, ?_, ?_, hth (qn 1), Or.inr ⟨4, rfl, rfl, qne 1 0 (by omega) (by omega) (by omega)⟩⟩
      · simp (disch := omega) only [↓reduceIte, q0, q1, q2, q3, q4, q5, q6, q7, q8, q14, q15, q16, q20, q31, q44, q50, q70, q1000, qn_le_t, qn_le_f, qn_lt_t, qn_lt_f, qn_eq_t, qn_eq_f, qn_add, qn_inb, qn_ix, qn_dec, qn_m1, ck_tt, bd_ss, ix, isB0, isB1, Nat.reduceAdd, Nat.reduceSub, Nat.reduceMul, Nat.zero_add, f_H_event, t_P_size h1, t1', t3.2 hy]
      · simp (disch := omega) only [↓reduceIte, q0, q1, q2, q3, q4, q5, q6, q7, q8, q14, q15, q16, q20, q31, q44, q50, q70, q1000, qn_le_t, qn_le_f, qn_lt_t, qn_lt_f, qn_eq_t, qn_eq_f, qn_add, qn_inb, qn_ix, qn_dec, qn_m1, ck_tt, bd_ss, ix, isB0, isB1, Nat.reduceAdd, Nat.reduceSub, Nat.reduceMul, Nat.zero_add, f_R_event, t_R_many h2, t2', t4.2 hy, f_R_fail]
  · refine ⟨.inr 4, qn 0, _, ?_, ?_, hth (qn 1), Or.inr ⟨4, rfl, rfl, qne 1 0 (by omega) (by omega) (by omega)⟩⟩
    · simp (disch := omega) only [↓reduceIte, q0, q1, q2, q3, q4, q5, q6, q7, q8, q14, q15, q16, q20, q31, q44, q50, q70, q1000, qn_le_t, qn_le_f, qn_lt_t, qn_lt_f, qn_eq_t, qn_eq_f, qn_add, qn_inb, qn_ix, qn_dec, qn_m1, ck_tt, bd_ss, ix, isB0, isB1, Nat.reduceAdd, Nat.reduceSub, Nat.reduceMul, Nat.zero_add, f_H_event, t_P_size h1, t1.2 hx]
    · simp (disch := omega) only [↓reduceIte, q0, q1, q2, q3, q4, q5, q6, q7, q8, q14, q15, q16, q20, q31, q44, q50, q70, q1000, qn_le_t, qn_le_f, qn_lt_t, qn_lt_f, qn_eq_t, qn_eq_f, qn_add, qn_inb, qn_ix, qn_dec, qn_m1, ck_tt, bd_ss, ix, isB0, isB1, Nat.reduceAdd, Nat.reduceSub, Nat.reduceMul, Nat.zero_add, f_R_event, t_R_many h2, t2.2 hx, f_R_fail]
