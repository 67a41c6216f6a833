theorem m_order {fu : Nat} (hf : 20000 ≤ fu) {H : S_H} {R : S_R} (h : HR H R) (a1 : Int32) : ∃ res b R', f_H_order fu H a1 = some res ∧ f_R_order fu R a1 = some (b, R') ∧ HR H R' ∧ okr cdo res b R'.1 := by
  have hth := HR_th h
  obtain ⟨g, f, P, Q, an, nu, ca, ba, nc, ne, no, J, tl, sz, kd, ce, ar, ks, kp, ho, op, ha, io, no', at_, ev, z, f0, ru, wr, sc, exC, ta, cur, th, ex, wi, fa, dr, dw, gg, rfl, rfl, h1, h2, h3, h4, h5, h6, h7⟩ := h
  have h14 := h3.n14
  have hgd := gn_def g
  have ha4 := h3.2.1
  have hb4 := h3.2.2.1
  have e0 : P.1 0 = qn (gp g) := h1.1
  have e1 : sz 1 = qn (ga g) := h2.2.1
  have e2 : sz 2 = qn (gb g) := h2.2.2.1
  have es : qn (gn g) - qn (gp g) = qn (ga g + gb g) := by
    rw [qn_sub (by omega)]
    congr 1
    omega
  have t1 := t_below (fu := fu) a1 (n := ga g + gb g) (by omega)
  have t2 := t_within (fu := fu) a1 (qn (ga g + gb g) - qn 1) (n := ga g + gb g) (by omega) (qn_m1_int (by omega))
  rcases h7 with hc | ⟨hc, w, rfl, rfl, h8⟩
  · subst hc
    refine ⟨.inr 2, qn 0, _, ?_, ?_, hth (qn 1), Or.inr ⟨2, rfl, rfl, qne 1 0 (by omega) (by omega) (by omega)⟩⟩
    · simp (disch := omega) only [↓reduceIte, q0, q1, q2, q3, q4, q5, q6, q7, q8, q14, q15, q16, q20, q31, q44, q50, q70, q1000, qn_le_t, qn_le_f, qn_lt_t, qn_lt_f, qn_eq_t, qn_eq_f, qn_add, qn_inb, qn_ix, qn_dec, qn_m1, ck_tt, bd_ss, ix, isB0, isB1, Nat.reduceAdd, Nat.reduceSub, Nat.reduceMul, Nat.zero_add, f_H_order]
    · simp (disch := omega) only [↓reduceIte, q0, q1, q2, q3, q4, q5, q6, q7, q8, q14, q15, q16, q20, q31, q44, q50, q70, q1000, qn_le_t, qn_le_f, qn_lt_t, qn_lt_f, qn_eq_t, qn_eq_f, qn_add, qn_inb, qn_ix, qn_dec, qn_m1, ck_tt, bd_ss, ix, isB0, isB1, Nat.reduceAdd, Nat.reduceSub, Nat.reduceMul, Nat.zero_add, f_R_order, f_R_fail]
  · subst hc
    rcases h8.2.2 with hy | ⟨hy, o, ho1, rfl, ho2, ho3⟩
    · subst hy
      refine ⟨.inr 5, qn 0, _, ?_, ?_, hth (qn 2), Or.inr ⟨5, rfl, rfl, qne 2 0 (by omega) (by omega) (by omega)⟩⟩
      · simp (disch := omega) only [↓reduceIte, q0, q1, q2, q3, q4, q5, q6, q7, q8, q14, q15, q16, q20, q31, q44, q50, q70, q1000, qn_le_t, qn_le_f, qn_lt_t, qn_lt_f, qn_eq_t, qn_eq_f, qn_add, qn_inb, qn_ix, qn_dec, qn_m1, ck_tt, bd_ss, ix, isB0, isB1, Nat.reduceAdd, Nat.reduceSub, Nat.reduceMul, Nat.zero_add, f_H_order]
      · simp (disch := omega) only [↓reduceIte, q0, q1, q2, q3, q4, q5, q6, q7, q8, q14, q15, q16, q20, q31, q44, q50, q70, q1000, qn_le_t, qn_le_f, qn_lt_t, qn_lt_f, qn_eq_t, qn_eq_f, qn_add, qn_inb, qn_ix, qn_dec, qn_m1, ck_tt, bd_ss, ix, isB0, isB1, Nat.reduceAdd, Nat.reduceSub, Nat.reduceMul, Nat.zero_add, f_R_order, f_R_fail]
    · subst hy
      by_cases hx : xin a1 (ga g + gb g)
      · have t1' := t1.1 hx
        have t2' := t2.1 hx
        obtain ⟨k, hk, rfl⟩ := hx
        have tp := t_R_placed hf (th := qn 0) (r := (ks, kp, qn f, gg, ho, op, ha, io, qn 1, qn 1, an, nu, ca, ba, no', at_, ev, qn o, ru, wr, ta, fa, tl)) h2 h3 ho1 hk
        refine ⟨.inl (J k), qn (opl g o k), _, ?_, ?_, hth (qn 0), Or.inl ⟨by rw [ho3 k hk], rfl⟩⟩
        · simp (disch := omega) only [↓reduceIte, q0, q1, q2, q3, q4, q5, q6, q7, q8, q14, q15, q16, q20, q31, q44, q50, q70, q1000, qn_le_t, qn_le_f, qn_lt_t, qn_lt_f, qn_eq_t, qn_eq_f, qn_add, qn_inb, qn_ix, qn_dec, qn_m1, ck_tt, bd_ss, ix, isB0, isB1, Nat.reduceAdd, Nat.reduceSub, Nat.reduceMul, Nat.zero_add, f_H_order, t_P_size h1, e0, es, t1', qn_inb (show k < 8 by omega)]
        · simp (disch := omega) only [↓reduceIte, q0, q1, q2, q3, q4, q5, q6, q7, q8, q14, q15, q16, q20, q31, q44, q50, q70, q1000, qn_le_t, qn_le_f, qn_lt_t, qn_lt_f, qn_eq_t, qn_eq_f, qn_add, qn_inb, qn_ix, qn_dec, qn_m1, ck_tt, bd_ss, ix, isB0, isB1, Nat.reduceAdd, Nat.reduceSub, Nat.reduceMul, Nat.zero_add, f_R_order, e1, e2, t2', tp]
      · have t1' := t1.2 hx
        have t2' := t2.2 hx
        refine ⟨.inr 5, qn 0, _, ?_, ?_, hth (qn 2), Or.inr ⟨5, rfl, rfl, qne 2 0 (by omega) (by omega) (by omega)⟩⟩
        · simp (disch := omega) only [↓reduceIte, q0, q1, q2, q3, q4, q5, q6, q7, q8, q14, q15, q16, q20, q31, q44, q50, q70, q1000, qn_le_t, qn_le_f, qn_lt_t, qn_lt_f, qn_eq_t, qn_eq_f, qn_add, qn_inb, qn_ix, qn_dec, qn_m1, ck_tt, bd_ss, ix, isB0, isB1, Nat.reduceAdd, Nat.reduceSub, Nat.reduceMul, Nat.zero_add, f_H_order, t_P_size h1, e0, es, t1']
        · simp (disch := omega) only [↓reduceIte, q0, q1, q2, q3, q4, q5, q6, q7, q8, q14, q15, q16, q20, q31, q44, q50, q70, q1000, qn_le_t, qn_le_f, qn_lt_t, qn_lt_f, qn_eq_t, qn_eq_f, qn_add, qn_inb, qn_ix, qn_dec, qn_m1, ck_tt, bd_ss, ix, isB0, isB1, Nat.reduceAdd, Nat.reduceSub, Nat.reduceMul, Nat.zero_add, f_R_order, e1, e2, t2', f_R_fail]
