theorem m_make {fu : Nat} (hf : 20000 ≤ fu) {H : S_H} {R : S_R} (h : HR H R) (a1 : Int64) (a3 a4 a5 : Int32) : ∃ res H' b R', f_H_make fu H a1 a3 a4 a5 = some (res, H') ∧ f_R_make fu R a1 a3 a4 a5 = some (b, R') ∧ HR H' R' ∧ okr cd1 res b R'.1 := by
  have hth := HR_th h
  obtain ⟨g, f, P, Q, an, nu, ca, ba, nc, ne, no, J, tl, sz, kd, ce, ar, ks, kp, ho, op, ha, io, no', at_, ev, z, f0, ru, wr, sc, exC, ta, cur, th, ex, wi, fa, dr, dw, gg, rfl, rfl, h1, h2, h3, h4, h5, h6, h7⟩ := h
  have t1 := t_below (fu := fu) a3 (n := 7) (by omega)
  have s1 := t_within (fu := fu) a3 (qn 6) (n := 7) (by omega) (by decide)
  have t2 := t_below (fu := fu) a4 (n := 5) (by omega)
  have s2 := t_within (fu := fu) a4 (qn 4) (n := 5) (by omega) (by decide)
  have t3 := t_below (fu := fu) a5 (n := 5) (by omega)
  have s3 := t_within (fu := fu) a5 (qn 4) (n := 5) (by omega) (by decide)
  by_cases x1 : xin a3 7
  · have t1' := t1.1 x1
    have s1' := s1.1 x1
    by_cases x2 : xin a4 5
    · have t2' := t2.1 x2
      have s2' := s2.1 x2
      by_cases x3 : xin a5 5
      · have t3' := t3.1 x3
        have s3' := s3.1 x3
        obtain ⟨p, hp, rfl⟩ := x1
        obtain ⟨a, ha', rfl⟩ := x2
        obtain ⟨b, hb, rfl⟩ := x3
        obtain ⟨P0, e1, r1⟩ := t_P_empty hf P
        obtain ⟨sz0, e2, r2⟩ := t_R_clear hf (th := qn 0) (ks := ks) (kp := kp) (ho := ho) (op := op) (ha := ha) (io := io) (fl := qn f) (cur := cur) (gg := gg) (r := (ex, an, nu, ca, ba, no', at_, ev, wi, ru, wr, ta, fa, tl)) h2
        obtain ⟨P1, Q1, D1, sz1, kd1, ce1, ar1, ks1, kp1, op1, g1, o1, p1, q1_, k1, c1, d1⟩ := t_branch hf (T := ((an, nu, ca, ba, z, nc, ne, no, f0), J, tl, qn f, ru, wr, sc, exC, dr)) (x := (ta, cur)) (th := qn 0) (fl := qn f) (ho := ho) (r := (ha, io, qn 0, ex, an, nu, ca, ba, no', at_, ev, wi, ru, wr, ta, fa, tl)) (b := 0) (by omega) (N := p) (by simp; omega) (fun n R i => f_R_make_L54 fu n R (qn p) (qn a) (qn b) i) (fun R => f_R_make_L74 fu fu R (qn a) (qn b) (qn 0)) (by
            intro n R i hi
            simp (disch := omega) only [↓reduceIte, q0, q1, q2, q3, q4, q5, q6, q7, q8, q14, q15, q16, q20, q31, q44, q50, q70, q1000, qn_le_t, qn_le_f, qn_lt_t, qn_lt_f, qn_eq_t, qn_eq_f, qn_add, qn_inb, qn_ix, qn_dec, qn_m1, ck_tt, bd_ss, ix, isB0, isB1, Nat.reduceAdd, Nat.reduceSub, Nat.reduceMul, Nat.zero_add, f_R_make_L54]) (by
            intro n R
            simp (disch := omega) only [↓reduceIte, q0, q1, q2, q3, q4, q5, q6, q7, q8, q14, q15, q16, q20, q31, q44, q50, q70, q1000, qn_le_t, qn_le_f, qn_lt_t, qn_lt_f, qn_eq_t, qn_eq_f, qn_add, qn_inb, qn_ix, qn_dec, qn_m1, ck_tt, bd_ss, ix, isB0, isB1, Nat.reduceAdd, Nat.reduceSub, Nat.reduceMul, Nat.zero_add, f_R_make_L54]) p fu fu 0 P0 Q a1 sz0 kd ce ar ks kp op g0 (by omega) (by omega) (by omega) r1 r2 g0_ok (Nat.le_refl _)
        obtain ⟨P2, Q2, D2, sz2, kd2, ce2, ar2, ks2, kp2, op2, g2, o2, p2, q2_, k2, c2, d2⟩ := t_branch hf (T := ((an, nu, ca, ba, z, nc, ne, no, f0), J, tl, qn f, ru, wr, sc, exC, dr)) (x := (ta, cur)) (th := qn 0) (fl := qn f) (ho := ho) (r := (ha, io, qn 0, ex, an, nu, ca, ba, no', at_, ev, wi, ru, wr, ta, fa, tl)) (b := 1) (by omega) (N := a) (by simp; omega) (fun n R i => f_R_make_L74 fu n R (qn a) (qn b) i) (fun R => f_R_make_L95 fu fu R (qn b) (qn 0)) (by
            intro n R i hi
            simp (disch := omega) only [↓reduceIte, q0, q1, q2, q3, q4, q5, q6, q7, q8, q14, q15, q16, q20, q31, q44, q50, q70, q1000, qn_le_t, qn_le_f, qn_lt_t, qn_lt_f, qn_eq_t, qn_eq_f, qn_add, qn_inb, qn_ix, qn_dec, qn_m1, ck_tt, bd_ss, ix, isB0, isB1, Nat.reduceAdd, Nat.reduceSub, Nat.reduceMul, Nat.zero_add, f_R_make_L74]) (by
            intro n R
            simp (disch := omega) only [↓reduceIte, q0, q1, q2, q3, q4, q5, q6, q7, q8, q14, q15, q16, q20, q31, q44, q50, q70, q1000, qn_le_t, qn_le_f, qn_lt_t, qn_lt_f, qn_eq_t, qn_eq_f, qn_add, qn_inb, qn_ix, qn_dec, qn_m1, ck_tt, bd_ss, ix, isB0, isB1, Nat.reduceAdd, Nat.reduceSub, Nat.reduceMul, Nat.zero_add, f_R_make_L74]) a fu fu 0 P1 Q1 D1 sz1 kd1 ce1 ar1 ks1 kp1 op1 g1 (by omega) (by omega) (by omega) p1 q1_ k1 (by rw [o1 1 (by omega) (by omega)]; exact Nat.le_refl _)
        obtain ⟨P3, Q3, D3, sz3, kd3, ce3, ar3, ks3, kp3, op3, g3, o3, p3, q3_, k3, c3, d3⟩ := t_branch hf (T := ((an, nu, ca, ba, z, nc, ne, no, f0), J, tl, qn f, ru, wr, sc, exC, dr)) (x := (ta, cur)) (th := qn 0) (fl := qn f) (ho := ho) (r := (ha, io, qn 0, ex, an, nu, ca, ba, no', at_, ev, wi, ru, wr, ta, fa, tl)) (b := 2) (by omega) (N := b) (by simp; omega) (fun n R i => f_R_make_L95 fu n R (qn b) i) (fun R => bd (f_R_many fu R) fun r => some (r, R)) (by
            intro n R i hi
            simp (disch := omega) only [↓reduceIte, q0, q1, q2, q3, q4, q5, q6, q7, q8, q14, q15, q16, q20, q31, q44, q50, q70, q1000, qn_le_t, qn_le_f, qn_lt_t, qn_lt_f, qn_eq_t, qn_eq_f, qn_add, qn_inb, qn_ix, qn_dec, qn_m1, ck_tt, bd_ss, ix, isB0, isB1, Nat.reduceAdd, Nat.reduceSub, Nat.reduceMul, Nat.zero_add, f_R_make_L95]) (by
            intro n R
            simp (disch := omega) only [↓reduceIte, q0, q1, q2, q3, q4, q5, q6, q7, q8, q14, q15, q16, q20, q31, q44, q50, q70, q1000, qn_le_t, qn_le_f, qn_lt_t, qn_lt_f, qn_eq_t, qn_eq_f, qn_add, qn_inb, qn_ix, qn_dec, qn_m1, ck_tt, bd_ss, ix, isB0, isB1, Nat.reduceAdd, Nat.reduceSub, Nat.reduceMul, Nat.zero_add, f_R_make_L95]) b fu fu 0 P2 Q2 D2 sz2 kd2 ce2 ar2 ks2 kp2 op2 g2 (by omega) (by omega) (by omega) p2 q2_ k2 (by rw [o2 2 (by omega) (by omega), o1 2 (by omega) (by omega)]; exact Nat.le_refl _)
        refine ⟨.inl (qn (gn g3)), (P3, Q3, ((an, nu, ca, ba, z, nc, ne, no, f0), J, tl, qn f, ru, wr, sc, exC, dr), D3, ta, qn 0), qn (gn g3), (qn 0, sz3, kd3, ce3, ar3, ks3, kp3, qn f, D3, ho, op3, ha, io, qn 0, ex, an, nu, ca, ba, no', at_, ev, wi, ru, wr, ta, fa, tl), ?_, ?_, ?_, Or.inl ⟨rfl, rfl⟩⟩
        · simp (disch := omega) only [↓reduceIte, q0, q1, q2, q3, q4, q5, q6, q7, q8, q14, q15, q16, q20, q31, q44, q50, q70, q1000, qn_le_t, qn_le_f, qn_lt_t, qn_lt_f, qn_eq_t, qn_eq_f, qn_add, qn_inb, qn_ix, qn_dec, qn_m1, ck_tt, bd_ss, ix, isB0, isB1, Nat.reduceAdd, Nat.reduceSub, Nat.reduceMul, Nat.zero_add, f_H_make, t1', t2', t3', f_D_restart, e1, f_H_drawBranch, c1, c2, c3, t_P_size p3]
        · rw [t_R_many q3_, bd_ss] at d3
          simp (disch := omega) only [↓reduceIte, q0, q1, q2, q3, q4, q5, q6, q7, q8, q14, q15, q16, q20, q31, q44, q50, q70, q1000, qn_le_t, qn_le_f, qn_lt_t, qn_lt_f, qn_eq_t, qn_eq_f, qn_add, qn_inb, qn_ix, qn_dec, qn_m1, ck_tt, bd_ss, ix, isB0, isB1, Nat.reduceAdd, Nat.reduceSub, Nat.reduceMul, Nat.zero_add, f_R_make, s1', s2', s3', e2, d1, d2, d3]
        · exact ⟨g3, f, P3, Q3, an, nu, ca, ba, nc, ne, no, J, tl, sz3, kd3, ce3, ar3, ks3, kp3, ho, op3, ha, io, no', at_, ev, z, f0, ru, wr, sc, exC, ta, qn 0, qn 0, ex, wi, fa, dr, D3, D3, rfl, rfl, p3, q3_, k3, h4, h5, h6, Or.inl rfl⟩
      · refine ⟨.inr 1, (P, Q, ((an, nu, ca, ba, z, nc, ne, no, f0), J, tl, qn f, ru, wr, sc, exC, dr), dw, ta, cur), qn 0, _, ?_, ?_, hth (qn 1), Or.inr ⟨1, rfl, rfl, qne 1 0 (by omega) (by omega) (by omega)⟩⟩
        · simp (disch := omega) only [↓reduceIte, q0, q1, q2, q3, q4, q5, q6, q7, q8, q14, q15, q16, q20, q31, q44, q50, q70, q1000, qn_le_t, qn_le_f, qn_lt_t, qn_lt_f, qn_eq_t, qn_eq_f, qn_add, qn_inb, qn_ix, qn_dec, qn_m1, ck_tt, bd_ss, ix, isB0, isB1, Nat.reduceAdd, Nat.reduceSub, Nat.reduceMul, Nat.zero_add, f_H_make, t1', t2', t3.2 x3]
        · simp (disch := omega) only [↓reduceIte, q0, q1, q2, q3, q4, q5, q6, q7, q8, q14, q15, q16, q20, q31, q44, q50, q70, q1000, qn_le_t, qn_le_f, qn_lt_t, qn_lt_f, qn_eq_t, qn_eq_f, qn_add, qn_inb, qn_ix, qn_dec, qn_m1, ck_tt, bd_ss, ix, isB0, isB1, Nat.reduceAdd, Nat.reduceSub, Nat.reduceMul, Nat.zero_add, f_R_make, s1', s2', s3.2 x3, f_R_fail]
    · refine ⟨.inr 1, (P, Q, ((an, nu, ca, ba, z, nc, ne, no, f0), J, tl, qn f, ru, wr, sc, exC, dr), dw, ta, cur), qn 0, _, ?_, ?_, hth (qn 1), Or.inr ⟨1, rfl, rfl, qne 1 0 (by omega) (by omega) (by omega)⟩⟩
      · simp (disch := omega) only [↓reduceIte, q0, q1, q2, q3, q4, q5, q6, q7, q8, q14, q15, q16, q20, q31, q44, q50, q70, q1000, qn_le_t, qn_le_f, qn_lt_t, qn_lt_f, qn_eq_t, qn_eq_f, qn_add, qn_inb, qn_ix, qn_dec, qn_m1, ck_tt, bd_ss, ix, isB0, isB1, Nat.reduceAdd, Nat.reduceSub, Nat.reduceMul, Nat.zero_add, f_H_make, t1', t2.2 x2]
      · simp (disch := omega) only [↓reduceIte, q0, q1, q2, q3, q4, q5, q6, q7, q8, q14, q15, q16, q20, q31, q44, q50, q70, q1000, qn_le_t, qn_le_f, qn_lt_t, qn_lt_f, qn_eq_t, qn_eq_f, qn_add, qn_inb, qn_ix, qn_dec, qn_m1, ck_tt, bd_ss, ix, isB0, isB1, Nat.reduceAdd, Nat.reduceSub, Nat.reduceMul, Nat.zero_add, f_R_make, s1', s2.2 x2, f_R_fail]
  · refine ⟨.inr 1, (P, Q, ((an, nu, ca, ba, z, nc, ne, no, f0), J, tl, qn f, ru, wr, sc, exC, dr), dw, ta, cur), qn 0, _, ?_, ?_, hth (qn 1), Or.inr ⟨1, rfl, rfl, qne 1 0 (by omega) (by omega) (by omega)⟩⟩
    · simp (disch := omega) only [↓reduceIte, q0, q1, q2, q3, q4, q5, q6, q7, q8, q14, q15, q16, q20, q31, q44, q50, q70, q1000, qn_le_t, qn_le_f, qn_lt_t, qn_lt_f, qn_eq_t, qn_eq_f, qn_add, qn_inb, qn_ix, qn_dec, qn_m1, ck_tt, bd_ss, ix, isB0, isB1, Nat.reduceAdd, Nat.reduceSub, Nat.reduceMul, Nat.zero_add, f_H_make, t1.2 x1]
    · simp (disch := omega) only [↓reduceIte, q0, q1, q2, q3, q4, q5, q6, q7, q8, q14, q15, q16, q20, q31, q44, q50, q70, q1000, qn_le_t, qn_le_f, qn_lt_t, qn_lt_f, qn_eq_t, qn_eq_f, qn_add, qn_inb, qn_ix, qn_dec, qn_m1, ck_tt, bd_ss, ix, isB0, isB1, Nat.reduceAdd, Nat.reduceSub, Nat.reduceMul, Nat.zero_add, f_R_make, s1.2 x1, f_R_fail]
