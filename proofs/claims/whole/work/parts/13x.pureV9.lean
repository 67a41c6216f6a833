def cds : UInt32 → Int32 := fun e => if e = 1 then qn 1 else if e = 2 then qn 2 else qn 0
theorem shr_loop {fu f : Nat} (hf : 20000 ≤ fu) (hfl : f < 16) {ta : Int32} {seed : Int64} {most : Nat} (hm : most ≤ 50) (h0 : 0 < most) {dw : Int64} : ∀ (u n nR s : Nat) (g gk0 : pg) (P Q : S_P) (T : S_T) (R : S_R) (fa : Int32), mes g ≤ u → s + u ≤ 200 → 45 * (u + 1) ≤ n → u < nR → pgr P g → gok g → lnk f (qn 0) ta fa g gk0 T R → ∃ (b : Int32) (H' : S_H) (R' : S_R), f_H_shrink_L68 fu n (P, Q, T, dw, ta, qn 1) seed (qn most) fa (qn s) (qn 0) = some (.inl b, H') ∧ f_R_shrink_L39 fu nR R seed (qn most) (qn s) = some (b, R') ∧ HR H' R' ∧ R'.1 = qn 0 := by
  intro u
  induction u with
  | zero =>
    intro n nR s g gk0 P Q T R fa hu hs hn hnR hP hg hl
    obtain ⟨nR, rfl⟩ : ∃ m, nR = m + 1 := ⟨nR - 1, by omega⟩
    rcases t_smaller (seed := seed) (dw := dw) (tac := ta) (cur := qn 1) (failing := fa) (Q := Q) (s := s) hf hfl hm h0 hP hg (by omega) (show 45 ≤ n by omega) hl with ⟨n', g', P', Q', T', R', c1, c2, c3, c4⟩ | ⟨n', Q', T', R', c1, c2, c3, c4⟩
    · omega
    · obtain ⟨n', rfl⟩ : ∃ m, n' = m + 1 := ⟨n' - 1, by omega⟩
      obtain ⟨an, nu, ca, ba, nc, ne, no, J, tl, sz, kd, ce, ar, ks, kp, ho, op, ha, io, no', at_, ev, z, f0, ru, wr, sc, exC, ra, ex, wi, dr, gg, rfl, rfl, y1, y2, y3, y4⟩ := c4
      obtain ⟨an1, nu1, ca1, ba1, nc1, ne1, no1, J1, tl1, ho1, ha1, io1, no1', at1, ev1, w1, y, wr1, wi1, eT, eR, ha81, hn81, hd1⟩ := t_test hf hP hg hfl (ca := ca) (ba := ba) (nc := nc) (ne := ne) (no := no) (J := J) (tl := tl) (z := z) (f0 := f0) (ru := ru) (wr := wr) (sc := sc) (exC := exC) (sch := fa) (dr := dr) (th := qn 0) (ra := ra) (ex := ex) (wi := wi) (ta := ta + qn s) (fa := fa) (ks := ks) (kp := kp) (ho := ho) (op := op) (ha := ha) (io := io) (no' := no') (at_ := at_) (ev := ev) (gg := gg) y3 y1 y2
      refine ⟨qn s, (P, Q', ((an1, nu1, ca1, ba1, pz w1, nc1, ne1, no1, qn f), J1, tl1, qn f, ru + qn 1, wr1, fa, y, dr), dw, ta + qn s, qn 1), (qn 0, sz, kd, ce, ar, ks, kp, qn f, gg, ho1, op, ha1, io1, qn 1, y, an1, nu1, ca1, ba1, no1', at1, ev1, wi1, ru + qn 1, wr1, ta + qn s, fa, tl1), ?_, ?_, ?_, rfl⟩
      · rw [c2]
        simp (disch := omega) only [↓reduceIte, q0, q1, q2, q3, q4, q5, q6, q7, q8, q14, q15, q16, q20, q31, q44, q50, q70, q1000, qn_le_t, qn_le_f, qn_lt_t, qn_lt_f, qn_eq_t, qn_eq_f, qn_add, qn_inb, qn_ix, qn_dec, qn_m1, ck_tt, bd_ss, ix, isB0, isB1, Nat.reduceAdd, Nat.reduceSub, Nat.reduceMul, Nat.zero_add, f_H_shrink_L68, f_H_shrink_L154, eT]
      · simp (disch := omega) only [↓reduceIte, q0, q1, q2, q3, q4, q5, q6, q7, q8, q14, q15, q16, q20, q31, q44, q50, q70, q1000, qn_le_t, qn_le_f, qn_lt_t, qn_lt_f, qn_eq_t, qn_eq_f, qn_add, qn_inb, qn_ix, qn_dec, qn_m1, ck_tt, bd_ss, ix, isB0, isB1, Nat.reduceAdd, Nat.reduceSub, Nat.reduceMul, Nat.zero_add, f_R_shrink_L39, c3, f_R_shrink_L54, eR]
      · exact ⟨g, f, P, Q', an1, nu1, ca1, ba1, nc1, ne1, no1, J1, tl1, sz, kd, ce, ar, ks, kp, ho1, op, ha1, io1, no1', at1, ev1, pz w1, qn f, ru + qn 1, wr1, fa, y, ta + qn s, qn 1, qn 0, y, wi1, fa, dr, dw, gg, rfl, rfl, hP, y3, hg, hfl, ha81, hn81, Or.inr ⟨rfl, w1, rfl, rfl, hd1⟩⟩
  | succ u ih =>
    intro n nR s g gk0 P Q T R fa hu hs hn hnR hP hg hl
    obtain ⟨nR, rfl⟩ : ∃ m, nR = m + 1 := ⟨nR - 1, by omega⟩
    rcases t_smaller (seed := seed) (dw := dw) (tac := ta) (cur := qn 1) (failing := fa) (Q := Q) (s := s) hf hfl hm h0 hP hg (by omega) (show 45 ≤ n by omega) hl with ⟨n', g', P', Q', T', R', c1, c2, c3, c4, c5, c6, c7⟩ | ⟨n', Q', T', R', c1, c2, c3, c4⟩
    · obtain ⟨b, H', R'', i1, i2, i3, i4⟩ := ih n' nR (s + 1) g' g P' Q' T' R' _ (by omega) (by omega) (by omega) (by omega) c4 c2 c7
      refine ⟨b, H', R'', c5.trans i1, ?_, i3, i4⟩
      have st : f_R_shrink_L39 fu (nR + 1) R seed (qn most) (qn s) = f_R_shrink_L39 fu nR R' seed (qn most) (qn (s + 1)) := by
        simp (disch := omega) only [↓reduceIte, q0, q1, q2, q3, q4, q5, q6, q7, q8, q14, q15, q16, q20, q31, q44, q50, q70, q1000, qn_le_t, qn_le_f, qn_lt_t, qn_lt_f, qn_eq_t, qn_eq_f, qn_add, qn_inb, qn_ix, qn_dec, qn_m1, ck_tt, bd_ss, ix, isB0, isB1, Nat.reduceAdd, Nat.reduceSub, Nat.reduceMul, Nat.zero_add, f_R_shrink_L39, c6]
      rw [st]; exact i2
    · obtain ⟨n', rfl⟩ : ∃ m, n' = m + 1 := ⟨n' - 1, by omega⟩
      obtain ⟨an, nu, ca, ba, nc, ne, no, J, tl, sz, kd, ce, ar, ks, kp, ho, op, ha, io, no', at_, ev, z, f0, ru, wr, sc, exC, ra, ex, wi, dr, gg, rfl, rfl, y1, y2, y3, y4⟩ := c4
      obtain ⟨an1, nu1, ca1, ba1, nc1, ne1, no1, J1, tl1, ho1, ha1, io1, no1', at1, ev1, w1, y, wr1, wi1, eT, eR, ha81, hn81, hd1⟩ := t_test hf hP hg hfl (ca := ca) (ba := ba) (nc := nc) (ne := ne) (no := no) (J := J) (tl := tl) (z := z) (f0 := f0) (ru := ru) (wr := wr) (sc := sc) (exC := exC) (sch := fa) (dr := dr) (th := qn 0) (ra := ra) (ex := ex) (wi := wi) (ta := ta + qn s) (fa := fa) (ks := ks) (kp := kp) (ho := ho) (op := op) (ha := ha) (io := io) (no' := no') (at_ := at_) (ev := ev) (gg := gg) y3 y1 y2
      refine ⟨qn s, (P, Q', ((an1, nu1, ca1, ba1, pz w1, nc1, ne1, no1, qn f), J1, tl1, qn f, ru + qn 1, wr1, fa, y, dr), dw, ta + qn s, qn 1), (qn 0, sz, kd, ce, ar, ks, kp, qn f, gg, ho1, op, ha1, io1, qn 1, y, an1, nu1, ca1, ba1, no1', at1, ev1, wi1, ru + qn 1, wr1, ta + qn s, fa, tl1), ?_, ?_, ?_, rfl⟩
      · rw [c2]
        simp (disch := omega) only [↓reduceIte, q0, q1, q2, q3, q4, q5, q6, q7, q8, q14, q15, q16, q20, q31, q44, q50, q70, q1000, qn_le_t, qn_le_f, qn_lt_t, qn_lt_f, qn_eq_t, qn_eq_f, qn_add, qn_inb, qn_ix, qn_dec, qn_m1, ck_tt, bd_ss, ix, isB0, isB1, Nat.reduceAdd, Nat.reduceSub, Nat.reduceMul, Nat.zero_add, f_H_shrink_L68, f_H_shrink_L154, eT]
      · simp (disch := omega) only [↓reduceIte, q0, q1, q2, q3, q4, q5, q6, q7, q8, q14, q15, q16, q20, q31, q44, q50, q70, q1000, qn_le_t, qn_le_f, qn_lt_t, qn_lt_f, qn_eq_t, qn_eq_f, qn_add, qn_inb, qn_ix, qn_dec, qn_m1, ck_tt, bd_ss, ix, isB0, isB1, Nat.reduceAdd, Nat.reduceSub, Nat.reduceMul, Nat.zero_add, f_R_shrink_L39, c3, f_R_shrink_L54, eR]
      · exact ⟨g, f, P, Q', an1, nu1, ca1, ba1, nc1, ne1, no1, J1, tl1, sz, kd, ce, ar, ks, kp, ho1, op, ha1, io1, no1', at1, ev1, pz w1, qn f, ru + qn 1, wr1, fa, y, ta + qn s, qn 1, qn 0, y, wi1, fa, dr, dw, gg, rfl, rfl, hP, y3, hg, hfl, ha81, hn81, Or.inr ⟨rfl, w1, rfl, rfl, hd1⟩⟩
theorem qn_any (x : Int32) : qn x.toBitVec.toNat = x := by
  apply Int32.toBitVec_inj.mp
  rw [qn_bv]
  simp
theorem kpg_ex (ks kp : Nat → Int32) : ∃ g, kpg ks kp g :=
  ⟨(((ks 0).toBitVec.toNat, (ks 1).toBitVec.toNat, (ks 2).toBitVec.toNat), fun i => (kp (3 * i)).toBitVec.toNat, fun i => (kp (3 * i + 1)).toBitVec.toNat, fun i => (kp (3 * i + 2)).toBitVec.toNat), (qn_any _).symm, (qn_any _).symm, (qn_any _).symm, fun i _ => ⟨(qn_any _).symm, (qn_any _).symm, (qn_any _).symm⟩⟩
theorem m_shrink {fu : Nat} (hf : 20000 ≤ fu) {H : S_H} {R : S_R} (h : HR H R) (a1 : Int64) (a3 : Int32) : ∃ res H' b R', f_H_shrink fu H a1 a3 = some (res, H') ∧ f_R_shrink fu R a1 a3 = some (b, R') ∧ HR H' R' ∧ okr cds res b R'.1 := by
  have hth := HR_th h
  obtain ⟨g, f, P, Q, an, nu, ca, ba, nc, ne, no, J, tl, sz, kd, ce, ar, ks, kp, ho, op, ha, io, no', at_, ev, z, f0, ru, wr, sc, exC, ta, cur, th, ex, wi, fa, dr, dw, gg, rfl, rfl, h1, h2, h3, h4, h5, h6, h7⟩ := h
  rcases t_runs (fu := fu) a3 with ⟨k, hk, hk0, rfl, c1, c2, c3⟩ | ⟨hc, c3⟩
  · obtain ⟨an1, nu1, ca1, ba1, nc1, ne1, no1, J1, tl1, ho1, ha1, io1, no1', at1, ev1, w1, y, ru1, wr1, sc1, wi1, fa1, gg1, x, e1, e2, r1, r2, r3, r4⟩ := t_fails hf h1 h3 h4 (th := qn 0) (ta := ta) (ks := ks) (kp := kp) (op := op) h2 hk hk0 an nu ca ba nc ne no J tl ho ha io no' at_ ev z f0 ru wr sc exC cur ex wi fa gg dr a1 h5 h6
    rcases r4 with ⟨hx1, rfl⟩ | ⟨⟨x', hx', hx1⟩, rfl⟩
    · subst hx1
      have hneg : ¬ qn 0 ≤ -qn 1 := by rw [Int32.le_iff_toInt_le]; decide
      refine ⟨.inr 2, (P, Q, ((an1, nu1, ca1, ba1, pz w1, nc1, ne1, no1, qn f), J1, tl1, qn f, ru1, wr1, sc1, y, gg1), dw, ta, qn 1), qn 0, (qn 2, sz, kd, ce, ar, ks, kp, qn f, gg1, ho1, op, ha1, io1, qn 1, y, an1, nu1, ca1, ba1, no1', at1, ev1, wi1, ru1, wr1, ta, fa1, tl1), ?_, ?_, ?_, Or.inr ⟨2, rfl, rfl, qne 2 0 (by omega) (by omega) (by omega)⟩⟩
      · simp (disch := omega) only [↓reduceIte, q0, q1, q2, q3, q4, q5, q6, q7, q8, q14, q15, q16, q20, q31, q44, q50, q70, q1000, qn_le_t, qn_le_f, qn_lt_t, qn_lt_f, qn_eq_t, qn_eq_f, qn_add, qn_inb, qn_ix, qn_dec, qn_m1, ck_tt, bd_ss, ix, isB0, isB1, Nat.reduceAdd, Nat.reduceSub, Nat.reduceMul, Nat.zero_add, f_H_shrink, c1, c2, e1]
      · simp (disch := omega) only [↓reduceIte, q0, q1, q2, q3, q4, q5, q6, q7, q8, q14, q15, q16, q20, q31, q44, q50, q70, q1000, qn_le_t, qn_le_f, qn_lt_t, qn_lt_f, qn_eq_t, qn_eq_f, qn_add, qn_inb, qn_ix, qn_dec, qn_m1, ck_tt, bd_ss, ix, isB0, isB1, Nat.reduceAdd, Nat.reduceSub, Nat.reduceMul, Nat.zero_add, f_R_shrink, c3, e2, hneg, f_R_fail]
      · exact ⟨g, f, P, Q, an1, nu1, ca1, ba1, nc1, ne1, no1, J1, tl1, sz, kd, ce, ar, ks, kp, ho1, op, ha1, io1, no1', at1, ev1, pz w1, qn f, ru1, wr1, sc1, y, ta, qn 1, qn 2, y, wi1, fa1, gg1, dw, gg1, rfl, rfl, h1, h2, h3, h4, r1, r2, Or.inr ⟨rfl, w1, rfl, rfl, r3⟩⟩
    · subst hx1
      obtain ⟨gk0, hk3⟩ := kpg_ex ks kp
      have hl : lnk f (qn 0) ta fa1 g gk0 ((an1, nu1, ca1, ba1, pz w1, nc1, ne1, no1, qn f), J1, tl1, qn f, ru1, wr1, fa1, y, gg1) (qn 0, sz, kd, ce, ar, ks, kp, qn f, gg1, ho1, op, ha1, io1, qn 1, y, an1, nu1, ca1, ba1, no1', at1, ev1, wi1, ru1, wr1, ta, fa1, tl1) := ⟨an1, nu1, ca1, ba1, nc1, ne1, no1, J1, tl1, sz, kd, ce, ar, ks, kp, ho1, op, ha1, io1, no1', at1, ev1, pz w1, qn f, ru1, wr1, fa1, y, qn 1, y, wi1, gg1, gg1, rfl, rfl, r1, r2, h2, hk3⟩
      have hmes := mes_le h3
      obtain ⟨b, H', R', i1, i2, i3, i4⟩ := shr_loop hf h4 (seed := a1) (dw := dw) hk hk0 134 fu fu 0 g gk0 P Q _ _ fa1 hmes (by omega) (by omega) (by omega) h1 h3 hl
      refine ⟨.inl b, H', b, R', ?_, ?_, i3, Or.inl ⟨rfl, i4⟩⟩
      · simp (disch := omega) only [↓reduceIte, q0, q1, q2, q3, q4, q5, q6, q7, q8, q14, q15, q16, q20, q31, q44, q50, q70, q1000, qn_le_t, qn_le_f, qn_lt_t, qn_lt_f, qn_eq_t, qn_eq_f, qn_add, qn_inb, qn_ix, qn_dec, qn_m1, ck_tt, bd_ss, ix, isB0, isB1, Nat.reduceAdd, Nat.reduceSub, Nat.reduceMul, Nat.zero_add, f_H_shrink, c1, c2, e1]
        exact i1
      · simp (disch := omega) only [↓reduceIte, q0, q1, q2, q3, q4, q5, q6, q7, q8, q14, q15, q16, q20, q31, q44, q50, q70, q1000, qn_le_t, qn_le_f, qn_lt_t, qn_lt_f, qn_eq_t, qn_eq_f, qn_add, qn_inb, qn_ix, qn_dec, qn_m1, ck_tt, bd_ss, ix, isB0, isB1, Nat.reduceAdd, Nat.reduceSub, Nat.reduceMul, Nat.zero_add, f_R_shrink, c3, e2]
        exact i2
  · refine ⟨.inr 1, (P, Q, ((an, nu, ca, ba, z, nc, ne, no, f0), J, tl, qn f, ru, wr, sc, exC, dr), dw, ta, cur), qn 0, _, ?_, by simp (disch := omega) only [↓reduceIte, q0, q1, q2, q3, q4, q5, q6, q7, q8, q14, q15, q16, q20, q31, q44, q50, q70, q1000, qn_le_t, qn_le_f, qn_lt_t, qn_lt_f, qn_eq_t, qn_eq_f, qn_add, qn_inb, qn_ix, qn_dec, qn_m1, ck_tt, bd_ss, ix, isB0, isB1, Nat.reduceAdd, Nat.reduceSub, Nat.reduceMul, Nat.zero_add, f_R_shrink, c3, f_R_fail], hth (qn 1), Or.inr ⟨1, rfl, rfl, qne 1 0 (by omega) (by omega) (by omega)⟩⟩
    rcases hc with hc | ⟨hc, hd⟩
    · simp (disch := omega) only [↓reduceIte, q0, q1, q2, q3, q4, q5, q6, q7, q8, q14, q15, q16, q20, q31, q44, q50, q70, q1000, qn_le_t, qn_le_f, qn_lt_t, qn_lt_f, qn_eq_t, qn_eq_f, qn_add, qn_inb, qn_ix, qn_dec, qn_m1, ck_tt, bd_ss, ix, isB0, isB1, Nat.reduceAdd, Nat.reduceSub, Nat.reduceMul, Nat.zero_add, f_H_shrink, hc]
    · simp (disch := omega) only [↓reduceIte, q0, q1, q2, q3, q4, q5, q6, q7, q8, q14, q15, q16, q20, q31, q44, q50, q70, q1000, qn_le_t, qn_le_f, qn_lt_t, qn_lt_f, qn_eq_t, qn_eq_f, qn_add, qn_inb, qn_ix, qn_dec, qn_m1, ck_tt, bd_ss, ix, isB0, isB1, Nat.reduceAdd, Nat.reduceSub, Nat.reduceMul, Nat.zero_add, f_H_shrink, hc, hd]
