theorem grm_eq {g : pg} (hg : gok g) {b : Nat} (hb : b < 3) : grm g b ↔ ¬ gsz g b = (if b = 0 then 6 else 4) := by
  have h1 := hg.1; have h2 := hg.2.1; have h3 := hg.2.2.1
  unfold grm
  have : b = 0 ∨ b = 1 ∨ b = 2 := by omega
  rcases this with rfl | rfl | rfl
  · have : gsz g 0 = gp g := rfl
    simp only [if_true]; omega
  · have : gsz g 1 = ga g := rfl
    simp only [Nat.one_ne_zero, if_false]; omega
  · have : gsz g 2 = gb g := rfl
    simp only [show ¬ (2 = 0) by omega, if_false]; omega
theorem m_add {fu : Nat} (hf : 20000 ≤ fu) {H : S_H} {R : S_R} (h : HR H R) (a1 a2 a3 a4 : Int32) : ∃ res H' b R', f_H_add fu H a1 a2 a3 a4 = some (res, H') ∧ f_R_add fu R a1 a2 a3 a4 = some (b, R') ∧ HR H' R' ∧ okr cda res b R'.1 := by
  have hth := HR_th h
  obtain ⟨g, f, P, Q, an, nu, ca, ba, nc, ne, no, J, tl, sz, kd, ce, ar, ks, kp, ho, op, ha, io, no', at_, ev, z, f0, ru, wr, sc, exC, ta, cur, th, ex, wi, fa, dr, dw, gg, rfl, rfl, h1, h2, h3, h4, h5, h6, h7⟩ := h
  have t1 := t_below (fu := fu) a1 (n := 3) (by omega)
  have s1 := t_within (fu := fu) a1 (qn 2) (n := 3) (by omega) (by decide)
  have t2 := t_below (fu := fu) a2 (n := 7) (by omega)
  have s2 := t_within (fu := fu) a2 (qn 6) (n := 7) (by omega) (by decide)
  have t3 := t_below (fu := fu) a3 (n := 3) (by omega)
  have s3 := t_within (fu := fu) a3 (qn 2) (n := 3) (by omega) (by decide)
  have bad : ∀ (e1 : f_H_add fu (P, Q, ((an, nu, ca, ba, z, nc, ne, no, f0), J, tl, qn f, ru, wr, sc, exC, dr), dw, ta, cur) a1 a2 a3 a4 = some (.inr 1, (P, Q, ((an, nu, ca, ba, z, nc, ne, no, f0), J, tl, qn f, ru, wr, sc, exC, dr), dw, ta, cur))) (e2 : f_R_add fu (th, sz, kd, ce, ar, ks, kp, qn f, gg, ho, op, ha, io, cur, ex, an, nu, ca, ba, no', at_, ev, wi, ru, wr, ta, fa, tl) a1 a2 a3 a4 = some (qn 0, (qn 1, sz, kd, ce, ar, ks, kp, qn f, gg, ho, op, ha, io, cur, ex, an, nu, ca, ba, no', at_, ev, wi, ru, wr, ta, fa, tl))), ∃ res H' b R', f_H_add fu (P, Q, ((an, nu, ca, ba, z, nc, ne, no, f0), J, tl, qn f, ru, wr, sc, exC, dr), dw, ta, cur) a1 a2 a3 a4 = some (res, H') ∧ f_R_add fu (th, sz, kd, ce, ar, ks, kp, qn f, gg, ho, op, ha, io, cur, ex, an, nu, ca, ba, no', at_, ev, wi, ru, wr, ta, fa, tl) a1 a2 a3 a4 = some (b, R') ∧ HR H' R' ∧ okr cda res b R'.1 := by
    intro e1 e2
    exact ⟨_, _, _, _, e1, e2, hth (qn 1), Or.inr ⟨1, rfl, rfl, qne 1 0 (by omega) (by omega) (by omega)⟩⟩
  by_cases x1 : xin a1 3
  · have t1' := t1.1 x1
    have s1' := s1.1 x1
    by_cases x2 : xin a2 7
    · have t2' := t2.1 x2
      have s2' := s2.1 x2
      by_cases x3 : xin a3 3
      · have t3' := t3.1 x3
        have s3' := s3.1 x3
        by_cases x4 : 0 ≤ a4.toInt
        · obtain ⟨v, hv, rfl⟩ : ∃ v, v < 2147483648 ∧ a4 = qn v := ⟨a4.toInt.toNat, by have := Int32.toInt_lt a4; omega, i32_ofnat a4 x4⟩
          obtain ⟨b, hb, rfl⟩ := x1
          obtain ⟨k, hk, rfl⟩ := x2
          obtain ⟨c, hc, rfl⟩ := x3
          have mt := t_P_mayTake (fu := fu) h1 h3 hb hv
          have hsz : sz b = qn (gsz g b) := h2.sz hb
          have hgl := gsz_lt h3 b
          have h14 := h3.n14
          have hle := gend_le g hb
          by_cases x5 : v < 8 ∨ gmay g (v - 8) b (gst g b + gsz g b)
          · -- the reference comes to its look for room
            have toRoom : f_R_add fu (th, sz, kd, ce, ar, ks, kp, qn f, gg, ho, op, ha, io, cur, ex, an, nu, ca, ba, no', at_, ev, wi, ru, wr, ta, fa, tl) (qn b) (qn k) (qn c) (qn v) = f_R_add_L98 fu (qn 0, sz, kd, ce, ar, ks, kp, qn f, gg, ho, op, ha, io, cur, ex, an, nu, ca, ba, no', at_, ev, wi, ru, wr, ta, fa, tl) (qn b) (qn k) (qn c) (qn v) (qn (gsz g b)) (qn (if b = 0 then 6 else 4)) := by
              by_cases hv8 : v < 8
              · by_cases hb0 : b = 0
                · rw [if_pos hb0]
                  simp (disch := omega) only [↓reduceIte, q0, q1, q2, q3, q4, q5, q6, q7, q8, q14, q15, q16, q20, q31, q44, q50, q70, q1000, qn_le_t, qn_le_f, qn_lt_t, qn_lt_f, qn_eq_t, qn_eq_f, qn_add, qn_inb, qn_ix, qn_dec, qn_m1, ck_tt, bd_ss, ix, isB0, isB1, Nat.reduceAdd, Nat.reduceSub, Nat.reduceMul, Nat.zero_add, f_R_add, s1', s2', s3', hsz]
                · rw [if_neg hb0]
                  simp (disch := omega) only [↓reduceIte, q0, q1, q2, q3, q4, q5, q6, q7, q8, q14, q15, q16, q20, q31, q44, q50, q70, q1000, qn_le_t, qn_le_f, qn_lt_t, qn_lt_f, qn_eq_t, qn_eq_f, qn_add, qn_inb, qn_ix, qn_dec, qn_m1, ck_tt, bd_ss, ix, isB0, isB1, Nat.reduceAdd, Nat.reduceSub, Nat.reduceMul, Nat.zero_add, f_R_add, s1', s2', s3', hsz]
              · have hm : gmay g (v - 8) b (gst g b + gsz g b) := by
                  rcases x5 with h | h
                  · exact absurd h hv8
                  · exact h
                have ms := (t_R_mayStand (fu := fu) (th := qn 0) (r := (ks, kp, qn f, gg, ho, op, ha, io, cur, ex, an, nu, ca, ba, no', at_, ev, wi, ru, wr, ta, fa, tl)) h2 h3 (i := v - 8) (b := b) (own := gst g b + gsz g b) (by omega) hb (by omega)).1 hm
                by_cases hb0 : b = 0
                · rw [if_pos hb0]
                  simp (disch := omega) only [↓reduceIte, q0, q1, q2, q3, q4, q5, q6, q7, q8, q14, q15, q16, q20, q31, q44, q50, q70, q1000, qn_le_t, qn_le_f, qn_lt_t, qn_lt_f, qn_eq_t, qn_eq_f, qn_add, qn_inb, qn_ix, qn_dec, qn_m1, ck_tt, bd_ss, ix, isB0, isB1, Nat.reduceAdd, Nat.reduceSub, Nat.reduceMul, Nat.zero_add, f_R_add, s1', s2', s3', hsz, t_R_first h2 hb, qn_sub, ms]
                · rw [if_neg hb0]
                  simp (disch := omega) only [↓reduceIte, q0, q1, q2, q3, q4, q5, q6, q7, q8, q14, q15, q16, q20, q31, q44, q50, q70, q1000, qn_le_t, qn_le_f, qn_lt_t, qn_lt_f, qn_eq_t, qn_eq_f, qn_add, qn_inb, qn_ix, qn_dec, qn_m1, ck_tt, bd_ss, ix, isB0, isB1, Nat.reduceAdd, Nat.reduceSub, Nat.reduceMul, Nat.zero_add, f_R_add, s1', s2', s3', hsz, t_R_first h2 hb, qn_sub, ms]
            have hrm := t_P_hasRoom (fu := fu) h1 h3 hb
            by_cases x6 : grm g b
            · have ne6 := (grm_eq h3 hb).1 x6
              have hne : ¬ qn (gsz g b) = qn (if b = 0 then 6 else 4) := by
                rw [qn_eq (by omega) (by split <;> omega)]; exact ne6
              obtain ⟨P', Q', a1', a0'⟩ := t_H_append hf (Q := Q) (x := (((an, nu, ca, ba, z, nc, ne, no, f0), J, tl, qn f, ru, wr, sc, exC, dr), dw, ta, cur)) h1 h3 (k := k) (c := c) (v := v) hb x6 (by omega) (by omega) x5
              obtain ⟨ks', kp', sz', kd', ce', ar', op', sz'', kd'', ce'', ar'', e1, e2, r2, e3, e4, e5, r5⟩ := t_R_try hf (th := qn 0) (fl := qn f) (ks := ks) (kp := kp) (ho := ho) (op := op) (gg := gg) (r := (ha, io, cur, ex, an, nu, ca, ba, no', at_, ev, wi, ru, wr, ta, fa, tl)) h2 h3 (k := k) (c := c) (v := v) hb x6 (by omega) (by omega) x5
              by_cases x7 : gvalid (gadd g b k c v)
              · have b1 := a1' x7
                have b3 := e3 x7
                refine ⟨.inl (qn (gst g b + gsz g b)), (P', Q', ((an, nu, ca, ba, z, nc, ne, no, f0), J, tl, qn f, ru, wr, sc, exC, dr), dw, ta, qn 0), qn (gst g b + gsz g b), (qn 0, sz', kd', ce', ar', ks', kp', qn f, gg, ho, op', ha, io, qn 0, ex, an, nu, ca, ba, no', at_, ev, wi, ru, wr, ta, fa, tl), ?_, ?_, ?_, Or.inl ⟨rfl, rfl⟩⟩
                · simp (disch := omega) only [↓reduceIte, q0, q1, q2, q3, q4, q5, q6, q7, q8, q14, q15, q16, q20, q31, q44, q50, q70, q1000, qn_le_t, qn_le_f, qn_lt_t, qn_lt_f, qn_eq_t, qn_eq_f, qn_add, qn_inb, qn_ix, qn_dec, qn_m1, ck_tt, bd_ss, ix, isB0, isB1, Nat.reduceAdd, Nat.reduceSub, Nat.reduceMul, Nat.zero_add, f_H_add, t1', t2', t3', mt.1 x5, hrm.1 x6, t_P_end h1 hb, b1.1]
                · rw [toRoom]
                  simp (disch := omega) only [↓reduceIte, q0, q1, q2, q3, q4, q5, q6, q7, q8, q14, q15, q16, q20, q31, q44, q50, q70, q1000, qn_le_t, qn_le_f, qn_lt_t, qn_lt_f, qn_eq_t, qn_eq_f, qn_add, qn_inb, qn_ix, qn_dec, qn_m1, ck_tt, bd_ss, ix, isB0, isB1, Nat.reduceAdd, Nat.reduceSub, Nat.reduceMul, Nat.zero_add, f_R_add_L98, hne, e1, e2, b3]
                · exact ⟨gadd g b k c v, f, P', Q', an, nu, ca, ba, nc, ne, no, J, tl, sz', kd', ce', ar', ks', kp', ho, op', ha, io, no', at_, ev, z, f0, ru, wr, sc, exC, ta, qn 0, qn 0, ex, wi, fa, dr, dw, gg, rfl, rfl, b1.2, r2, gadd_ok h3 hb x6 (by omega) (by omega) x5, h4, h5, h6, Or.inl rfl⟩
              · have b1 := a0' x7
                have b3 := e4 x7
                refine ⟨.inr 3, (P, Q', ((an, nu, ca, ba, z, nc, ne, no, f0), J, tl, qn f, ru, wr, sc, exC, dr), dw, ta, cur), qn 0, (qn 3, sz'', kd'', ce'', ar'', ks', kp', qn f, gg, ho, op', ha, io, cur, ex, an, nu, ca, ba, no', at_, ev, wi, ru, wr, ta, fa, tl), ?_, ?_, ?_, Or.inr ⟨3, rfl, rfl, qne 3 0 (by omega) (by omega) (by omega)⟩⟩
                · simp (disch := omega) only [↓reduceIte, q0, q1, q2, q3, q4, q5, q6, q7, q8, q14, q15, q16, q20, q31, q44, q50, q70, q1000, qn_le_t, qn_le_f, qn_lt_t, qn_lt_f, qn_eq_t, qn_eq_f, qn_add, qn_inb, qn_ix, qn_dec, qn_m1, ck_tt, bd_ss, ix, isB0, isB1, Nat.reduceAdd, Nat.reduceSub, Nat.reduceMul, Nat.zero_add, f_H_add, t1', t2', t3', mt.1 x5, hrm.1 x6, t_P_end h1 hb, b1]
                · rw [toRoom]
                  simp (disch := omega) only [↓reduceIte, q0, q1, q2, q3, q4, q5, q6, q7, q8, q14, q15, q16, q20, q31, q44, q50, q70, q1000, qn_le_t, qn_le_f, qn_lt_t, qn_lt_f, qn_eq_t, qn_eq_f, qn_add, qn_inb, qn_ix, qn_dec, qn_m1, ck_tt, bd_ss, ix, isB0, isB1, Nat.reduceAdd, Nat.reduceSub, Nat.reduceMul, Nat.zero_add, f_R_add_L98, hne, e1, e2, b3, e5, f_R_fail]
                · exact ⟨g, f, P, Q', an, nu, ca, ba, nc, ne, no, J, tl, sz'', kd'', ce'', ar'', ks', kp', ho, op', ha, io, no', at_, ev, z, f0, ru, wr, sc, exC, ta, cur, qn 3, ex, wi, fa, dr, dw, gg, rfl, rfl, h1, r5, h3, h4, h5, h6, h7⟩
            · have heq : gsz g b = (if b = 0 then 6 else 4) := by
                have := grm_eq h3 hb
                by_cases h : gsz g b = (if b = 0 then 6 else 4)
                · exact h
                · exact absurd (this.2 h) x6
              refine ⟨.inr 2, (P, Q, ((an, nu, ca, ba, z, nc, ne, no, f0), J, tl, qn f, ru, wr, sc, exC, dr), dw, ta, cur), qn 0, _, ?_, ?_, hth (qn 2), Or.inr ⟨2, rfl, rfl, qne 2 0 (by omega) (by omega) (by omega)⟩⟩
              · simp (disch := omega) only [↓reduceIte, q0, q1, q2, q3, q4, q5, q6, q7, q8, q14, q15, q16, q20, q31, q44, q50, q70, q1000, qn_le_t, qn_le_f, qn_lt_t, qn_lt_f, qn_eq_t, qn_eq_f, qn_add, qn_inb, qn_ix, qn_dec, qn_m1, ck_tt, bd_ss, ix, isB0, isB1, Nat.reduceAdd, Nat.reduceSub, Nat.reduceMul, Nat.zero_add, f_H_add, t1', t2', t3', mt.1 x5, hrm.2 x6]
              · rw [toRoom, ← heq]
                simp (disch := omega) only [↓reduceIte, q0, q1, q2, q3, q4, q5, q6, q7, q8, q14, q15, q16, q20, q31, q44, q50, q70, q1000, qn_le_t, qn_le_f, qn_lt_t, qn_lt_f, qn_eq_t, qn_eq_f, qn_add, qn_inb, qn_ix, qn_dec, qn_m1, ck_tt, bd_ss, ix, isB0, isB1, Nat.reduceAdd, Nat.reduceSub, Nat.reduceMul, Nat.zero_add, f_R_add_L98, f_R_fail]
          · have hv8 : ¬ v < 8 := fun h => x5 (Or.inl h)
            have hm : ¬ gmay g (v - 8) b (gst g b + gsz g b) := fun h => x5 (Or.inr h)
            have ms := (t_R_mayStand (fu := fu) (th := qn 0) (r := (ks, kp, qn f, gg, ho, op, ha, io, cur, ex, an, nu, ca, ba, no', at_, ev, wi, ru, wr, ta, fa, tl)) h2 h3 (i := v - 8) (b := b) (own := gst g b + gsz g b) (by omega) hb (by omega)).2 hm
            apply bad
            · simp (disch := omega) only [↓reduceIte, q0, q1, q2, q3, q4, q5, q6, q7, q8, q14, q15, q16, q20, q31, q44, q50, q70, q1000, qn_le_t, qn_le_f, qn_lt_t, qn_lt_f, qn_eq_t, qn_eq_f, qn_add, qn_inb, qn_ix, qn_dec, qn_m1, ck_tt, bd_ss, ix, isB0, isB1, Nat.reduceAdd, Nat.reduceSub, Nat.reduceMul, Nat.zero_add, f_H_add, t1', t2', t3', mt.2 x5]
            · simp (disch := omega) only [↓reduceIte, q0, q1, q2, q3, q4, q5, q6, q7, q8, q14, q15, q16, q20, q31, q44, q50, q70, q1000, qn_le_t, qn_le_f, qn_lt_t, qn_lt_f, qn_eq_t, qn_eq_f, qn_add, qn_inb, qn_ix, qn_dec, qn_m1, ck_tt, bd_ss, ix, isB0, isB1, Nat.reduceAdd, Nat.reduceSub, Nat.reduceMul, Nat.zero_add, f_R_add, s1', s2', s3', hsz, t_R_first h2 hb, qn_sub, ms, f_R_fail]
        · have i0 : (qn 0).toInt = 0 := by decide
          have i8 : (qn 8).toInt = 8 := by decide
          have n1 : ¬ qn 0 ≤ a4 := by rw [Int32.le_iff_toInt_le, i0]; omega
          have n2 : ¬ qn 8 ≤ a4 := by rw [Int32.le_iff_toInt_le, i8]; omega
          have n3 : a4 < qn 0 := by rw [Int32.lt_iff_toInt_lt, i0]; omega
          apply bad
          · simp (disch := omega) only [↓reduceIte, q0, q1, q2, q3, q4, q5, q6, q7, q8, q14, q15, q16, q20, q31, q44, q50, q70, q1000, qn_le_t, qn_le_f, qn_lt_t, qn_lt_f, qn_eq_t, qn_eq_f, qn_add, qn_inb, qn_ix, qn_dec, qn_m1, ck_tt, bd_ss, ix, isB0, isB1, Nat.reduceAdd, Nat.reduceSub, Nat.reduceMul, Nat.zero_add, f_H_add, t1', t2', t3', f_P_mayTake, n2, n3]
          · simp (disch := omega) only [↓reduceIte, q0, q1, q2, q3, q4, q5, q6, q7, q8, q14, q15, q16, q20, q31, q44, q50, q70, q1000, qn_le_t, qn_le_f, qn_lt_t, qn_lt_f, qn_eq_t, qn_eq_f, qn_add, qn_inb, qn_ix, qn_dec, qn_m1, ck_tt, bd_ss, ix, isB0, isB1, Nat.reduceAdd, Nat.reduceSub, Nat.reduceMul, Nat.zero_add, f_R_add, s1', s2', s3', n1, f_R_fail]
      · apply bad
        · simp (disch := omega) only [↓reduceIte, q0, q1, q2, q3, q4, q5, q6, q7, q8, q14, q15, q16, q20, q31, q44, q50, q70, q1000, qn_le_t, qn_le_f, qn_lt_t, qn_lt_f, qn_eq_t, qn_eq_f, qn_add, qn_inb, qn_ix, qn_dec, qn_m1, ck_tt, bd_ss, ix, isB0, isB1, Nat.reduceAdd, Nat.reduceSub, Nat.reduceMul, Nat.zero_add, f_H_add, t1', t2', t3.2 x3]
        · simp (disch := omega) only [↓reduceIte, q0, q1, q2, q3, q4, q5, q6, q7, q8, q14, q15, q16, q20, q31, q44, q50, q70, q1000, qn_le_t, qn_le_f, qn_lt_t, qn_lt_f, qn_eq_t, qn_eq_f, qn_add, qn_inb, qn_ix, qn_dec, qn_m1, ck_tt, bd_ss, ix, isB0, isB1, Nat.reduceAdd, Nat.reduceSub, Nat.reduceMul, Nat.zero_add, f_R_add, s1', s2', s3.2 x3, f_R_fail]
    · apply bad
      · simp (disch := omega) only [↓reduceIte, q0, q1, q2, q3, q4, q5, q6, q7, q8, q14, q15, q16, q20, q31, q44, q50, q70, q1000, qn_le_t, qn_le_f, qn_lt_t, qn_lt_f, qn_eq_t, qn_eq_f, qn_add, qn_inb, qn_ix, qn_dec, qn_m1, ck_tt, bd_ss, ix, isB0, isB1, Nat.reduceAdd, Nat.reduceSub, Nat.reduceMul, Nat.zero_add, f_H_add, t1', t2.2 x2]
      · simp (disch := omega) only [↓reduceIte, q0, q1, q2, q3, q4, q5, q6, q7, q8, q14, q15, q16, q20, q31, q44, q50, q70, q1000, qn_le_t, qn_le_f, qn_lt_t, qn_lt_f, qn_eq_t, qn_eq_f, qn_add, qn_inb, qn_ix, qn_dec, qn_m1, ck_tt, bd_ss, ix, isB0, isB1, Nat.reduceAdd, Nat.reduceSub, Nat.reduceMul, Nat.zero_add, f_R_add, s1', s2.2 x2, f_R_fail]
  · apply bad
    · simp (disch := omega) only [↓reduceIte, q0, q1, q2, q3, q4, q5, q6, q7, q8, q14, q15, q16, q20, q31, q44, q50, q70, q1000, qn_le_t, qn_le_f, qn_lt_t, qn_lt_f, qn_eq_t, qn_eq_f, qn_add, qn_inb, qn_ix, qn_dec, qn_m1, ck_tt, bd_ss, ix, isB0, isB1, Nat.reduceAdd, Nat.reduceSub, Nat.reduceMul, Nat.zero_add, f_H_add, t1.2 x1]
    · simp (disch := omega) only [↓reduceIte, q0, q1, q2, q3, q4, q5, q6, q7, q8, q14, q15, q16, q20, q31, q44, q50, q70, q1000, qn_le_t, qn_le_f, qn_lt_t, qn_lt_f, qn_eq_t, qn_eq_f, qn_add, qn_inb, qn_ix, qn_dec, qn_m1, ck_tt, bd_ss, ix, isB0, isB1, Nat.reduceAdd, Nat.reduceSub, Nat.reduceMul, Nat.zero_add, f_R_add, s1.2 x1, f_R_fail]
