theorem t_R_does {fu f : Nat} {th ra ex : Int32} {sz kd ce ar ks kp ho op ha io an nu ca ba no at_ ev : Nat → Int32} {gg : Int64} {r : S_R22} {i k c v n : Nat} {w : Nat → Nat} (hi : i < 14) (e1 : kd i = qn k) (e2 : ce i = qn c) (hk : k ≤ 6) (hc : c < 3) (hf : f < 16) (hw : w16 w) (hh : hvr ha io w) (hv : nu i = qn v) (hn : no i = qn n) (v8 : v < 8) (n8 : n < 8) (l : Nat) (hl : gltk k f ∧ l = 1 ∨ ¬ gltk k f ∧ l = 0) : ∃ ha' io', f_R_does fu (th, sz, kd, ce, ar, ks, kp, qn f, gg, ho, op, ha, io, ra, ex, an, nu, ca, ba, no, at_, ev, r) (qn i) = some (th, sz, kd, ce, ar, ks, kp, qn f, gg, ho, op, ha', io', ra, ex, upd an i (qn (dans w k c v n)), nu, ca, ba, no, at_, ev, r) ∧ hvr ha' io' (nset w c (dnew (w c) k v n l)) := by
  have h1 := (hh c hc).1
  have h2 := (hh c hc).2
  have hwc := hw.at hc
  have hlt : ∀ io' an', bqr (f_R_isLate fu (th, sz, kd, ce, ar, ks, kp, qn f, gg, ho, op, ha, io', ra, ex, an', nu, ca, ba, no, at_, ev, r) (qn i)) (gltk k f) := fun io' an' => t_R_isLate hi e1 hk hf
  have : k = 0 ∨ k = 1 ∨ k = 2 ∨ k = 3 ∨ k = 4 ∨ k = 5 ∨ k = 6 := by omega
  rcases this with rfl | rfl | rfl | rfl | rfl | rfl | rfl
  · have ed : dans w 0 c v n = 0 := rfl
    rw [ed]
    refine ⟨upd ha c (qn v), upd io c (qn 1), by simp (disch := omega) only [↓reduceIte, q0, q1, q2, q3, q4, q5, q6, q7, q8, q14, q15, q16, q20, q31, q44, q50, q70, q1000, qn_le_t, qn_le_f, qn_lt_t, qn_lt_f, qn_eq_t, qn_eq_f, qn_add, qn_inb, qn_ix, qn_dec, qn_m1, ck_tt, bd_ss, ix, isB0, isB1, Nat.reduceAdd, Nat.reduceSub, Nat.reduceMul, Nat.zero_add, f_R_does, f_R_does_L112, f_R_does_L151, f_R_does_L196, f_R_does_L213, f_R_does_L236, e1, e2, hv, hn], ?_⟩
    have hl0 : l = 0 := by unfold gltk at hl; omega
    subst hl0
    refine hvr_upd hh ?_ ?_
    · show qn v = qn ((8 + v) % 8)
      congr 1; omega
    · show qn 1 = qn ((8 + v) / 8)
      congr 1; omega
  · have ed : dans w 1 c v n = w c % 8 := rfl
    rw [ed]
    refine ⟨upd ha c (qn 0), upd io c (qn 0), by simp (disch := omega) only [↓reduceIte, q0, q1, q2, q3, q4, q5, q6, q7, q8, q14, q15, q16, q20, q31, q44, q50, q70, q1000, qn_le_t, qn_le_f, qn_lt_t, qn_lt_f, qn_eq_t, qn_eq_f, qn_add, qn_inb, qn_ix, qn_dec, qn_m1, ck_tt, bd_ss, ix, isB0, isB1, Nat.reduceAdd, Nat.reduceSub, Nat.reduceMul, Nat.zero_add, f_R_does, f_R_does_L112, f_R_does_L151, f_R_does_L196, f_R_does_L213, f_R_does_L236, e1, e2, hv, hn, h1], ?_⟩
    have ex : dnew (w c) 1 v n l = 0 := rfl
    rw [ex]
    exact hvr_upd hh rfl rfl
  · have ed : dans w 2 c v n = w c % 8 := rfl
    have ex : dnew (w c) 2 v n l = w c := rfl
    rw [ed, ex]
    by_cases ho8 : w c / 8 = 0
    · refine ⟨ha, upd io c (qn 0), by simp (disch := omega) only [↓reduceIte, q0, q1, q2, q3, q4, q5, q6, q7, q8, q14, q15, q16, q20, q31, q44, q50, q70, q1000, qn_le_t, qn_le_f, qn_lt_t, qn_lt_f, qn_eq_t, qn_eq_f, qn_add, qn_inb, qn_ix, qn_dec, qn_m1, ck_tt, bd_ss, ix, isB0, isB1, Nat.reduceAdd, Nat.reduceSub, Nat.reduceMul, Nat.zero_add, f_R_does, f_R_does_L112, f_R_does_L151, f_R_does_L196, f_R_does_L213, f_R_does_L236, e1, e2, hv, hn, h1, h2], ?_⟩
      exact hvr_io hh hc rfl (by rw [ho8])
    · refine ⟨ha, upd io c (qn 1), by simp (disch := omega) only [↓reduceIte, q0, q1, q2, q3, q4, q5, q6, q7, q8, q14, q15, q16, q20, q31, q44, q50, q70, q1000, qn_le_t, qn_le_f, qn_lt_t, qn_lt_f, qn_eq_t, qn_eq_f, qn_add, qn_inb, qn_ix, qn_dec, qn_m1, ck_tt, bd_ss, ix, isB0, isB1, Nat.reduceAdd, Nat.reduceSub, Nat.reduceMul, Nat.zero_add, f_R_does, f_R_does_L112, f_R_does_L151, f_R_does_L196, f_R_does_L213, f_R_does_L236, e1, e2, hv, hn, h1, h2], ?_⟩
      exact hvr_io hh hc rfl (by congr 1; omega)
  · have ed : dans w 3 c v n = 0 := rfl
    rw [ed]
    rcases hl with ⟨hl, rfl⟩ | ⟨hl, rfl⟩
    · have ex : dnew (w c) 3 v n 1 = w c := rfl
      rw [ex]
      by_cases ho8 : w c / 8 = 0
      · refine ⟨ha, upd io c (qn 0), by simp (disch := omega) only [↓reduceIte, q0, q1, q2, q3, q4, q5, q6, q7, q8, q14, q15, q16, q20, q31, q44, q50, q70, q1000, qn_le_t, qn_le_f, qn_lt_t, qn_lt_f, qn_eq_t, qn_eq_f, qn_add, qn_inb, qn_ix, qn_dec, qn_m1, ck_tt, bd_ss, ix, isB0, isB1, Nat.reduceAdd, Nat.reduceSub, Nat.reduceMul, Nat.zero_add, f_R_does, f_R_does_L112, f_R_does_L151, f_R_does_L196, f_R_does_L213, f_R_does_L236, e1, e2, hv, hn, h1, h2, (hlt _ _).1 hl], ?_⟩
        exact hvr_io hh hc rfl (by rw [ho8])
      · refine ⟨ha, upd io c (qn 1), by simp (disch := omega) only [↓reduceIte, q0, q1, q2, q3, q4, q5, q6, q7, q8, q14, q15, q16, q20, q31, q44, q50, q70, q1000, qn_le_t, qn_le_f, qn_lt_t, qn_lt_f, qn_eq_t, qn_eq_f, qn_add, qn_inb, qn_ix, qn_dec, qn_m1, ck_tt, bd_ss, ix, isB0, isB1, Nat.reduceAdd, Nat.reduceSub, Nat.reduceMul, Nat.zero_add, f_R_does, f_R_does_L112, f_R_does_L151, f_R_does_L196, f_R_does_L213, f_R_does_L236, e1, e2, hv, hn, h1, h2, (hlt _ _).1 hl], ?_⟩
        exact hvr_io hh hc rfl (by congr 1; omega)
    · have ex : dnew (w c) 3 v n 0 = w c / 8 * 8 + v := rfl
      rw [ex]
      by_cases ho8 : w c / 8 = 0
      · refine ⟨upd ha c (qn v), upd io c (qn 0), by simp (disch := omega) only [↓reduceIte, q0, q1, q2, q3, q4, q5, q6, q7, q8, q14, q15, q16, q20, q31, q44, q50, q70, q1000, qn_le_t, qn_le_f, qn_lt_t, qn_lt_f, qn_eq_t, qn_eq_f, qn_add, qn_inb, qn_ix, qn_dec, qn_m1, ck_tt, bd_ss, ix, isB0, isB1, Nat.reduceAdd, Nat.reduceSub, Nat.reduceMul, Nat.zero_add, f_R_does, f_R_does_L112, f_R_does_L151, f_R_does_L196, f_R_does_L213, f_R_does_L236, e1, e2, hv, hn, h1, h2, (hlt _ _).2 hl], ?_⟩
        exact hvr_upd hh (by congr 1; omega) (by congr 1; omega)
      · refine ⟨upd ha c (qn v), upd io c (qn 1), by simp (disch := omega) only [↓reduceIte, q0, q1, q2, q3, q4, q5, q6, q7, q8, q14, q15, q16, q20, q31, q44, q50, q70, q1000, qn_le_t, qn_le_f, qn_lt_t, qn_lt_f, qn_eq_t, qn_eq_f, qn_add, qn_inb, qn_ix, qn_dec, qn_m1, ck_tt, bd_ss, ix, isB0, isB1, Nat.reduceAdd, Nat.reduceSub, Nat.reduceMul, Nat.zero_add, f_R_does, f_R_does_L112, f_R_does_L151, f_R_does_L196, f_R_does_L213, f_R_does_L236, e1, e2, hv, hn, h1, h2, (hlt _ _).2 hl], ?_⟩
        exact hvr_upd hh (by congr 1; omega) (by congr 1; omega)
  · have ed : dans w 4 c v n = (n + v) % 8 := rfl
    have ex : dnew (w c) 4 v n l = w c / 8 * 8 + (n + v) % 8 := rfl
    rw [ed, ex]
    by_cases ho8 : w c / 8 = 0
    · refine ⟨upd ha c (qn ((n + v) % 8)), upd io c (qn 0), by simp (disch := omega) only [↓reduceIte, q0, q1, q2, q3, q4, q5, q6, q7, q8, q14, q15, q16, q20, q31, q44, q50, q70, q1000, qn_le_t, qn_le_f, qn_lt_t, qn_lt_f, qn_eq_t, qn_eq_f, qn_add, qn_inb, qn_ix, qn_dec, qn_m1, ck_tt, bd_ss, ix, isB0, isB1, Nat.reduceAdd, Nat.reduceSub, Nat.reduceMul, Nat.zero_add, f_R_does, f_R_does_L112, f_R_does_L151, f_R_does_L196, f_R_does_L213, f_R_does_L236, e1, e2, hv, hn, h1, h2, nz_qn, qn_mod], ?_⟩
      exact hvr_upd hh (by congr 1; omega) (by congr 1; omega)
    · refine ⟨upd ha c (qn ((n + v) % 8)), upd io c (qn 1), by simp (disch := omega) only [↓reduceIte, q0, q1, q2, q3, q4, q5, q6, q7, q8, q14, q15, q16, q20, q31, q44, q50, q70, q1000, qn_le_t, qn_le_f, qn_lt_t, qn_lt_f, qn_eq_t, qn_eq_f, qn_add, qn_inb, qn_ix, qn_dec, qn_m1, ck_tt, bd_ss, ix, isB0, isB1, Nat.reduceAdd, Nat.reduceSub, Nat.reduceMul, Nat.zero_add, f_R_does, f_R_does_L112, f_R_does_L151, f_R_does_L196, f_R_does_L213, f_R_does_L236, e1, e2, hv, hn, h1, h2, nz_qn, qn_mod], ?_⟩
      exact hvr_upd hh (by congr 1; omega) (by congr 1; omega)
  · have ed : dans w 5 c v n = n := rfl
    have ex : dnew (w c) 5 v n l = w c / 8 * 8 + v := rfl
    rw [ed, ex]
    by_cases ho8 : w c / 8 = 0
    · refine ⟨upd ha c (qn v), upd io c (qn 0), by simp (disch := omega) only [↓reduceIte, q0, q1, q2, q3, q4, q5, q6, q7, q8, q14, q15, q16, q20, q31, q44, q50, q70, q1000, qn_le_t, qn_le_f, qn_lt_t, qn_lt_f, qn_eq_t, qn_eq_f, qn_add, qn_inb, qn_ix, qn_dec, qn_m1, ck_tt, bd_ss, ix, isB0, isB1, Nat.reduceAdd, Nat.reduceSub, Nat.reduceMul, Nat.zero_add, f_R_does, f_R_does_L112, f_R_does_L151, f_R_does_L196, f_R_does_L213, f_R_does_L236, e1, e2, hv, hn, h1, h2], ?_⟩
      exact hvr_upd hh (by congr 1; omega) (by congr 1; omega)
    · refine ⟨upd ha c (qn v), upd io c (qn 1), by simp (disch := omega) only [↓reduceIte, q0, q1, q2, q3, q4, q5, q6, q7, q8, q14, q15, q16, q20, q31, q44, q50, q70, q1000, qn_le_t, qn_le_f, qn_lt_t, qn_lt_f, qn_eq_t, qn_eq_f, qn_add, qn_inb, qn_ix, qn_dec, qn_m1, ck_tt, bd_ss, ix, isB0, isB1, Nat.reduceAdd, Nat.reduceSub, Nat.reduceMul, Nat.zero_add, f_R_does, f_R_does_L112, f_R_does_L151, f_R_does_L196, f_R_does_L213, f_R_does_L236, e1, e2, hv, hn, h1, h2], ?_⟩
      exact hvr_upd hh (by congr 1; omega) (by congr 1; omega)
  · have ed : dans w 6 c v n = w c % 8 := rfl
    have ex : dnew (w c) 6 v n l = w c / 8 * 8 + n := rfl
    rw [ed, ex]
    by_cases ho8 : w c / 8 = 0
    · refine ⟨upd ha c (qn n), upd io c (qn 0), by simp (disch := omega) only [↓reduceIte, q0, q1, q2, q3, q4, q5, q6, q7, q8, q14, q15, q16, q20, q31, q44, q50, q70, q1000, qn_le_t, qn_le_f, qn_lt_t, qn_lt_f, qn_eq_t, qn_eq_f, qn_add, qn_inb, qn_ix, qn_dec, qn_m1, ck_tt, bd_ss, ix, isB0, isB1, Nat.reduceAdd, Nat.reduceSub, Nat.reduceMul, Nat.zero_add, f_R_does, f_R_does_L112, f_R_does_L151, f_R_does_L196, f_R_does_L213, f_R_does_L236, e1, e2, hv, hn, h1, h2], ?_⟩
      exact hvr_upd hh (by congr 1; omega) (by congr 1; omega)
    · refine ⟨upd ha c (qn n), upd io c (qn 1), by simp (disch := omega) only [↓reduceIte, q0, q1, q2, q3, q4, q5, q6, q7, q8, q14, q15, q16, q20, q31, q44, q50, q70, q1000, qn_le_t, qn_le_f, qn_lt_t, qn_lt_f, qn_eq_t, qn_eq_f, qn_add, qn_inb, qn_ix, qn_dec, qn_m1, ck_tt, bd_ss, ix, isB0, isB1, Nat.reduceAdd, Nat.reduceSub, Nat.reduceMul, Nat.zero_add, f_R_does, f_R_does_L112, f_R_does_L151, f_R_does_L196, f_R_does_L213, f_R_does_L236, e1, e2, hv, hn, h1, h2], ?_⟩
      exact hvr_upd hh (by congr 1; omega) (by congr 1; omega)
