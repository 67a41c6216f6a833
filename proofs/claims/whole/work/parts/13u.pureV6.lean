def lnk (f : Nat) (th ta fa : Int32) (g gk0 : pg) (T : S_T) (R : S_R) : Prop := ∃ (an nu ca ba nc ne no J tl sz kd ce ar ks kp ho op ha io no' at_ ev : Nat → Int32) (z f0 ru wr sc exC ra ex wi : Int32) (dr gg : Int64), T = ((an, nu, ca, ba, z, nc, ne, no, f0), J, tl, qn f, ru, wr, sc, exC, dr) ∧ R = (th, sz, kd, ce, ar, ks, kp, qn f, gg, ho, op, ha, io, ra, ex, an, nu, ca, ba, no', at_, ev, wi, ru, wr, ta, fa, tl) ∧ a8 an ∧ a8 nu ∧ pgr (sz, kd, ce, ar) g ∧ kpg ks kp gk0
section SHR
variable {fu f : Nat} {th ta fa : Int32} {g g' : pg} {T : S_T} {R : S_R} {seed : Int64} {most : Nat} {Q' : S_P}
theorem back_ (hf : 20000 ≤ fu) (hg : gok g) (hl : lnk f th ta fa g' g T R) : ∃ R', f_R_putBack fu R = some R' ∧ lnk f th ta fa g g T R' := by
  obtain ⟨an, nu, ca, ba, nc, ne, no, J, tl, sz, kd, ce, ar, ks, kp, ho, op, ha, io, no', at_, ev, z, f0, ru, wr, sc, exC, ra, ex, wi, dr, gg, rfl, rfl, h1, h2, h3, h4⟩ := hl
  obtain ⟨sz', kd', ce', ar', e, r⟩ := t_R_putBack hf (th := th) (sz := sz) (kd := kd) (ce := ce) (ar := ar) (r := (qn f, gg, ho, op, ha, io, ra, ex, an, nu, ca, ba, no', at_, ev, wi, ru, wr, ta, fa, tl)) h4 hg
  exact ⟨_, e, an, nu, ca, ba, nc, ne, no, J, tl, sz', kd', ce', ar', ks, kp, ho, op, ha, io, no', at_, ev, z, f0, ru, wr, sc, exC, ra, ex, wi, dr, gg, rfl, rfl, h1, h2, r, h4⟩
theorem takes0 (hf : 20000 ≤ fu) (hg : gok g) (hl : lnk f th ta fa g' g T R) (m : Int32) : ∃ R', f_R_takes fu R (qn 0) seed m = some (qn 0, R') ∧ lnk f th ta fa g g T R' := by
  obtain ⟨R', e, r⟩ := back_ hf hg hl
  exact ⟨R', by simp (disch := omega) only [↓reduceIte, q0, q1, q2, q3, q4, q5, q6, q7, q8, q14, q15, q16, q20, q31, q44, q50, q70, q1000, qn_le_t, qn_le_f, qn_lt_t, qn_lt_f, qn_eq_t, qn_eq_f, qn_add, qn_inb, qn_ix, qn_dec, qn_m1, ck_tt, bd_ss, ix, isB0, isB1, Nat.reduceAdd, Nat.reduceSub, Nat.reduceMul, Nat.zero_add, f_R_takes, e], r⟩
theorem takes1 (hf : 20000 ≤ fu) (hfl : f < 16) (hm : most ≤ 50) (h0 : 0 < most) (hg : gok g) (hg' : gok g') (hQ : pgr Q' g') (hl : lnk f th ta fa g' g T R) : (¬ gvalid g' → ∃ R', f_R_takes fu R (qn 1) seed (qn most) = some (qn 0, R') ∧ lnk f th ta fa g g T R') ∧ (gvalid g' → ∃ (T' : S_T) (x : Int32) (R' : S_R), f_T_firstFailure fu T Q' seed (qn most) = some (x, T') ∧ ((x = -qn 1 ∧ f_R_takes fu R (qn 1) seed (qn most) = some (qn 0, R') ∧ lnk f th ta fa g g T' R') ∨ (¬ x = -qn 1 ∧ f_R_takes fu R (qn 1) seed (qn most) = some (qn 1, R') ∧ lnk f th ta T'.2.2.2.2.2.2.1 g' g T' R'))) := by
  obtain ⟨an, nu, ca, ba, nc, ne, no, J, tl, sz, kd, ce, ar, ks, kp, ho, op, ha, io, no', at_, ev, z, f0, ru, wr, sc, exC, ra, ex, wi, dr, gg, rfl, rfl, h1, h2, h3, h4⟩ := hl
  obtain ⟨op1, v1, v0⟩ := t_R_valid hf (th := th) (fl := qn f) (ks := ks) (kp := kp) (ho := ho) (op := op) (gg := gg) (r := (ha, io, ra, ex, an, nu, ca, ba, no', at_, ev, wi, ru, wr, ta, fa, tl)) h3 hg'
  refine ⟨fun hx => ?_, fun hx => ?_⟩
  · have hl1 : lnk f th ta fa g' g ((an, nu, ca, ba, z, nc, ne, no, f0), J, tl, qn f, ru, wr, sc, exC, dr) (th, sz, kd, ce, ar, ks, kp, qn f, gg, ho, op1, ha, io, ra, ex, an, nu, ca, ba, no', at_, ev, wi, ru, wr, ta, fa, tl) := ⟨an, nu, ca, ba, nc, ne, no, J, tl, sz, kd, ce, ar, ks, kp, ho, op1, ha, io, no', at_, ev, z, f0, ru, wr, sc, exC, ra, ex, wi, dr, gg, rfl, rfl, h1, h2, h3, h4⟩
    obtain ⟨R', e, r⟩ := back_ hf hg hl1
    exact ⟨R', by simp (disch := omega) only [↓reduceIte, q0, q1, q2, q3, q4, q5, q6, q7, q8, q14, q15, q16, q20, q31, q44, q50, q70, q1000, qn_le_t, qn_le_f, qn_lt_t, qn_lt_f, qn_eq_t, qn_eq_f, qn_add, qn_inb, qn_ix, qn_dec, qn_m1, ck_tt, bd_ss, ix, isB0, isB1, Nat.reduceAdd, Nat.reduceSub, Nat.reduceMul, Nat.zero_add, f_R_takes, v0 hx, e], r⟩
  · obtain ⟨an1, nu1, ca1, ba1, nc1, ne1, no1, J1, tl1, ho1, ha1, io1, no1', at1, ev1, w1, y, ru1, wr1, sc1, wi1, fa1, gg1, x, e1, e2, r1, r2, r3, r4⟩ := t_fails hf hQ hg' hfl (th := th) (ta := ta) (ks := ks) (kp := kp) (op := op1) h3 hm h0 an nu ca ba nc ne no J tl ho ha io no' at_ ev z f0 ru wr sc exC ra ex wi fa gg dr seed h1 h2
    have hl1 : lnk f th ta fa1 g' g ((an1, nu1, ca1, ba1, pz w1, nc1, ne1, no1, qn f), J1, tl1, qn f, ru1, wr1, sc1, y, gg1) (th, sz, kd, ce, ar, ks, kp, qn f, gg1, ho1, op1, ha1, io1, qn 1, y, an1, nu1, ca1, ba1, no1', at1, ev1, wi1, ru1, wr1, ta, fa1, tl1) := ⟨an1, nu1, ca1, ba1, nc1, ne1, no1, J1, tl1, sz, kd, ce, ar, ks, kp, ho1, op1, ha1, io1, no1', at1, ev1, pz w1, qn f, ru1, wr1, sc1, y, qn 1, y, wi1, gg1, gg1, rfl, rfl, r1, r2, h3, h4⟩
    rcases r4 with ⟨hx1, rfl⟩ | ⟨⟨x', hx', hx1⟩, rfl⟩
    · obtain ⟨R', e, r⟩ := back_ hf hg hl1
      subst hx1
      have hneg : -qn 1 < qn 0 := by rw [Int32.lt_iff_toInt_lt]; decide
      exact ⟨_, -qn 1, R', e1, Or.inl ⟨rfl, by simp (disch := omega) only [↓reduceIte, q0, q1, q2, q3, q4, q5, q6, q7, q8, q14, q15, q16, q20, q31, q44, q50, q70, q1000, qn_le_t, qn_le_f, qn_lt_t, qn_lt_f, qn_eq_t, qn_eq_f, qn_add, qn_inb, qn_ix, qn_dec, qn_m1, ck_tt, bd_ss, ix, isB0, isB1, Nat.reduceAdd, Nat.reduceSub, Nat.reduceMul, Nat.zero_add, f_R_takes, v1 hx, e2, hneg, e], r⟩⟩
    · subst hx1
      refine ⟨_, qn x', _, e1, Or.inr ⟨by rw [qn_m1 (by omega)]; exact not_false, ?_, hl1⟩⟩
      simp (disch := omega) only [↓reduceIte, q0, q1, q2, q3, q4, q5, q6, q7, q8, q14, q15, q16, q20, q31, q44, q50, q70, q1000, qn_le_t, qn_le_f, qn_lt_t, qn_lt_f, qn_eq_t, qn_eq_f, qn_add, qn_inb, qn_ix, qn_dec, qn_m1, ck_tt, bd_ss, ix, isB0, isB1, Nat.reduceAdd, Nat.reduceSub, Nat.reduceMul, Nat.zero_add, f_R_takes, v1 hx, e2]
/- one candidate of both -/
theorem cand1 (hf : 20000 ≤ fu) (hfl : f < 16) (hm : most ≤ 50) (h0 : 0 < most) (hg : gok g) (hg' : gok g') (hQ : pgr Q' g') (hl : lnk f th ta fa g' g T R) {P Q : S_P} {dw : Int64} {tac cur failing : Int32} {s k n : Nat} (hk : k < 44) (hs : s < 1000) (hp : f_H_prepareCandidate fu (P, Q, T, dw, tac, cur) (qn k) = some (qn 1, (P, Q', T, dw, tac, cur))) :
    (∃ T' R', f_H_shrink_L68 fu (n + 1) (P, Q, T, dw, tac, cur) seed (qn most) failing (qn s) (qn k) = f_H_shrink_L68 fu n (P, Q', T', dw, tac, cur) seed (qn most) failing (qn s) (qn (k + 1)) ∧ f_R_takes fu R (qn 1) seed (qn most) = some (qn 0, R') ∧ lnk f th ta fa g g T' R') ∨ (∃ (P' : S_P) (T' : S_T) (R' : S_R), f_H_shrink_L68 fu (n + 1) (P, Q, T, dw, tac, cur) seed (qn most) failing (qn s) (qn k) = f_H_shrink_L68 fu n (P', Q', T', dw, tac, cur) seed (qn most) T'.2.2.2.2.2.2.1 (qn (s + 1)) (qn 0) ∧ pgr P' g' ∧ f_R_takes fu R (qn 1) seed (qn most) = some (qn 1, R') ∧ lnk f th ta T'.2.2.2.2.2.2.1 g' g T' R') := by
  obtain ⟨tn, ty⟩ := takes1 (seed := seed) hf hfl hm h0 hg hg' hQ hl
  have hv := t_P_isValid hf hQ hg'
  by_cases hx : gvalid g'
  · obtain ⟨T', x, R', e1, e2⟩ := ty hx
    rcases e2 with ⟨h1, h2, h3⟩ | ⟨h1, h2, h3⟩
    · left
      refine ⟨T', R', ?_, h2, h3⟩
      simp (disch := omega) only [↓reduceIte, q0, q1, q2, q3, q4, q5, q6, q7, q8, q14, q15, q16, q20, q31, q44, q50, q70, q1000, qn_le_t, qn_le_f, qn_lt_t, qn_lt_f, qn_eq_t, qn_eq_f, qn_add, qn_inb, qn_ix, qn_dec, qn_m1, ck_tt, bd_ss, ix, isB0, isB1, Nat.reduceAdd, Nat.reduceSub, Nat.reduceMul, Nat.zero_add, f_H_shrink_L68, hp, hv.1 hx, e1, h1]
    · right
      obtain ⟨P', e5, r5⟩ := t_P_copyFrom hf (P := P) hQ hg'
      refine ⟨P', T', R', ?_, r5, h2, h3⟩
      simp (disch := omega) only [↓reduceIte, q0, q1, q2, q3, q4, q5, q6, q7, q8, q14, q15, q16, q20, q31, q44, q50, q70, q1000, qn_le_t, qn_le_f, qn_lt_t, qn_lt_f, qn_eq_t, qn_eq_f, qn_add, qn_inb, qn_ix, qn_dec, qn_m1, ck_tt, bd_ss, ix, isB0, isB1, Nat.reduceAdd, Nat.reduceSub, Nat.reduceMul, Nat.zero_add, f_H_shrink_L68, hp, hv.1 hx, e1, h1, e5]
  · left
    obtain ⟨R', h2, h3⟩ := tn hx
    refine ⟨T, R', ?_, h2, h3⟩
    simp (disch := omega) only [↓reduceIte, q0, q1, q2, q3, q4, q5, q6, q7, q8, q14, q15, q16, q20, q31, q44, q50, q70, q1000, qn_le_t, qn_le_f, qn_lt_t, qn_lt_f, qn_eq_t, qn_eq_f, qn_add, qn_inb, qn_ix, qn_dec, qn_m1, ck_tt, bd_ss, ix, isB0, isB1, Nat.reduceAdd, Nat.reduceSub, Nat.reduceMul, Nat.zero_add, f_H_shrink_L68, hp, hv.2 hx]
end SHR
