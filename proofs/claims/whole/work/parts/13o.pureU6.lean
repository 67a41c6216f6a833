/- what both hold of a run, apart from the program: answers, numbers, calls, returns; cells; whether explained and the witness -/
def rdat (g : pg) (w : Nat → Nat) (J ha io : Nat → Int32) (y wi : Int32) : Prop := w16 w ∧ hvr ha io w ∧ (y = qn 0 ∨ y = qn 1 ∧ ∃ o, o < 256 ∧ wi = qn o ∧ ocn (ga g + gb g) o = gb g ∧ ∀ x, x < ga g + gb g → J x = qn (opl g o x))
theorem t_test {fu : Nat} (hf : 20000 ≤ fu) {P : S_P} {g : pg} (hP : pgr P g) (hg : gok g) {f : Nat} (hfl : f < 16) {an nu ca ba nc ne no J tl : Nat → Int32} {z f0 ru wr sc exC sch : Int32} {dr : Int64} {th ra ex wi ta fa : Int32} {sz kd ce ar ks kp ho op ha io no' at_ ev : Nat → Int32} {gg : Int64} (hR : pgr (sz, kd, ce, ar) g) (ha8 : a8 an) (hn8 : a8 nu) : ∃ (an1 nu1 ca1 ba1 nc1 ne1 no1 J1 tl1 ho1 ha1 io1 no1' at1 ev1 : Nat → Int32) (w1 : Nat → Nat) (y wr1 wi1 : Int32), f_T_test fu ((an, nu, ca, ba, z, nc, ne, no, f0), J, tl, qn f, ru, wr, sc, exC, dr) P sch = some (y, ((an1, nu1, ca1, ba1, pz w1, nc1, ne1, no1, qn f), J1, tl1, qn f, ru + qn 1, wr1, sch, y, dr)) ∧ f_R_judged fu (th, sz, kd, ce, ar, ks, kp, qn f, gg, ho, op, ha, io, ra, ex, an, nu, ca, ba, no', at_, ev, wi, ru, wr, ta, fa, tl) sch = some (y, (th, sz, kd, ce, ar, ks, kp, qn f, gg, ho1, op, ha1, io1, qn 1, y, an1, nu1, ca1, ba1, no1', at1, ev1, wi1, ru + qn 1, wr1, ta, fa, tl1)) ∧ a8 an1 ∧ a8 nu1 ∧ rdat g w1 J1 ha1 io1 y wi1 := by
  have h14 := hg.n14
  have hgd := gn_def g
  have ha4 := hg.2.1; have hb4 := hg.2.2.1
  have e1 : sz 1 = qn (ga g) := hR.2.1
  have e2 : sz 2 = qn (gb g) := hR.2.2.1
  have hp : 2 ^ (ga g + gb g) ≤ 2 ^ 8 := Nat.pow_le_pow_right (by omega) (by omega)
  have hp' : 2 ^ (ga g + gb g) ≤ 256 := hp
  obtain ⟨an1, nu1, ca1, ba1, nc1, ne1, no1, ha1, io1, no1', at1, ev1, w1, pM, pR, hw1, hh1, ha81, hn81, hmi⟩ := t_run (th := th) (ra := ra) (ex := ex) (ks := ks) (kp := kp) (ho := ho) (op := op) (gg := gg) (r := (wi, ru, wr, ta, fa, tl)) (sch := sch) hf hP hR hg hfl (ca := ca) (ba := ba) (nc := nc) (ne := ne) (no := no) (ha := ha) (io := io) (no' := no') (at_ := at_) (ev := ev) (z := z) (f0 := f0) ha8 hn8
  obtain ⟨C, D, u1, u2, u3, u4, u5⟩ := hmi
  have hcd : ∀ i, inBr g i → (ca1 i = qn (C i) ∧ C i < 70) ∧ (ba1 i = qn (D i) ∧ D i < 70) := fun i hi => ⟨u1 i hi, u2 i hi⟩
  have hn' := a8_fn hn81
  have ha' := a8_fn ha81
  have hj := t_judge hf hP hg (mr := (pz w1, nc1, ne1, no1, qn f)) hn' ha' hcd u3 u4 u5 J
  have h22 := t_R_jd_L22 (fu := fu) (th := th) (ra := qn 1) (fl := qn f) (ru := ru + qn 1) (wr := wr) (ta := ta) (fa := fa) (ks := ks) (kp := kp) (op := op) (ha := ha1) (io := io1) (an := an1) (nu := nu1) (ca := ca1) (ba := ba1) (no := no1') (at_ := at1) (ev := ev1) (gg := gg) hR hg ex wi ho (gn g) fu 0 tl (by omega) (by omega)
  have h74 := t_R_jd_L74 (fu := fu) (th := th) (ra := qn 1) (fl := qn f) (ru := ru + qn 1) (wr := wr) (ta := ta) (fa := fa) (ks := ks) (kp := kp) (op := op) (ha := ha1) (io := io1) (no := no1') (at_ := at1) (ev := ev1) (gg := gg) (tl := tlf g (gn g) 0 tl) hf hR hg hn' ha' hcd (2 ^ (ga g + gb g)) fu 0 ho wi (by omega) (by omega)
  have stR : f_R_judged fu (th, sz, kd, ce, ar, ks, kp, qn f, gg, ho, op, ha, io, ra, ex, an, nu, ca, ba, no', at_, ev, wi, ru, wr, ta, fa, tl) sch = f_R_judged_L74 fu fu (th, sz, kd, ce, ar, ks, kp, qn f, gg, ho, op, ha1, io1, qn 1, qn 0, an1, nu1, ca1, ba1, no1', at1, ev1, wi, ru + qn 1, wr, ta, fa, tlf g (gn g) 0 tl) (qn (2 ^ (ga g + gb g))) (qn 0) := by
    have h5 := shl1 (m := ga g + gb g) (by omega)
    simp (disch := omega) only [↓reduceIte, q0, q1, q2, q3, q4, q5, q6, q7, q8, q14, q15, q16, q20, q31, q44, q50, q70, q1000, qn_le_t, qn_le_f, qn_lt_t, qn_lt_f, qn_eq_t, qn_eq_f, qn_add, qn_inb, qn_ix, qn_dec, qn_m1, ck_tt, bd_ss, ix, isB0, isB1, Nat.reduceAdd, Nat.reduceSub, Nat.reduceMul, Nat.zero_add, f_R_judged, pR, h22, f_R_judged_L51, e1, e2, h5]
  rw [stR]
  rcases hj with ⟨o, J', j1, j2, j3, j4, j5, j6⟩ | ⟨J', j1, j2⟩
  · have h69 := t_T_L69 (fu := fu) hP hg (M := (an1, nu1, ca1, ba1, pz w1, nc1, ne1, no1, qn f)) (J := J') (fl := qn f) (ru := ru + qn 1) (wr := wr) (sc := sch) (y := qn 1) (dr := dr) isB1 (gn g) fu 0 tl (by omega) (by omega)
    rcases h74 with ⟨o2, ho', k1, k2, k3, k4, k5, k6⟩ | ⟨ho', wi', k1, k2⟩
    · have eo : o2 = o := by
        by_cases c1 : o2 < o
        · exact absurd k4 (j4 o2 c1 k3)
        · by_cases c2 : o < o2
          · exact absurd j3 (k5 o (by omega) c2 j2)
          · omega
      subst eo
      refine ⟨an1, nu1, ca1, ba1, nc1, ne1, no1, J', tlf g (gn g) 0 tl, ho', ha1, io1, no1', at1, ev1, w1, qn 1, wr, qn o2, ?_, ?_, ha81, hn81, hw1, hh1, Or.inr ⟨rfl, o2, by omega, rfl, j2, j6⟩⟩
      · simp (disch := omega) only [↓reduceIte, q0, q1, q2, q3, q4, q5, q6, q7, q8, q14, q15, q16, q20, q31, q44, q50, q70, q1000, qn_le_t, qn_le_f, qn_lt_t, qn_lt_f, qn_eq_t, qn_eq_f, qn_add, qn_inb, qn_ix, qn_dec, qn_m1, ck_tt, bd_ss, ix, isB0, isB1, Nat.reduceAdd, Nat.reduceSub, Nat.reduceMul, Nat.zero_add, f_T_test, pM, j5, t_P_size hP, h69]
      · rw [k6]
        simp (disch := omega) only [↓reduceIte, q0, q1, q2, q3, q4, q5, q6, q7, q8, q14, q15, q16, q20, q31, q44, q50, q70, q1000, qn_le_t, qn_le_f, qn_lt_t, qn_lt_f, qn_eq_t, qn_eq_f, qn_add, qn_inb, qn_ix, qn_dec, qn_m1, ck_tt, bd_ss, ix, isB0, isB1, Nat.reduceAdd, Nat.reduceSub, Nat.reduceMul, Nat.zero_add, f_R_judged_L122, i32_add0]
    · exact absurd j3 (k1 o (by omega) j1 j2)
  · have h69 := t_T_L69 (fu := fu) hP hg (M := (an1, nu1, ca1, ba1, pz w1, nc1, ne1, no1, qn f)) (J := J') (fl := qn f) (ru := ru + qn 1) (wr := wr + qn 1) (sc := sch) (y := qn 0) (dr := dr) isB0 (gn g) fu 0 tl (by omega) (by omega)
    rcases h74 with ⟨o2, ho', k1, k2, k3, k4, k5, k6⟩ | ⟨ho', wi', k1, k2⟩
    · exact absurd k4 (j1 o2 k2 k3)
    · refine ⟨an1, nu1, ca1, ba1, nc1, ne1, no1, J', tlf g (gn g) 0 tl, ho', ha1, io1, no1', at1, ev1, w1, qn 0, wr + qn 1, wi', ?_, ?_, ha81, hn81, hw1, hh1, Or.inl rfl⟩
      · simp (disch := omega) only [↓reduceIte, q0, q1, q2, q3, q4, q5, q6, q7, q8, q14, q15, q16, q20, q31, q44, q50, q70, q1000, qn_le_t, qn_le_f, qn_lt_t, qn_lt_f, qn_eq_t, qn_eq_f, qn_add, qn_inb, qn_ix, qn_dec, qn_m1, ck_tt, bd_ss, ix, isB0, isB1, Nat.reduceAdd, Nat.reduceSub, Nat.reduceMul, Nat.zero_add, f_T_test, pM, j2, t_P_size hP, h69]
      · rw [k2]
        simp (disch := omega) only [↓reduceIte, q0, q1, q2, q3, q4, q5, q6, q7, q8, q14, q15, q16, q20, q31, q44, q50, q70, q1000, qn_le_t, qn_le_f, qn_lt_t, qn_lt_f, qn_eq_t, qn_eq_f, qn_add, qn_inb, qn_ix, qn_dec, qn_m1, ck_tt, bd_ss, ix, isB0, isB1, Nat.reduceAdd, Nat.reduceSub, Nat.reduceMul, Nat.zero_add, f_R_judged_L122]
/- a machine's state with a tester, and the reference's: the two agree -/
def agr (g : pg) (f : Nat) (T : S_T) (R : S_R) : Prop := ∃ (an nu ca ba nc ne no J tl ho op ha io no' at_ ev sz kd ce ar ks kp : Nat → Int32) (w : Nat → Nat) (y ru wr sc th wi ta fa : Int32) (dr gg : Int64), T = ((an, nu, ca, ba, pz w, nc, ne, no, qn f), J, tl, qn f, ru, wr, sc, y, dr) ∧ R = (th, sz, kd, ce, ar, ks, kp, qn f, gg, ho, op, ha, io, qn 1, y, an, nu, ca, ba, no', at_, ev, wi, ru, wr, ta, fa, tl) ∧ pgr (sz, kd, ce, ar) g ∧ a8 an ∧ a8 nu ∧ rdat g w J ha io y wi
theorem q2147 : (2147483647 : Int32) = qn 2147483647 := rfl
theorem t_first {fu : Nat} (hf : 20000 ≤ fu) {P : S_P} {g : pg} (hP : pgr P g) (hg : gok g) {f : Nat} (hfl : f < 16) {th ta : Int32} {sz kd ce ar ks kp op : Nat → Int32} (hR : pgr (sz, kd, ce, ar) g) {most : Nat} (hm : most ≤ 50) : ∀ (d n n' k : Nat) (an nu ca ba nc ne no J tl ho ha io no' at_ ev : Nat → Int32) (z f0 ru wr sc exC ra ex wi fa : Int32) (gg : Int64), d < n → d < n' → k + d = most → a8 an → a8 nu → (k = 0 ∨ ∃ w, z = pz w ∧ f0 = qn f ∧ ra = qn 1 ∧ exC = ex ∧ rdat g w J ha io ex wi) → 0 < most →
    ∃ (an1 nu1 ca1 ba1 nc1 ne1 no1 J1 tl1 ho1 ha1 io1 no1' at1 ev1 : Nat → Int32) (w1 : Nat → Nat) (y ru1 wr1 sc1 wi1 fa1 : Int32) (gg1 : Int64) (x : Int32), f_T_firstFailure_L11 fu P n ((an, nu, ca, ba, z, nc, ne, no, f0), J, tl, qn f, ru, wr, sc, exC, gg) (qn most) (qn k) = some (x, ((an1, nu1, ca1, ba1, pz w1, nc1, ne1, no1, qn f), J1, tl1, qn f, ru1, wr1, sc1, y, gg1)) ∧ f_R_failed_L8 fu n' (th, sz, kd, ce, ar, ks, kp, qn f, gg, ho, op, ha, io, ra, ex, an, nu, ca, ba, no', at_, ev, wi, ru, wr, ta, fa, tl) (qn most) (qn k) = some (x, (th, sz, kd, ce, ar, ks, kp, qn f, gg1, ho1, op, ha1, io1, qn 1, y, an1, nu1, ca1, ba1, no1', at1, ev1, wi1, ru1, wr1, ta, fa1, tl1)) ∧ a8 an1 ∧ a8 nu1 ∧ rdat g w1 J1 ha1 io1 y wi1 ∧ ((x = -qn 1 ∧ fa1 = fa) ∨ (∃ x', x' < 50 ∧ x = qn x') ∧ fa1 = sc1) := by
  intro d
  induction d with
  | zero =>
    intro n n' k an nu ca ba nc ne no J tl ho ha io no' at_ ev z f0 ru wr sc exC ra ex wi fa gg hn hn' hk ha8 hn8 hst h0
    obtain ⟨n, rfl⟩ : ∃ m, n = m + 1 := ⟨n - 1, by omega⟩
    obtain ⟨n', rfl⟩ : ∃ m, n' = m + 1 := ⟨n' - 1, by omega⟩
    rcases hst with h | ⟨w, rfl, rfl, rfl, rfl, hd⟩
    · omega
    · refine ⟨an, nu, ca, ba, nc, ne, no, J, tl, ho, ha, io, no', at_, ev, w, exC, ru, wr, sc, wi, fa, gg, -qn 1, ?_, ?_, ha8, hn8, hd, Or.inl ⟨rfl, rfl⟩⟩
      · simp (disch := omega) only [↓reduceIte, q0, q1, q2, q3, q4, q5, q6, q7, q8, q14, q15, q16, q20, q31, q44, q50, q70, q1000, qn_le_t, qn_le_f, qn_lt_t, qn_lt_f, qn_eq_t, qn_eq_f, qn_add, qn_inb, qn_ix, qn_dec, qn_m1, ck_tt, bd_ss, ix, isB0, isB1, Nat.reduceAdd, Nat.reduceSub, Nat.reduceMul, Nat.zero_add, f_T_firstFailure_L11]
      · simp (disch := omega) only [↓reduceIte, q0, q1, q2, q3, q4, q5, q6, q7, q8, q14, q15, q16, q20, q31, q44, q50, q70, q1000, qn_le_t, qn_le_f, qn_lt_t, qn_lt_f, qn_eq_t, qn_eq_f, qn_add, qn_inb, qn_ix, qn_dec, qn_m1, ck_tt, bd_ss, ix, isB0, isB1, Nat.reduceAdd, Nat.reduceSub, Nat.reduceMul, Nat.zero_add, f_R_failed_L8]
  | succ d ih =>
    intro n n' k an nu ca ba nc ne no J tl ho ha io no' at_ ev z f0 ru wr sc exC ra ex wi fa gg hn hn' hk ha8 hn8 hst h0
    obtain ⟨n, rfl⟩ : ∃ m, n = m + 1 := ⟨n - 1, by omega⟩
    obtain ⟨n', rfl⟩ : ∃ m, n' = m + 1 := ⟨n' - 1, by omega⟩
    have db := t_D_below (fu := fu) gg (b := 2147483647) (by omega) (by omega)
    have dd := t_R_drawn (fu := fu) (th := th) (fl := qn f) (sz := sz) (kd := kd) (ce := ce) (ar := ar) (ks := ks) (kp := kp) (ho := ho) (D := gg) (r := (op, ha, io, ra, ex, an, nu, ca, ba, no', at_, ev, wi, ru, wr, ta, fa, tl)) (b := 2147483647) (by omega) (by omega)
    generalize qn (hx33 (lcg LA LC gg) % 2147483647) = sch at db dd
    generalize lcg LA LC gg = gg1 at db dd
    obtain ⟨an1, nu1, ca1, ba1, nc1, ne1, no1, J1, tl1, ho1, ha1, io1, no1', at1, ev1, w1, y, wr1, wi1, eT, eR, ha81, hn81, hd1⟩ := t_test hf hP hg hfl (ca := ca) (ba := ba) (nc := nc) (ne := ne) (no := no) (J := J) (tl := tl) (z := z) (f0 := f0) (ru := ru) (wr := wr) (sc := sc) (exC := exC) (sch := sch) (dr := gg1) (th := th) (ra := ra) (ex := ex) (wi := wi) (ta := ta) (fa := fa) (ks := ks) (kp := kp) (ho := ho) (op := op) (ha := ha) (io := io) (no' := no') (at_ := at_) (ev := ev) (gg := gg1) hR ha8 hn8
    rcases hd1.2.2 with hy | ⟨hy, hy2⟩
    · subst hy
      refine ⟨an1, nu1, ca1, ba1, nc1, ne1, no1, J1, tl1, ho1, ha1, io1, no1', at1, ev1, w1, qn 0, ru + qn 1, wr1, sch, wi1, sch, gg1, qn k, ?_, ?_, ha81, hn81, hd1, Or.inr ⟨⟨k, by omega, rfl⟩, rfl⟩⟩
      · simp (disch := omega) only [↓reduceIte, q0, q1, q2, q3, q4, q5, q6, q7, q8, q14, q15, q16, q20, q31, q44, q50, q70, q1000, qn_le_t, qn_le_f, qn_lt_t, qn_lt_f, qn_eq_t, qn_eq_f, qn_add, qn_inb, qn_ix, qn_dec, qn_m1, ck_tt, bd_ss, ix, isB0, isB1, Nat.reduceAdd, Nat.reduceSub, Nat.reduceMul, Nat.zero_add, f_T_firstFailure_L11, q2147, db, eT]
      · simp (disch := omega) only [↓reduceIte, q0, q1, q2, q3, q4, q5, q6, q7, q8, q14, q15, q16, q20, q31, q44, q50, q70, q1000, qn_le_t, qn_le_f, qn_lt_t, qn_lt_f, qn_eq_t, qn_eq_f, qn_add, qn_inb, qn_ix, qn_dec, qn_m1, ck_tt, bd_ss, ix, isB0, isB1, Nat.reduceAdd, Nat.reduceSub, Nat.reduceMul, Nat.zero_add, f_R_failed_L8, q2147, dd, eR]
    · subst hy
      obtain ⟨an2, nu2, ca2, ba2, nc2, ne2, no2, J2, tl2, ho2, ha2, io2, no2', at2, ev2, w2, y2, ru2, wr2, sc2, wi2, fa2, gg2, x, iT, iR, i1, i2, i3, i4⟩ := ih n n' (k + 1) an1 nu1 ca1 ba1 nc1 ne1 no1 J1 tl1 ho1 ha1 io1 no1' at1 ev1 (pz w1) (qn f) (ru + qn 1) wr1 sch (qn 1) (qn 1) (qn 1) wi1 fa gg1 (by omega) (by omega) (by omega) ha81 hn81 (Or.inr ⟨w1, rfl, rfl, rfl, rfl, hd1⟩) h0
      refine ⟨an2, nu2, ca2, ba2, nc2, ne2, no2, J2, tl2, ho2, ha2, io2, no2', at2, ev2, w2, y2, ru2, wr2, sc2, wi2, fa2, gg2, x, ?_, ?_, i1, i2, i3, i4⟩
      · simp (disch := omega) only [↓reduceIte, q0, q1, q2, q3, q4, q5, q6, q7, q8, q14, q15, q16, q20, q31, q44, q50, q70, q1000, qn_le_t, qn_le_f, qn_lt_t, qn_lt_f, qn_eq_t, qn_eq_f, qn_add, qn_inb, qn_ix, qn_dec, qn_m1, ck_tt, bd_ss, ix, isB0, isB1, Nat.reduceAdd, Nat.reduceSub, Nat.reduceMul, Nat.zero_add, f_T_firstFailure_L11, q2147, db, eT]
        exact iT
      · simp (disch := omega) only [↓reduceIte, q0, q1, q2, q3, q4, q5, q6, q7, q8, q14, q15, q16, q20, q31, q44, q50, q70, q1000, qn_le_t, qn_le_f, qn_lt_t, qn_lt_f, qn_eq_t, qn_eq_f, qn_add, qn_inb, qn_ix, qn_dec, qn_m1, ck_tt, bd_ss, ix, isB0, isB1, Nat.reduceAdd, Nat.reduceSub, Nat.reduceMul, Nat.zero_add, f_R_failed_L8, q2147, dd, eR]
        exact iR
