def tlf (g : pg) : Nat → Nat → (Nat → Int32) → (Nat → Int32)
  | 0, _, t => t
  | d + 1, i, t => tlf g d (i + 1) (upd t (gk g i) (t (gk g i) + qn 1))
section JD
variable {fu : Nat} {th ra fl ru wr ta fa : Int32} {sz kd ce ar ks kp op ha io an nu ca ba no at_ ev tl : Nat → Int32} {gg : Int64} {g : pg} {nv av C D : Nat → Nat}
theorem t_R_jd_L74 (hf : 20000 ≤ fu) (hR : pgr (sz, kd, ce, ar) g) (hg : gok g) (hn : ∀ i, i < 14 → nv i < 8 ∧ nu i = qn (nv i)) (ha' : ∀ i, i < 14 → av i < 8 ∧ an i = qn (av i)) (hcd : ∀ i, inBr g i → (ca i = qn (C i) ∧ C i < 70) ∧ (ba i = qn (D i) ∧ D i < 70)) : ∀ (d n i : Nat) (ho : Nat → Int32) (wi : Int32), d < n → i + d = 2 ^ (ga g + gb g) → (∃ o ho', i ≤ o ∧ o < 2 ^ (ga g + gb g) ∧ ocn (ga g + gb g) o = gb g ∧ gex g nv av C D o ∧ (∀ o', i ≤ o' → o' < o → ocn (ga g + gb g) o' = gb g → ¬ gex g nv av C D o') ∧ f_R_judged_L74 fu n (th, sz, kd, ce, ar, ks, kp, fl, gg, ho, op, ha, io, ra, qn 0, an, nu, ca, ba, no, at_, ev, wi, ru, wr, ta, fa, tl) (qn (2 ^ (ga g + gb g))) (qn i) = f_R_judged_L122 fu (th, sz, kd, ce, ar, ks, kp, fl, gg, ho', op, ha, io, ra, qn 1, an, nu, ca, ba, no, at_, ev, qn o, ru, wr, ta, fa, tl)) ∨ (∃ ho' wi', (∀ o, i ≤ o → o < 2 ^ (ga g + gb g) → ocn (ga g + gb g) o = gb g → ¬ gex g nv av C D o) ∧ f_R_judged_L74 fu n (th, sz, kd, ce, ar, ks, kp, fl, gg, ho, op, ha, io, ra, qn 0, an, nu, ca, ba, no, at_, ev, wi, ru, wr, ta, fa, tl) (qn (2 ^ (ga g + gb g))) (qn i) = f_R_judged_L122 fu (th, sz, kd, ce, ar, ks, kp, fl, gg, ho', op, ha, io, ra, qn 0, an, nu, ca, ba, no, at_, ev, wi', ru, wr, ta, fa, tl)) := by
  have ha4 := hg.2.1; have hb4 := hg.2.2.1
  have hp : 2 ^ (ga g + gb g) ≤ 2 ^ 8 := Nat.pow_le_pow_right (by omega) (by omega)
  have hp' : 2 ^ (ga g + gb g) ≤ 256 := hp
  generalize hM : 2 ^ (ga g + gb g) = N at *
  intro d
  induction d with
  | zero =>
    intro n i ho wi hn' hi
    obtain ⟨n, rfl⟩ : ∃ m, n = m + 1 := ⟨n - 1, by omega⟩
    right
    refine ⟨ho, wi, fun o h1 h2 => by omega, ?_⟩
    simp (disch := omega) only [↓reduceIte, q0, q1, q2, q3, q4, q5, q6, q7, q8, q14, q15, q16, q20, q31, q44, q50, q70, q1000, qn_le_t, qn_le_f, qn_lt_t, qn_lt_f, qn_eq_t, qn_eq_f, qn_add, qn_inb, qn_ix, qn_dec, qn_m1, ck_tt, bd_ss, ix, isB0, isB1, Nat.reduceAdd, Nat.reduceSub, Nat.reduceMul, Nat.zero_add, f_R_judged_L74]
  | succ d ih =>
    intro n i ho wi hn' hi
    obtain ⟨n, rfl⟩ : ∃ m, n = m + 1 := ⟨n - 1, by omega⟩
    have isO := t_R_isOrder hf (th := th) (r := (ks, kp, fl, gg, ho, op, ha, io, ra, qn 0, an, nu, ca, ba, no, at_, ev, wi, ru, wr, ta, fa, tl)) hR hg (m := ga g + gb g) (o := i) (by omega) (by omega)
    have cont : ∀ ho1 : Nat → Int32, ¬ (ocn (ga g + gb g) i = gb g ∧ gex g nv av C D i) → f_R_judged_L74 fu (n + 1) (th, sz, kd, ce, ar, ks, kp, fl, gg, ho, op, ha, io, ra, qn 0, an, nu, ca, ba, no, at_, ev, wi, ru, wr, ta, fa, tl) (qn N) (qn i) = f_R_judged_L74 fu n (th, sz, kd, ce, ar, ks, kp, fl, gg, ho1, op, ha, io, ra, qn 0, an, nu, ca, ba, no, at_, ev, qn i, ru, wr, ta, fa, tl) (qn N) (qn (i + 1)) → (∃ o ho', i ≤ o ∧ o < N ∧ ocn (ga g + gb g) o = gb g ∧ gex g nv av C D o ∧ (∀ o', i ≤ o' → o' < o → ocn (ga g + gb g) o' = gb g → ¬ gex g nv av C D o') ∧ f_R_judged_L74 fu (n + 1) (th, sz, kd, ce, ar, ks, kp, fl, gg, ho, op, ha, io, ra, qn 0, an, nu, ca, ba, no, at_, ev, wi, ru, wr, ta, fa, tl) (qn N) (qn i) = f_R_judged_L122 fu (th, sz, kd, ce, ar, ks, kp, fl, gg, ho', op, ha, io, ra, qn 1, an, nu, ca, ba, no, at_, ev, qn o, ru, wr, ta, fa, tl)) ∨ (∃ ho' wi', (∀ o, i ≤ o → o < N → ocn (ga g + gb g) o = gb g → ¬ gex g nv av C D o) ∧ f_R_judged_L74 fu (n + 1) (th, sz, kd, ce, ar, ks, kp, fl, gg, ho, op, ha, io, ra, qn 0, an, nu, ca, ba, no, at_, ev, wi, ru, wr, ta, fa, tl) (qn N) (qn i) = f_R_judged_L122 fu (th, sz, kd, ce, ar, ks, kp, fl, gg, ho', op, ha, io, ra, qn 0, an, nu, ca, ba, no, at_, ev, wi', ru, wr, ta, fa, tl)) := by
      intro ho1 hno hst
      rw [hst]
      rcases ih n (i + 1) ho1 (qn i) (by omega) (by omega) with ⟨o, ho', h1, h2, h3, h4, h5, h6⟩ | ⟨ho', wi', h1, h2⟩
      · left
        refine ⟨o, ho', by omega, h2, h3, h4, ?_, h6⟩
        intro o' h7 h8 h9 h10
        by_cases e : o' = i
        · subst e; exact hno ⟨h9, h10⟩
        · exact h5 o' (by omega) h8 h9 h10
      · right
        refine ⟨ho', wi', ?_, h2⟩
        intro o h7 h8 h9 h10
        by_cases e : o = i
        · subst e; exact hno ⟨h9, h10⟩
        · exact h1 o (by omega) h8 h9 h10
    by_cases hor' : ocn (ga g + gb g) i = gb g
    · obtain ⟨ho1, f1, f0⟩ := t_R_explains (th := th) (ra := ra) (ex := qn 0) (fl := fl) (ks := ks) (kp := kp) (op := op) (ha := ha) (io := io) (no := no) (at_ := at_) (ev := ev) (gg := gg) (r := (wi, ru, wr, ta, fa, tl)) hf hR hg hn ha' hcd (oo := i) (by omega) hor' ho
      by_cases hx : gex g nv av C D i
      · obtain ⟨n, rfl⟩ : ∃ m, n = m + 1 := ⟨n - 1, by omega⟩
        left
        refine ⟨i, ho1, Nat.le_refl _, by omega, hor', hx, fun o' h1 h2 => by omega, ?_⟩
        have st1 : f_R_judged_L74 fu (n + 1 + 1) (th, sz, kd, ce, ar, ks, kp, fl, gg, ho, op, ha, io, ra, qn 0, an, nu, ca, ba, no, at_, ev, wi, ru, wr, ta, fa, tl) (qn N) (qn i) = f_R_judged_L74 fu (n + 1) (th, sz, kd, ce, ar, ks, kp, fl, gg, ho1, op, ha, io, ra, qn 1, an, nu, ca, ba, no, at_, ev, qn i, ru, wr, ta, fa, tl) (qn N) (qn (i + 1)) := by
          generalize n + 1 = n'
          simp (disch := omega) only [↓reduceIte, q0, q1, q2, q3, q4, q5, q6, q7, q8, q14, q15, q16, q20, q31, q44, q50, q70, q1000, qn_le_t, qn_le_f, qn_lt_t, qn_lt_f, qn_eq_t, qn_eq_f, qn_add, qn_inb, qn_ix, qn_dec, qn_m1, ck_tt, bd_ss, ix, isB0, isB1, Nat.reduceAdd, Nat.reduceSub, Nat.reduceMul, Nat.zero_add, f_R_judged_L74, isO.1 hor', f1 hx]
        rw [st1]
        by_cases hz : N ≤ i + 1
        · simp (disch := omega) only [↓reduceIte, q0, q1, q2, q3, q4, q5, q6, q7, q8, q14, q15, q16, q20, q31, q44, q50, q70, q1000, qn_le_t, qn_le_f, qn_lt_t, qn_lt_f, qn_eq_t, qn_eq_f, qn_add, qn_inb, qn_ix, qn_dec, qn_m1, ck_tt, bd_ss, ix, isB0, isB1, Nat.reduceAdd, Nat.reduceSub, Nat.reduceMul, Nat.zero_add, f_R_judged_L74]
        · simp (disch := omega) only [↓reduceIte, q0, q1, q2, q3, q4, q5, q6, q7, q8, q14, q15, q16, q20, q31, q44, q50, q70, q1000, qn_le_t, qn_le_f, qn_lt_t, qn_lt_f, qn_eq_t, qn_eq_f, qn_add, qn_inb, qn_ix, qn_dec, qn_m1, ck_tt, bd_ss, ix, isB0, isB1, Nat.reduceAdd, Nat.reduceSub, Nat.reduceMul, Nat.zero_add, f_R_judged_L74]
      · refine cont ho1 (fun h => hx h.2) ?_
        simp (disch := omega) only [↓reduceIte, q0, q1, q2, q3, q4, q5, q6, q7, q8, q14, q15, q16, q20, q31, q44, q50, q70, q1000, qn_le_t, qn_le_f, qn_lt_t, qn_lt_f, qn_eq_t, qn_eq_f, qn_add, qn_inb, qn_ix, qn_dec, qn_m1, ck_tt, bd_ss, ix, isB0, isB1, Nat.reduceAdd, Nat.reduceSub, Nat.reduceMul, Nat.zero_add, f_R_judged_L74, isO.1 hor', f0 hx]
    · refine cont ho (fun h => hor' h.1) ?_
      simp (disch := omega) only [↓reduceIte, q0, q1, q2, q3, q4, q5, q6, q7, q8, q14, q15, q16, q20, q31, q44, q50, q70, q1000, qn_le_t, qn_le_f, qn_lt_t, qn_lt_f, qn_eq_t, qn_eq_f, qn_add, qn_inb, qn_ix, qn_dec, qn_m1, ck_tt, bd_ss, ix, isB0, isB1, Nat.reduceAdd, Nat.reduceSub, Nat.reduceMul, Nat.zero_add, f_R_judged_L74, isO.2 hor']
theorem t_R_jd_L22 (hR : pgr (sz, kd, ce, ar) g) (hg : gok g) (ex wi : Int32) (ho : Nat → Int32) : ∀ (d n i : Nat) (tl : Nat → Int32), d < n → i + d = gn g → f_R_judged_L22 fu n (th, sz, kd, ce, ar, ks, kp, fl, gg, ho, op, ha, io, ra, ex, an, nu, ca, ba, no, at_, ev, wi, ru, wr, ta, fa, tl) (qn i) = f_R_judged_L51 fu (th, sz, kd, ce, ar, ks, kp, fl, gg, ho, op, ha, io, ra, ex, an, nu, ca, ba, no, at_, ev, wi, ru, wr, ta, fa, tlf g d i tl) := by
  have h14 := hg.n14
  intro d
  induction d with
  | zero =>
    intro n i tl hn' hi
    obtain ⟨n, rfl⟩ : ∃ m, n = m + 1 := ⟨n - 1, by omega⟩
    simp (disch := omega) only [↓reduceIte, q0, q1, q2, q3, q4, q5, q6, q7, q8, q14, q15, q16, q20, q31, q44, q50, q70, q1000, qn_le_t, qn_le_f, qn_lt_t, qn_lt_f, qn_eq_t, qn_eq_f, qn_add, qn_inb, qn_ix, qn_dec, qn_m1, ck_tt, bd_ss, ix, isB0, isB1, Nat.reduceAdd, Nat.reduceSub, Nat.reduceMul, Nat.zero_add, f_R_judged_L22, t_R_many hR]
    rfl
  | succ d ih =>
    intro n i tl hn' hi
    obtain ⟨n, rfl⟩ : ∃ m, n = m + 1 := ⟨n - 1, by omega⟩
    have q : kd i = qn (gk g i) := (hR.2.2.2 i (by omega)).1
    have hk := (hg.2.2.2 i (by omega)).1
    have h1 := ih n (i + 1) (upd tl (gk g i) (tl (gk g i) + qn 1)) (by omega) (by omega)
    simp (disch := omega) only [↓reduceIte, q0, q1, q2, q3, q4, q5, q6, q7, q8, q14, q15, q16, q20, q31, q44, q50, q70, q1000, qn_le_t, qn_le_f, qn_lt_t, qn_lt_f, qn_eq_t, qn_eq_f, qn_add, qn_inb, qn_ix, qn_dec, qn_m1, ck_tt, bd_ss, ix, isB0, isB1, Nat.reduceAdd, Nat.reduceSub, Nat.reduceMul, Nat.zero_add, f_R_judged_L22, t_R_many hR, q]
    exact h1
end JD
theorem t_T_L69 {fu : Nat} {P : S_P} {g : pg} (hP : pgr P g) (hg : gok g) {M : S_M} {J : S_J} {fl ru wr sc y : Int32} {dr : Int64} (hy : isB y = true) : ∀ (d n i : Nat) (tl : Nat → Int32), d < n → i + d = gn g → f_T_test_L69 fu P n (M, J, tl, fl, ru, wr, sc, y, dr) (qn (gn g)) (qn i) = some (y, (M, J, tlf g d i tl, fl, ru, wr, sc, y, dr)) := by
  have h14 := hg.n14
  intro d
  induction d with
  | zero =>
    intro n i tl hn' hi
    obtain ⟨n, rfl⟩ : ∃ m, n = m + 1 := ⟨n - 1, by omega⟩
    simp (disch := omega) only [↓reduceIte, q0, q1, q2, q3, q4, q5, q6, q7, q8, q14, q15, q16, q20, q31, q44, q50, q70, q1000, qn_le_t, qn_le_f, qn_lt_t, qn_lt_f, qn_eq_t, qn_eq_f, qn_add, qn_inb, qn_ix, qn_dec, qn_m1, ck_tt, bd_ss, ix, isB0, isB1, Nat.reduceAdd, Nat.reduceSub, Nat.reduceMul, Nat.zero_add, f_T_test_L69, hy]
    rfl
  | succ d ih =>
    intro n i tl hn' hi
    obtain ⟨n, rfl⟩ : ∃ m, n = m + 1 := ⟨n - 1, by omega⟩
    have q : P.2.1 i = qn (gk g i) := (hP.2.2.2 i (by omega)).1
    have hk := (hg.2.2.2 i (by omega)).1
    have h1 := ih n (i + 1) (upd tl (gk g i) (tl (gk g i) + qn 1)) (by omega) (by omega)
    simp (disch := omega) only [↓reduceIte, q0, q1, q2, q3, q4, q5, q6, q7, q8, q14, q15, q16, q20, q31, q44, q50, q70, q1000, qn_le_t, qn_le_f, qn_lt_t, qn_lt_f, qn_eq_t, qn_eq_f, qn_add, qn_inb, qn_ix, qn_dec, qn_m1, ck_tt, bd_ss, ix, isB0, isB1, Nat.reduceAdd, Nat.reduceSub, Nat.reduceMul, Nat.zero_add, f_T_test_L69, q]
    exact h1
theorem a8_fn {an : Nat → Int32} (h : a8 an) : ∀ i, i < 14 → (fun i => (an i).toNatClampNeg) i < 8 ∧ an i = qn ((fun i => (an i).toNatClampNeg) i) := by
  intro i hi
  obtain ⟨x, h1, h2⟩ := h i hi
  dsimp only
  rw [h2, qn_ix (by omega)]
  exact ⟨h1, rfl⟩
theorem t_judge {fu : Nat} (hf : 20000 ≤ fu) {P : S_P} {g : pg} (hP : pgr P g) (hg : gok g) {an nu ca ba : Nat → Int32} {mr : Int32 × (Nat → Int32) × (Nat → Int32) × (Nat → Int32) × Int32} {nv av C D : Nat → Nat} (hn : ∀ i, i < 14 → nv i < 8 ∧ nu i = qn (nv i)) (ha' : ∀ i, i < 14 → av i < 8 ∧ an i = qn (av i)) (hcd : ∀ i, inBr g i → (ca i = qn (C i) ∧ C i < 70) ∧ (ba i = qn (D i) ∧ D i < 70)) (m1 : ∀ i j, inBr g i → inBr g j → gbr g i = gbr g j → i ≤ j → C i < D j) (m2 : ∀ i j, inBr g i → inBr g j → gbr g i ≠ gbr g j → C i ≠ D j) (m3 : ∀ i j, inBr g i → inBr g j → gbr g i = gbr g j → i < j → D i < D j) (J : S_J) : (∃ o J', o < 2 ^ (ga g + gb g) ∧ ocn (ga g + gb g) o = gb g ∧ gex g nv av C D o ∧ (∀ o', o' < o → ocn (ga g + gb g) o' = gb g → ¬ gex g nv av C D o') ∧ f_J_explains fu J P (an, nu, ca, ba, mr) = some (qn 1, J') ∧ ∀ x, x < ga g + gb g → J' x = qn (opl g o x)) ∨ (∃ J', (∀ o, o < 2 ^ (ga g + gb g) → ocn (ga g + gb g) o = gb g → ¬ gex g nv av C D o) ∧ f_J_explains fu J P (an, nu, ca, ba, mr) = some (qn 0, J')) := by
  have h14 := hg.n14
  have hgd := gn_def g
  have ha4 := hg.2.1; have hb4 := hg.2.2.1
  have e6 : gst g 0 + gsz g 0 = gp g := Nat.zero_add _
  have e7 : gst g 1 = gp g := rfl
  have e8 : gst g 2 = gp g + ga g := rfl
  have st : f_J_explains fu J P (an, nu, ca, ba, mr) = f_J_explains_L12 fu P (an, nu, ca, ba, mr) fu J (pz (fun _ => 0)) (qn (gp g)) (qn 0) := by
    rw [← pz0]
    simp (disch := omega) only [↓reduceIte, q0, q1, q2, q3, q4, q5, q6, q7, q8, q14, q15, q16, q20, q31, q44, q50, q70, q1000, qn_le_t, qn_le_f, qn_lt_t, qn_lt_f, qn_eq_t, qn_eq_f, qn_add, qn_inb, qn_ix, qn_dec, qn_m1, ck_tt, bd_ss, ix, isB0, isB1, Nat.reduceAdd, Nat.reduceSub, Nat.reduceMul, Nat.zero_add, f_J_explains, t_P_end hP, e6]
  have hpre := t_J_pre (fu := fu) (ca := ca) (ba := ba) (mr := mr) hP hg hn ha' J (gp g) fu 0 (fun _ => 0) (by omega) (by omega) ⟨by decide, by decide, by decide⟩
  have eqv : ∀ o, ocn (ga g + gb g) o = gb g → (gex g nv av C D o ↔ pok g nv av (gp g) 0 (fun _ => 0) ∧ pe g nv av C D (obs (ga g + gb g) o) (ga g) (gb g) (gp g) (gp g + ga g) (pnx g nv (gp g) 0 (fun _ => 0))) := by
    intro o ho
    have h := prr_pe (g := g) (nv := nv) (av := av) (C := C) (D := D) (m := ga g + gb g) (o := o) rfl rfl rfl ho m1 m2 m3 (ga g + gb g) 0 (pnx g nv (gp g) 0 (fun _ => 0)) (by omega)
    unfold gex
    rw [h]
    exact Iff.rfl
  rw [st]
  by_cases hpo : pok g nv av (gp g) 0 (fun _ => 0)
  · obtain ⟨s1, s2⟩ := hpre.1 hpo
    rw [s1]
    rcases t_search (fu := fu) (mr := mr) hP hg hn ha' hcd (ga g + gb g) 10 (ga g) (gb g) (gp g) (gp g + ga g) 0 J _ rfl (by omega) (by omega) rfl rfl (Nat.le_refl _) (Nat.le_refl _) s2 with ⟨o, J', h1, h2, h3, h4, h5, h6, h7⟩ | ⟨J', h1, h2, h3⟩
    · left
      refine ⟨o, J', h1, h2, (eqv o h2).2 ⟨hpo, h3⟩, fun o' h8 h9 h10 => h4 o' h8 h9 ((eqv o' h9).1 h10).2, ?_, ?_⟩
      · simp (disch := omega) only [↓reduceIte, q0, q1, q2, q3, q4, q5, q6, q7, q8, q14, q15, q16, q20, q31, q44, q50, q70, q1000, qn_le_t, qn_le_f, qn_lt_t, qn_lt_f, qn_eq_t, qn_eq_f, qn_add, qn_inb, qn_ix, qn_dec, qn_m1, ck_tt, bd_ss, ix, isB0, isB1, Nat.reduceAdd, Nat.reduceSub, Nat.reduceMul, Nat.zero_add, f_J_explains_L47, t_P_start hP, e7, e8, h5]
      · intro x hx
        have := h7 x hx
        rw [Nat.zero_add] at this
        exact this
    · right
      refine ⟨J', fun o h4 h5 h6 => h1 o h4 h5 ((eqv o h5).1 h6).2, ?_⟩
      simp (disch := omega) only [↓reduceIte, q0, q1, q2, q3, q4, q5, q6, q7, q8, q14, q15, q16, q20, q31, q44, q50, q70, q1000, qn_le_t, qn_le_f, qn_lt_t, qn_lt_f, qn_eq_t, qn_eq_f, qn_add, qn_inb, qn_ix, qn_dec, qn_m1, ck_tt, bd_ss, ix, isB0, isB1, Nat.reduceAdd, Nat.reduceSub, Nat.reduceMul, Nat.zero_add, f_J_explains_L47, t_P_start hP, e7, e8, h2]
  · right
    exact ⟨J, fun o h1 h2 h3 => hpo h3.1, hpre.2 hpo⟩
