section PH2
variable {fu f : Nat} {th ta fa : Int32} {g : pg} {seed : Int64} {most : Nat} {P : S_P} {dw : Int64} {tac cur failing : Int32} {s : Nat}
theorem phB (hf : 20000 ≤ fu) (hfl : f < 16) (hm : most ≤ 50) (h0 : 0 < most) (hP : pgr P g) (hg : gok g) (hs : s < 1000) : ∀ (d b n nR : Nat) (Q : S_P) (T : S_T) (R : S_R), b + d = 3 → 1 ≤ b → d < nR → 45 ≤ n + (13 + b) → lnk f th ta fa g g T R → smo fu f seed most th ta fa g dw tac cur P failing s (13 + b) n (f_H_shrink_L68 fu n (P, Q, T, dw, tac, cur) seed (qn most) failing (qn s) (qn (13 + b))) (f_R_smaller_L47 fu nR R seed (qn most) (qn b)) := by
  have h14 := hg.n14
  have h6 := hg.1
  intro d
  induction d with
  | zero =>
    intro b n nR Q T R hb hb1 hnR hn hl
    have : b = 3 := by omega
    subst this
    obtain ⟨nR, rfl⟩ : ∃ m, nR = m + 1 := ⟨nR - 1, by omega⟩
    have hC := (phC (seed := seed) (dw := dw) (tac := tac) (cur := cur) (failing := failing) hf hfl hm h0 hP hg hs 14 0 n fu Q T R (by omega) (by omega) (by omega) hl).1 (by omega)
    refine smo_up hC (by omega) rfl ?_
    simp (disch := omega) only [↓reduceIte, q0, q1, q2, q3, q4, q5, q6, q7, q8, q14, q15, q16, q20, q31, q44, q50, q70, q1000, qn_le_t, qn_le_f, qn_lt_t, qn_lt_f, qn_eq_t, qn_eq_f, qn_add, qn_inb, qn_ix, qn_dec, qn_m1, ck_tt, bd_ss, ix, isB0, isB1, Nat.reduceAdd, Nat.reduceSub, Nat.reduceMul, Nat.zero_add, f_R_smaller_L47]
  | succ d ih =>
    intro b n nR Q T R hb hb1 hnR hn hl
    have hb12 : b = 1 ∨ b = 2 := by omega
    obtain ⟨nR, rfl⟩ : ∃ m, nR = m + 1 := ⟨nR - 1, by omega⟩
    obtain ⟨n, rfl⟩ : ∃ m, n = m + 1 := ⟨n - 1, by omega⟩
    have pp := prep_prom (fu := fu) (Q := Q) (T := T) (dw := dw) (tac := tac) (cur := cur) hf hP hg hb12
    have hgl := gsz_lt hg b
    obtain ⟨an, nu, ca, ba, nc, ne, no, J, tl, sz, kd, ce, ar, ks, kp, ho, op, ha, io, no', at_, ev, z, f0, ru, wr, sc, exC, ra, ex, wi, dr, gg, eT, eR, y1, y2, y3, y4⟩ := hl
    have hl : lnk f th ta fa g g T R := ⟨an, nu, ca, ba, nc, ne, no, J, tl, sz, kd, ce, ar, ks, kp, ho, op, ha, io, no', at_, ev, z, f0, ru, wr, sc, exC, ra, ex, wi, dr, gg, eT, eR, y1, y2, y3, y4⟩
    have hszb : sz b = qn (gsz g b) := y3.sz (by omega)
    have hsz0 : sz 0 = qn (gp g) := y3.1
    by_cases hc : 0 < gsz g b ∧ gp g < 6
    · obtain ⟨Q1, e1, r1⟩ := pp.2 hc
      have hg1 := gprom_ok hg hb12 hc.1 hc.2
      obtain ⟨sz', kd', ce', ar', e2, r2⟩ := t_R_raise hf (th := th) (r := (ks, kp, qn f, gg, ho, op, ha, io, ra, ex, an, nu, ca, ba, no', at_, ev, wi, ru, wr, ta, fa, tl)) y3 hg hb12 hc.1 hc.2
      have hl1 : lnk f th ta fa (gprom g b) g T (th, sz', kd', ce', ar', ks, kp, qn f, gg, ho, op, ha, io, ra, ex, an, nu, ca, ba, no', at_, ev, wi, ru, wr, ta, fa, tl) := ⟨an, nu, ca, ba, nc, ne, no, J, tl, sz', kd', ce', ar', ks, kp, ho, op, ha, io, no', at_, ev, z, f0, ru, wr, sc, exC, ra, ex, wi, dr, gg, eT, rfl, y1, y2, r2, y4⟩
      have hc1 := hc.1; have hc2 := hc.2
      have stR : ∀ x R2, f_R_takes fu (th, sz', kd', ce', ar', ks, kp, qn f, gg, ho, op, ha, io, ra, ex, an, nu, ca, ba, no', at_, ev, wi, ru, wr, ta, fa, tl) (qn 1) seed (qn most) = some (x, R2) → (x = qn 0 → f_R_smaller_L47 fu (nR + 1) R seed (qn most) (qn b) = f_R_smaller_L47 fu nR R2 seed (qn most) (qn (b + 1))) ∧ (x = qn 1 → f_R_smaller_L47 fu (nR + 1) R seed (qn most) (qn b) = some (qn 1, R2)) := by
        intro x R2 he
        subst eR
        refine ⟨fun hx => ?_, fun hx => ?_⟩
        · subst hx
          simp (disch := omega) only [↓reduceIte, q0, q1, q2, q3, q4, q5, q6, q7, q8, q14, q15, q16, q20, q31, q44, q50, q70, q1000, qn_le_t, qn_le_f, qn_lt_t, qn_lt_f, qn_eq_t, qn_eq_f, qn_add, qn_inb, qn_ix, qn_dec, qn_m1, ck_tt, bd_ss, ix, isB0, isB1, Nat.reduceAdd, Nat.reduceSub, Nat.reduceMul, Nat.zero_add, f_R_smaller_L47, hszb, hsz0, e2, he]
        · subst hx
          simp (disch := omega) only [↓reduceIte, q0, q1, q2, q3, q4, q5, q6, q7, q8, q14, q15, q16, q20, q31, q44, q50, q70, q1000, qn_le_t, qn_le_f, qn_lt_t, qn_lt_f, qn_eq_t, qn_eq_f, qn_add, qn_inb, qn_ix, qn_dec, qn_m1, ck_tt, bd_ss, ix, isB0, isB1, Nat.reduceAdd, Nat.reduceSub, Nat.reduceMul, Nat.zero_add, f_R_smaller_L47, hszb, hsz0, e2, he]
      rcases cand1 (seed := seed) hf hfl hm h0 hg hg1 r1 hl1 (failing := failing) (s := s) (k := 13 + b) (n := n) (by omega) hs e1 with ⟨T', R', c1, c2, c3⟩ | ⟨P', T', R', c1, c2, c3, c4⟩
      · have ih1 := ih (b + 1) n nR Q1 T' R' (by omega) (by omega) (by omega) (by omega) c3
        exact smo_up ih1 (by omega) c1 ((stR _ _ c2).1 rfl)
      · exact Or.inl ⟨n, gprom g b, P', Q1, T', R', by omega, hg1, mes_prom hb12 hc.1, c2, c1, (stR _ _ c3).2 rfl, c4⟩
    · obtain ⟨Q1, e1⟩ := pp.1 hc
      have c1 := cand0 (n := n) (seed := seed) (most := qn most) (failing := failing) (s := s) (by omega) hs e1
      have ih1 := ih (b + 1) n nR Q1 T R (by omega) (by omega) (by omega) (by omega) hl
      refine smo_up ih1 (by omega) c1 ?_
      subst eR
      by_cases hz : gsz g b = 0
      · simp (disch := omega) only [↓reduceIte, q0, q1, q2, q3, q4, q5, q6, q7, q8, q14, q15, q16, q20, q31, q44, q50, q70, q1000, qn_le_t, qn_le_f, qn_lt_t, qn_lt_f, qn_eq_t, qn_eq_f, qn_add, qn_inb, qn_ix, qn_dec, qn_m1, ck_tt, bd_ss, ix, isB0, isB1, Nat.reduceAdd, Nat.reduceSub, Nat.reduceMul, Nat.zero_add, f_R_smaller_L47, hszb, hsz0]
      · have h6' : 6 ≤ gp g := by
          by_cases h : 6 ≤ gp g
          · exact h
          · exact absurd ⟨by omega, by omega⟩ hc
        simp (disch := omega) only [↓reduceIte, q0, q1, q2, q3, q4, q5, q6, q7, q8, q14, q15, q16, q20, q31, q44, q50, q70, q1000, qn_le_t, qn_le_f, qn_lt_t, qn_lt_f, qn_eq_t, qn_eq_f, qn_add, qn_inb, qn_ix, qn_dec, qn_m1, ck_tt, bd_ss, ix, isB0, isB1, Nat.reduceAdd, Nat.reduceSub, Nat.reduceMul, Nat.zero_add, f_R_smaller_L47, hszb, hsz0]
theorem gap (hf : 20000 ≤ fu) (hP : pgr P g) (hg : gok g) (hs : s < 1000) (m : Int32) (T : S_T) : ∀ (d k n : Nat) (Q : S_P), k + d = 14 → gn g ≤ k → ∃ Q1, f_H_shrink_L68 fu (n + d) (P, Q, T, dw, tac, cur) seed m failing (qn s) (qn k) = f_H_shrink_L68 fu n (P, Q1, T, dw, tac, cur) seed m failing (qn s) (qn 14) := by
  intro d
  induction d with
  | zero =>
    intro k n Q hk hle
    have : k = 14 := by omega
    subst this
    exact ⟨Q, rfl⟩
  | succ d ih =>
    intro k n Q hk hle
    obtain ⟨Q1, e1⟩ := prep_rem0 (fu := fu) (Q := Q) (T := T) (dw := dw) (tac := tac) (cur := cur) hf hP hg hle (show k < 14 by omega)
    have c1 := cand0 (n := n + d) (seed := seed) (most := m) (failing := failing) (s := s) (by omega) hs e1
    obtain ⟨Q2, e2⟩ := ih (k + 1) n Q1 (by omega) (by omega)
    exact ⟨Q2, c1.trans e2⟩
theorem phA (hf : 20000 ≤ fu) (hfl : f < 16) (hm : most ≤ 50) (h0 : 0 < most) (hP : pgr P g) (hg : gok g) (hs : s < 1000) : ∀ (c n nR : Nat) (Q : S_P) (T : S_T) (R : S_R), c ≤ gn g → c < nR → 45 ≤ n + (gn g - c) → lnk f th ta fa g g T R → smo fu f seed most th ta fa g dw tac cur P failing s (gn g - c) n (f_H_shrink_L68 fu n (P, Q, T, dw, tac, cur) seed (qn most) failing (qn s) (qn (gn g - c))) (f_R_smaller_L12 fu nR R seed (qn most) (qn c + -qn 1)) := by
  have h14 := hg.n14
  intro c
  induction c with
  | zero =>
    intro n nR Q T R hc hnR hn hl
    obtain ⟨nR, rfl⟩ : ∃ m, nR = m + 1 := ⟨nR - 1, by omega⟩
    obtain ⟨n1, hn1⟩ : ∃ n1, n = n1 + (14 - gn g) := ⟨n - (14 - gn g), by omega⟩
    subst hn1
    obtain ⟨Q1, e1⟩ := gap (seed := seed) (failing := failing) (dw := dw) (tac := tac) (cur := cur) hf hP hg hs (qn most) T (14 - gn g) (gn g) n1 Q (by omega) (Nat.le_refl _)
    have hB := phB (seed := seed) (dw := dw) (tac := tac) (cur := cur) (failing := failing) hf hfl hm h0 hP hg hs 2 1 n1 fu Q1 T R (by omega) (by omega) (by omega) (by omega) hl
    refine smo_up hB (by omega) ?_ ?_
    · rw [Nat.sub_zero]; exact e1
    · simp (disch := omega) only [↓reduceIte, q0, q1, q2, q3, q4, q5, q6, q7, q8, q14, q15, q16, q20, q31, q44, q50, q70, q1000, qn_le_t, qn_le_f, qn_lt_t, qn_lt_f, qn_eq_t, qn_eq_f, qn_add, qn_inb, qn_ix, qn_dec, qn_m1, ck_tt, bd_ss, ix, isB0, isB1, Nat.reduceAdd, Nat.reduceSub, Nat.reduceMul, Nat.zero_add, f_R_smaller_L12, qn_neg1]
  | succ c ih =>
    intro n nR Q T R hc hnR hn hl
    obtain ⟨nR, rfl⟩ : ∃ m, nR = m + 1 := ⟨nR - 1, by omega⟩
    obtain ⟨n, rfl⟩ : ∃ m, n = m + 1 := ⟨n - 1, by omega⟩
    have ei : gn g - 1 - (gn g - (c + 1)) = c := by omega
    have ek : gn g - (c + 1) + 1 = gn g - c := by omega
    have eR0 : qn (c + 1) + -qn 1 = qn c := by rw [qn_dec (by omega), Nat.add_sub_cancel]
    have pp := prep_rem (fu := fu) (Q := Q) (T := T) (dw := dw) (tac := tac) (cur := cur) hf hP hg (k := gn g - (c + 1)) (by omega)
    rw [ei] at pp
    rw [eR0]
    obtain ⟨an, nu, ca, ba, nc, ne, no, J, tl, sz, kd, ce, ar, ks, kp, ho, op, ha, io, no', at_, ev, z, f0, ru, wr, sc, exC, ra, ex, wi, dr, gg, eT, eR, y1, y2, y3, y4⟩ := hl
    obtain ⟨sz', kd', ce', ar', e2, e3, r2⟩ := t_R_leaveOut hf (th := th) (r := (ks, kp, qn f, gg, ho, op, ha, io, ra, ex, an, nu, ca, ba, no', at_, ev, wi, ru, wr, ta, fa, tl)) y3 hg (i0 := c) (by omega)
    have hl1 : lnk f th ta fa (grem g c) g T (th, sz', kd', ce', ar', ks, kp, qn f, gg, ho, op, ha, io, ra, ex, an, nu, ca, ba, no', at_, ev, wi, ru, wr, ta, fa, tl) := ⟨an, nu, ca, ba, nc, ne, no, J, tl, sz', kd', ce', ar', ks, kp, ho, op, ha, io, no', at_, ev, z, f0, ru, wr, sc, exC, ra, ex, wi, dr, gg, eT, rfl, y1, y2, r2, y4⟩
    by_cases hx : gneed g 0 c
    · obtain ⟨Q1, e1⟩ := pp.1 hx
      have c1 := cand0 (n := n) (seed := seed) (most := qn most) (failing := failing) (s := s) (by omega) hs e1
      obtain ⟨R', t1, t2⟩ := takes0 (seed := seed) hf hg hl1 (qn most)
      have ih1 := ih n nR Q1 T R' (by omega) (by omega) (by omega) t2
      rw [ek] at c1
      refine smo_up ih1 (by omega) c1 ?_
      subst eR
      have e2' := e2 hx
      unfold f_R_smaller_L12
      rw [q0, if_neg (by rw [qn_lt (by omega) (by omega)]; omega), e2', bd_ss]
      dsimp only
      rw [t1, bd_ss]
      dsimp only
      rw [if_pos rfl]
      cases nR with
      | zero => omega
      | succ m => rfl
    · obtain ⟨Q1, e1, r1⟩ := pp.2 hx
      have hg1 := grem_ok hg (show c < gn g by omega) hx
      have stR : ∀ x R2, f_R_takes fu (th, sz', kd', ce', ar', ks, kp, qn f, gg, ho, op, ha, io, ra, ex, an, nu, ca, ba, no', at_, ev, wi, ru, wr, ta, fa, tl) (qn 1) seed (qn most) = some (x, R2) → (x = qn 0 → f_R_smaller_L12 fu (nR + 1) R seed (qn most) (qn c) = f_R_smaller_L12 fu nR R2 seed (qn most) (qn c + -qn 1)) ∧ (x = qn 1 → f_R_smaller_L12 fu (nR + 1) R seed (qn most) (qn c) = some (qn 1, R2)) := by
        intro x R2 he
        subst eR
        have e3' := e3 hx
        have st : f_R_smaller_L12 fu (nR + 1) (th, sz, kd, ce, ar, ks, kp, qn f, gg, ho, op, ha, io, ra, ex, an, nu, ca, ba, no', at_, ev, wi, ru, wr, ta, fa, tl) seed (qn most) (qn c) = if x = qn 0 then f_R_smaller_L12 fu nR R2 seed (qn most) (qn c + -qn 1) else ck (isB 1) (some (1, R2)) := by
          rw [f_R_smaller_L12]
          rw [q0, if_neg (by rw [qn_lt (by omega) (by omega)]; omega), e3', bd_ss]
          dsimp only
          rw [he, bd_ss]
          rfl
        refine ⟨fun hx => ?_, fun hx => ?_⟩
        · rw [st, if_pos hx]
        · rw [st, if_neg (by rw [hx]; exact qne 1 0 (by omega) (by omega) (by omega))]; rfl
      rcases cand1 (seed := seed) hf hfl hm h0 hg hg1 r1 hl1 (failing := failing) (s := s) (k := gn g - (c + 1)) (n := n) (by omega) hs e1 with ⟨T', R', c1, c2, c3⟩ | ⟨P', T', R', c1, c2, c3, c4⟩
      · have ih1 := ih n nR Q1 T' R' (by omega) (by omega) (by omega) c3
        rw [ek] at c1
        exact smo_up ih1 (by omega) c1 ((stR _ _ c2).1 rfl)
      · exact Or.inl ⟨n, grem g c, P', Q1, T', R', by omega, hg1, mes_rem (by omega), c2, c1, (stR _ _ c3).2 rfl, c4⟩
theorem t_smaller (hf : 20000 ≤ fu) (hfl : f < 16) (hm : most ≤ 50) (h0 : 0 < most) (hP : pgr P g) (hg : gok g) (hs : s < 1000) {n : Nat} {Q : S_P} {T : S_T} {R : S_R} {gk0 : pg} (hn : 45 ≤ n) (hl : lnk f th ta fa g gk0 T R) : smo fu f seed most th ta fa g dw tac cur P failing s 0 n (f_H_shrink_L68 fu n (P, Q, T, dw, tac, cur) seed (qn most) failing (qn s) (qn 0)) (f_R_smaller fu R seed (qn most)) := by
  have h14 := hg.n14
  obtain ⟨an, nu, ca, ba, nc, ne, no, J, tl, sz, kd, ce, ar, ks, kp, ho, op, ha, io, no', at_, ev, z, f0, ru, wr, sc, exC, ra, ex, wi, dr, gg, eT, eR, y1, y2, y3, y4⟩ := hl
  obtain ⟨ks', kp', e1, k1⟩ := t_R_keep hf (th := th) (ks := ks) (kp := kp) (r := (qn f, gg, ho, op, ha, io, ra, ex, an, nu, ca, ba, no', at_, ev, wi, ru, wr, ta, fa, tl)) y3 hg
  have hl1 : lnk f th ta fa g g T (th, sz, kd, ce, ar, ks', kp', qn f, gg, ho, op, ha, io, ra, ex, an, nu, ca, ba, no', at_, ev, wi, ru, wr, ta, fa, tl) := ⟨an, nu, ca, ba, nc, ne, no, J, tl, sz, kd, ce, ar, ks', kp', ho, op, ha, io, no', at_, ev, z, f0, ru, wr, sc, exC, ra, ex, wi, dr, gg, eT, rfl, y1, y2, y3, k1⟩
  have hA := phA (seed := seed) (dw := dw) (tac := tac) (cur := cur) (failing := failing) hf hfl hm h0 hP hg hs (gn g) n fu Q T _ (Nat.le_refl _) (by omega) (by omega) hl1
  rw [Nat.sub_self] at hA
  refine smo_up hA (Nat.le_refl _) rfl ?_
  subst eR
  have e : qn (gn g) - qn 1 = qn (gn g) + -qn 1 := Int32.sub_eq_add_neg _ _
  rw [← e]
  simp (disch := omega) only [↓reduceIte, q0, q1, q2, q3, q4, q5, q6, q7, q8, q14, q15, q16, q20, q31, q44, q50, q70, q1000, qn_le_t, qn_le_f, qn_lt_t, qn_lt_f, qn_eq_t, qn_eq_f, qn_add, qn_inb, qn_ix, qn_dec, qn_m1, ck_tt, bd_ss, ix, isB0, isB1, Nat.reduceAdd, Nat.reduceSub, Nat.reduceMul, Nat.zero_add, f_R_smaller, e1, t_R_many y3]
end PH2
