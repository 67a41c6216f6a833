section PRP
variable {fu f : Nat} {g : pg} {P Q : S_P} {T : S_T} {dw : Int64} {tac cur : Int32}
theorem prep_rem (hf : 20000 ≤ fu) (hP : pgr P g) (hg : gok g) {k : Nat} (hk : k < gn g) : (gneed g 0 (gn g - 1 - k) → ∃ Q1, f_H_prepareCandidate fu (P, Q, T, dw, tac, cur) (qn k) = some (qn 0, (P, Q1, T, dw, tac, cur))) ∧ (¬ gneed g 0 (gn g - 1 - k) → ∃ Q1, f_H_prepareCandidate fu (P, Q, T, dw, tac, cur) (qn k) = some (qn 1, (P, Q1, T, dw, tac, cur)) ∧ pgr Q1 (grem g (gn g - 1 - k))) := by
  have h14 := hg.n14
  obtain ⟨Q0, e1, r1⟩ := t_P_copyFrom hf (P := Q) hP hg
  have e2 := t_P_remove hf r1 hg (i0 := gn g - 1 - k) (by omega)
  refine ⟨fun hx => ⟨Q0, ?_⟩, fun hx => ?_⟩
  · have e3 := e2.1 hx
    simp (disch := omega) only [↓reduceIte, q0, q1, q2, q3, q4, q5, q6, q7, q8, q14, q15, q16, q20, q31, q44, q50, q70, q1000, qn_le_t, qn_le_f, qn_lt_t, qn_lt_f, qn_eq_t, qn_eq_f, qn_add, qn_inb, qn_ix, qn_dec, qn_m1, ck_tt, bd_ss, ix, isB0, isB1, Nat.reduceAdd, Nat.reduceSub, Nat.reduceMul, Nat.zero_add, f_H_prepareCandidate, e1, t_P_size hP, qn_sub, e3]
  · obtain ⟨Q1, e3, r3⟩ := e2.2 hx
    exact ⟨Q1, by simp (disch := omega) only [↓reduceIte, q0, q1, q2, q3, q4, q5, q6, q7, q8, q14, q15, q16, q20, q31, q44, q50, q70, q1000, qn_le_t, qn_le_f, qn_lt_t, qn_lt_f, qn_eq_t, qn_eq_f, qn_add, qn_inb, qn_ix, qn_dec, qn_m1, ck_tt, bd_ss, ix, isB0, isB1, Nat.reduceAdd, Nat.reduceSub, Nat.reduceMul, Nat.zero_add, f_H_prepareCandidate, e1, t_P_size hP, qn_sub, e3], r3⟩
theorem prep_rem0 (hf : 20000 ≤ fu) (hP : pgr P g) (hg : gok g) {k : Nat} (hk : gn g ≤ k) (hk2 : k < 14) : ∃ Q1, f_H_prepareCandidate fu (P, Q, T, dw, tac, cur) (qn k) = some (qn 0, (P, Q1, T, dw, tac, cur)) := by
  have h14 := hg.n14
  obtain ⟨Q0, e1, r1⟩ := t_P_copyFrom hf (P := Q) hP hg
  have hneg : qn (gn g) - qn 1 - qn k < qn 0 := by
    have h1 : (qn (gn g) - qn 1 - qn k) = qn (gn g) - qn (1 + k) := by
      rw [← qn_add, Int32.sub_sub]
    rw [h1, Int32.lt_iff_toInt_lt, qn_sub_toInt (by omega) (by omega)]
    have : (qn 0).toInt = 0 := by decide
    omega
  exact ⟨Q0, by simp (disch := omega) only [↓reduceIte, q0, q1, q2, q3, q4, q5, q6, q7, q8, q14, q15, q16, q20, q31, q44, q50, q70, q1000, qn_le_t, qn_le_f, qn_lt_t, qn_lt_f, qn_eq_t, qn_eq_f, qn_add, qn_inb, qn_ix, qn_dec, qn_m1, ck_tt, bd_ss, ix, isB0, isB1, Nat.reduceAdd, Nat.reduceSub, Nat.reduceMul, Nat.zero_add, f_H_prepareCandidate, e1, t_P_size hP, f_P_remove, t_P_size r1, hneg]⟩
theorem prep_prom (hf : 20000 ≤ fu) (hP : pgr P g) (hg : gok g) {b : Nat} (hb : b = 1 ∨ b = 2) : (¬ (0 < gsz g b ∧ gp g < 6) → ∃ Q1, f_H_prepareCandidate fu (P, Q, T, dw, tac, cur) (qn (13 + b)) = some (qn 0, (P, Q1, T, dw, tac, cur))) ∧ (0 < gsz g b ∧ gp g < 6 → ∃ Q1, f_H_prepareCandidate fu (P, Q, T, dw, tac, cur) (qn (13 + b)) = some (qn 1, (P, Q1, T, dw, tac, cur)) ∧ pgr Q1 (gprom g b)) := by
  obtain ⟨Q0, e1, r1⟩ := t_P_copyFrom hf (P := Q) hP hg
  have e2 := t_P_promote hf r1 hg hb
  have ei : 13 + b - 14 + 1 = b := by omega
  refine ⟨fun hx => ⟨Q0, ?_⟩, fun hx => ?_⟩
  · have e3 := e2.1 hx
    simp (disch := omega) only [↓reduceIte, q0, q1, q2, q3, q4, q5, q6, q7, q8, q14, q15, q16, q20, q31, q44, q50, q70, q1000, qn_le_t, qn_le_f, qn_lt_t, qn_lt_f, qn_eq_t, qn_eq_f, qn_add, qn_inb, qn_ix, qn_dec, qn_m1, ck_tt, bd_ss, ix, isB0, isB1, Nat.reduceAdd, Nat.reduceSub, Nat.reduceMul, Nat.zero_add, f_H_prepareCandidate, e1, qn_sub, ei, e3]
  · obtain ⟨Q1, e3, r3⟩ := e2.2 hx
    exact ⟨Q1, by simp (disch := omega) only [↓reduceIte, q0, q1, q2, q3, q4, q5, q6, q7, q8, q14, q15, q16, q20, q31, q44, q50, q70, q1000, qn_le_t, qn_le_f, qn_lt_t, qn_lt_f, qn_eq_t, qn_eq_f, qn_add, qn_inb, qn_ix, qn_dec, qn_m1, ck_tt, bd_ss, ix, isB0, isB1, Nat.reduceAdd, Nat.reduceSub, Nat.reduceMul, Nat.zero_add, f_H_prepareCandidate, e1, qn_sub, ei, e3], r3⟩
theorem prep_low (hf : 20000 ≤ fu) (hP : pgr P g) (hg : gok g) {i h : Nat} (hi : i < 14) (hh : h < 2) : (¬ (i < gn g ∧ gv g i < 8 ∧ h + 1 ≤ gv g i) → ∃ Q1, f_H_prepareCandidate fu (P, Q, T, dw, tac, cur) (qn (16 + 2 * i + h)) = some (qn 0, (P, Q1, T, dw, tac, cur))) ∧ (i < gn g ∧ gv g i < 8 ∧ h + 1 ≤ gv g i → ∃ Q1, f_H_prepareCandidate fu (P, Q, T, dw, tac, cur) (qn (16 + 2 * i + h)) = some (qn 1, (P, Q1, T, dw, tac, cur)) ∧ pgr Q1 (glow g i h)) := by
  obtain ⟨Q0, e1, r1⟩ := t_P_copyFrom hf (P := Q) hP hg
  have e2 := t_P_lower (fu := fu) r1 hg (i := i) (b := h) (by omega) hh
  have ed : (16 + 2 * i + h - 14 - 2) / 2 = i := by omega
  have em : (16 + 2 * i + h - 14 - 2) % 2 = h := by omega
  have hh' : h = 0 ∨ h = 1 := by omega
  have red : ∀ x Q1, isB x = true → f_P_lower fu Q0 (qn i) (qn h) = some (x, Q1) → f_H_prepareCandidate fu (P, Q, T, dw, tac, cur) (qn (16 + 2 * i + h)) = some (x, (P, Q1, T, dw, tac, cur)) := by
    intro x Q1 hx he
    have hm : qn (16 + 2 * i + h - 14 - 2) - qn (16 + 2 * i + h - 14 - 2) / qn 2 * qn 2 = qn h := by
      rw [qn_mod (by omega) (by omega) (by omega), em]
    have hd : qn (16 + 2 * i + h - 14 - 2) / qn 2 = qn i := by
      rw [qn_div (by omega) (by omega) (by omega), ed]
    rw [hd] at hm
    rcases hh' with rfl | rfl
    · simp (disch := omega) only [↓reduceIte, q0, q1, q2, q3, q4, q5, q6, q7, q8, q14, q15, q16, q20, q31, q44, q50, q70, q1000, qn_le_t, qn_le_f, qn_lt_t, qn_lt_f, qn_eq_t, qn_eq_f, qn_add, qn_inb, qn_ix, qn_dec, qn_m1, ck_tt, bd_ss, ix, isB0, isB1, Nat.reduceAdd, Nat.reduceSub, Nat.reduceMul, Nat.zero_add, f_H_prepareCandidate, e1, qn_sub, nz_qn, hd, hm, he, hx]
    · simp (disch := omega) only [↓reduceIte, q0, q1, q2, q3, q4, q5, q6, q7, q8, q14, q15, q16, q20, q31, q44, q50, q70, q1000, qn_le_t, qn_le_f, qn_lt_t, qn_lt_f, qn_eq_t, qn_eq_f, qn_add, qn_inb, qn_ix, qn_dec, qn_m1, ck_tt, bd_ss, ix, isB0, isB1, Nat.reduceAdd, Nat.reduceSub, Nat.reduceMul, Nat.zero_add, f_H_prepareCandidate, e1, qn_sub, nz_qn, hd, hm, he, hx]
  refine ⟨fun hx => ⟨Q0, red _ _ isB0 (e2.1 hx)⟩, fun hx => ?_⟩
  obtain ⟨Q1, e3, r3⟩ := e2.2 hx
  exact ⟨Q1, red _ _ isB1 e3, r3⟩
theorem cand0 {Q1 : S_P} {seed : Int64} {most failing : Int32} {s k n : Nat} (hk : k < 44) (hs : s < 1000) (hp : f_H_prepareCandidate fu (P, Q, T, dw, tac, cur) (qn k) = some (qn 0, (P, Q1, T, dw, tac, cur))) : f_H_shrink_L68 fu (n + 1) (P, Q, T, dw, tac, cur) seed most failing (qn s) (qn k) = f_H_shrink_L68 fu n (P, Q1, T, dw, tac, cur) seed most failing (qn s) (qn (k + 1)) := by
  simp (disch := omega) only [↓reduceIte, q0, q1, q2, q3, q4, q5, q6, q7, q8, q14, q15, q16, q20, q31, q44, q50, q70, q1000, qn_le_t, qn_le_f, qn_lt_t, qn_lt_f, qn_eq_t, qn_eq_f, qn_add, qn_inb, qn_ix, qn_dec, qn_m1, ck_tt, bd_ss, ix, isB0, isB1, Nat.reduceAdd, Nat.reduceSub, Nat.reduceMul, Nat.zero_add, f_H_shrink_L68, hp]
end PRP
def smo (fu f : Nat) (seed : Int64) (most : Nat) (th ta fa : Int32) (g : pg) (dw : Int64) (tac cur : Int32) (P : S_P) (failing : Int32) (s k n : Nat) (cls : Option ((Int32 ⊕ UInt32) × S_H)) (x : Option (Int32 × S_R)) : Prop :=
  (∃ (n' : Nat) (g' : pg) (P' Q' : S_P) (T' : S_T) (R' : S_R), n + k ≤ n' + 44 ∧ gok g' ∧ mes g' < mes g ∧ pgr P' g' ∧ cls = f_H_shrink_L68 fu n' (P', Q', T', dw, tac, cur) seed (qn most) T'.2.2.2.2.2.2.1 (qn (s + 1)) (qn 0) ∧ x = some (qn 1, R') ∧ lnk f th ta T'.2.2.2.2.2.2.1 g' g T' R') ∨ (∃ (n' : Nat) (Q' : S_P) (T' : S_T) (R' : S_R), n + k ≤ n' + 44 ∧ cls = f_H_shrink_L68 fu n' (P, Q', T', dw, tac, cur) seed (qn most) failing (qn s) (qn 44) ∧ x = some (qn 0, R') ∧ lnk f th ta fa g g T' R')
theorem smo_up {fu f : Nat} {seed : Int64} {most : Nat} {th ta fa : Int32} {g : pg} {dw : Int64} {tac cur : Int32} {P : S_P} {failing : Int32} {s k n k' n' : Nat} {cls cls' : Option ((Int32 ⊕ UInt32) × S_H)} {x x' : Option (Int32 × S_R)} (h : smo fu f seed most th ta fa g dw tac cur P failing s k n cls x) (hn : n' + k' ≤ n + k) (hc : cls' = cls) (hx : x' = x) : smo fu f seed most th ta fa g dw tac cur P failing s k' n' cls' x' := by
  subst hc; subst hx
  rcases h with ⟨n1, g', P', Q', T', R', a, b⟩ | ⟨n1, Q', T', R', a, b⟩
  · exact Or.inl ⟨n1, g', P', Q', T', R', by omega, b⟩
  · exact Or.inr ⟨n1, Q', T', R', by omega, b⟩
section PH
variable {fu f : Nat} {th ta fa : Int32} {g : pg} {seed : Int64} {most : Nat} {P : S_P} {dw : Int64} {tac cur failing : Int32} {s : Nat}
theorem isB_0 : isB (0 : Int32) = true := rfl
/- lowering: both over the numbers -/
theorem phC (hf : 20000 ≤ fu) (hfl : f < 16) (hm : most ≤ 50) (h0 : 0 < most) (hP : pgr P g) (hg : gok g) (hs : s < 1000) : ∀ (d i n nR : Nat) (Q : S_P) (T : S_T) (R : S_R), i + d = 14 → d < nR → 45 ≤ n + (16 + 2 * i) → lnk f th ta fa g g T R → (i ≤ gn g → smo fu f seed most th ta fa g dw tac cur P failing s (16 + 2 * i) n (f_H_shrink_L68 fu n (P, Q, T, dw, tac, cur) seed (qn most) failing (qn s) (qn (16 + 2 * i))) (f_R_smaller_L101 fu nR R seed (qn most) (qn i))) ∧ (gn g ≤ i → smo fu f seed most th ta fa g dw tac cur P failing s (16 + 2 * i) n (f_H_shrink_L68 fu n (P, Q, T, dw, tac, cur) seed (qn most) failing (qn s) (qn (16 + 2 * i))) (some (qn 0, R))) := by
  have h14 := hg.n14
  intro d
  induction d with
  | zero =>
    intro i n nR Q T R hi hnR hn hl
    have : i = 14 := by omega
    subst this
    obtain ⟨nR, rfl⟩ : ∃ m, nR = m + 1 := ⟨nR - 1, by omega⟩
    have base : smo fu f seed most th ta fa g dw tac cur P failing s (16 + 2 * 14) n (f_H_shrink_L68 fu n (P, Q, T, dw, tac, cur) seed (qn most) failing (qn s) (qn (16 + 2 * 14))) (some (qn 0, R)) := Or.inr ⟨n, Q, T, R, by omega, rfl, rfl, hl⟩
    refine ⟨fun hle => ?_, fun _ => base⟩
    refine smo_up base (Nat.le_refl _) rfl ?_
    obtain ⟨an, nu, ca, ba, nc, ne, no, J, tl, sz, kd, ce, ar, ks, kp, ho, op, ha, io, no', at_, ev, z, f0, ru, wr, sc, exC, ra, ex, wi, dr, gg, rfl, rfl, y1, y2, y3, y4⟩ := hl
    simp (disch := omega) only [↓reduceIte, q0, q1, q2, q3, q4, q5, q6, q7, q8, q14, q15, q16, q20, q31, q44, q50, q70, q1000, qn_le_t, qn_le_f, qn_lt_t, qn_lt_f, qn_eq_t, qn_eq_f, qn_add, qn_inb, qn_ix, qn_dec, qn_m1, ck_tt, bd_ss, ix, isB0, isB1, Nat.reduceAdd, Nat.reduceSub, Nat.reduceMul, Nat.zero_add, f_R_smaller_L101, t_R_many y3]
  | succ d ih =>
    intro i n nR Q T R hi hnR hn hl
    obtain ⟨nR, rfl⟩ : ∃ m, nR = m + 1 := ⟨nR - 1, by omega⟩
    have p0 := prep_low (fu := fu) (Q := Q) (T := T) (dw := dw) (tac := tac) (cur := cur) hf hP hg (i := i) (h := 0) (by omega) (by omega)
    by_cases hin : i < gn g
    · refine ⟨fun _ => ?_, fun h => by omega⟩
      have hex := hl
      obtain ⟨an, nu, ca, ba, nc, ne, no, J, tl, sz, kd, ce, ar, ks, kp, ho, op, ha, io, no', at_, ev, z, f0, ru, wr, sc, exC, ra, ex, wi, dr, gg, rfl, rfl, y1, y2, y3, y4⟩ := hl
      have hai : ar i = qn (gv g i) := (y3.2.2.2 i hin).2.2
      have hv22 := hg.v22 hin
      have st0 : f_R_smaller_L101 fu (nR + 1) (th, sz, kd, ce, ar, ks, kp, qn f, gg, ho, op, ha, io, ra, ex, an, nu, ca, ba, no', at_, ev, wi, ru, wr, ta, fa, tl) seed (qn most) (qn i) = f_R_smaller_L122 fu (f_R_smaller_L101 fu nR) fu (th, sz, kd, ce, ar, ks, kp, qn f, gg, ho, op, ha, io, ra, ex, an, nu, ca, ba, no', at_, ev, wi, ru, wr, ta, fa, tl) seed (qn most) (qn i) (qn (gv g i)) (qn 0) := by
        simp (disch := omega) only [↓reduceIte, q0, q1, q2, q3, q4, q5, q6, q7, q8, q14, q15, q16, q20, q31, q44, q50, q70, q1000, qn_le_t, qn_le_f, qn_lt_t, qn_lt_f, qn_eq_t, qn_eq_f, qn_add, qn_inb, qn_ix, qn_dec, qn_m1, ck_tt, bd_ss, ix, isB0, isB1, Nat.reduceAdd, Nat.reduceSub, Nat.reduceMul, Nat.zero_add, f_R_smaller_L101, t_R_many y3, hai]
      refine smo_up (k := 16 + 2 * i) (n := n) (cls := _) (x := _) ?_ (Nat.le_refl _) rfl st0
      generalize hT : (((an, nu, ca, ba, z, nc, ne, no, f0), J, tl, qn f, ru, wr, sc, exC, dr) : S_T) = T at *
      generalize hRR : ((th, sz, kd, ce, ar, ks, kp, qn f, gg, ho, op, ha, io, ra, ex, an, nu, ca, ba, no', at_, ev, wi, ru, wr, ta, fa, tl) : S_R) = R at *
      clear hT hRR hai y1 y2 y3 y4
      -- one part, from any state; fuel of the inner loop m + 1
      have part : ∀ (h m n1 : Nat) (Q1 : S_P) (T1 : S_T) (R1 : S_R), h < 2 → 45 ≤ n1 + (16 + 2 * i + h) → lnk f th ta fa g g T1 R1 → (∃ (n2 : Nat) (Q2 : S_P) (T2 : S_T) (R2 : S_R), n1 = n2 + 1 ∧ f_H_shrink_L68 fu n1 (P, Q1, T1, dw, tac, cur) seed (qn most) failing (qn s) (qn (16 + 2 * i + h)) = f_H_shrink_L68 fu n2 (P, Q2, T2, dw, tac, cur) seed (qn most) failing (qn s) (qn (16 + 2 * i + (h + 1))) ∧ f_R_smaller_L122 fu (f_R_smaller_L101 fu nR) (m + 1) R1 seed (qn most) (qn i) (qn (gv g i)) (qn h) = f_R_smaller_L122 fu (f_R_smaller_L101 fu nR) m R2 seed (qn most) (qn i) (qn (gv g i)) (qn (h + 1)) ∧ lnk f th ta fa g g T2 R2) ∨ smo fu f seed most th ta fa g dw tac cur P failing s (16 + 2 * i + h) n1 (f_H_shrink_L68 fu n1 (P, Q1, T1, dw, tac, cur) seed (qn most) failing (qn s) (qn (16 + 2 * i + h))) (f_R_smaller_L122 fu (f_R_smaller_L101 fu nR) (m + 1) R1 seed (qn most) (qn i) (qn (gv g i)) (qn h)) := by
        intro h m n1 Q1 T1 R1 hh hn1 hl1
        obtain ⟨n2, rfl⟩ : ∃ x, n1 = x + 1 := ⟨n1 - 1, by omega⟩
        have pp := prep_low (fu := fu) (Q := Q1) (T := T1) (dw := dw) (tac := tac) (cur := cur) hf hP hg (i := i) (h := h) (by omega) hh
        by_cases hc : i < gn g ∧ gv g i < 8 ∧ h + 1 ≤ gv g i
        · obtain ⟨Q2, e2, r2⟩ := pp.2 hc
          have hg2 := glow_ok hg (i := i) (h := h) hc.2.1
          obtain ⟨an, nu, ca, ba, nc, ne, no, J, tl, sz, kd, ce, ar, ks, kp, ho, op, ha, io, no', at_, ev, z, f0, ru, wr, sc, exC, ra, ex, wi, dr, gg, rfl, rfl, y1, y2, y3, y4⟩ := hl1
          have hval : qn h * qn (gv g i) / qn 2 = qn (if h = 0 then 0 else gv g i / 2) := by
            rw [qn_mul]
            have : h = 0 ∨ h = 1 := by omega
            rcases this with rfl | rfl
            · rw [Nat.zero_mul, qn_div (by omega) (by omega) (by omega)]; rfl
            · rw [Nat.one_mul, qn_div (by omega) (by omega) (by omega)]; rfl
          have hl2 : lnk f th ta fa (glow g i h) g ((an, nu, ca, ba, z, nc, ne, no, f0), J, tl, qn f, ru, wr, sc, exC, dr) (th, sz, kd, ce, upd ar i (qn (if h = 0 then 0 else gv g i / 2)), ks, kp, qn f, gg, ho, op, ha, io, ra, ex, an, nu, ca, ba, no', at_, ev, wi, ru, wr, ta, fa, tl) := by
            refine ⟨an, nu, ca, ba, nc, ne, no, J, tl, sz, kd, ce, _, ks, kp, ho, op, ha, io, no', at_, ev, z, f0, ru, wr, sc, exC, ra, ex, wi, dr, gg, rfl, rfl, y1, y2, ?_, y4⟩
            refine ⟨y3.1, y3.2.1, y3.2.2.1, fun j hj => ?_⟩
            have h5 := y3.2.2.2 j hj
            refine ⟨h5.1, h5.2.1, ?_⟩
            show upd ar i _ j = qn (if j = i then (if h = 0 then 0 else gv g i / 2) else gv g j)
            unfold upd
            by_cases h6 : j = i
            · rw [if_pos h6, if_pos h6]
            · rw [if_neg h6, if_neg h6]; exact h5.2.2
          have stR : ∀ x R2, f_R_takes fu (th, sz, kd, ce, upd ar i (qn (if h = 0 then 0 else gv g i / 2)), ks, kp, qn f, gg, ho, op, ha, io, ra, ex, an, nu, ca, ba, no', at_, ev, wi, ru, wr, ta, fa, tl) (qn 1) seed (qn most) = some (x, R2) → (x = qn 0 → f_R_smaller_L122 fu (f_R_smaller_L101 fu nR) (m + 1) (th, sz, kd, ce, ar, ks, kp, qn f, gg, ho, op, ha, io, ra, ex, an, nu, ca, ba, no', at_, ev, wi, ru, wr, ta, fa, tl) seed (qn most) (qn i) (qn (gv g i)) (qn h) = f_R_smaller_L122 fu (f_R_smaller_L101 fu nR) m R2 seed (qn most) (qn i) (qn (gv g i)) (qn (h + 1))) ∧ (x = qn 1 → f_R_smaller_L122 fu (f_R_smaller_L101 fu nR) (m + 1) (th, sz, kd, ce, ar, ks, kp, qn f, gg, ho, op, ha, io, ra, ex, an, nu, ca, ba, no', at_, ev, wi, ru, wr, ta, fa, tl) seed (qn most) (qn i) (qn (gv g i)) (qn h) = some (qn 1, R2)) := by
            intro x R2 he
            have hc1 := hc.2.1; have hc2 := hc.2.2
            refine ⟨fun hx => ?_, fun hx => ?_⟩
            · subst hx
              simp (disch := omega) only [↓reduceIte, q0, q1, q2, q3, q4, q5, q6, q7, q8, q14, q15, q16, q20, q31, q44, q50, q70, q1000, qn_le_t, qn_le_f, qn_lt_t, qn_lt_f, qn_eq_t, qn_eq_f, qn_add, qn_inb, qn_ix, qn_dec, qn_m1, ck_tt, bd_ss, ix, isB0, isB1, Nat.reduceAdd, Nat.reduceSub, Nat.reduceMul, Nat.zero_add, f_R_smaller_L122, nz_qn, hval, he]
            · subst hx
              simp (disch := omega) only [↓reduceIte, q0, q1, q2, q3, q4, q5, q6, q7, q8, q14, q15, q16, q20, q31, q44, q50, q70, q1000, qn_le_t, qn_le_f, qn_lt_t, qn_lt_f, qn_eq_t, qn_eq_f, qn_add, qn_inb, qn_ix, qn_dec, qn_m1, ck_tt, bd_ss, ix, isB0, isB1, Nat.reduceAdd, Nat.reduceSub, Nat.reduceMul, Nat.zero_add, f_R_smaller_L122, nz_qn, hval, he]
          rcases cand1 (seed := seed) hf hfl hm h0 hg hg2 r2 hl2 (failing := failing) (s := s) (k := 16 + 2 * i + h) (n := n2) (by omega) hs e2 with ⟨T', R', c1, c2, c3⟩ | ⟨P', T', R', c1, c2, c3, c4⟩
          · left
            exact ⟨n2, Q2, T', R', rfl, c1, (stR _ _ c2).1 rfl, c3⟩
          · right
            exact Or.inl ⟨n2, glow g i h, P', Q2, T', R', by omega, hg2, mes_low hin hc.2.1 hc.2.2 hh, c2, c1, (stR _ _ c3).2 rfl, c4⟩
        · obtain ⟨Q2, e2⟩ := pp.1 hc
          left
          refine ⟨n2, Q2, T1, R1, rfl, cand0 (by omega) hs e2, ?_, hl1⟩
          by_cases h8 : gv g i < 8
          · have h9 : gv g i ≤ h := by
              by_cases h9 : gv g i ≤ h
              · exact h9
              · exact absurd ⟨hin, h8, by omega⟩ hc
            simp (disch := omega) only [↓reduceIte, q0, q1, q2, q3, q4, q5, q6, q7, q8, q14, q15, q16, q20, q31, q44, q50, q70, q1000, qn_le_t, qn_le_f, qn_lt_t, qn_lt_f, qn_eq_t, qn_eq_f, qn_add, qn_inb, qn_ix, qn_dec, qn_m1, ck_tt, bd_ss, ix, isB0, isB1, Nat.reduceAdd, Nat.reduceSub, Nat.reduceMul, Nat.zero_add, f_R_smaller_L122]
          · simp (disch := omega) only [↓reduceIte, q0, q1, q2, q3, q4, q5, q6, q7, q8, q14, q15, q16, q20, q31, q44, q50, q70, q1000, qn_le_t, qn_le_f, qn_lt_t, qn_lt_f, qn_eq_t, qn_eq_f, qn_add, qn_inb, qn_ix, qn_dec, qn_m1, ck_tt, bd_ss, ix, isB0, isB1, Nat.reduceAdd, Nat.reduceSub, Nat.reduceMul, Nat.zero_add, f_R_smaller_L122]
      have f1 : ∃ m, fu = m + 1 + 1 + 1 := ⟨fu - 3, by omega⟩
      rcases part 0 (fu - 1) n Q T R (by omega) (by omega) hex with ⟨n2, Q2, T2, R2, e1, c1, c2, c3⟩ | h
      · rcases part 1 (fu - 2) n2 Q2 T2 R2 (by omega) (by omega) c3 with ⟨n3, Q3, T3, R3, e4, c4, c5, c6⟩ | h
        · have ih1 := ih (i + 1) n3 nR Q3 T3 R3 (by omega) (by omega) (by omega) c6
          have ih2 := ih1.1 (by omega)
          have e6 : 16 + 2 * i + (1 + 1) = 16 + 2 * (i + 1) := by omega
          rw [e6] at c4
          have fin : ∀ m, f_R_smaller_L122 fu (f_R_smaller_L101 fu nR) (m + 1) R3 seed (qn most) (qn i) (qn (gv g i)) (qn (1 + 1)) = f_R_smaller_L101 fu nR R3 seed (qn most) (qn (i + 1)) := by
            intro m
            simp (disch := omega) only [↓reduceIte, q0, q1, q2, q3, q4, q5, q6, q7, q8, q14, q15, q16, q20, q31, q44, q50, q70, q1000, qn_le_t, qn_le_f, qn_lt_t, qn_lt_f, qn_eq_t, qn_eq_f, qn_add, qn_inb, qn_ix, qn_dec, qn_m1, ck_tt, bd_ss, ix, isB0, isB1, Nat.reduceAdd, Nat.reduceSub, Nat.reduceMul, Nat.zero_add, f_R_smaller_L122]
          have e7 : fu - 1 + 1 = fu := by omega
          have e8 : fu - 2 + 1 = fu - 1 := by omega
          have e9 : fu - 3 + 1 = fu - 2 := by omega
          have fin' := fin (fu - 3)
          rw [e9] at fin'
          rw [e7] at c2
          rw [e8] at c5
          refine smo_up ih2 (by omega) ?_ ?_
          · have c1' := c1
            rw [Nat.add_zero, Nat.zero_add] at c1'
            rw [c1', c4]
          · rw [Nat.zero_add] at c2
            rw [c2, c5, fin']
        · have e7 : fu - 1 + 1 = fu := by omega
          have e8 : fu - 2 + 1 = fu - 1 := by omega
          rw [e7] at c2
          rw [e8] at h
          refine smo_up h (by omega) ?_ ?_
          · have c1' := c1
            rw [Nat.add_zero, Nat.zero_add] at c1'
            exact c1'
          · rw [Nat.zero_add] at c2
            exact c2
      · have e7 : fu - 1 + 1 = fu := by omega
        rw [e7] at h
        exact smo_up h (by omega) (by rw [Nat.add_zero]) rfl
    · have two : smo fu f seed most th ta fa g dw tac cur P failing s (16 + 2 * i) n (f_H_shrink_L68 fu n (P, Q, T, dw, tac, cur) seed (qn most) failing (qn s) (qn (16 + 2 * i))) (some (qn 0, R)) := by
        obtain ⟨n, rfl⟩ : ∃ x, n = x + 1 := ⟨n - 1, by omega⟩
        obtain ⟨n, rfl⟩ : ∃ x, n = x + 1 := ⟨n - 1, by omega⟩
        obtain ⟨Q2, e2⟩ := p0.1 (fun h => hin h.1)
        have p1 := prep_low (fu := fu) (Q := Q2) (T := T) (dw := dw) (tac := tac) (cur := cur) hf hP hg (i := i) (h := 1) (by omega) (by omega)
        obtain ⟨Q3, e3⟩ := p1.1 (fun h => hin h.1)
        have c1 := cand0 (n := n + 1) (seed := seed) (most := qn most) (failing := failing) (s := s) (by omega) hs e2
        have c2 := cand0 (n := n) (seed := seed) (most := qn most) (failing := failing) (s := s) (by omega) hs e3
        have ih2 := (ih (i + 1) n nR Q3 T R (by omega) (by omega) (by omega) hl).2 (by omega)
        have e6 : 16 + 2 * i + 1 + 1 = 16 + 2 * (i + 1) := by omega
        rw [e6] at c2
        refine smo_up ih2 (by omega) ?_ rfl
        rw [show 16 + 2 * i + 0 = 16 + 2 * i from rfl] at c1
        exact c1.trans c2
      refine ⟨fun hle => ?_, fun _ => two⟩
      refine smo_up two (Nat.le_refl _) rfl ?_
      obtain ⟨an, nu, ca, ba, nc, ne, no, J, tl, sz, kd, ce, ar, ks, kp, ho, op, ha, io, no', at_, ev, z, f0, ru, wr, sc, exC, ra, ex, wi, dr, gg, rfl, rfl, y1, y2, y3, y4⟩ := hl
      simp (disch := omega) only [↓reduceIte, q0, q1, q2, q3, q4, q5, q6, q7, q8, q14, q15, q16, q20, q31, q44, q50, q70, q1000, qn_le_t, qn_le_f, qn_lt_t, qn_lt_f, qn_eq_t, qn_eq_f, qn_add, qn_inb, qn_ix, qn_dec, qn_m1, ck_tt, bd_ss, ix, isB0, isB1, Nat.reduceAdd, Nat.reduceSub, Nat.reduceMul, Nat.zero_add, f_R_smaller_L101, t_R_many y3]
end PH
