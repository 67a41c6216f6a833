theorem pz0 : qn 0 = pz (fun _ => 0) := rfl
theorem t_run {fu f : Nat} (hfu : 20000 ≤ fu) {P : S_P} {th ra ex : Int32} {sz kd ce ar ks kp ho op : Nat → Int32} {gg : Int64} {r : S_R22} {g : pg} {sch : Int32} (hP : pgr P g) (hR : pgr (sz, kd, ce, ar) g) (hg : gok g) (hf : f < 16) {an nu ca ba nc ne no ha io no' at_ ev : Nat → Int32} {z f0 : Int32} (ha8 : a8 an) (hn8 : a8 nu) : ∃ (an1 nu1 ca1 ba1 nc1 ne1 no1 ha1 io1 no1' at1 ev1 : Nat → Int32) (w1 : Nat → Nat), f_M_perform fu (an, nu, ca, ba, z, nc, ne, no, f0) P (qn f) sch = some (an1, nu1, ca1, ba1, pz w1, nc1, ne1, no1, qn f) ∧ f_R_go fu (th, sz, kd, ce, ar, ks, kp, qn f, gg, ho, op, ha, io, ra, ex, an, nu, ca, ba, no', at_, ev, r) sch = some (th, sz, kd, ce, ar, ks, kp, qn f, gg, ho, op, ha1, io1, ra, ex, an1, nu1, ca1, ba1, no1', at1, ev1, r) ∧ w16 w1 ∧ hvr ha1 io1 w1 ∧ a8 an1 ∧ a8 nu1 ∧ mi g ca1 ba1 70 (inBr g) (inBr g) := by
  have h14 := hg.n14
  have hgd := gn_def g
  have h6 := hg.1
  have ha4 := hg.2.1
  have hb4 := hg.2.2.1
  have ez : sz 0 = qn (gp g) := hR.1
  have e1 : gst g 1 = gp g := rfl
  have e2 : gen g 1 = gp g + ga g := rfl
  have e3 : gst g 2 = gp g + ga g := rfl
  have e4 : gen g 2 = gn g := rfl
  have e5 : gst g 0 = 0 := rfl
  have e6 : gst g 0 + gsz g 0 = gp g := Nat.zero_add _
  -- the class up to its loop over the prefix
  have c1 : ∀ n, f_M_perform_L13 fu P (n + 4) (an, nu, ca, ba, pz (fun _ => 0), nc, ne, no, qn f) sch (qn 0) = f_M_perform_L46 fu P (an, nu, ca, ba, pz (fun _ => 0), upd (upd (upd nc 0 (qn (gst g 0))) 1 (qn (gst g 1))) 2 (qn (gst g 2)), upd (upd (upd ne 0 (qn 0)) 1 (qn 0)) 2 (qn 0), no, qn f) sch := by
    intro n
    simp (disch := omega) only [↓reduceIte, q0, q1, q2, q3, q4, q5, q6, q7, q8, q14, q15, q16, q20, q31, q44, q50, q70, q1000, qn_le_t, qn_le_f, qn_lt_t, qn_lt_f, qn_eq_t, qn_eq_f, qn_add, qn_inb, qn_ix, qn_dec, qn_m1, ck_tt, bd_ss, ix, isB0, isB1, Nat.reduceAdd, Nat.reduceSub, Nat.reduceMul, Nat.zero_add, f_M_perform_L13, t_P_start hP]
  have c2 := c1 (fu - 4)
  rw [Nat.sub_add_cancel (by omega)] at c2
  have c3 : f_M_perform fu (an, nu, ca, ba, z, nc, ne, no, f0) P (qn f) sch = f_M_perform_L56 fu P fu (an, nu, ca, ba, pz (fun _ => 0), upd (upd (upd nc 0 (qn (gst g 0))) 1 (qn (gst g 1))) 2 (qn (gst g 2)), upd (upd (upd ne 0 (qn 0)) 1 (qn 0)) 2 (qn 0), no, qn f) sch (qn (gp g)) (qn 0) := by
    have : f_M_perform fu (an, nu, ca, ba, z, nc, ne, no, f0) P (qn f) sch = f_M_perform_L13 fu P fu (an, nu, ca, ba, pz (fun _ => 0), nc, ne, no, qn f) sch (qn 0) := by
      rw [← pz0]; rfl
    rw [this, c2]
    simp (disch := omega) only [↓reduceIte, q0, q1, q2, q3, q4, q5, q6, q7, q8, q14, q15, q16, q20, q31, q44, q50, q70, q1000, qn_le_t, qn_le_f, qn_lt_t, qn_lt_f, qn_eq_t, qn_eq_f, qn_add, qn_inb, qn_ix, qn_dec, qn_m1, ck_tt, bd_ss, ix, isB0, isB1, Nat.reduceAdd, Nat.reduceSub, Nat.reduceMul, Nat.zero_add, f_M_perform_L46, t_P_end hP, e6]
  generalize hNC : upd (upd (upd nc 0 (qn (gst g 0))) 1 (qn (gst g 1))) 2 (qn (gst g 2)) = nc0 at *
  generalize hNE : upd (upd (upd ne 0 (qn 0)) 1 (qn 0)) 2 (qn 0) = ne0 at *
  have n0 : nc0 0 = qn 0 ∧ nc0 1 = qn (gst g 1) ∧ nc0 2 = qn (gst g 2) := by
    rw [← hNC]; exact ⟨rfl, rfl, rfl⟩
  have m0 : ne0 0 = qn 0 ∧ ne0 1 = qn 0 ∧ ne0 2 = qn 0 := by
    rw [← hNE]; exact ⟨rfl, rfl, rfl⟩
  -- the reference up to its own
  have r1 : ∀ n, f_R_go_L2 fu (n + 4) (th, sz, kd, ce, ar, ks, kp, qn f, gg, ho, op, ha, io, ra, ex, an, nu, ca, ba, no', at_, ev, r) sch (qn 0) = f_R_go_L29 fu fu (th, sz, kd, ce, ar, ks, kp, qn f, gg, ho, op, upd (upd (upd ha 0 (qn 0)) 1 (qn 0)) 2 (qn 0), upd (upd (upd io 0 (qn 0)) 1 (qn 0)) 2 (qn 0), ra, ex, an, nu, ca, ba, no', at_, ev, r) sch (qn 0) := by
    intro n
    simp (disch := omega) only [↓reduceIte, q0, q1, q2, q3, q4, q5, q6, q7, q8, q14, q15, q16, q20, q31, q44, q50, q70, q1000, qn_le_t, qn_le_f, qn_lt_t, qn_lt_f, qn_eq_t, qn_eq_f, qn_add, qn_inb, qn_ix, qn_dec, qn_m1, ck_tt, bd_ss, ix, isB0, isB1, Nat.reduceAdd, Nat.reduceSub, Nat.reduceMul, Nat.zero_add, f_R_go_L2]
  have r2 := r1 (fu - 4)
  rw [Nat.sub_add_cancel (by omega)] at r2
  have r3 : f_R_go fu (th, sz, kd, ce, ar, ks, kp, qn f, gg, ho, op, ha, io, ra, ex, an, nu, ca, ba, no', at_, ev, r) sch = f_R_go_L29 fu fu (th, sz, kd, ce, ar, ks, kp, qn f, gg, ho, op, upd (upd (upd ha 0 (qn 0)) 1 (qn 0)) 2 (qn 0), upd (upd (upd io 0 (qn 0)) 1 (qn 0)) 2 (qn 0), ra, ex, an, nu, ca, ba, no', at_, ev, r) sch (qn 0) := r2
  have hh0 : hvr (upd (upd (upd ha 0 (qn 0)) 1 (qn 0)) 2 (qn 0)) (upd (upd (upd io 0 (qn 0)) 1 (qn 0)) 2 (qn 0)) (fun _ => 0) := by
    intro c hc
    have : c = 0 ∨ c = 1 ∨ c = 2 := by omega
    rcases this with rfl | rfl | rfl <;> exact ⟨rfl, rfl⟩
  have hw0 : w16 (fun _ => 0) := ⟨by decide, by decide, by decide⟩
  generalize upd (upd (upd ha 0 (qn 0)) 1 (qn 0)) 2 (qn 0) = ha0 at *
  generalize upd (upd (upd io 0 (qn 0)) 1 (qn 0)) 2 (qn 0) = io0 at *
  -- both over the prefix
  have pre : ∃ (an1 nu1 ca1 ba1 nc1 ne1 no1 ha1 io1 no1' : Nat → Int32) (w1 : Nat → Nat), f_M_perform fu (an, nu, ca, ba, z, nc, ne, no, f0) P (qn f) sch = f_M_perform_L87 fu P (an1, nu1, ca1, ba1, pz w1, nc1, ne1, no1, qn f) sch ∧ f_R_go fu (th, sz, kd, ce, ar, ks, kp, qn f, gg, ho, op, ha, io, ra, ex, an, nu, ca, ba, no', at_, ev, r) sch = f_R_go_L71 fu fu (th, sz, kd, ce, ar, ks, kp, qn f, gg, ho, op, ha1, io1, ra, ex, an1, nu1, ca1, ba1, no1', at_, ev, r) sch (qn 1) ∧ w16 w1 ∧ hvr ha1 io1 w1 ∧ a8 an1 ∧ a8 nu1 ∧ (∀ b', b' ≠ 0 → nc1 b' = nc0 b' ∧ ne1 b' = ne0 b') := by
    rw [c3, r3]
    by_cases hp : 0 < gp g
    · have r4 : f_R_go_L29 fu fu (th, sz, kd, ce, ar, ks, kp, qn f, gg, ho, op, ha0, io0, ra, ex, an, nu, ca, ba, no', at_, ev, r) sch (qn 0) = f_R_go_L41 fu (f_R_go_L29 fu (fu - 1)) fu (th, sz, kd, ce, ar, ks, kp, qn f, gg, ho, op, ha0, io0, ra, ex, an, nu, ca, ba, no', at_, ev, r) sch (qn 0) (qn 0) := by
        have : ∀ n, f_R_go_L29 fu (n + 1) (th, sz, kd, ce, ar, ks, kp, qn f, gg, ho, op, ha0, io0, ra, ex, an, nu, ca, ba, no', at_, ev, r) sch (qn 0) = f_R_go_L41 fu (f_R_go_L29 fu n) fu (th, sz, kd, ce, ar, ks, kp, qn f, gg, ho, op, ha0, io0, ra, ex, an, nu, ca, ba, no', at_, ev, r) sch (qn 0) (qn 0) := by
          intro n
          simp (disch := omega) only [↓reduceIte, q0, q1, q2, q3, q4, q5, q6, q7, q8, q14, q15, q16, q20, q31, q44, q50, q70, q1000, qn_le_t, qn_le_f, qn_lt_t, qn_lt_f, qn_eq_t, qn_eq_f, qn_add, qn_inb, qn_ix, qn_dec, qn_m1, ck_tt, bd_ss, ix, isB0, isB1, Nat.reduceAdd, Nat.reduceSub, Nat.reduceMul, Nat.zero_add, f_R_go_L29, ez]
        have h := this (fu - 1)
        rw [Nat.sub_add_cancel (by omega)] at h
        exact h
      rw [r4]
      exact pre_loop hfu hP hR hg hf 30 fu (fu - 1) fu 0 0 0 0 an nu ca ba nc0 ne0 no ha0 io0 no' (fun _ => 0) hp (by omega) (by omega) (by omega) (by omega) (by omega) hw0 hh0 ha8 hn8 n0.1 m0.1 ⟨by omega, fun h => by omega, fun h => by omega⟩ (by by_cases hs : gspk (gk g 0) f; exact Or.inl ⟨hs, rfl⟩; exact Or.inr ⟨hs, rfl⟩) (fun h => by omega)
    · have q1' : ∀ n, f_M_perform_L56 fu P (n + 1) (an, nu, ca, ba, pz (fun _ => 0), nc0, ne0, no, qn f) sch (qn (gp g)) (qn 0) = f_M_perform_L87 fu P (an, nu, ca, ba, pz (fun _ => 0), nc0, ne0, no, qn f) sch := by
        intro n
        simp (disch := omega) only [↓reduceIte, q0, q1, q2, q3, q4, q5, q6, q7, q8, q14, q15, q16, q20, q31, q44, q50, q70, q1000, qn_le_t, qn_le_f, qn_lt_t, qn_lt_f, qn_eq_t, qn_eq_f, qn_add, qn_inb, qn_ix, qn_dec, qn_m1, ck_tt, bd_ss, ix, isB0, isB1, Nat.reduceAdd, Nat.reduceSub, Nat.reduceMul, Nat.zero_add, f_M_perform_L56, n0.1]
      have q2' : ∀ n, f_R_go_L29 fu (n + 1) (th, sz, kd, ce, ar, ks, kp, qn f, gg, ho, op, ha0, io0, ra, ex, an, nu, ca, ba, no', at_, ev, r) sch (qn 0) = f_R_go_L71 fu fu (th, sz, kd, ce, ar, ks, kp, qn f, gg, ho, op, ha0, io0, ra, ex, an, nu, ca, ba, no', at_, ev, r) sch (qn 1) := by
        intro n
        simp (disch := omega) only [↓reduceIte, q0, q1, q2, q3, q4, q5, q6, q7, q8, q14, q15, q16, q20, q31, q44, q50, q70, q1000, qn_le_t, qn_le_f, qn_lt_t, qn_lt_f, qn_eq_t, qn_eq_f, qn_add, qn_inb, qn_ix, qn_dec, qn_m1, ck_tt, bd_ss, ix, isB0, isB1, Nat.reduceAdd, Nat.reduceSub, Nat.reduceMul, Nat.zero_add, f_R_go_L29, ez]
      have q1'' := q1' (fu - 1)
      have q2'' := q2' (fu - 1)
      rw [Nat.sub_add_cancel (by omega)] at q1'' q2''
      exact ⟨an, nu, ca, ba, nc0, ne0, no, ha0, io0, no', fun _ => 0, q1'', q2'', hw0, hh0, ha8, hn8, fun _ _ => ⟨rfl, rfl⟩⟩
  obtain ⟨an1, nu1, ca1, ba1, nc1, ne1, no1, ha1, io1, no1', w1, pM, pR, hw1, hh1, ha81, hn81, hoth⟩ := pre
  have c5 : f_M_perform_L87 fu P (an1, nu1, ca1, ba1, pz w1, nc1, ne1, no1, qn f) sch = f_M_perform_L104 fu P fu (an1, nu1, ca1, ba1, pz w1, nc1, ne1, no1, qn f) sch (qn (gen g 1)) (qn (gen g 2)) (qn 0) := by
    simp (disch := omega) only [↓reduceIte, q0, q1, q2, q3, q4, q5, q6, q7, q8, q14, q15, q16, q20, q31, q44, q50, q70, q1000, qn_le_t, qn_le_f, qn_lt_t, qn_lt_f, qn_eq_t, qn_eq_f, qn_add, qn_inb, qn_ix, qn_dec, qn_m1, ck_tt, bd_ss, ix, isB0, isB1, Nat.reduceAdd, Nat.reduceSub, Nat.reduceMul, Nat.zero_add, f_M_perform_L87, t_P_end hP]
    rfl
  have r5 : ∀ n, f_R_go_L71 fu (n + 3) (th, sz, kd, ce, ar, ks, kp, qn f, gg, ho, op, ha1, io1, ra, ex, an1, nu1, ca1, ba1, no1', at_, ev, r) sch (qn 1) = f_R_go_L102 fu fu (th, sz, kd, ce, ar, ks, kp, qn f, gg, ho, op, ha1, io1, ra, ex, an1, nu1, ca1, ba1, no1', upd (upd at_ 1 (qn (gst g 1))) 2 (qn (gst g 2)), upd (upd ev 1 (qn 0)) 2 (qn 0), r) sch (qn 0) := by
    intro n
    simp (disch := omega) only [↓reduceIte, q0, q1, q2, q3, q4, q5, q6, q7, q8, q14, q15, q16, q20, q31, q44, q50, q70, q1000, qn_le_t, qn_le_f, qn_lt_t, qn_lt_f, qn_eq_t, qn_eq_f, qn_add, qn_inb, qn_ix, qn_dec, qn_m1, ck_tt, bd_ss, ix, isB0, isB1, Nat.reduceAdd, Nat.reduceSub, Nat.reduceMul, Nat.zero_add, f_R_go_L71, t_R_first hR]
  have r6 := r5 (fu - 3)
  rw [Nat.sub_add_cancel (by omega)] at r6
  rw [pM, pR, c5, r6]
  refine run_loop hP hR hg hf 40 fu fu 0 an1 nu1 ca1 ba1 nc1 ne1 no1 ha1 io1 no1' _ _ w1 (fun b => gst g b) (fun _ => 0) (fun _ => 0) ?_ (by omega) (by omega) (by omega) hw1 hh1 ha81 hn81 ?_ ?_
  · unfold grm_; dsimp only; omega
  · intro b hb
    have hle : gst g b ≤ gen g b := Nat.le_add_right _ _
    refine ⟨?_, ?_, ?_, ?_, Nat.le_refl _, hle, fun _ => ⟨⟨by dsimp only; omega, fun h => by dsimp only at h; omega, fun h => by dsimp only at h; omega⟩, ?_, fun h => by dsimp only at h; omega⟩, fun _ => rfl⟩
    · rw [(hoth b (by omega)).1]
      rcases hb with rfl | rfl
      · exact n0.2.1
      · exact n0.2.2
    · rcases hb with rfl | rfl <;> rfl
    · rw [(hoth b (by omega)).2]
      rcases hb with rfl | rfl
      · exact m0.2.1
      · exact m0.2.2
    · rcases hb with rfl | rfl <;> rfl
    · by_cases hs : gspk (gk g (gst g b)) f
      · exact Or.inl ⟨hs, rfl⟩
      · exact Or.inr ⟨hs, rfl⟩
  · refine ⟨fun _ => 0, fun _ => 0, ?_, ?_, ?_, ?_, ?_⟩
    · rintro x ⟨b, hb, h1, h2, h3⟩; dsimp only at h3; omega
    · rintro x ⟨b, hb, h1, h2, h3⟩; dsimp only at h3; omega
    · rintro x j ⟨b, hb, h1, h2, h3⟩; dsimp only at h3; omega
    · rintro x j ⟨b, hb, h1, h2, h3⟩; dsimp only at h3; omega
    · rintro x j ⟨b, hb, h1, h2, h3⟩; dsimp only at h3; omega
