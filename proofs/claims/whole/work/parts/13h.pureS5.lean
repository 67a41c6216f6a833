theorem i32_bit (x : Int32) : x &&& qn 1 = qn 0 ∨ x &&& qn 1 = qn 1 := by
  have h : (x &&& qn 1).toBitVec = x.toBitVec &&& 1#32 := rfl
  have h2 : (x.toBitVec &&& 1#32).toNat = x.toBitVec.toNat % 2 := by
    rw [BitVec.toNat_and]
    exact and1 _
  have h3 : x.toBitVec.toNat % 2 < 2 := Nat.mod_lt _ (by omega)
  by_cases h4 : x.toBitVec.toNat % 2 = 0
  · left
    apply Int32.toBitVec_inj.mp
    apply BitVec.eq_of_toNat_eq
    rw [h, h2, h4]; rfl
  · right
    apply Int32.toBitVec_inj.mp
    apply BitVec.eq_of_toNat_eq
    rw [h, h2, show x.toBitVec.toNat % 2 = 1 by omega]; rfl
def inBr (g : pg) (x : Nat) : Prop := gp g ≤ x ∧ x < gn g
theorem t_R_hasLeft {fu : Nat} {th ra ex fl : Int32} {sz kd ce ar ks kp ho op ha io an nu ca ba no at_ ev : Nat → Int32} {gg : Int64} {r : S_R22} {g : pg} (hR : pgr (sz, kd, ce, ar) g) (hg : gok g) {b i : Nat} (hb : b = 1 ∨ b = 2) (hat : at_ b = qn i) (hi : i ≤ gen g b) : bqr (f_R_hasLeft fu (th, sz, kd, ce, ar, ks, kp, fl, gg, ho, op, ha, io, ra, ex, an, nu, ca, ba, no, at_, ev, r) (qn b)) (i < gen g b) := by
  have h14 := hg.n14
  have hgl := gen_le (g := g) hb
  have hb3 : b < 3 := by omega
  have hs : sz b = qn (gsz g b) := hR.sz hb3
  have e : gen g b = gst g b + gsz g b := rfl
  refine ⟨fun hx => ?_, fun hx => ?_⟩
  · simp (disch := omega) only [↓reduceIte, q0, q1, q2, q3, q4, q5, q6, q7, q8, q14, q15, q16, q20, q31, q44, q50, q70, q1000, qn_le_t, qn_le_f, qn_lt_t, qn_lt_f, qn_eq_t, qn_eq_f, qn_add, qn_inb, qn_ix, qn_dec, qn_m1, ck_tt, bd_ss, ix, isB0, isB1, Nat.reduceAdd, Nat.reduceSub, Nat.reduceMul, Nat.zero_add, f_R_hasLeft, t_R_first hR hb3, hs, hat]
  · simp (disch := omega) only [↓reduceIte, q0, q1, q2, q3, q4, q5, q6, q7, q8, q14, q15, q16, q20, q31, q44, q50, q70, q1000, qn_le_t, qn_le_f, qn_lt_t, qn_lt_f, qn_eq_t, qn_eq_f, qn_add, qn_inb, qn_ix, qn_dec, qn_m1, ck_tt, bd_ss, ix, isB0, isB1, Nat.reduceAdd, Nat.reduceSub, Nat.reduceMul, Nat.zero_add, f_R_hasLeft, t_R_first hR hb3, hs, hat]
theorem run_loop {fu f : Nat} {P : S_P} {th ra ex : Int32} {sz kd ce ar ks kp ho op : Nat → Int32} {gg : Int64} {r : S_R22} {g : pg} {sch : Int32} (hP : pgr P g) (hR : pgr (sz, kd, ce, ar) g) (hg : gok g) (hf : f < 16) : ∀ (d nC nR m : Nat) (an nu ca ba nc ne no ha io no' at_ ev : Nat → Int32) (w I E E' : Nat → Nat), grm_ g I E 1 + grm_ g I E 2 ≤ d → d < nC → d < nR → m + d < 70 → w16 w → hvr ha io w → a8 an → a8 nu → (∀ b, b = 1 ∨ b = 2 → bi g f nc ne no at_ ev no' I E E' b) → mi g ca ba m (Cs g I E) (Rs g I E) → ∃ (an1 nu1 ca1 ba1 nc1 ne1 no1 ha1 io1 no1' at1 ev1 : Nat → Int32) (w1 : Nat → Nat), f_M_perform_L104 fu P nC (an, nu, ca, ba, pz w, nc, ne, no, qn f) sch (qn (gen g 1)) (qn (gen g 2)) (qn m) = some (an1, nu1, ca1, ba1, pz w1, nc1, ne1, no1, qn f) ∧ f_R_go_L102 fu nR (th, sz, kd, ce, ar, ks, kp, qn f, gg, ho, op, ha, io, ra, ex, an, nu, ca, ba, no', at_, ev, r) sch (qn m) = some (th, sz, kd, ce, ar, ks, kp, qn f, gg, ho, op, ha1, io1, ra, ex, an1, nu1, ca1, ba1, no1', at1, ev1, r) ∧ w16 w1 ∧ hvr ha1 io1 w1 ∧ a8 an1 ∧ a8 nu1 ∧ mi g ca1 ba1 70 (inBr g) (inBr g) := by
  have h14 := hg.n14
  have hgl1 := gen_le (g := g) (b := 1) (Or.inl rfl)
  have hgl2 := gen_le (g := g) (b := 2) (Or.inr rfl)
  intro d
  induction d with
  | zero =>
    intro nC nR m an nu ca ba nc ne no ha io no' at_ ev w I E E' hd hnC hnR hm hw hh ha8 hn8 hbi hmi
    obtain ⟨nC, rfl⟩ : ∃ m, nC = m + 1 := ⟨nC - 1, by omega⟩
    obtain ⟨nR, rfl⟩ : ∃ m, nR = m + 1 := ⟨nR - 1, by omega⟩
    obtain ⟨x1, x2, x3, x4, x5, x6, x7, x8⟩ := hbi 1 (Or.inl rfl)
    obtain ⟨y1, y2, y3, y4, y5, y6, y7, y8⟩ := hbi 2 (Or.inr rfl)
    have d1 : ¬ I 1 < gen g 1 := by
      intro h; have := (x7 h).1.1; unfold grm_ at hd; omega
    have d2 : ¬ I 2 < gen g 2 := by
      intro h; have := (y7 h).1.1; unfold grm_ at hd; omega
    have l1 := (t_R_hasLeft (fu := fu) (th := th) (ra := ra) (ex := ex) (fl := qn f) (ks := ks) (kp := kp) (ho := ho) (op := op) (ha := ha) (io := io) (an := an) (nu := nu) (ca := ca) (ba := ba) (no := no') (ev := ev) (gg := gg) (r := r) hR hg (Or.inl rfl) x2 x6).2 d1
    have l2 := (t_R_hasLeft (fu := fu) (th := th) (ra := ra) (ex := ex) (fl := qn f) (ks := ks) (kp := kp) (ho := ho) (op := op) (ha := ha) (io := io) (an := an) (nu := nu) (ca := ca) (ba := ba) (no := no') (ev := ev) (gg := gg) (r := r) hR hg (Or.inr rfl) y2 y6).2 d2
    refine ⟨an, nu, ca, ba, nc, ne, no, ha, io, no', at_, ev, w, ?_, ?_, hw, hh, ha8, hn8, ?_⟩
    · simp (disch := omega) only [↓reduceIte, q0, q1, q2, q3, q4, q5, q6, q7, q8, q14, q15, q16, q20, q31, q44, q50, q70, q1000, qn_le_t, qn_le_f, qn_lt_t, qn_lt_f, qn_eq_t, qn_eq_f, qn_add, qn_inb, qn_ix, qn_dec, qn_m1, ck_tt, bd_ss, ix, isB0, isB1, Nat.reduceAdd, Nat.reduceSub, Nat.reduceMul, Nat.zero_add, f_M_perform_L104, x1, f_M_perform_L127, y1]
    · simp (disch := omega) only [↓reduceIte, q0, q1, q2, q3, q4, q5, q6, q7, q8, q14, q15, q16, q20, q31, q44, q50, q70, q1000, qn_le_t, qn_le_f, qn_lt_t, qn_lt_f, qn_eq_t, qn_eq_f, qn_add, qn_inb, qn_ix, qn_dec, qn_m1, ck_tt, bd_ss, ix, isB0, isB1, Nat.reduceAdd, Nat.reduceSub, Nat.reduceMul, Nat.zero_add, f_R_go_L102, l1, l2]
    · have hin : ∀ x, inBr g x → ∃ b, (b = 1 ∨ b = 2) ∧ gst g b ≤ x ∧ x < gen g b ∧ x < I b := by
        intro x hx
        have e1 : gst g 1 = gp g := rfl
        have e2 : gen g 1 = gp g + ga g := rfl
        have e3 : gst g 2 = gp g + ga g := rfl
        have e4 : gen g 2 = gn g := rfl
        unfold inBr at hx
        by_cases h : x < gp g + ga g
        · exact ⟨1, Or.inl rfl, by omega, by omega, by omega⟩
        · exact ⟨2, Or.inr rfl, by omega, by omega, by omega⟩
      refine mi_sub hmi (by omega) ?_ ?_
      · intro x hx
        obtain ⟨b, hb, z1, z2, z3⟩ := hin x hx
        exact ⟨b, hb, z1, z2, Or.inl z3⟩
      · intro x hx
        obtain ⟨b, hb, z1, z2, z3⟩ := hin x hx
        exact ⟨b, hb, z1, z2, Or.inl z3⟩
  | succ d ih =>
    intro nC nR m an nu ca ba nc ne no ha io no' at_ ev w I E E' hd hnC hnR hm hw hh ha8 hn8 hbi hmi
    obtain ⟨x1, x2, x3, x4, x5, x6, x7, x8⟩ := hbi 1 (Or.inl rfl)
    obtain ⟨y1, y2, y3, y4, y5, y6, y7, y8⟩ := hbi 2 (Or.inr rfl)
    have l1 := t_R_hasLeft (fu := fu) (th := th) (ra := ra) (ex := ex) (fl := qn f) (ks := ks) (kp := kp) (ho := ho) (op := op) (ha := ha) (io := io) (an := an) (nu := nu) (ca := ca) (ba := ba) (no := no') (ev := ev) (gg := gg) (r := r) hR hg (Or.inl rfl) x2 x6
    have l2 := t_R_hasLeft (fu := fu) (th := th) (ra := ra) (ex := ex) (fl := qn f) (ks := ks) (kp := kp) (ho := ho) (op := op) (ha := ha) (io := io) (an := an) (nu := nu) (ca := ca) (ba := ba) (no := no') (ev := ev) (gg := gg) (r := r) hR hg (Or.inr rfl) y2 y6
    by_cases hdone : grm_ g I E 1 + grm_ g I E 2 ≤ d
    · exact ih nC nR m an nu ca ba nc ne no ha io no' at_ ev w I E E' hdone (by omega) (by omega) (by omega) hw hh ha8 hn8 hbi hmi
    · obtain ⟨nC, rfl⟩ : ∃ m, nC = m + 1 := ⟨nC - 1, by omega⟩
      obtain ⟨nR, rfl⟩ : ∃ m, nR = m + 1 := ⟨nR - 1, by omega⟩
      -- which branch goes
      have pick : ∃ b, (b = 1 ∨ b = 2) ∧ I b < gen g b ∧ (∀ M1, f_M_step fu (an, nu, ca, ba, pz w, nc, ne, no, qn f) P (qn b) (qn m) = some M1 → f_M_perform_L104 fu P (nC + 1) (an, nu, ca, ba, pz w, nc, ne, no, qn f) sch (qn (gen g 1)) (qn (gen g 2)) (qn m) = f_M_perform_L104 fu P nC M1 sch (qn (gen g 1)) (qn (gen g 2)) (qn (m + 1))) ∧ f_R_go_L102 fu (nR + 1) (th, sz, kd, ce, ar, ks, kp, qn f, gg, ho, op, ha, io, ra, ex, an, nu, ca, ba, no', at_, ev, r) sch (qn m) = f_R_go_L152 fu (f_R_go_L102 fu nR) (th, sz, kd, ce, ar, ks, kp, qn f, gg, ho, op, ha, io, ra, ex, an, nu, ca, ba, no', at_, ev, r) sch (qn m) (qn b) := by
        by_cases h1 : I 1 < gen g 1
        · by_cases h2 : I 2 < gen g 2
          · rcases i32_bit (sch >>> (qn (m % 31) &&& qn 31)) with hbit | hbit
            · refine ⟨1, Or.inl rfl, h1, fun M1 hM1 => ?_, ?_⟩
              · simp (disch := omega) only [↓reduceIte, q0, q1, q2, q3, q4, q5, q6, q7, q8, q14, q15, q16, q20, q31, q44, q50, q70, q1000, qn_le_t, qn_le_f, qn_lt_t, qn_lt_f, qn_eq_t, qn_eq_f, qn_add, qn_inb, qn_ix, qn_dec, qn_m1, ck_tt, bd_ss, ix, isB0, isB1, Nat.reduceAdd, Nat.reduceSub, Nat.reduceMul, Nat.zero_add, f_M_perform_L104, x1, f_M_perform_L127, y1, f_M_perform_L160, nz_qn, qn_mod, hbit, f_M_perform_L178, hM1]
              · simp (disch := omega) only [↓reduceIte, q0, q1, q2, q3, q4, q5, q6, q7, q8, q14, q15, q16, q20, q31, q44, q50, q70, q1000, qn_le_t, qn_le_f, qn_lt_t, qn_lt_f, qn_eq_t, qn_eq_f, qn_add, qn_inb, qn_ix, qn_dec, qn_m1, ck_tt, bd_ss, ix, isB0, isB1, Nat.reduceAdd, Nat.reduceSub, Nat.reduceMul, Nat.zero_add, f_R_go_L102, l1.1 h1, f_R_go_L118, l2.1 h2, nz_qn, qn_mod, hbit]
            · refine ⟨2, Or.inr rfl, h2, fun M1 hM1 => ?_, ?_⟩
              · simp (disch := omega) only [↓reduceIte, q0, q1, q2, q3, q4, q5, q6, q7, q8, q14, q15, q16, q20, q31, q44, q50, q70, q1000, qn_le_t, qn_le_f, qn_lt_t, qn_lt_f, qn_eq_t, qn_eq_f, qn_add, qn_inb, qn_ix, qn_dec, qn_m1, ck_tt, bd_ss, ix, isB0, isB1, Nat.reduceAdd, Nat.reduceSub, Nat.reduceMul, Nat.zero_add, f_M_perform_L104, x1, f_M_perform_L127, y1, f_M_perform_L160, nz_qn, qn_mod, hbit, f_M_perform_L178, hM1]
              · simp (disch := omega) only [↓reduceIte, q0, q1, q2, q3, q4, q5, q6, q7, q8, q14, q15, q16, q20, q31, q44, q50, q70, q1000, qn_le_t, qn_le_f, qn_lt_t, qn_lt_f, qn_eq_t, qn_eq_f, qn_add, qn_inb, qn_ix, qn_dec, qn_m1, ck_tt, bd_ss, ix, isB0, isB1, Nat.reduceAdd, Nat.reduceSub, Nat.reduceMul, Nat.zero_add, f_R_go_L102, l1.1 h1, f_R_go_L118, l2.1 h2, nz_qn, qn_mod, hbit]
          · refine ⟨1, Or.inl rfl, h1, fun M1 hM1 => ?_, ?_⟩
            · rcases i32_bit (sch >>> (qn (m % 31) &&& qn 31)) with hbit | hbit
              · simp (disch := omega) only [↓reduceIte, q0, q1, q2, q3, q4, q5, q6, q7, q8, q14, q15, q16, q20, q31, q44, q50, q70, q1000, qn_le_t, qn_le_f, qn_lt_t, qn_lt_f, qn_eq_t, qn_eq_f, qn_add, qn_inb, qn_ix, qn_dec, qn_m1, ck_tt, bd_ss, ix, isB0, isB1, Nat.reduceAdd, Nat.reduceSub, Nat.reduceMul, Nat.zero_add, f_M_perform_L104, x1, f_M_perform_L127, y1, f_M_perform_L160, nz_qn, qn_mod, hbit, f_M_perform_L178, hM1]
              · simp (disch := omega) only [↓reduceIte, q0, q1, q2, q3, q4, q5, q6, q7, q8, q14, q15, q16, q20, q31, q44, q50, q70, q1000, qn_le_t, qn_le_f, qn_lt_t, qn_lt_f, qn_eq_t, qn_eq_f, qn_add, qn_inb, qn_ix, qn_dec, qn_m1, ck_tt, bd_ss, ix, isB0, isB1, Nat.reduceAdd, Nat.reduceSub, Nat.reduceMul, Nat.zero_add, f_M_perform_L104, x1, f_M_perform_L127, y1, f_M_perform_L160, nz_qn, qn_mod, hbit, f_M_perform_L178, hM1]
            · simp (disch := omega) only [↓reduceIte, q0, q1, q2, q3, q4, q5, q6, q7, q8, q14, q15, q16, q20, q31, q44, q50, q70, q1000, qn_le_t, qn_le_f, qn_lt_t, qn_lt_f, qn_eq_t, qn_eq_f, qn_add, qn_inb, qn_ix, qn_dec, qn_m1, ck_tt, bd_ss, ix, isB0, isB1, Nat.reduceAdd, Nat.reduceSub, Nat.reduceMul, Nat.zero_add, f_R_go_L102, l1.1 h1, f_R_go_L118, l2.2 h2]
        · have h2 : I 2 < gen g 2 := by
            by_cases h2 : I 2 < gen g 2
            · exact h2
            · exfalso; unfold grm_ at hdone; omega
          refine ⟨2, Or.inr rfl, h2, fun M1 hM1 => ?_, ?_⟩
          · rcases i32_bit (sch >>> (qn (m % 31) &&& qn 31)) with hbit | hbit
            · simp (disch := omega) only [↓reduceIte, q0, q1, q2, q3, q4, q5, q6, q7, q8, q14, q15, q16, q20, q31, q44, q50, q70, q1000, qn_le_t, qn_le_f, qn_lt_t, qn_lt_f, qn_eq_t, qn_eq_f, qn_add, qn_inb, qn_ix, qn_dec, qn_m1, ck_tt, bd_ss, ix, isB0, isB1, Nat.reduceAdd, Nat.reduceSub, Nat.reduceMul, Nat.zero_add, f_M_perform_L104, x1, f_M_perform_L127, y1, f_M_perform_L160, nz_qn, qn_mod, hbit, f_M_perform_L178, hM1]
            · simp (disch := omega) only [↓reduceIte, q0, q1, q2, q3, q4, q5, q6, q7, q8, q14, q15, q16, q20, q31, q44, q50, q70, q1000, qn_le_t, qn_le_f, qn_lt_t, qn_lt_f, qn_eq_t, qn_eq_f, qn_add, qn_inb, qn_ix, qn_dec, qn_m1, ck_tt, bd_ss, ix, isB0, isB1, Nat.reduceAdd, Nat.reduceSub, Nat.reduceMul, Nat.zero_add, f_M_perform_L104, x1, f_M_perform_L127, y1, f_M_perform_L160, nz_qn, qn_mod, hbit, f_M_perform_L178, hM1]
          · simp (disch := omega) only [↓reduceIte, q0, q1, q2, q3, q4, q5, q6, q7, q8, q14, q15, q16, q20, q31, q44, q50, q70, q1000, qn_le_t, qn_le_f, qn_lt_t, qn_lt_f, qn_eq_t, qn_eq_f, qn_add, qn_inb, qn_ix, qn_dec, qn_m1, ck_tt, bd_ss, ix, isB0, isB1, Nat.reduceAdd, Nat.reduceSub, Nat.reduceMul, Nat.zero_add, f_R_go_L102, l1.2 h1, l2.1 h2, f_R_go_L118]
      obtain ⟨b, hb, hIb, pM, pR⟩ := pick
      obtain ⟨an1, nu1, ca1, ba1, nc1, ne1, no1, ha1, io1, no1', at1, ev1, w1, I1, E1, E1', sM, sR, hw1, hh1, ha81, hn81, hbi1, hmi1, hr1, hr2⟩ := jturn (fu := fu) (f := f) (th := th) (ra := ra) (ex := ex) (ks := ks) (kp := kp) (ho := ho) (op := op) (gg := gg) (r := r) (sch := sch) hP hR hg hf hw hh ha8 hn8 b hb hbi hIb hmi (by omega)
      have hrem : grm_ g I1 E1 1 + grm_ g I1 E1 2 ≤ d := by
        rcases hb with rfl | rfl
        · have := hr2 2 (by omega); omega
        · have := hr2 1 (by omega); omega
      rw [pM _ sM, pR, sR]
      exact ih nC nR (m + 1) an1 nu1 ca1 ba1 nc1 ne1 no1 ha1 io1 no1' at1 ev1 w1 I1 E1 E1' hrem (by omega) (by omega) (by omega) hw1 hh1 ha81 hn81 hbi1 hmi1
