theorem t_R_fits_L60 {fu : Nat} (hf : 20000 ≤ fu) {th fl : Int32} {sz kd ce ar ks kp ho : Nat → Int32} {gg : Int64} {r : S_R11} {g : pg} (h : pgr (sz, kd, ce, ar) g) (hg : gok g) {oo : Nat} (hoo : oo < 256) (hord : ocn (ga g + gb g) oo = gb g) : ∀ (d n k : Nat) (op : Nat → Int32) (o : Nat → Bool) (q : Prop) (v : Int32), d < n → k + d = ga g + gb g → opr op o → (q → v = qn 1) → (¬ q → v = qn 0) → ∃ op', (q ∧ gth g (obs d oo) (gp g + k - otw (ga g + gb g) oo k) (gp g + ga g + otw (ga g + gb g) oo k) o → f_R_fits_L60 fu n (th, sz, kd, ce, ar, ks, kp, fl, gg, ho, op, r) (qn oo) v (qn k) = some (qn 1, (th, sz, kd, ce, ar, ks, kp, fl, gg, ho, op', r))) ∧ (¬ (q ∧ gth g (obs d oo) (gp g + k - otw (ga g + gb g) oo k) (gp g + ga g + otw (ga g + gb g) oo k) o) → f_R_fits_L60 fu n (th, sz, kd, ce, ar, ks, kp, fl, gg, ho, op, r) (qn oo) v (qn k) = some (qn 0, (th, sz, kd, ce, ar, ks, kp, fl, gg, ho, op', r))) := by
  have h14 := hg.n14
  have ha4 := hg.2.1; have hb4 := hg.2.2.1
  have e1 : sz 1 = qn (ga g) := h.2.1
  have e2 : sz 2 = qn (gb g) := h.2.2.1
  intro d
  induction d with
  | zero =>
    intro n k op o q v hn hk hop hq1 hq0
    obtain ⟨m, rfl⟩ : ∃ m, n = m + 1 := ⟨n - 1, by omega⟩
    refine ⟨op, fun hx => ?_, fun hx => ?_⟩
    · rw [hq1 hx.1]
      simp (disch := omega) only [q0, q1, q2, q3, q4, q5, q6, q7, q8, q14, q15, q16, q20, q31, q44, q50, q70, q1000, qn_le, qn_lt, qn_eq, qn_add, qn_inb, qn_ix, qn_dec, qn_m1, ck_tt, bd_ss, ix, isB0, isB1, if_pos, if_neg, if_true, if_false, Nat.reduceAdd, Nat.reduceLeDiff, Nat.reduceSub, Nat.reduceEqDiff, Nat.reduceMul, Nat.reduceLT, Nat.zero_add, not_true, not_false_iff, f_R_fits_L60, e1, e2]
    · rw [hq0 (fun hq => hx ⟨hq, trivial⟩)]
      simp (disch := omega) only [q0, q1, q2, q3, q4, q5, q6, q7, q8, q14, q15, q16, q20, q31, q44, q50, q70, q1000, qn_le, qn_lt, qn_eq, qn_add, qn_inb, qn_ix, qn_dec, qn_m1, ck_tt, bd_ss, ix, isB0, isB1, if_pos, if_neg, if_true, if_false, Nat.reduceAdd, Nat.reduceLeDiff, Nat.reduceSub, Nat.reduceEqDiff, Nat.reduceMul, Nat.reduceLT, Nat.zero_add, not_true, not_false_iff, f_R_fits_L60, e1, e2]
  | succ d ih =>
    intro n k op o q v hn hk hop hq1 hq0
    obtain ⟨m, rfl⟩ : ∃ m, n = m + 1 := ⟨n - 1, by omega⟩
    have hin := opl_in (g := g) (o := oo) (k := k) (by omega) hord
    obtain ⟨op1, g1, g0, gop⟩ := t_R_finds (fu := fu) (th := th) (fl := fl) (ks := ks) (kp := kp) (ho := ho) (gg := gg) (r := r) h hg hop hin.1
    have hle := otw_le (ga g + gb g) oo k
    have e3 : ga g + gb g - 1 - k = d := by omega
    -- the step
    have hstep : ∀ q' : Prop, (q' ↔ (gok_ g o (opl g oo k) ∧ q)) → ∃ v', (q' → v' = qn 1) ∧ (¬ q' → v' = qn 0) ∧ f_R_fits_L60 fu (m + 1) (th, sz, kd, ce, ar, ks, kp, fl, gg, ho, op, r) (qn oo) v (qn k) = f_R_fits_L60 fu m (th, sz, kd, ce, ar, ks, kp, fl, gg, ho, op1, r) (qn oo) v' (qn (k + 1)) := by
      intro q' hq'
      have hp := t_R_placed hf (th := th) (r := (ks, kp, fl, gg, ho, op, r)) h hg hoo (show k < ga g + gb g by omega)
      by_cases hx : gok_ g o (opl g oo k)
      · by_cases hq : q
        · refine ⟨qn 1, fun _ => rfl, fun hn => absurd (hq'.2 ⟨hx, hq⟩) hn, ?_⟩
          rw [hq1 hq]
          simp (disch := omega) only [q0, q1, q2, q3, q4, q5, q6, q7, q8, q14, q15, q16, q20, q31, q44, q50, q70, q1000, qn_le, qn_lt, qn_eq, qn_add, qn_inb, qn_ix, qn_dec, qn_m1, ck_tt, bd_ss, ix, isB0, isB1, if_pos, if_neg, if_true, if_false, Nat.reduceAdd, Nat.reduceLeDiff, Nat.reduceSub, Nat.reduceEqDiff, Nat.reduceMul, Nat.reduceLT, Nat.zero_add, not_true, not_false_iff, f_R_fits_L60, e1, e2, hp, g1 hx]
        · refine ⟨qn 0, fun hn => absurd (hq'.1 hn).2 hq, fun _ => rfl, ?_⟩
          rw [hq0 hq]
          simp (disch := omega) only [q0, q1, q2, q3, q4, q5, q6, q7, q8, q14, q15, q16, q20, q31, q44, q50, q70, q1000, qn_le, qn_lt, qn_eq, qn_add, qn_inb, qn_ix, qn_dec, qn_m1, ck_tt, bd_ss, ix, isB0, isB1, if_pos, if_neg, if_true, if_false, Nat.reduceAdd, Nat.reduceLeDiff, Nat.reduceSub, Nat.reduceEqDiff, Nat.reduceMul, Nat.reduceLT, Nat.zero_add, not_true, not_false_iff, f_R_fits_L60, e1, e2, hp, g1 hx]
      · refine ⟨qn 0, fun hn => absurd (hq'.1 hn).1 hx, fun _ => rfl, ?_⟩
        simp (disch := omega) only [q0, q1, q2, q3, q4, q5, q6, q7, q8, q14, q15, q16, q20, q31, q44, q50, q70, q1000, qn_le, qn_lt, qn_eq, qn_add, qn_inb, qn_ix, qn_dec, qn_m1, ck_tt, bd_ss, ix, isB0, isB1, if_pos, if_neg, if_true, if_false, Nat.reduceAdd, Nat.reduceLeDiff, Nat.reduceSub, Nat.reduceEqDiff, Nat.reduceMul, Nat.reduceLT, Nat.zero_add, not_true, not_false_iff, f_R_fits_L60, e1, e2, hp, g0 hx]
    obtain ⟨v', hv1, hv0, he⟩ := hstep (gok_ g o (opl g oo k) ∧ q) Iff.rfl
    obtain ⟨op', i1, i0⟩ := ih m (k + 1) op1 (gnx g o (opl g oo k)) (gok_ g o (opl g oo k) ∧ q) v' (by omega) (by omega) gop hv1 hv0
    have key : ((gok_ g o (opl g oo k) ∧ q) ∧ gth g (obs d oo) (gp g + (k + 1) - otw (ga g + gb g) oo (k + 1)) (gp g + ga g + otw (ga g + gb g) oo (k + 1)) (gnx g o (opl g oo k))) ↔ (q ∧ gth g (obs (d + 1) oo) (gp g + k - otw (ga g + gb g) oo k) (gp g + ga g + otw (ga g + gb g) oo k) o) := by
      have hs : otw (ga g + gb g) oo (k + 1) = otw (ga g + gb g) oo k + oo / 2 ^ d % 2 := by
        show otw (ga g + gb g) oo k + oo / 2 ^ (ga g + gb g - 1 - k) % 2 = _
        rw [e3]
      have hm2 : oo / 2 ^ d % 2 < 2 := Nat.mod_lt _ (by omega)
      have hob : obs (d + 1) oo = decide (oo / 2 ^ d % 2 = 1) :: obs d oo := rfl
      by_cases hbit : oo / 2 ^ d % 2 = 1
      · have hpl : opl g oo k = gp g + ga g + otw (ga g + gb g) oo k := by unfold opl; rw [e3, if_pos hbit]
        rw [hob, hs, hpl, hbit]
        have e5 : gp g + (k + 1) - (otw (ga g + gb g) oo k + 1) = gp g + k - otw (ga g + gb g) oo k := by omega
        rw [e5, ← Nat.add_assoc]
        exact ⟨fun ⟨⟨x1, x2⟩, x3⟩ => ⟨x2, x1, x3⟩, fun ⟨x2, x1, x3⟩ => ⟨⟨x1, x2⟩, x3⟩⟩
      · have hbit0 : oo / 2 ^ d % 2 = 0 := by omega
        have hpl : opl g oo k = gp g + k - otw (ga g + gb g) oo k := by unfold opl; rw [e3, if_neg hbit]
        rw [hob, hs, hpl, hbit0]
        have e5 : gp g + (k + 1) - (otw (ga g + gb g) oo k + 0) = gp g + k - otw (ga g + gb g) oo k + 1 := by omega
        rw [e5, Nat.add_zero]
        exact ⟨fun ⟨⟨x1, x2⟩, x3⟩ => ⟨x2, x1, x3⟩, fun ⟨x2, x1, x3⟩ => ⟨⟨x1, x2⟩, x3⟩⟩
    rw [he]
    refine ⟨op', fun hx => i1 (key.2 hx), fun hx => i0 (fun hy => hx (key.1 hy))⟩
theorem t_R_fits_L24 {fu : Nat} (hf : 20000 ≤ fu) {th fl : Int32} {sz kd ce ar ks kp ho : Nat → Int32} {gg : Int64} {r : S_R11} {g : pg} (h : pgr (sz, kd, ce, ar) g) (hg : gok g) {oo : Nat} (hoo : oo < 256) (hord : ocn (ga g + gb g) oo = gb g) : ∀ (d n i : Nat) (op : Nat → Int32) (o : Nat → Bool) (q : Prop) (v : Int32), d < n → i + d = gp g → opr op o → (q → v = qn 1) → (¬ q → v = qn 0) → ∃ op', (q ∧ grun g d i o ∧ gth g (obs (ga g + gb g) oo) (gp g) (gp g + ga g) (gnxs g d i o) → f_R_fits_L24 fu n (th, sz, kd, ce, ar, ks, kp, fl, gg, ho, op, r) (qn oo) v (qn i) = some (qn 1, (th, sz, kd, ce, ar, ks, kp, fl, gg, ho, op', r))) ∧ (¬ (q ∧ grun g d i o ∧ gth g (obs (ga g + gb g) oo) (gp g) (gp g + ga g) (gnxs g d i o)) → f_R_fits_L24 fu n (th, sz, kd, ce, ar, ks, kp, fl, gg, ho, op, r) (qn oo) v (qn i) = some (qn 0, (th, sz, kd, ce, ar, ks, kp, fl, gg, ho, op', r))) := by
  have h14 := hg.n14
  have hd' := gn_def g
  have e0 : sz 0 = qn (gp g) := h.1
  intro d
  induction d with
  | zero =>
    intro n i op o q v hn hk hop hq1 hq0
    obtain ⟨m, rfl⟩ : ∃ m, n = m + 1 := ⟨n - 1, by omega⟩
    obtain ⟨op', i1, i0⟩ := t_R_fits_L60 hf (th := th) (fl := fl) (ks := ks) (kp := kp) (ho := ho) (gg := gg) (r := r) h hg hoo hord (ga g + gb g) fu 0 op o q v (by omega) (by omega) hop hq1 hq0
    have e : f_R_fits_L24 fu (m + 1) (th, sz, kd, ce, ar, ks, kp, fl, gg, ho, op, r) (qn oo) v (qn i) = f_R_fits_L60 fu fu (th, sz, kd, ce, ar, ks, kp, fl, gg, ho, op, r) (qn oo) v (qn 0) := by
      simp (disch := omega) only [q0, q1, q2, q3, q4, q5, q6, q7, q8, q14, q15, q16, q20, q31, q44, q50, q70, q1000, qn_le, qn_lt, qn_eq, qn_add, qn_inb, qn_ix, qn_dec, qn_m1, ck_tt, bd_ss, ix, isB0, isB1, if_pos, if_neg, if_true, if_false, Nat.reduceAdd, Nat.reduceLeDiff, Nat.reduceSub, Nat.reduceEqDiff, Nat.reduceMul, Nat.reduceLT, Nat.zero_add, not_true, not_false_iff, f_R_fits_L24, e0]
    have e9 : otw (ga g + gb g) oo 0 = 0 := rfl
    rw [e9] at i1 i0
    rw [e]
    exact ⟨op', fun hx => i1 ⟨hx.1, hx.2.2⟩, fun hx => i0 (fun hy => hx ⟨hy.1, trivial, hy.2⟩)⟩
  | succ d ih =>
    intro n i op o q v hn hk hop hq1 hq0
    obtain ⟨m, rfl⟩ : ∃ m, n = m + 1 := ⟨n - 1, by omega⟩
    obtain ⟨op1, g1, g0, gop⟩ := t_R_finds (fu := fu) (th := th) (fl := fl) (ks := ks) (kp := kp) (ho := ho) (gg := gg) (r := r) h hg hop (i := i) (by omega)
    have hstep : ∃ v', ((gok_ g o i ∧ q) → v' = qn 1) ∧ (¬ (gok_ g o i ∧ q) → v' = qn 0) ∧ f_R_fits_L24 fu (m + 1) (th, sz, kd, ce, ar, ks, kp, fl, gg, ho, op, r) (qn oo) v (qn i) = f_R_fits_L24 fu m (th, sz, kd, ce, ar, ks, kp, fl, gg, ho, op1, r) (qn oo) v' (qn (i + 1)) := by
      by_cases hx : gok_ g o i
      · by_cases hq : q
        · refine ⟨qn 1, fun _ => rfl, fun hn => absurd ⟨hx, hq⟩ hn, ?_⟩
          rw [hq1 hq]
          simp (disch := omega) only [q0, q1, q2, q3, q4, q5, q6, q7, q8, q14, q15, q16, q20, q31, q44, q50, q70, q1000, qn_le, qn_lt, qn_eq, qn_add, qn_inb, qn_ix, qn_dec, qn_m1, ck_tt, bd_ss, ix, isB0, isB1, if_pos, if_neg, if_true, if_false, Nat.reduceAdd, Nat.reduceLeDiff, Nat.reduceSub, Nat.reduceEqDiff, Nat.reduceMul, Nat.reduceLT, Nat.zero_add, not_true, not_false_iff, f_R_fits_L24, e0, g1 hx]
        · refine ⟨qn 0, fun hn => absurd hn.2 hq, fun _ => rfl, ?_⟩
          rw [hq0 hq]
          simp (disch := omega) only [q0, q1, q2, q3, q4, q5, q6, q7, q8, q14, q15, q16, q20, q31, q44, q50, q70, q1000, qn_le, qn_lt, qn_eq, qn_add, qn_inb, qn_ix, qn_dec, qn_m1, ck_tt, bd_ss, ix, isB0, isB1, if_pos, if_neg, if_true, if_false, Nat.reduceAdd, Nat.reduceLeDiff, Nat.reduceSub, Nat.reduceEqDiff, Nat.reduceMul, Nat.reduceLT, Nat.zero_add, not_true, not_false_iff, f_R_fits_L24, e0, g1 hx]
      · refine ⟨qn 0, fun hn => absurd hn.1 hx, fun _ => rfl, ?_⟩
        simp (disch := omega) only [q0, q1, q2, q3, q4, q5, q6, q7, q8, q14, q15, q16, q20, q31, q44, q50, q70, q1000, qn_le, qn_lt, qn_eq, qn_add, qn_inb, qn_ix, qn_dec, qn_m1, ck_tt, bd_ss, ix, isB0, isB1, if_pos, if_neg, if_true, if_false, Nat.reduceAdd, Nat.reduceLeDiff, Nat.reduceSub, Nat.reduceEqDiff, Nat.reduceMul, Nat.reduceLT, Nat.zero_add, not_true, not_false_iff, f_R_fits_L24, e0, g0 hx]
    obtain ⟨v', hv1, hv0, he⟩ := hstep
    obtain ⟨op', i1, i0⟩ := ih m (i + 1) op1 (gnx g o i) (gok_ g o i ∧ q) v' (by omega) (by omega) gop hv1 hv0
    rw [he]
    refine ⟨op', fun hx => i1 ⟨⟨hx.2.1.1, hx.1⟩, hx.2.1.2, hx.2.2⟩, fun hx => i0 (fun hy => hx ⟨hy.1.2, ⟨hy.1.1, hy.2.1⟩, hy.2.2⟩)⟩
def gfit (g : pg) (oo : Nat) : Prop := grun g (gp g) 0 (fun _ => false) ∧ gth g (obs (ga g + gb g) oo) (gp g) (gp g + ga g) (gnxs g (gp g) 0 (fun _ => false))
theorem t_R_fits {fu : Nat} (hf : 20000 ≤ fu) {th fl : Int32} {sz kd ce ar ks kp ho op : Nat → Int32} {gg : Int64} {r : S_R11} {g : pg} (h : pgr (sz, kd, ce, ar) g) (hg : gok g) {oo : Nat} (hoo : oo < 256) (hord : ocn (ga g + gb g) oo = gb g) : ∃ op', (gfit g oo → f_R_fits fu (th, sz, kd, ce, ar, ks, kp, fl, gg, ho, op, r) (qn oo) = some (qn 1, (th, sz, kd, ce, ar, ks, kp, fl, gg, ho, op', r))) ∧ (¬ gfit g oo → f_R_fits fu (th, sz, kd, ce, ar, ks, kp, fl, gg, ho, op, r) (qn oo) = some (qn 0, (th, sz, kd, ce, ar, ks, kp, fl, gg, ho, op', r))) := by
  have h14 := hg.n14
  have hd' := gn_def g
  have hop : opr (upd (upd (upd op 0 (qn 0)) 1 (qn 0)) 2 (qn 0)) (fun _ => false) := by
    intro c hc
    have : c = 0 ∨ c = 1 ∨ c = 2 := by omega
    rcases this with rfl | rfl | rfl <;> rfl
  obtain ⟨op', i1, i0⟩ := t_R_fits_L24 hf (th := th) (fl := fl) (ks := ks) (kp := kp) (ho := ho) (gg := gg) (r := r) h hg hoo hord (gp g) fu 0 _ (fun _ => false) True (qn 1) (by omega) (by omega) hop (fun _ => rfl) (fun hn => absurd trivial hn)
  have h4 : ∀ n, f_R_fits_L2 fu (n + 4) (th, sz, kd, ce, ar, ks, kp, fl, gg, ho, op, r) (qn oo) (qn 0) = f_R_fits_L24 fu fu (th, sz, kd, ce, ar, ks, kp, fl, gg, ho, upd (upd (upd op 0 (qn 0)) 1 (qn 0)) 2 (qn 0), r) (qn oo) (qn 1) (qn 0) := by
    intro n; simp (disch := omega) only [q0, q1, q2, q3, q4, q5, q6, q7, q8, q14, q15, q16, q20, q31, q44, q50, q70, q1000, qn_le, qn_lt, qn_eq, qn_add, qn_inb, qn_ix, qn_dec, qn_m1, ck_tt, bd_ss, ix, isB0, isB1, if_pos, if_neg, if_true, if_false, Nat.reduceAdd, Nat.reduceLeDiff, Nat.reduceSub, Nat.reduceEqDiff, Nat.reduceMul, Nat.reduceLT, Nat.zero_add, not_true, not_false_iff, f_R_fits_L2]
  have h5 := h4 (fu - 4)
  rw [Nat.sub_add_cancel (by omega)] at h5
  have h6 : f_R_fits fu (th, sz, kd, ce, ar, ks, kp, fl, gg, ho, op, r) (qn oo) = f_R_fits_L24 fu fu (th, sz, kd, ce, ar, ks, kp, fl, gg, ho, upd (upd (upd op 0 (qn 0)) 1 (qn 0)) 2 (qn 0), r) (qn oo) (qn 1) (qn 0) := h5
  rw [h6]
  exact ⟨op', fun hx => i1 ⟨trivial, hx⟩, fun hx => i0 (fun hy => hx hy.2)⟩
theorem t_R_valid_L79 {fu : Nat} (hf : 20000 ≤ fu) {th fl : Int32} {sz kd ce ar ks kp ho : Nat → Int32} {gg : Int64} {r : S_R11} {g : pg} (h : pgr (sz, kd, ce, ar) g) (hg : gok g) : ∀ (d n i : Nat) (op : Nat → Int32), d < n → i + d = 2 ^ (ga g + gb g) → ∃ op', ((∀ oo, i ≤ oo → oo < 2 ^ (ga g + gb g) → ocn (ga g + gb g) oo = gb g → gfit g oo) → f_R_valid_L79 fu n (th, sz, kd, ce, ar, ks, kp, fl, gg, ho, op, r) (qn 1) (qn (2 ^ (ga g + gb g))) (qn i) = some (qn 1, (th, sz, kd, ce, ar, ks, kp, fl, gg, ho, op', r))) ∧ (¬ (∀ oo, i ≤ oo → oo < 2 ^ (ga g + gb g) → ocn (ga g + gb g) oo = gb g → gfit g oo) → f_R_valid_L79 fu n (th, sz, kd, ce, ar, ks, kp, fl, gg, ho, op, r) (qn 1) (qn (2 ^ (ga g + gb g))) (qn i) = some (qn 0, (th, sz, kd, ce, ar, ks, kp, fl, gg, ho, op', r))) := by
  have ha4 := hg.2.1; have hb4 := hg.2.2.1
  have hp : 2 ^ (ga g + gb g) ≤ 2 ^ 8 := Nat.pow_le_pow_right (by omega) (by omega)
  have hp' : 2 ^ (ga g + gb g) ≤ 256 := hp
  generalize hM : 2 ^ (ga g + gb g) = M at *
  intro d
  induction d with
  | zero =>
    intro n i op hn hi
    obtain ⟨m, rfl⟩ : ∃ m, n = m + 1 := ⟨n - 1, by omega⟩
    refine ⟨op, fun _ => ?_, fun hx => ?_⟩
    · simp (disch := omega) only [q0, q1, q2, q3, q4, q5, q6, q7, q8, q14, q15, q16, q20, q31, q44, q50, q70, q1000, qn_le, qn_lt, qn_eq, qn_add, qn_inb, qn_ix, qn_dec, qn_m1, ck_tt, bd_ss, ix, isB0, isB1, if_pos, if_neg, if_true, if_false, Nat.reduceAdd, Nat.reduceLeDiff, Nat.reduceSub, Nat.reduceEqDiff, Nat.reduceMul, Nat.reduceLT, Nat.zero_add, not_true, not_false_iff, f_R_valid_L79]
    · exact absurd (fun oo h1 h2 => by omega) hx
  | succ d ih =>
    intro n i op hn hi
    obtain ⟨m, rfl⟩ : ∃ m, n = m + 1 := ⟨n - 1, by omega⟩
    have hisO := t_R_isOrder hf (th := th) (r := (ks, kp, fl, gg, ho, op, r)) h hg (m := ga g + gb g) (o := i) (by omega) (by omega)
    by_cases hor : ocn (ga g + gb g) i = gb g
    · obtain ⟨op1, f1, f0⟩ := t_R_fits hf (th := th) (fl := fl) (ks := ks) (kp := kp) (ho := ho) (op := op) (gg := gg) (r := r) h hg (oo := i) (by omega) hor
      by_cases hfit : gfit g i
      · obtain ⟨op', i1, i0⟩ := ih m (i + 1) op1 (by omega) (by omega)
        have key : (∀ oo, i + 1 ≤ oo → oo < M → ocn (ga g + gb g) oo = gb g → gfit g oo) ↔ (∀ oo, i ≤ oo → oo < M → ocn (ga g + gb g) oo = gb g → gfit g oo) := by
          constructor
          · intro hx oo h1 h2 h3
            by_cases h4 : oo = i
            · rw [h4]; exact hfit
            · exact hx oo (by omega) h2 h3
          · intro hx oo h1 h2 h3; exact hx oo (by omega) h2 h3
        refine ⟨op', fun hx => ?_, fun hx => ?_⟩
        · simp (disch := omega) only [q0, q1, q2, q3, q4, q5, q6, q7, q8, q14, q15, q16, q20, q31, q44, q50, q70, q1000, qn_le, qn_lt, qn_eq, qn_add, qn_inb, qn_ix, qn_dec, qn_m1, ck_tt, bd_ss, ix, isB0, isB1, if_pos, if_neg, if_true, if_false, Nat.reduceAdd, Nat.reduceLeDiff, Nat.reduceSub, Nat.reduceEqDiff, Nat.reduceMul, Nat.reduceLT, Nat.zero_add, not_true, not_false_iff, f_R_valid_L79, hisO.1 hor, f1 hfit, i1 (key.2 hx)]
        · simp (disch := omega) only [q0, q1, q2, q3, q4, q5, q6, q7, q8, q14, q15, q16, q20, q31, q44, q50, q70, q1000, qn_le, qn_lt, qn_eq, qn_add, qn_inb, qn_ix, qn_dec, qn_m1, ck_tt, bd_ss, ix, isB0, isB1, if_pos, if_neg, if_true, if_false, Nat.reduceAdd, Nat.reduceLeDiff, Nat.reduceSub, Nat.reduceEqDiff, Nat.reduceMul, Nat.reduceLT, Nat.zero_add, not_true, not_false_iff, f_R_valid_L79, hisO.1 hor, f1 hfit, i0 (fun hy => hx (key.1 hy))]
      · obtain ⟨m', rfl⟩ : ∃ m', m = m' + 1 := ⟨m - 1, by omega⟩
        refine ⟨op1, fun hx => absurd (hx i (Nat.le_refl i) (by omega) hor) hfit, fun hx => ?_⟩
        by_cases hz : M ≤ i + 1
        · simp (disch := omega) only [q0, q1, q2, q3, q4, q5, q6, q7, q8, q14, q15, q16, q20, q31, q44, q50, q70, q1000, qn_le, qn_lt, qn_eq, qn_add, qn_inb, qn_ix, qn_dec, qn_m1, ck_tt, bd_ss, ix, isB0, isB1, if_pos, if_neg, if_true, if_false, Nat.reduceAdd, Nat.reduceLeDiff, Nat.reduceSub, Nat.reduceEqDiff, Nat.reduceMul, Nat.reduceLT, Nat.zero_add, not_true, not_false_iff, f_R_valid_L79, hisO.1 hor, f0 hfit]
        · simp (disch := omega) only [q0, q1, q2, q3, q4, q5, q6, q7, q8, q14, q15, q16, q20, q31, q44, q50, q70, q1000, qn_le, qn_lt, qn_eq, qn_add, qn_inb, qn_ix, qn_dec, qn_m1, ck_tt, bd_ss, ix, isB0, isB1, if_pos, if_neg, if_true, if_false, Nat.reduceAdd, Nat.reduceLeDiff, Nat.reduceSub, Nat.reduceEqDiff, Nat.reduceMul, Nat.reduceLT, Nat.zero_add, not_true, not_false_iff, f_R_valid_L79, hisO.1 hor, f0 hfit]
    · obtain ⟨op', i1, i0⟩ := ih m (i + 1) op (by omega) (by omega)
      have key : (∀ oo, i + 1 ≤ oo → oo < M → ocn (ga g + gb g) oo = gb g → gfit g oo) ↔ (∀ oo, i ≤ oo → oo < M → ocn (ga g + gb g) oo = gb g → gfit g oo) := by
        constructor
        · intro hx oo h1 h2 h3
          by_cases h4 : oo = i
          · rw [h4] at h3; exact absurd h3 hor
          · exact hx oo (by omega) h2 h3
        · intro hx oo h1 h2 h3; exact hx oo (by omega) h2 h3
      refine ⟨op', fun hx => ?_, fun hx => ?_⟩
      · simp (disch := omega) only [q0, q1, q2, q3, q4, q5, q6, q7, q8, q14, q15, q16, q20, q31, q44, q50, q70, q1000, qn_le, qn_lt, qn_eq, qn_add, qn_inb, qn_ix, qn_dec, qn_m1, ck_tt, bd_ss, ix, isB0, isB1, if_pos, if_neg, if_true, if_false, Nat.reduceAdd, Nat.reduceLeDiff, Nat.reduceSub, Nat.reduceEqDiff, Nat.reduceMul, Nat.reduceLT, Nat.zero_add, not_true, not_false_iff, f_R_valid_L79, hisO.2 hor, i1 (key.2 hx)]
      · simp (disch := omega) only [q0, q1, q2, q3, q4, q5, q6, q7, q8, q14, q15, q16, q20, q31, q44, q50, q70, q1000, qn_le, qn_lt, qn_eq, qn_add, qn_inb, qn_ix, qn_dec, qn_m1, ck_tt, bd_ss, ix, isB0, isB1, if_pos, if_neg, if_true, if_false, Nat.reduceAdd, Nat.reduceLeDiff, Nat.reduceSub, Nat.reduceEqDiff, Nat.reduceMul, Nat.reduceLT, Nat.zero_add, not_true, not_false_iff, f_R_valid_L79, hisO.2 hor, i0 (fun hy => hx (key.1 hy))]
theorem gvalid_fit {g : pg} : gvalid g ↔ ∀ oo, oo < 2 ^ (ga g + gb g) → ocn (ga g + gb g) oo = gb g → gfit g oo := by
  constructor
  · intro h oo h1 h2
    refine ⟨h.1, gW_th g _ (ga g) (gb g) _ _ _ (obs_len _ _) h2 h.2⟩
  · intro h
    refine ⟨?_, gth_W g _ _ _ _ _ ?_⟩
    · obtain ⟨bs, hb1, hb2⟩ := ex_bs (ga g) (gb g)
      obtain ⟨oo, h1, h2⟩ := obs_ex bs
      rw [hb1] at h1 h2
      have h3 : ocn (ga g + gb g) oo = gb g := by unfold ocn; rw [h2]; exact hb2
      exact (h oo h1 h3).1
    · intro bs hb1 hb2
      obtain ⟨oo, h1, h2⟩ := obs_ex bs
      rw [hb1] at h1 h2
      have h3 : ocn (ga g + gb g) oo = gb g := by unfold ocn; rw [h2]; exact hb2
      have := (h oo h1 h3).2
      rw [h2] at this; exact this
theorem shl1 {m : Nat} (hm : m ≤ 8) : qn 1 <<< (qn m &&& qn 31) = qn (2 ^ m) := by
  have : m = 0 ∨ m = 1 ∨ m = 2 ∨ m = 3 ∨ m = 4 ∨ m = 5 ∨ m = 6 ∨ m = 7 ∨ m = 8 := by omega
  rcases this with rfl | rfl | rfl | rfl | rfl | rfl | rfl | rfl | rfl <;> decide
theorem t_R_valid_L4 {fu : Nat} (hf : 20000 ≤ fu) {th : Int32} {sz kd ce ar : Nat → Int32} {r : S_R5} {g : pg} (h : pgr (sz, kd, ce, ar) g) (hg : gok g) : ∀ (d n i : Nat), d < n → i + d = gn g → f_R_valid_L4 fu n (th, sz, kd, ce, ar, r) (qn 1) (qn i) = f_R_valid_L61 fu (th, sz, kd, ce, ar, r) (qn 1) := by
  have h14 := hg.n14
  intro d
  induction d with
  | zero =>
    intro n i hn hi
    obtain ⟨m, rfl⟩ : ∃ m, n = m + 1 := ⟨n - 1, by omega⟩
    simp (disch := omega) only [q0, q1, q2, q3, q4, q5, q6, q7, q8, q14, q15, q16, q20, q31, q44, q50, q70, q1000, qn_le, qn_lt, qn_eq, qn_add, qn_inb, qn_ix, qn_dec, qn_m1, ck_tt, bd_ss, ix, isB0, isB1, if_pos, if_neg, if_true, if_false, Nat.reduceAdd, Nat.reduceLeDiff, Nat.reduceSub, Nat.reduceEqDiff, Nat.reduceMul, Nat.reduceLT, Nat.zero_add, not_true, not_false_iff, f_R_valid_L4, t_R_many h]
  | succ d ih =>
    intro n i hn hi
    obtain ⟨m, rfl⟩ : ∃ m, n = m + 1 := ⟨n - 1, by omega⟩
    have h1 : ar i = qn (gv g i) := (h.2.2.2 i (by omega)).2.2
    have h2 := hg.2.2.2 i (by omega)
    have h3 := hg.v22 (i := i) (by omega)
    have h4 := ih m (i + 1) (by omega) (by omega)
    by_cases h8 : gv g i < 8
    · simp (disch := omega) only [q0, q1, q2, q3, q4, q5, q6, q7, q8, q14, q15, q16, q20, q31, q44, q50, q70, q1000, qn_le, qn_lt, qn_eq, qn_add, qn_inb, qn_ix, qn_dec, qn_m1, ck_tt, bd_ss, ix, isB0, isB1, if_pos, if_neg, if_true, if_false, Nat.reduceAdd, Nat.reduceLeDiff, Nat.reduceSub, Nat.reduceEqDiff, Nat.reduceMul, Nat.reduceLT, Nat.zero_add, not_true, not_false_iff, f_R_valid_L4, t_R_many h, h1, h4]
    · have h5 : gmay g (gv g i - 8) (gbr g i) i := by
        rcases h2.2.2 with h6 | h6
        · exact absurd h6 h8
        · exact h6
      have h7 := (t_R_mayStand (fu := fu) (th := th) (r := r) h hg (i := gv g i - 8) (b := gbr g i) (own := i) (by omega) (gbr_lt g i) (by omega)).1 h5
      simp (disch := omega) only [q0, q1, q2, q3, q4, q5, q6, q7, q8, q14, q15, q16, q20, q31, q44, q50, q70, q1000, qn_le, qn_lt, qn_eq, qn_add, qn_inb, qn_ix, qn_dec, qn_m1, ck_tt, bd_ss, ix, isB0, isB1, if_pos, if_neg, if_true, if_false, Nat.reduceAdd, Nat.reduceLeDiff, Nat.reduceSub, Nat.reduceEqDiff, Nat.reduceMul, Nat.reduceLT, Nat.zero_add, not_true, not_false_iff, f_R_valid_L4, t_R_many h, h1, t_R_branch h hg, qn_sub, h7, h4]
theorem t_R_valid {fu : Nat} (hf : 20000 ≤ fu) {th fl : Int32} {sz kd ce ar ks kp ho op : Nat → Int32} {gg : Int64} {r : S_R11} {g : pg} (h : pgr (sz, kd, ce, ar) g) (hg : gok g) : ∃ op', (gvalid g → f_R_valid fu (th, sz, kd, ce, ar, ks, kp, fl, gg, ho, op, r) = some (qn 1, (th, sz, kd, ce, ar, ks, kp, fl, gg, ho, op', r))) ∧ (¬ gvalid g → f_R_valid fu (th, sz, kd, ce, ar, ks, kp, fl, gg, ho, op, r) = some (qn 0, (th, sz, kd, ce, ar, ks, kp, fl, gg, ho, op', r))) := by
  have ha4 := hg.2.1; have hb4 := hg.2.2.1
  have h14 := hg.n14
  have hp : 2 ^ (ga g + gb g) ≤ 2 ^ 8 := Nat.pow_le_pow_right (by omega) (by omega)
  have hp' : 2 ^ (ga g + gb g) ≤ 256 := hp
  obtain ⟨op', i1, i0⟩ := t_R_valid_L79 hf (th := th) (fl := fl) (ks := ks) (kp := kp) (ho := ho) (gg := gg) (r := r) h hg (2 ^ (ga g + gb g)) fu 0 op (by omega) (by omega)
  have e1 : sz 1 = qn (ga g) := h.2.1
  have e2 : sz 2 = qn (gb g) := h.2.2.1
  have hL := t_R_valid_L4 hf (th := th) (r := (ks, kp, fl, gg, ho, op, r)) h hg (gn g) fu 0 (by omega) (by omega)
  have e : f_R_valid fu (th, sz, kd, ce, ar, ks, kp, fl, gg, ho, op, r) = f_R_valid_L79 fu fu (th, sz, kd, ce, ar, ks, kp, fl, gg, ho, op, r) (qn 1) (qn (2 ^ (ga g + gb g))) (qn 0) := by
    have h5 := shl1 (m := ga g + gb g) (by omega)
    simp (disch := omega) only [q0, q1, q2, q3, q4, q5, q6, q7, q8, q14, q15, q16, q20, q31, q44, q50, q70, q1000, qn_le, qn_lt, qn_eq, qn_add, qn_inb, qn_ix, qn_dec, qn_m1, ck_tt, bd_ss, ix, isB0, isB1, if_pos, if_neg, if_true, if_false, Nat.reduceAdd, Nat.reduceLeDiff, Nat.reduceSub, Nat.reduceEqDiff, Nat.reduceMul, Nat.reduceLT, Nat.zero_add, not_true, not_false_iff, f_R_valid, hL, f_R_valid_L61, e1, e2, h5]
  rw [e]
  rw [gvalid_fit]
  exact ⟨op', fun hx => i1 (fun oo _ h2 h3 => hx oo h2 h3), fun hx => i0 (fun hy => hx (fun oo h2 h3 => hy oo (Nat.zero_le _) h2 h3))⟩
