def hor (ho : Nat → Int32) (w : Nat → Nat) : Prop := ∀ c, c < 3 → ho c = qn (w c % 8)
theorem hor_set {ho : Nat → Int32} {w : Nat → Nat} (h : hor ho w) {c x : Nat} {y : Int32} (hy : y = qn (x % 8)) : hor (upd ho c y) (nset w c x) := by
  intro j hj
  by_cases hjc : j = c
  · subst hjc; rw [upd_at, nset_at]; exact hy
  · rw [upd_ne _ _ _ _ hjc, nset_ne _ _ hjc]; exact h j hj
theorem hor_same {ho : Nat → Int32} {w : Nat → Nat} (h : hor ho w) {c x : Nat} (hc : c < 3) (hx : x % 8 = w c % 8) : hor ho (nset w c x) := by
  have := hor_set h (c := c) (x := x) (y := ho c) (by rw [h c hc, hx])
  rw [upd_self] at this; exact this
section REX
variable {fu : Nat} {th ra ex fl : Int32} {sz kd ce ar ks kp op ha io an nu ca ba no at_ ev : Nat → Int32} {gg : Int64} {r : S_R22} {g : pg} {nv av C D : Nat → Nat}
theorem t_R_right {ho : Nat → Int32} {w : Nat → Nat} (hh : hor ho w) {i k c v : Nat} (hi : i < 14) (e1 : kd i = qn k) (e2 : ce i = qn c) (hk : k ≤ 6) (hc : c < 3) (hv : nu i = qn v) (v8 : v < 8) : ∃ ho', f_R_right fu (th, sz, kd, ce, ar, ks, kp, fl, gg, ho, op, ha, io, ra, ex, an, nu, ca, ba, no, at_, ev, r) (qn i) = some (qn (nans w k c v), (th, sz, kd, ce, ar, ks, kp, fl, gg, ho', op, ha, io, ra, ex, an, nu, ca, ba, no, at_, ev, r)) ∧ hor ho' (naft w k c v) := by
  have h1 := hh c hc
  have hs : (c + 1) % 3 < 3 := Nat.mod_lt _ (by omega)
  have h2 := hh _ hs
  have h8 : w c % 8 < 8 := Nat.mod_lt _ (by omega)
  have h9 : w ((c + 1) % 3) % 8 < 8 := Nat.mod_lt _ (by omega)
  have : k = 0 ∨ k = 1 ∨ k = 2 ∨ k = 3 ∨ k = 4 ∨ k = 5 ∨ k = 6 := by omega
  rcases this with rfl | rfl | rfl | rfl | rfl | rfl | rfl
  · refine ⟨upd ho c (qn v), ?_, hor_set hh (by congr 1; simp <;> omega)⟩
    have e : nans w 0 c v = 0 := rfl
    rw [e]
    simp (disch := omega) only [↓reduceIte, q0, q1, q2, q3, q4, q5, q6, q7, q8, q14, q15, q16, q20, q31, q44, q50, q70, q1000, qn_le_t, qn_le_f, qn_lt_t, qn_lt_f, qn_eq_t, qn_eq_f, qn_add, qn_inb, qn_ix, qn_dec, qn_m1, ck_tt, bd_ss, ix, isB0, isB1, Nat.reduceAdd, Nat.reduceSub, Nat.reduceMul, Nat.zero_add, f_R_right, e1, e2, h1, hv, f_R_right_L39, f_R_right_L76, f_R_right_L99, f_R_right_L126]
  · refine ⟨upd ho c (qn 0), ?_, hor_set hh rfl⟩
    have e : nans w 1 c v = w c % 8 := rfl
    rw [e]
    simp (disch := omega) only [↓reduceIte, q0, q1, q2, q3, q4, q5, q6, q7, q8, q14, q15, q16, q20, q31, q44, q50, q70, q1000, qn_le_t, qn_le_f, qn_lt_t, qn_lt_f, qn_eq_t, qn_eq_f, qn_add, qn_inb, qn_ix, qn_dec, qn_m1, ck_tt, bd_ss, ix, isB0, isB1, Nat.reduceAdd, Nat.reduceSub, Nat.reduceMul, Nat.zero_add, f_R_right, e1, e2, h1, hv, f_R_right_L39, f_R_right_L76, f_R_right_L99, f_R_right_L126]
  · refine ⟨ho, ?_, hor_same hh hc rfl⟩
    have e : nans w 2 c v = w c % 8 := rfl
    rw [e]
    simp (disch := omega) only [↓reduceIte, q0, q1, q2, q3, q4, q5, q6, q7, q8, q14, q15, q16, q20, q31, q44, q50, q70, q1000, qn_le_t, qn_le_f, qn_lt_t, qn_lt_f, qn_eq_t, qn_eq_f, qn_add, qn_inb, qn_ix, qn_dec, qn_m1, ck_tt, bd_ss, ix, isB0, isB1, Nat.reduceAdd, Nat.reduceSub, Nat.reduceMul, Nat.zero_add, f_R_right, e1, e2, h1, hv, f_R_right_L39, f_R_right_L76, f_R_right_L99, f_R_right_L126]
  · refine ⟨upd ho c (qn v), ?_, hor_set hh (by congr 1; simp <;> omega)⟩
    have e : nans w 3 c v = 0 := rfl
    rw [e]
    simp (disch := omega) only [↓reduceIte, q0, q1, q2, q3, q4, q5, q6, q7, q8, q14, q15, q16, q20, q31, q44, q50, q70, q1000, qn_le_t, qn_le_f, qn_lt_t, qn_lt_f, qn_eq_t, qn_eq_f, qn_add, qn_inb, qn_ix, qn_dec, qn_m1, ck_tt, bd_ss, ix, isB0, isB1, Nat.reduceAdd, Nat.reduceSub, Nat.reduceMul, Nat.zero_add, f_R_right, e1, e2, h1, hv, f_R_right_L39, f_R_right_L76, f_R_right_L99, f_R_right_L126]
  · refine ⟨upd ho c (qn ((w c % 8 + v) % 8)), ?_, hor_set hh (by congr 1; simp <;> omega)⟩
    have e : nans w 4 c v = (w c % 8 + v) % 8 := rfl
    rw [e]
    simp (disch := omega) only [↓reduceIte, q0, q1, q2, q3, q4, q5, q6, q7, q8, q14, q15, q16, q20, q31, q44, q50, q70, q1000, qn_le_t, qn_le_f, qn_lt_t, qn_lt_f, qn_eq_t, qn_eq_f, qn_add, qn_inb, qn_ix, qn_dec, qn_m1, ck_tt, bd_ss, ix, isB0, isB1, Nat.reduceAdd, Nat.reduceSub, Nat.reduceMul, Nat.zero_add, f_R_right, e1, e2, h1, hv, f_R_right_L39, f_R_right_L76, f_R_right_L99, f_R_right_L126, nz_qn, qn_mod, upd_at]
  · refine ⟨upd ho c (qn v), ?_, hor_set hh (by congr 1; simp <;> omega)⟩
    have e : nans w 5 c v = w c % 8 := rfl
    rw [e]
    simp (disch := omega) only [↓reduceIte, q0, q1, q2, q3, q4, q5, q6, q7, q8, q14, q15, q16, q20, q31, q44, q50, q70, q1000, qn_le_t, qn_le_f, qn_lt_t, qn_lt_f, qn_eq_t, qn_eq_f, qn_add, qn_inb, qn_ix, qn_dec, qn_m1, ck_tt, bd_ss, ix, isB0, isB1, Nat.reduceAdd, Nat.reduceSub, Nat.reduceMul, Nat.zero_add, f_R_right, e1, e2, h1, hv, f_R_right_L39, f_R_right_L76, f_R_right_L99, f_R_right_L126]
  · refine ⟨upd ho c (qn (w ((c + 1) % 3) % 8)), ?_, hor_set hh (by congr 1; simp <;> omega)⟩
    have e : nans w 6 c v = w c % 8 := rfl
    rw [e]
    simp (disch := omega) only [↓reduceIte, q0, q1, q2, q3, q4, q5, q6, q7, q8, q14, q15, q16, q20, q31, q44, q50, q70, q1000, qn_le_t, qn_le_f, qn_lt_t, qn_lt_f, qn_eq_t, qn_eq_f, qn_add, qn_inb, qn_ix, qn_dec, qn_m1, ck_tt, bd_ss, ix, isB0, isB1, Nat.reduceAdd, Nat.reduceSub, Nat.reduceMul, Nat.zero_add, f_R_right, e1, e2, h1, hv, f_R_right_L39, f_R_right_L76, f_R_right_L99, f_R_right_L126, nz_qn, qn_mod, h2]
theorem r_right (hR : pgr (sz, kd, ce, ar) g) (hg : gok g) (hn : ∀ i, i < 14 → nv i < 8 ∧ nu i = qn (nv i)) (ha' : ∀ i, i < 14 → av i < 8 ∧ an i = qn (av i)) {ho : Nat → Int32} {w : Nat → Nat} (hh : hor ho w) {i : Nat} (hi : i < gn g) : ∃ ho' x, x < 8 ∧ f_R_right fu (th, sz, kd, ce, ar, ks, kp, fl, gg, ho, op, ha, io, ra, ex, an, nu, ca, ba, no, at_, ev, r) (qn i) = some (qn x, (th, sz, kd, ce, ar, ks, kp, fl, gg, ho', op, ha, io, ra, ex, an, nu, ca, ba, no, at_, ev, r)) ∧ (x = av i ↔ anw g nv av w i) ∧ hor ho' (nxw g nv w i) := by
  have h14 := hg.n14
  have q := hR.2.2.2 i hi
  have gi := hg.2.2.2 i hi
  have h1 := hn i (by omega)
  obtain ⟨ho', h3, h4⟩ := t_R_right (fu := fu) (th := th) (ra := ra) (ex := ex) (fl := fl) (sz := sz) (ar := ar) (ks := ks) (kp := kp) (op := op) (ha := ha) (io := io) (an := an) (ca := ca) (ba := ba) (no := no) (at_ := at_) (ev := ev) (gg := gg) (r := r) hh (show i < 14 by omega) q.1 q.2.1 gi.1 (show gc g i < 3 by have := gi.2.1; omega) h1.2 h1.1
  refine ⟨ho', _, ?_, h3, Iff.rfl, h4⟩
  rw [nans_dans gi.1]; exact dans8 (Nat.mod_lt _ (by omega))
theorem opl_opk (g : pg) (o k : Nat) : opl g o k = opk (ga g + gb g) o (gp g) (gp g + ga g) k := rfl
theorem t_R_exp_L128 (hf : 20000 ≤ fu) (hR : pgr (sz, kd, ce, ar) g) (hg : gok g) (hcd : ∀ i, inBr g i → (ca i = qn (C i) ∧ C i < 70) ∧ (ba i = qn (D i) ∧ D i < 70)) {oo : Nat} (hoo : oo < 256) (hord : ocn (ga g + gb g) oo = gb g) {ho : Nat → Int32} {k81 : S_R → Int32 → Int32 → Int32 → Int32 → Option (Int32 × S_R)} {k x : Nat} (hx : inBr g x) (hk : k < 100) : ∀ (d n l : Nat) (q : Prop) (v : Int32), d < n → l + d = ga g + gb g → (q → v = qn 1) → (¬ q → v = qn 0) → ∃ v', ((q ∧ ∀ l', l ≤ l' → l' < ga g + gb g → C x < D (opl g oo l')) → v' = qn 1) ∧ (¬ (q ∧ ∀ l', l ≤ l' → l' < ga g + gb g → C x < D (opl g oo l')) → v' = qn 0) ∧ f_R_explains_L128 fu k81 n (th, sz, kd, ce, ar, ks, kp, fl, gg, ho, op, ha, io, ra, ex, an, nu, ca, ba, no, at_, ev, r) (qn oo) v (qn (ga g + gb g)) (qn k) (qn x) (qn l) = k81 (th, sz, kd, ce, ar, ks, kp, fl, gg, ho, op, ha, io, ra, ex, an, nu, ca, ba, no, at_, ev, r) (qn oo) v' (qn (ga g + gb g)) (qn (k + 1)) := by
  have h14 := hg.n14
  have ha4 := hg.2.1; have hb4 := hg.2.2.1
  have cx := (hcd x hx).1
  have cx2 := cx.2
  have hx2 := hx.2
  intro d
  induction d with
  | zero =>
    intro n l q v hn hl hq1 hq0
    obtain ⟨n, rfl⟩ : ∃ m, n = m + 1 := ⟨n - 1, by omega⟩
    refine ⟨v, fun h => hq1 h.1, fun h => hq0 (fun hq => h ⟨hq, fun l' h1 h2 => by omega⟩), ?_⟩
    simp (disch := omega) only [↓reduceIte, q0, q1, q2, q3, q4, q5, q6, q7, q8, q14, q15, q16, q20, q31, q44, q50, q70, q1000, qn_le_t, qn_le_f, qn_lt_t, qn_lt_f, qn_eq_t, qn_eq_f, qn_add, qn_inb, qn_ix, qn_dec, qn_m1, ck_tt, bd_ss, ix, isB0, isB1, Nat.reduceAdd, Nat.reduceSub, Nat.reduceMul, Nat.zero_add, f_R_explains_L128]
  | succ d ih =>
    intro n l q v hn hl hq1 hq0
    obtain ⟨n, rfl⟩ : ∃ m, n = m + 1 := ⟨n - 1, by omega⟩
    have hin := opl_in (g := g) (o := oo) (k := l) (by omega) hord
    have hp := t_R_placed hf (th := th) (r := (ks, kp, fl, gg, ho, op, ha, io, ra, ex, an, nu, ca, ba, no, at_, ev, r)) hR hg hoo (show l < ga g + gb g by omega)
    have cl := (hcd (opl g oo l) ⟨hin.2, hin.1⟩).2
    have cl2 := cl.2
    have step : ∃ v1, ((q ∧ C x < D (opl g oo l)) → v1 = qn 1) ∧ (¬ (q ∧ C x < D (opl g oo l)) → v1 = qn 0) ∧ f_R_explains_L128 fu k81 (n + 1) (th, sz, kd, ce, ar, ks, kp, fl, gg, ho, op, ha, io, ra, ex, an, nu, ca, ba, no, at_, ev, r) (qn oo) v (qn (ga g + gb g)) (qn k) (qn x) (qn l) = f_R_explains_L128 fu k81 n (th, sz, kd, ce, ar, ks, kp, fl, gg, ho, op, ha, io, ra, ex, an, nu, ca, ba, no, at_, ev, r) (qn oo) v1 (qn (ga g + gb g)) (qn k) (qn x) (qn (l + 1)) := by
      by_cases hq : q
      · have hv := hq1 hq
        subst hv
        by_cases hlt : C x < D (opl g oo l)
        · refine ⟨qn 1, fun _ => rfl, fun h => absurd ⟨hq, hlt⟩ h, ?_⟩
          simp (disch := omega) only [↓reduceIte, q0, q1, q2, q3, q4, q5, q6, q7, q8, q14, q15, q16, q20, q31, q44, q50, q70, q1000, qn_le_t, qn_le_f, qn_lt_t, qn_lt_f, qn_eq_t, qn_eq_f, qn_add, qn_inb, qn_ix, qn_dec, qn_m1, ck_tt, bd_ss, ix, isB0, isB1, Nat.reduceAdd, Nat.reduceSub, Nat.reduceMul, Nat.zero_add, f_R_explains_L128, hp, cl.1, cx.1]
        · refine ⟨qn 0, fun h => absurd h.2 hlt, fun _ => rfl, ?_⟩
          simp (disch := omega) only [↓reduceIte, q0, q1, q2, q3, q4, q5, q6, q7, q8, q14, q15, q16, q20, q31, q44, q50, q70, q1000, qn_le_t, qn_le_f, qn_lt_t, qn_lt_f, qn_eq_t, qn_eq_f, qn_add, qn_inb, qn_ix, qn_dec, qn_m1, ck_tt, bd_ss, ix, isB0, isB1, Nat.reduceAdd, Nat.reduceSub, Nat.reduceMul, Nat.zero_add, f_R_explains_L128, hp, cl.1, cx.1]
      · have hv := hq0 hq
        subst hv
        refine ⟨qn 0, fun h => absurd h.1 hq, fun _ => rfl, ?_⟩
        simp (disch := omega) only [↓reduceIte, q0, q1, q2, q3, q4, q5, q6, q7, q8, q14, q15, q16, q20, q31, q44, q50, q70, q1000, qn_le_t, qn_le_f, qn_lt_t, qn_lt_f, qn_eq_t, qn_eq_f, qn_add, qn_inb, qn_ix, qn_dec, qn_m1, ck_tt, bd_ss, ix, isB0, isB1, Nat.reduceAdd, Nat.reduceSub, Nat.reduceMul, Nat.zero_add, f_R_explains_L128]
    obtain ⟨v1, a1, a0, ae⟩ := step
    obtain ⟨v', b1, b0, be⟩ := ih n (l + 1) (q ∧ C x < D (opl g oo l)) v1 (by omega) (by omega) a1 a0
    have key : (q ∧ ∀ l', l ≤ l' → l' < ga g + gb g → C x < D (opl g oo l')) ↔ ((q ∧ C x < D (opl g oo l)) ∧ ∀ l', l + 1 ≤ l' → l' < ga g + gb g → C x < D (opl g oo l')) := by
      constructor
      · intro h; exact ⟨⟨h.1, h.2 l (Nat.le_refl _) (by omega)⟩, fun l' h1 h2 => h.2 l' (by omega) h2⟩
      · intro h
        refine ⟨h.1.1, fun l' h1 h2 => ?_⟩
        by_cases e : l' = l
        · rw [e]; exact h.1.2
        · exact h.2 l' (by omega) h2
    rw [key]
    exact ⟨v', b1, b0, ae.trans be⟩
theorem t_R_exp_L81 (hf : 20000 ≤ fu) (hR : pgr (sz, kd, ce, ar) g) (hg : gok g) (hn : ∀ i, i < 14 → nv i < 8 ∧ nu i = qn (nv i)) (ha' : ∀ i, i < 14 → av i < 8 ∧ an i = qn (av i)) (hcd : ∀ i, inBr g i → (ca i = qn (C i) ∧ C i < 70) ∧ (ba i = qn (D i) ∧ D i < 70)) {oo : Nat} (hoo : oo < 256) (hord : ocn (ga g + gb g) oo = gb g) : ∀ (d n k : Nat) (ho : Nat → Int32) (w : Nat → Nat), d < n → k + d = ga g + gb g → hor ho w → ∃ ho', (prr g nv av C D (ga g + gb g) oo (gp g) (gp g + ga g) d k w → f_R_explains_L81 fu n (th, sz, kd, ce, ar, ks, kp, fl, gg, ho, op, ha, io, ra, ex, an, nu, ca, ba, no, at_, ev, r) (qn oo) (qn 1) (qn (ga g + gb g)) (qn k) = some (qn 1, (th, sz, kd, ce, ar, ks, kp, fl, gg, ho', op, ha, io, ra, ex, an, nu, ca, ba, no, at_, ev, r))) ∧ (¬ prr g nv av C D (ga g + gb g) oo (gp g) (gp g + ga g) d k w → f_R_explains_L81 fu n (th, sz, kd, ce, ar, ks, kp, fl, gg, ho, op, ha, io, ra, ex, an, nu, ca, ba, no, at_, ev, r) (qn oo) (qn 1) (qn (ga g + gb g)) (qn k) = some (qn 0, (th, sz, kd, ce, ar, ks, kp, fl, gg, ho', op, ha, io, ra, ex, an, nu, ca, ba, no, at_, ev, r))) := by
  have h14 := hg.n14
  have ha4 := hg.2.1; have hb4 := hg.2.2.1
  intro d
  induction d with
  | zero =>
    intro n k ho w hn' hk hh
    obtain ⟨n, rfl⟩ : ∃ m, n = m + 1 := ⟨n - 1, by omega⟩
    refine ⟨ho, fun _ => ?_, fun h => absurd trivial h⟩
    simp (disch := omega) only [↓reduceIte, q0, q1, q2, q3, q4, q5, q6, q7, q8, q14, q15, q16, q20, q31, q44, q50, q70, q1000, qn_le_t, qn_le_f, qn_lt_t, qn_lt_f, qn_eq_t, qn_eq_f, qn_add, qn_inb, qn_ix, qn_dec, qn_m1, ck_tt, bd_ss, ix, isB0, isB1, Nat.reduceAdd, Nat.reduceSub, Nat.reduceMul, Nat.zero_add, f_R_explains_L81]
  | succ d ih =>
    intro n k ho w hn' hk hh
    obtain ⟨n, rfl⟩ : ∃ m, n = m + 1 := ⟨n - 1, by omega⟩
    have hin := opl_in (g := g) (o := oo) (k := k) (by omega) hord
    have hp := t_R_placed hf (th := th) (r := (ks, kp, fl, gg, ho, op, ha, io, ra, ex, an, nu, ca, ba, no, at_, ev, r)) hR hg hoo (show k < ga g + gb g by omega)
    obtain ⟨ho1, x, x8, e1, e2, h1⟩ := r_right (fu := fu) (th := th) (ra := ra) (ex := ex) (fl := fl) (ks := ks) (kp := kp) (op := op) (ha := ha) (io := io) (ca := ca) (ba := ba) (no := no) (at_ := at_) (ev := ev) (gg := gg) (r := r) hR hg hn ha' hh hin.1
    have av1 := ha' (opl g oo k) (by omega)
    have av2 := av1.1
    have step : ∃ v, ((anw g nv av w (opl g oo k)) → v = qn 1) ∧ (¬ (anw g nv av w (opl g oo k)) → v = qn 0) ∧ f_R_explains_L81 fu (n + 1) (th, sz, kd, ce, ar, ks, kp, fl, gg, ho, op, ha, io, ra, ex, an, nu, ca, ba, no, at_, ev, r) (qn oo) (qn 1) (qn (ga g + gb g)) (qn k) = f_R_explains_L128 fu (f_R_explains_L81 fu n) fu (th, sz, kd, ce, ar, ks, kp, fl, gg, ho1, op, ha, io, ra, ex, an, nu, ca, ba, no, at_, ev, r) (qn oo) v (qn (ga g + gb g)) (qn k) (qn (opl g oo k)) (qn (k + 1)) := by
      by_cases h : anw g nv av w (opl g oo k)
      · have h2 := e2.2 h
        refine ⟨qn 1, fun _ => rfl, fun hn => absurd h hn, ?_⟩
        simp (disch := omega) only [↓reduceIte, q0, q1, q2, q3, q4, q5, q6, q7, q8, q14, q15, q16, q20, q31, q44, q50, q70, q1000, qn_le_t, qn_le_f, qn_lt_t, qn_lt_f, qn_eq_t, qn_eq_f, qn_add, qn_inb, qn_ix, qn_dec, qn_m1, ck_tt, bd_ss, ix, isB0, isB1, Nat.reduceAdd, Nat.reduceSub, Nat.reduceMul, Nat.zero_add, f_R_explains_L81, hp, e1, av1.2]
      · have h2 : ¬ x = av (opl g oo k) := fun h3 => h (e2.1 h3)
        refine ⟨qn 0, fun hn => absurd hn h, fun _ => rfl, ?_⟩
        simp (disch := omega) only [↓reduceIte, q0, q1, q2, q3, q4, q5, q6, q7, q8, q14, q15, q16, q20, q31, q44, q50, q70, q1000, qn_le_t, qn_le_f, qn_lt_t, qn_lt_f, qn_eq_t, qn_eq_f, qn_add, qn_inb, qn_ix, qn_dec, qn_m1, ck_tt, bd_ss, ix, isB0, isB1, Nat.reduceAdd, Nat.reduceSub, Nat.reduceMul, Nat.zero_add, f_R_explains_L81, hp, e1, av1.2]
    obtain ⟨v, a1, a0, ae⟩ := step
    obtain ⟨v', b1, b0, be⟩ := t_R_exp_L128 (th := th) (ra := ra) (ex := ex) (fl := fl) (ks := ks) (kp := kp) (op := op) (ha := ha) (io := io) (an := an) (nu := nu) (no := no) (at_ := at_) (ev := ev) (gg := gg) (r := r) hf hR hg hcd hoo hord (ho := ho1) (k81 := f_R_explains_L81 fu n) (k := k) (x := opl g oo k) ⟨hin.2, hin.1⟩ (by omega) d fu (k + 1) (anw g nv av w (opl g oo k)) v (by omega) (by omega) a1 a0
    rw [ae, be]
    by_cases hc : anw g nv av w (opl g oo k) ∧ ∀ l', k + 1 ≤ l' → l' < ga g + gb g → C (opl g oo k) < D (opl g oo l')
    · rw [b1 hc]
      obtain ⟨ho', i1, i0⟩ := ih n (k + 1) ho1 _ (by omega) (by omega) h1
      refine ⟨ho', fun h => i1 h.2.2, fun h => i0 (fun h2 => h ⟨hc.1, fun l h3 h4 => hc.2 l h3 h4, h2⟩)⟩
    · rw [b0 hc]
      obtain ⟨n, rfl⟩ : ∃ m, n = m + 1 := ⟨n - 1, by omega⟩
      refine ⟨ho1, fun h => absurd ⟨h.1, fun l h3 h4 => h.2.1 l h3 h4⟩ hc, fun _ => ?_⟩
      by_cases hz : ga g + gb g ≤ k + 1
      · simp (disch := omega) only [↓reduceIte, q0, q1, q2, q3, q4, q5, q6, q7, q8, q14, q15, q16, q20, q31, q44, q50, q70, q1000, qn_le_t, qn_le_f, qn_lt_t, qn_lt_f, qn_eq_t, qn_eq_f, qn_add, qn_inb, qn_ix, qn_dec, qn_m1, ck_tt, bd_ss, ix, isB0, isB1, Nat.reduceAdd, Nat.reduceSub, Nat.reduceMul, Nat.zero_add, f_R_explains_L81]
      · simp (disch := omega) only [↓reduceIte, q0, q1, q2, q3, q4, q5, q6, q7, q8, q14, q15, q16, q20, q31, q44, q50, q70, q1000, qn_le_t, qn_le_f, qn_lt_t, qn_lt_f, qn_eq_t, qn_eq_f, qn_add, qn_inb, qn_ix, qn_dec, qn_m1, ck_tt, bd_ss, ix, isB0, isB1, Nat.reduceAdd, Nat.reduceSub, Nat.reduceMul, Nat.zero_add, f_R_explains_L81]
theorem t_R_exp_L24 (hf : 20000 ≤ fu) (hR : pgr (sz, kd, ce, ar) g) (hg : gok g) (hn : ∀ i, i < 14 → nv i < 8 ∧ nu i = qn (nv i)) (ha' : ∀ i, i < 14 → av i < 8 ∧ an i = qn (av i)) (hcd : ∀ i, inBr g i → (ca i = qn (C i) ∧ C i < 70) ∧ (ba i = qn (D i) ∧ D i < 70)) {oo : Nat} (hoo : oo < 256) (hord : ocn (ga g + gb g) oo = gb g) : ∀ (d n i : Nat) (ho : Nat → Int32) (w : Nat → Nat) (q : Prop) (v : Int32), d < n → i + d = gp g → hor ho w → (q → v = qn 1) → (¬ q → v = qn 0) → ∃ ho', ((q ∧ pok g nv av d i w ∧ prr g nv av C D (ga g + gb g) oo (gp g) (gp g + ga g) (ga g + gb g) 0 (pnx g nv d i w)) → f_R_explains_L24 fu n (th, sz, kd, ce, ar, ks, kp, fl, gg, ho, op, ha, io, ra, ex, an, nu, ca, ba, no, at_, ev, r) (qn oo) v (qn i) = some (qn 1, (th, sz, kd, ce, ar, ks, kp, fl, gg, ho', op, ha, io, ra, ex, an, nu, ca, ba, no, at_, ev, r))) ∧ (¬ (q ∧ pok g nv av d i w ∧ prr g nv av C D (ga g + gb g) oo (gp g) (gp g + ga g) (ga g + gb g) 0 (pnx g nv d i w)) → f_R_explains_L24 fu n (th, sz, kd, ce, ar, ks, kp, fl, gg, ho, op, ha, io, ra, ex, an, nu, ca, ba, no, at_, ev, r) (qn oo) v (qn i) = some (qn 0, (th, sz, kd, ce, ar, ks, kp, fl, gg, ho', op, ha, io, ra, ex, an, nu, ca, ba, no, at_, ev, r))) := by
  have h14 := hg.n14
  have hgd := gn_def g
  have ha4 := hg.2.1; have hb4 := hg.2.2.1
  have e0 : sz 0 = qn (gp g) := hR.1
  have e1 : sz 1 = qn (ga g) := hR.2.1
  have e2 : sz 2 = qn (gb g) := hR.2.2.1
  intro d
  induction d with
  | zero =>
    intro n i ho w q v hn' hi hh hq1 hq0
    obtain ⟨n, rfl⟩ : ∃ m, n = m + 1 := ⟨n - 1, by omega⟩
    have st : f_R_explains_L24 fu (n + 1) (th, sz, kd, ce, ar, ks, kp, fl, gg, ho, op, ha, io, ra, ex, an, nu, ca, ba, no, at_, ev, r) (qn oo) v (qn i) = f_R_explains_L81 fu fu (th, sz, kd, ce, ar, ks, kp, fl, gg, ho, op, ha, io, ra, ex, an, nu, ca, ba, no, at_, ev, r) (qn oo) v (qn (ga g + gb g)) (qn 0) := by
      simp (disch := omega) only [↓reduceIte, q0, q1, q2, q3, q4, q5, q6, q7, q8, q14, q15, q16, q20, q31, q44, q50, q70, q1000, qn_le_t, qn_le_f, qn_lt_t, qn_lt_f, qn_eq_t, qn_eq_f, qn_add, qn_inb, qn_ix, qn_dec, qn_m1, ck_tt, bd_ss, ix, isB0, isB1, Nat.reduceAdd, Nat.reduceSub, Nat.reduceMul, Nat.zero_add, f_R_explains_L24, e0, f_R_explains_L64, e1, e2]
    rw [st]
    by_cases hq : q
    · rw [hq1 hq]
      obtain ⟨ho', i1, i0⟩ := t_R_exp_L81 (th := th) (ra := ra) (ex := ex) (fl := fl) (ks := ks) (kp := kp) (op := op) (ha := ha) (io := io) (no := no) (at_ := at_) (ev := ev) (gg := gg) (r := r) hf hR hg hn ha' hcd hoo hord (ga g + gb g) fu 0 ho w (by omega) (by omega) hh
      exact ⟨ho', fun h => i1 h.2.2, fun h => i0 (fun h2 => h ⟨hq, trivial, h2⟩)⟩
    · rw [hq0 hq]
      refine ⟨ho, fun h => absurd h.1 hq, fun _ => ?_⟩
      have : ∀ m, f_R_explains_L81 fu (m + 1) (th, sz, kd, ce, ar, ks, kp, fl, gg, ho, op, ha, io, ra, ex, an, nu, ca, ba, no, at_, ev, r) (qn oo) (qn 0) (qn (ga g + gb g)) (qn 0) = some (qn 0, (th, sz, kd, ce, ar, ks, kp, fl, gg, ho, op, ha, io, ra, ex, an, nu, ca, ba, no, at_, ev, r)) := by
        intro m
        by_cases hz : ga g + gb g ≤ 0
        · simp (disch := omega) only [↓reduceIte, q0, q1, q2, q3, q4, q5, q6, q7, q8, q14, q15, q16, q20, q31, q44, q50, q70, q1000, qn_le_t, qn_le_f, qn_lt_t, qn_lt_f, qn_eq_t, qn_eq_f, qn_add, qn_inb, qn_ix, qn_dec, qn_m1, ck_tt, bd_ss, ix, isB0, isB1, Nat.reduceAdd, Nat.reduceSub, Nat.reduceMul, Nat.zero_add, f_R_explains_L81]
        · simp (disch := omega) only [↓reduceIte, q0, q1, q2, q3, q4, q5, q6, q7, q8, q14, q15, q16, q20, q31, q44, q50, q70, q1000, qn_le_t, qn_le_f, qn_lt_t, qn_lt_f, qn_eq_t, qn_eq_f, qn_add, qn_inb, qn_ix, qn_dec, qn_m1, ck_tt, bd_ss, ix, isB0, isB1, Nat.reduceAdd, Nat.reduceSub, Nat.reduceMul, Nat.zero_add, f_R_explains_L81]
      have h := this (fu - 1)
      rw [Nat.sub_add_cancel (by omega)] at h
      exact h
  | succ d ih =>
    intro n i ho w q v hn' hi hh hq1 hq0
    obtain ⟨n, rfl⟩ : ∃ m, n = m + 1 := ⟨n - 1, by omega⟩
    obtain ⟨ho1, x, x8, r1, r2, h1⟩ := r_right (fu := fu) (th := th) (ra := ra) (ex := ex) (fl := fl) (ks := ks) (kp := kp) (op := op) (ha := ha) (io := io) (ca := ca) (ba := ba) (no := no) (at_ := at_) (ev := ev) (gg := gg) (r := r) hR hg hn ha' hh (i := i) (by omega)
    have av1 := ha' i (by omega)
    have av2 := av1.1
    have step : ∃ v1, ((anw g nv av w i ∧ q) → v1 = qn 1) ∧ (¬ (anw g nv av w i ∧ q) → v1 = qn 0) ∧ f_R_explains_L24 fu (n + 1) (th, sz, kd, ce, ar, ks, kp, fl, gg, ho, op, ha, io, ra, ex, an, nu, ca, ba, no, at_, ev, r) (qn oo) v (qn i) = f_R_explains_L24 fu n (th, sz, kd, ce, ar, ks, kp, fl, gg, ho1, op, ha, io, ra, ex, an, nu, ca, ba, no, at_, ev, r) (qn oo) v1 (qn (i + 1)) := by
      by_cases h : anw g nv av w i
      · have h2 := r2.2 h
        by_cases hq : q
        · have hv := hq1 hq
          subst hv
          refine ⟨qn 1, fun _ => rfl, fun hn => absurd ⟨h, hq⟩ hn, ?_⟩
          simp (disch := omega) only [↓reduceIte, q0, q1, q2, q3, q4, q5, q6, q7, q8, q14, q15, q16, q20, q31, q44, q50, q70, q1000, qn_le_t, qn_le_f, qn_lt_t, qn_lt_f, qn_eq_t, qn_eq_f, qn_add, qn_inb, qn_ix, qn_dec, qn_m1, ck_tt, bd_ss, ix, isB0, isB1, Nat.reduceAdd, Nat.reduceSub, Nat.reduceMul, Nat.zero_add, f_R_explains_L24, e0, r1, av1.2]
        · have hv := hq0 hq
          subst hv
          refine ⟨qn 0, fun hn => absurd hn.2 hq, fun _ => rfl, ?_⟩
          simp (disch := omega) only [↓reduceIte, q0, q1, q2, q3, q4, q5, q6, q7, q8, q14, q15, q16, q20, q31, q44, q50, q70, q1000, qn_le_t, qn_le_f, qn_lt_t, qn_lt_f, qn_eq_t, qn_eq_f, qn_add, qn_inb, qn_ix, qn_dec, qn_m1, ck_tt, bd_ss, ix, isB0, isB1, Nat.reduceAdd, Nat.reduceSub, Nat.reduceMul, Nat.zero_add, f_R_explains_L24, e0, r1, av1.2]
      · have h2 : ¬ x = av i := fun h3 => h (r2.1 h3)
        refine ⟨qn 0, fun hn => absurd hn.1 h, fun _ => rfl, ?_⟩
        simp (disch := omega) only [↓reduceIte, q0, q1, q2, q3, q4, q5, q6, q7, q8, q14, q15, q16, q20, q31, q44, q50, q70, q1000, qn_le_t, qn_le_f, qn_lt_t, qn_lt_f, qn_eq_t, qn_eq_f, qn_add, qn_inb, qn_ix, qn_dec, qn_m1, ck_tt, bd_ss, ix, isB0, isB1, Nat.reduceAdd, Nat.reduceSub, Nat.reduceMul, Nat.zero_add, f_R_explains_L24, e0, r1, av1.2]
    obtain ⟨v1, a1, a0, ae⟩ := step
    obtain ⟨ho', i1, i0⟩ := ih n (i + 1) ho1 _ (anw g nv av w i ∧ q) v1 (by omega) (by omega) h1 a1 a0
    rw [ae]
    exact ⟨ho', fun h => i1 ⟨⟨h.2.1.1, h.1⟩, h.2.1.2, h.2.2⟩, fun h => i0 (fun h2 => h ⟨h2.1.2, ⟨h2.1.1, h2.2.1⟩, h2.2.2⟩)⟩
def gex (g : pg) (nv av C D : Nat → Nat) (oo : Nat) : Prop := pok g nv av (gp g) 0 (fun _ => 0) ∧ prr g nv av C D (ga g + gb g) oo (gp g) (gp g + ga g) (ga g + gb g) 0 (pnx g nv (gp g) 0 (fun _ => 0))
theorem t_R_explains (hf : 20000 ≤ fu) (hR : pgr (sz, kd, ce, ar) g) (hg : gok g) (hn : ∀ i, i < 14 → nv i < 8 ∧ nu i = qn (nv i)) (ha' : ∀ i, i < 14 → av i < 8 ∧ an i = qn (av i)) (hcd : ∀ i, inBr g i → (ca i = qn (C i) ∧ C i < 70) ∧ (ba i = qn (D i) ∧ D i < 70)) {oo : Nat} (hoo : oo < 256) (hord : ocn (ga g + gb g) oo = gb g) (ho : Nat → Int32) : ∃ ho', (gex g nv av C D oo → f_R_explains fu (th, sz, kd, ce, ar, ks, kp, fl, gg, ho, op, ha, io, ra, ex, an, nu, ca, ba, no, at_, ev, r) (qn oo) = some (qn 1, (th, sz, kd, ce, ar, ks, kp, fl, gg, ho', op, ha, io, ra, ex, an, nu, ca, ba, no, at_, ev, r))) ∧ (¬ gex g nv av C D oo → f_R_explains fu (th, sz, kd, ce, ar, ks, kp, fl, gg, ho, op, ha, io, ra, ex, an, nu, ca, ba, no, at_, ev, r) (qn oo) = some (qn 0, (th, sz, kd, ce, ar, ks, kp, fl, gg, ho', op, ha, io, ra, ex, an, nu, ca, ba, no, at_, ev, r))) := by
  have h14 := hg.n14
  have hgd := gn_def g
  have hh : hor (upd (upd (upd ho 0 (qn 0)) 1 (qn 0)) 2 (qn 0)) (fun _ => 0) := by
    intro c hc
    have : c = 0 ∨ c = 1 ∨ c = 2 := by omega
    rcases this with rfl | rfl | rfl <;> rfl
  obtain ⟨ho', i1, i0⟩ := t_R_exp_L24 (th := th) (ra := ra) (ex := ex) (fl := fl) (ks := ks) (kp := kp) (op := op) (ha := ha) (io := io) (no := no) (at_ := at_) (ev := ev) (gg := gg) (r := r) hf hR hg hn ha' hcd hoo hord (gp g) fu 0 _ _ True (qn 1) (by omega) (by omega) hh (fun _ => rfl) (fun h => absurd trivial h)
  have h4 : ∀ n, f_R_explains_L2 fu (n + 4) (th, sz, kd, ce, ar, ks, kp, fl, gg, ho, op, ha, io, ra, ex, an, nu, ca, ba, no, at_, ev, r) (qn oo) (qn 0) = f_R_explains_L24 fu fu (th, sz, kd, ce, ar, ks, kp, fl, gg, upd (upd (upd ho 0 (qn 0)) 1 (qn 0)) 2 (qn 0), op, ha, io, ra, ex, an, nu, ca, ba, no, at_, ev, r) (qn oo) (qn 1) (qn 0) := by
    intro n; simp (disch := omega) only [↓reduceIte, q0, q1, q2, q3, q4, q5, q6, q7, q8, q14, q15, q16, q20, q31, q44, q50, q70, q1000, qn_le_t, qn_le_f, qn_lt_t, qn_lt_f, qn_eq_t, qn_eq_f, qn_add, qn_inb, qn_ix, qn_dec, qn_m1, ck_tt, bd_ss, ix, isB0, isB1, Nat.reduceAdd, Nat.reduceSub, Nat.reduceMul, Nat.zero_add, f_R_explains_L2]
  have h5 := h4 (fu - 4)
  rw [Nat.sub_add_cancel (by omega)] at h5
  have h6 : f_R_explains fu (th, sz, kd, ce, ar, ks, kp, fl, gg, ho, op, ha, io, ra, ex, an, nu, ca, ba, no, at_, ev, r) (qn oo) = f_R_explains_L24 fu fu (th, sz, kd, ce, ar, ks, kp, fl, gg, upd (upd (upd ho 0 (qn 0)) 1 (qn 0)) 2 (qn 0), op, ha, io, ra, ex, an, nu, ca, ba, no, at_, ev, r) (qn oo) (qn 1) (qn 0) := h5
  rw [h6]
  exact ⟨ho', fun hx => i1 ⟨trivial, hx⟩, fun hx => i0 (fun hy => hx hy.2)⟩
end REX
