theorem gkn_le {g : pg} (hg : gok g) (b : Nat) : gkn g b ≤ 10 := by
  have := hg.1; have := hg.2.1; have := hg.2.2.1
  unfold gkn gsz; repeat' split
  all_goals omega
theorem t_tried_s {fu n t : Nat} (ht : t < 20) {D : Int64} {th fl : Int32} {sz kd ce ar ks kp ho op : Nat → Int32} {r : S_R11} (F : Int64 → Nat) (G : Int64 → Int64) (dr : ∀ (D : Int64) (b : Nat), 0 < b → b < 2147483648 → f_R_drawn fu (th, sz, kd, ce, ar, ks, kp, fl, D, ho, op, r) (qn b) = some (qn (F (G D) % b), (th, sz, kd, ce, ar, ks, kp, fl, G D, ho, op, r))) (b : Nat) (h : F (G (G (G D))) % 4 = 0) : f_R_tried_L4 fu (n + 1) (th, sz, kd, ce, ar, ks, kp, fl, D, ho, op, r) (qn b) (qn 0) (qn t) = f_R_tried_L42 fu (f_R_tried_L4 fu n) (th, sz, kd, ce, ar, ks, kp, fl, G (G (G D)), ho, op, r) (qn b) (qn t) (qn (F (G D) % 7)) (qn (F (G (G D)) % 3)) (qn 1) := by
  have h7 := dr D 7 (by omega) (by omega)
  have h3 := dr (G D) 3 (by omega) (by omega)
  have h4 := dr (G (G D)) 4 (by omega) (by omega)
  have e : ¬ qn 20 ≤ qn t := by rw [qn_le (by omega) (by omega)]; omega
  clear dr
  rw [h] at h4
  unfold f_R_tried_L4
  rw [q20, if_neg e, q0, if_pos rfl, q7, h7, bd_ss]
  dsimp only
  rw [q3, h3, bd_ss]
  dsimp only
  rw [q4, h4, bd_ss]
  dsimp only
  rw [if_pos rfl]
  rfl
theorem t_tried_n {fu n t : Nat} (ht : t < 20) {D : Int64} {th fl : Int32} {sz kd ce ar ks kp ho op : Nat → Int32} {r : S_R11} (F : Int64 → Nat) (G : Int64 → Int64) (dr : ∀ (D : Int64) (b : Nat), 0 < b → b < 2147483648 → f_R_drawn fu (th, sz, kd, ce, ar, ks, kp, fl, D, ho, op, r) (qn b) = some (qn (F (G D) % b), (th, sz, kd, ce, ar, ks, kp, fl, G D, ho, op, r))) (b : Nat) (h : ¬ F (G (G (G D))) % 4 = 0) : f_R_tried_L4 fu (n + 1) (th, sz, kd, ce, ar, ks, kp, fl, D, ho, op, r) (qn b) (qn 0) (qn t) = f_R_tried_L42 fu (f_R_tried_L4 fu n) (th, sz, kd, ce, ar, ks, kp, fl, G (G (G D)), ho, op, r) (qn b) (qn t) (qn (F (G D) % 7)) (qn (F (G (G D)) % 3)) (qn 0) := by
  have h7 := dr D 7 (by omega) (by omega)
  have h3 := dr (G D) 3 (by omega) (by omega)
  have h4 := dr (G (G D)) 4 (by omega) (by omega)
  have e : ¬ qn 20 ≤ qn t := by rw [qn_le (by omega) (by omega)]; omega
  clear dr
  have hl : F (G (G (G D))) % 4 < 4 := Nat.mod_lt _ (by omega)
  generalize F (G (G (G D))) % 4 = s at h4 h hl
  have e2 : ¬ qn s = qn 0 := by rw [qn_eq (by omega) (by omega)]; exact h
  unfold f_R_tried_L4
  rw [q20, if_neg e, q0, if_pos rfl, q7, h7, bd_ss]
  dsimp only
  rw [q3, h3, bd_ss]
  dsimp only
  rw [q4, h4, bd_ss]
  dsimp only
  rw [if_neg e2]
theorem t_draw_ (F : Int64 → Nat) (G : Int64 → Int64) {fu : Nat} (hf : 20000 ≤ fu) {P Q : S_P} {T : S_T} {D : Int64} {x : Int32 × Int32} {th fl : Int32} {sz kd ce ar ks kp ho op : Nat → Int32} {r : S_R11} {g : pg} (hP : pgr P g) (hR : pgr (sz, kd, ce, ar) g) (hg : gok g) {b : Nat} (hb : b < 3) (dr : ∀ (D : Int64) (b : Nat), 0 < b → b < 2147483648 → f_R_drawn fu (th, sz, kd, ce, ar, ks, kp, fl, D, ho, op, r) (qn b) = some (qn (F (G D) % b), (th, sz, kd, ce, ar, ks, kp, fl, G D, ho, op, r))) (db : ∀ (D : Int64) (b : Nat), 0 < b → b < 2147483648 → f_D_below fu D (qn b) = some (qn (F (G D) % b), G D)) {n t : Nat} (ht : t < 20) : ∃ (k c v : Nat) (D' : Int64), k ≤ 6 ∧ c ≤ 2 ∧ (v < 8 ∨ gmay g (v - 8) b (gst g b + gsz g b)) ∧ (∀ (w : Int32) (H' : S_H), isB w = true → f_H_appendIfValid fu (P, Q, T, D', x) (qn b) (qn k) (qn c) (qn v) = some (w, H') → f_H_drawCommand fu (P, Q, T, D, x) (qn b) = some (w, H')) ∧ f_R_tried_L4 fu (n + 1) (th, sz, kd, ce, ar, ks, kp, fl, D, ho, op, r) (qn b) (qn 0) (qn t) = f_R_tried_L191 fu (f_R_tried_L4 fu n) (th, sz, kd, ce, ar, ks, kp, fl, D', ho, op, r) (qn b) (qn t) (qn k) (qn c) (qn v) := by
  have hkn := gkn_le hg b
  have h14 := hg.n14
  have hle := gend_le g hb
  have hszb : sz b = qn (gsz g b) := hR.sz hb
  have h64 : ∀ (D3 : Int64) (k c s : Int32), f_R_tried_L42 fu (f_R_tried_L4 fu n) (th, sz, kd, ce, ar, ks, kp, fl, D3, ho, op, r) (qn b) (qn t) k c s = f_R_tried_L99 fu (f_R_tried_L4 fu n) (th, sz, kd, ce, ar, ks, kp, fl, D3, ho, op, r) (qn b) (qn t) k c s (qn (gst g b + gsz g b)) (qn (gkn g b)) := by
    intro D3 k c s
    have h1 := t_R_tried_L64 fu (k4 := f_R_tried_L4 fu n) (th := th) (r := (ks, kp, fl, D3, ho, op, r)) hR hg hb (qn t) k c s (gst g b + gsz g b) fu 0 (by omega) (by omega)
    rw [gct_0] at h1
    simp (disch := omega) only [q0, q1, q2, q3, q4, q5, q6, q7, q8, q14, q15, q16, q20, q31, q44, q50, q70, q1000, qn_le, qn_lt, qn_eq, qn_add, qn_inb, qn_ix, qn_dec, qn_m1, ck_tt, bd_ss, ix, isB0, isB1, if_pos, if_neg, if_true, if_false, Nat.reduceAdd, Nat.reduceLeDiff, Nat.reduceSub, Nat.reduceEqDiff, Nat.reduceMul, Nat.reduceLT, Nat.zero_add, not_true, not_false_iff, f_R_tried_L42, t_R_first hR hb, hszb, h1]
  have hH : ∀ (k c : Nat) (D3 : Int64), F (G D) % 7 = k → F (G (G D)) % 3 = c → G (G (G D)) = D3 → (F D3 % 4 = 0 → f_H_drawCommand fu (P, Q, T, D, x) (qn b) = f_H_drawCommand_L35 fu (P, Q, T, D3, x) (qn b) (qn k) (qn c) (qn 1)) ∧ (¬ F D3 % 4 = 0 → f_H_drawCommand fu (P, Q, T, D, x) (qn b) = f_H_drawCommand_L35 fu (P, Q, T, D3, x) (qn b) (qn k) (qn c) (qn 0)) := by
    intro k c D3 e1 e2 e3
    subst e1; subst e2; subst e3
    refine ⟨fun h => ?_, fun h => ?_⟩
    · simp (disch := omega) only [q0, q1, q2, q3, q4, q5, q6, q7, q8, q14, q15, q16, q20, q31, q44, q50, q70, q1000, qn_le, qn_lt, qn_eq, qn_add, qn_inb, qn_ix, qn_dec, qn_m1, ck_tt, bd_ss, ix, isB0, isB1, if_pos, if_neg, if_true, if_false, Nat.reduceAdd, Nat.reduceLeDiff, Nat.reduceSub, Nat.reduceEqDiff, Nat.reduceMul, Nat.reduceLT, Nat.zero_add, not_true, not_false_iff, f_H_drawCommand, db]
    · simp (disch := omega) only [q0, q1, q2, q3, q4, q5, q6, q7, q8, q14, q15, q16, q20, q31, q44, q50, q70, q1000, qn_le, qn_lt, qn_eq, qn_add, qn_inb, qn_ix, qn_dec, qn_m1, ck_tt, bd_ss, ix, isB0, isB1, if_pos, if_neg, if_true, if_false, Nat.reduceAdd, Nat.reduceLeDiff, Nat.reduceSub, Nat.reduceEqDiff, Nat.reduceMul, Nat.reduceLT, Nat.zero_add, not_true, not_false_iff, f_H_drawCommand, db]
  have hT : ∀ (k c : Nat) (D3 : Int64), F (G D) % 7 = k → F (G (G D)) % 3 = c → G (G (G D)) = D3 → (F D3 % 4 = 0 → f_R_tried_L4 fu (n + 1) (th, sz, kd, ce, ar, ks, kp, fl, D, ho, op, r) (qn b) (qn 0) (qn t) = f_R_tried_L42 fu (f_R_tried_L4 fu n) (th, sz, kd, ce, ar, ks, kp, fl, D3, ho, op, r) (qn b) (qn t) (qn k) (qn c) (qn 1)) ∧ (¬ F D3 % 4 = 0 → f_R_tried_L4 fu (n + 1) (th, sz, kd, ce, ar, ks, kp, fl, D, ho, op, r) (qn b) (qn 0) (qn t) = f_R_tried_L42 fu (f_R_tried_L4 fu n) (th, sz, kd, ce, ar, ks, kp, fl, D3, ho, op, r) (qn b) (qn t) (qn k) (qn c) (qn 0)) := by
    intro k c D3 e1 e2 e3
    subst e1; subst e2; subst e3
    refine ⟨fun h => ?_, fun h => ?_⟩
    · exact t_tried_s ht F G dr b h
    · exact t_tried_n ht F G dr b h
  have hH := hH _ _ _ rfl rfl rfl
  have hT := hT _ _ _ rfl rfl rfl
  have k7 : F (G D) % 7 < 7 := Nat.mod_lt _ (by omega)
  have c3 : F (G (G D)) % 3 < 3 := Nat.mod_lt _ (by omega)
  generalize F (G D) % 7 = k at *
  generalize F (G (G D)) % 3 = c at *
  generalize G (G (G D)) = D3 at *
  by_cases hs0 : F D3 % 4 = 0
  · rw [hT.1 hs0, h64, hH.1 hs0]
    by_cases hk0 : gkn g b = 0
    · have v8 : F (G D3) % 8 < 8 := Nat.mod_lt _ (by omega)
      refine ⟨k, c, F (G D3) % 8, G D3, by omega, by omega, Or.inl v8, fun w H' hw he => ?_, ?_⟩
      · simp (disch := omega) only [q0, q1, q2, q3, q4, q5, q6, q7, q8, q14, q15, q16, q20, q31, q44, q50, q70, q1000, qn_le, qn_lt, qn_eq, qn_add, qn_inb, qn_ix, qn_dec, qn_m1, ck_tt, bd_ss, ix, isB0, isB1, if_pos, if_neg, if_true, if_false, Nat.reduceAdd, Nat.reduceLeDiff, Nat.reduceSub, Nat.reduceEqDiff, Nat.reduceMul, Nat.reduceLT, Nat.zero_add, not_true, not_false_iff, f_H_drawCommand_L35, t_P_known hP hb, hk0, f_H_drawCommand_L82, db, he, hw]
      · simp (disch := omega) only [q0, q1, q2, q3, q4, q5, q6, q7, q8, q14, q15, q16, q20, q31, q44, q50, q70, q1000, qn_le, qn_lt, qn_eq, qn_add, qn_inb, qn_ix, qn_dec, qn_m1, ck_tt, bd_ss, ix, isB0, isB1, if_pos, if_neg, if_true, if_false, Nat.reduceAdd, Nat.reduceLeDiff, Nat.reduceSub, Nat.reduceEqDiff, Nat.reduceMul, Nat.reduceLT, Nat.zero_add, not_true, not_false_iff, f_R_tried_L99, hk0, f_R_tried_L117, dr]
    · generalize hv : F (G D3) % gkn g b = y
      have hy : y < gkn g b := by rw [← hv]; exact Nat.mod_lt _ (by omega)
      have hka := gka_may hb hy
      have db4 : f_D_below fu D3 (qn (gkn g b)) = some (qn y, G D3) := by rw [db D3 _ (by omega) (by omega), hv]
      have dr4 : f_R_drawn fu (th, sz, kd, ce, ar, ks, kp, fl, D3, ho, op, r) (qn (gkn g b)) = some (qn y, (th, sz, kd, ce, ar, ks, kp, fl, G D3, ho, op, r)) := by rw [dr D3 _ (by omega) (by omega), hv]
      clear hv
      refine ⟨k, c, 8 + gka g b y, G D3, by omega, by omega, Or.inr ?_, fun w H' hw he => ?_, ?_⟩
      · have e : 8 + gka g b y - 8 = gka g b y := by omega
        rw [e]; exact hka.1
      · simp (disch := omega) only [q0, q1, q2, q3, q4, q5, q6, q7, q8, q14, q15, q16, q20, q31, q44, q50, q70, q1000, qn_le, qn_lt, qn_eq, qn_add, qn_inb, qn_ix, qn_dec, qn_m1, ck_tt, bd_ss, ix, isB0, isB1, if_pos, if_neg, if_true, if_false, Nat.reduceAdd, Nat.reduceLeDiff, Nat.reduceSub, Nat.reduceEqDiff, Nat.reduceMul, Nat.reduceLT, Nat.zero_add, not_true, not_false_iff, f_H_drawCommand_L35, t_P_known hP hb, db4, t_P_knownAt hP hg hb, he, hw]
      · have h1 := t_R_tried_L142 hf (k4 := f_R_tried_L4 fu n) (th := th) (r := (ks, kp, fl, G D3, ho, op, r)) hR hg hb hy (qn t) (qn k) (qn c) (gst g b + gsz g b) fu (qn y) (by omega) (by omega) (fun h2 => by have := hka.1.1; omega)
        have e : qn (gst g b + gsz g b) - qn 1 = qn (gst g b + gsz g b) + -qn 1 := Int32.sub_eq_add_neg _ _
        rw [← e] at h1
        simp (disch := omega) only [q0, q1, q2, q3, q4, q5, q6, q7, q8, q14, q15, q16, q20, q31, q44, q50, q70, q1000, qn_le, qn_lt, qn_eq, qn_add, qn_inb, qn_ix, qn_dec, qn_m1, ck_tt, bd_ss, ix, isB0, isB1, if_pos, if_neg, if_true, if_false, Nat.reduceAdd, Nat.reduceLeDiff, Nat.reduceSub, Nat.reduceEqDiff, Nat.reduceMul, Nat.reduceLT, Nat.zero_add, not_true, not_false_iff, f_R_tried_L99, f_R_tried_L117, dr4, h1]
  · rw [hT.2 hs0, h64, hH.2 hs0]
    have v8 : F (G D3) % 8 < 8 := Nat.mod_lt _ (by omega)
    refine ⟨k, c, F (G D3) % 8, G D3, by omega, by omega, Or.inl v8, fun w H' hw he => ?_, ?_⟩
    · simp (disch := omega) only [q0, q1, q2, q3, q4, q5, q6, q7, q8, q14, q15, q16, q20, q31, q44, q50, q70, q1000, qn_le, qn_lt, qn_eq, qn_add, qn_inb, qn_ix, qn_dec, qn_m1, ck_tt, bd_ss, ix, isB0, isB1, if_pos, if_neg, if_true, if_false, Nat.reduceAdd, Nat.reduceLeDiff, Nat.reduceSub, Nat.reduceEqDiff, Nat.reduceMul, Nat.reduceLT, Nat.zero_add, not_true, not_false_iff, f_H_drawCommand_L35, t_P_known hP hb, f_H_drawCommand_L82, db, he, hw]
    · simp (disch := omega) only [q0, q1, q2, q3, q4, q5, q6, q7, q8, q14, q15, q16, q20, q31, q44, q50, q70, q1000, qn_le, qn_lt, qn_eq, qn_add, qn_inb, qn_ix, qn_dec, qn_m1, ck_tt, bd_ss, ix, isB0, isB1, if_pos, if_neg, if_true, if_false, Nat.reduceAdd, Nat.reduceLeDiff, Nat.reduceSub, Nat.reduceEqDiff, Nat.reduceMul, Nat.reduceLT, Nat.zero_add, not_true, not_false_iff, f_R_tried_L99, f_R_tried_L117, dr]
theorem t_draw {fu : Nat} (hf : 20000 ≤ fu) {P Q : S_P} {T : S_T} {D : Int64} {x : Int32 × Int32} {th fl : Int32} {sz kd ce ar ks kp ho op : Nat → Int32} {r : S_R11} {g : pg} (hP : pgr P g) (hR : pgr (sz, kd, ce, ar) g) (hg : gok g) {b : Nat} (hb : b < 3) {n t : Nat} (ht : t < 20) : ∃ (k c v : Nat) (D' : Int64), k ≤ 6 ∧ c ≤ 2 ∧ (v < 8 ∨ gmay g (v - 8) b (gst g b + gsz g b)) ∧ (∀ (w : Int32) (H' : S_H), isB w = true → f_H_appendIfValid fu (P, Q, T, D', x) (qn b) (qn k) (qn c) (qn v) = some (w, H') → f_H_drawCommand fu (P, Q, T, D, x) (qn b) = some (w, H')) ∧ f_R_tried_L4 fu (n + 1) (th, sz, kd, ce, ar, ks, kp, fl, D, ho, op, r) (qn b) (qn 0) (qn t) = f_R_tried_L191 fu (f_R_tried_L4 fu n) (th, sz, kd, ce, ar, ks, kp, fl, D', ho, op, r) (qn b) (qn t) (qn k) (qn c) (qn v) := by
  have dr : ∀ (D : Int64) (b : Nat), 0 < b → b < 2147483648 → f_R_drawn fu (th, sz, kd, ce, ar, ks, kp, fl, D, ho, op, r) (qn b) = some (qn (hx33 (lcg LA LC D) % b), (th, sz, kd, ce, ar, ks, kp, fl, lcg LA LC D, ho, op, r)) := fun D b h1 h2 => t_R_drawn h1 h2
  have db : ∀ (D : Int64) (b : Nat), 0 < b → b < 2147483648 → f_D_below fu D (qn b) = some (qn (hx33 (lcg LA LC D) % b), lcg LA LC D) := fun D b h1 h2 => t_D_below D h1 h2
  exact t_draw_ hx33 (lcg LA LC) hf hP hR hg hb dr db ht
theorem gsz_gadd {g : pg} {b k c v : Nat} (hb : b < 3) : gsz (gadd g b k c v) b = gsz g b + 1 := by
  have : b = 0 ∨ b = 1 ∨ b = 2 := by omega
  rcases this with rfl | rfl | rfl <;> rfl
theorem gsz_gadd_ne {g : pg} {b k c v b' : Nat} (hb : b < 3) (hb' : b' < 3) (h : b' ≠ b) : gsz (gadd g b k c v) b' = gsz g b' := by
  have h1 : b = 0 ∨ b = 1 ∨ b = 2 := by omega
  have h2 : b' = 0 ∨ b' = 1 ∨ b' = 2 := by omega
  rcases h1 with rfl | rfl | rfl <;> rcases h2 with rfl | rfl | rfl <;> first | rfl | exact absurd rfl h
/- one try of both -/
theorem t_try1 {fu : Nat} (hf : 20000 ≤ fu) {P Q : S_P} {T : S_T} {D : Int64} {x : Int32 × Int32} {th fl : Int32} {sz kd ce ar ks kp ho op : Nat → Int32} {r : S_R11} {g : pg} (hP : pgr P g) (hR : pgr (sz, kd, ce, ar) g) (hg : gok g) {b : Nat} (hb : b < 3) (hr : grm g b) {n t : Nat} (ht : t < 20) : ∃ (P' Q' : S_P) (D' : Int64) (sz' kd' ce' ar' ks' kp' op' : Nat → Int32) (g' : pg) (w : Nat), (w = 0 ∧ g' = g ∨ w = 1 ∧ gsz g' b = gsz g b + 1 ∧ ∀ b', b' < 3 → b' ≠ b → gsz g' b' = gsz g b') ∧ pgr P' g' ∧ pgr (sz', kd', ce', ar') g' ∧ gok g' ∧ f_H_drawCommand fu (P, Q, T, D, x) (qn b) = some (qn w, (P', Q', T, D', x)) ∧ f_R_tried_L4 fu (n + 1) (th, sz, kd, ce, ar, ks, kp, fl, D, ho, op, r) (qn b) (qn 0) (qn t) = f_R_tried_L4 fu n (th, sz', kd', ce', ar', ks', kp', fl, D', ho, op', r) (qn b) (qn w) (qn (t + 1)) := by
  obtain ⟨k, c, v, D', hk, hc, hv, eH, eR⟩ := t_draw hf (Q := Q) (T := T) (D := D) (x := x) (th := th) (fl := fl) (ks := ks) (kp := kp) (ho := ho) (op := op) (r := r) hP hR hg hb (n := n) ht
  obtain ⟨P', Q', h1, h0⟩ := t_H_append hf (Q := Q) (x := (T, D', x)) hP hg (k := k) (c := c) (v := v) hb hr hk hc hv
  obtain ⟨ks', kp', sz', kd', ce', ar', op', sz'', kd'', ce'', ar'', e1, e2, r2, e3, e4, e5, r5⟩ := t_R_try hf (th := th) (fl := fl) (ks := ks) (kp := kp) (ho := ho) (op := op) (gg := D') (r := r) hR hg (k := k) (c := c) (v := v) hb hr hk hc hv
  by_cases hx : gvalid (gadd g b k c v)
  · refine ⟨P', Q', D', sz', kd', ce', ar', ks', kp', op', gadd g b k c v, 1, Or.inr ⟨rfl, gsz_gadd hb, fun b' h1 h2 => gsz_gadd_ne hb h1 h2⟩, (h1 hx).2, r2, gadd_ok hg hb hr hk hc hv, eH _ _ isB1 (h1 hx).1, ?_⟩
    rw [eR]
    simp (disch := omega) only [q0, q1, q2, q3, q4, q5, q6, q7, q8, q14, q15, q16, q20, q31, q44, q50, q70, q1000, qn_le, qn_lt, qn_eq, qn_add, qn_inb, qn_ix, qn_dec, qn_m1, ck_tt, bd_ss, ix, isB0, isB1, if_pos, if_neg, if_true, if_false, Nat.reduceAdd, Nat.reduceLeDiff, Nat.reduceSub, Nat.reduceEqDiff, Nat.reduceMul, Nat.reduceLT, Nat.zero_add, not_true, not_false_iff, f_R_tried_L191, e1, e2, e3 hx]
  · refine ⟨P, Q', D', sz'', kd'', ce'', ar'', ks', kp', op', g, 0, Or.inl ⟨rfl, rfl⟩, hP, r5, hg, eH _ _ isB0 (h0 hx), ?_⟩
    rw [eR]
    simp (disch := omega) only [q0, q1, q2, q3, q4, q5, q6, q7, q8, q14, q15, q16, q20, q31, q44, q50, q70, q1000, qn_le, qn_lt, qn_eq, qn_add, qn_inb, qn_ix, qn_dec, qn_m1, ck_tt, bd_ss, ix, isB0, isB1, if_pos, if_neg, if_true, if_false, Nat.reduceAdd, Nat.reduceLeDiff, Nat.reduceSub, Nat.reduceEqDiff, Nat.reduceMul, Nat.reduceLT, Nat.zero_add, not_true, not_false_iff, f_R_tried_L191, e1, e2, e4 hx, e5]
/- all tries for one command -/
theorem t_try20 {fu : Nat} (hf : 20000 ≤ fu) {T : S_T} {x : Int32 × Int32} {th fl : Int32} {ho : Nat → Int32} {r : S_R11} {b : Nat} (hb : b < 3) (k2 : S_H → Int32 → Int32 → Int32 → Option (S_H)) (v2 v3 : Int32) : ∀ (d n n' t w : Nat) (P Q : S_P) (D : Int64) (sz kd ce ar ks kp op : Nat → Int32) (g : pg), d < n → d < n' → t + d = 20 → pgr P g → pgr (sz, kd, ce, ar) g → gok g → (w = 0 ∧ grm g b ∨ w = 1) → ∃ (P' Q' : S_P) (D' : Int64) (sz' kd' ce' ar' ks' kp' op' : Nat → Int32) (g' : pg), (g' = g ∨ w = 0 ∧ gsz g' b = gsz g b + 1 ∧ ∀ b', b' < 3 → b' ≠ b → gsz g' b' = gsz g b') ∧ pgr P' g' ∧ pgr (sz', kd', ce', ar') g' ∧ gok g' ∧ f_H_drawBranch_L13 fu k2 n (P, Q, T, D, x) (qn b) v2 v3 (qn w) (qn t) = k2 (P', Q', T, D', x) (qn b) v2 (v3 + qn 1) ∧ f_R_tried_L4 fu n' (th, sz, kd, ce, ar, ks, kp, fl, D, ho, op, r) (qn b) (qn w) (qn t) = some (th, sz', kd', ce', ar', ks', kp', fl, D', ho, op', r) := by
  intro d
  induction d with
  | zero =>
    intro n n' t w P Q D sz kd ce ar ks kp op g hn hn' ht hP hR hg hw
    obtain ⟨m, rfl⟩ : ∃ m, n = m + 1 := ⟨n - 1, by omega⟩
    obtain ⟨m', rfl⟩ : ∃ m, n' = m + 1 := ⟨n' - 1, by omega⟩
    refine ⟨P, Q, D, sz, kd, ce, ar, ks, kp, op, g, Or.inl rfl, hP, hR, hg, ?_, ?_⟩
    · simp (disch := omega) only [q0, q1, q2, q3, q4, q5, q6, q7, q8, q14, q15, q16, q20, q31, q44, q50, q70, q1000, qn_le, qn_lt, qn_eq, qn_add, qn_inb, qn_ix, qn_dec, qn_m1, ck_tt, bd_ss, ix, isB0, isB1, if_pos, if_neg, if_true, if_false, Nat.reduceAdd, Nat.reduceLeDiff, Nat.reduceSub, Nat.reduceEqDiff, Nat.reduceMul, Nat.reduceLT, Nat.zero_add, not_true, not_false_iff, f_H_drawBranch_L13]
    · simp (disch := omega) only [q0, q1, q2, q3, q4, q5, q6, q7, q8, q14, q15, q16, q20, q31, q44, q50, q70, q1000, qn_le, qn_lt, qn_eq, qn_add, qn_inb, qn_ix, qn_dec, qn_m1, ck_tt, bd_ss, ix, isB0, isB1, if_pos, if_neg, if_true, if_false, Nat.reduceAdd, Nat.reduceLeDiff, Nat.reduceSub, Nat.reduceEqDiff, Nat.reduceMul, Nat.reduceLT, Nat.zero_add, not_true, not_false_iff, f_R_tried_L4]
  | succ d ih =>
    intro n n' t w P Q D sz kd ce ar ks kp op g hn hn' ht hP hR hg hw
    obtain ⟨m, rfl⟩ : ∃ m, n = m + 1 := ⟨n - 1, by omega⟩
    obtain ⟨m', rfl⟩ : ∃ m, n' = m + 1 := ⟨n' - 1, by omega⟩
    rcases hw with ⟨hw, hr⟩ | hw
    · subst hw
      obtain ⟨P1, Q1, D1, sz1, kd1, ce1, ar1, ks1, kp1, op1, g1, w1, hg1, hP1, hR1, hgk1, eH, eR⟩ := t_try1 hf (Q := Q) (T := T) (D := D) (x := x) (th := th) (fl := fl) (ks := ks) (kp := kp) (ho := ho) (op := op) (r := r) hP hR hg hb hr (n := m') (t := t) (by omega)
      have hw1 : w1 = 0 ∧ grm g1 b ∨ w1 = 1 := by
        rcases hg1 with ⟨h1, h2⟩ | ⟨h1, _⟩
        · rw [h2]; exact Or.inl ⟨h1, hr⟩
        · exact Or.inr h1
      obtain ⟨P', Q', D', sz', kd', ce', ar', ks', kp', op', g', hg', hP', hR', hgk', iH, iR⟩ := ih m m' (t + 1) w1 P1 Q1 D1 sz1 kd1 ce1 ar1 ks1 kp1 op1 g1 (by omega) (by omega) (by omega) hP1 hR1 hgk1 hw1
      refine ⟨P', Q', D', sz', kd', ce', ar', ks', kp', op', g', ?_, hP', hR', hgk', ?_, ?_⟩
      · rcases hg1 with ⟨h1, h2⟩ | ⟨h1, h2, h3⟩
        · rw [h2] at hg'
          rcases hg' with h4 | ⟨_, h5⟩
          · exact Or.inl h4
          · exact Or.inr ⟨rfl, h5⟩
        · rcases hg' with h4 | ⟨h4, _⟩
          · rw [h4]; exact Or.inr ⟨rfl, h2, h3⟩
          · omega
      · have e : f_H_drawBranch_L13 fu k2 (m + 1) (P, Q, T, D, x) (qn b) v2 v3 (qn 0) (qn t) = f_H_drawBranch_L13 fu k2 m (P1, Q1, T, D1, x) (qn b) v2 v3 (qn w1) (qn (t + 1)) := by
          simp (disch := omega) only [q0, q1, q2, q3, q4, q5, q6, q7, q8, q14, q15, q16, q20, q31, q44, q50, q70, q1000, qn_le, qn_lt, qn_eq, qn_add, qn_inb, qn_ix, qn_dec, qn_m1, ck_tt, bd_ss, ix, isB0, isB1, if_pos, if_neg, if_true, if_false, Nat.reduceAdd, Nat.reduceLeDiff, Nat.reduceSub, Nat.reduceEqDiff, Nat.reduceMul, Nat.reduceLT, Nat.zero_add, not_true, not_false_iff, f_H_drawBranch_L13, eH]
        rw [e]; exact iH
      · rw [eR]; exact iR
    · subst hw
      refine ⟨P, Q, D, sz, kd, ce, ar, ks, kp, op, g, Or.inl rfl, hP, hR, hg, ?_, ?_⟩
      · simp (disch := omega) only [q0, q1, q2, q3, q4, q5, q6, q7, q8, q14, q15, q16, q20, q31, q44, q50, q70, q1000, qn_le, qn_lt, qn_eq, qn_add, qn_inb, qn_ix, qn_dec, qn_m1, ck_tt, bd_ss, ix, isB0, isB1, if_pos, if_neg, if_true, if_false, Nat.reduceAdd, Nat.reduceLeDiff, Nat.reduceSub, Nat.reduceEqDiff, Nat.reduceMul, Nat.reduceLT, Nat.zero_add, not_true, not_false_iff, f_H_drawBranch_L13]
      · simp (disch := omega) only [q0, q1, q2, q3, q4, q5, q6, q7, q8, q14, q15, q16, q20, q31, q44, q50, q70, q1000, qn_le, qn_lt, qn_eq, qn_add, qn_inb, qn_ix, qn_dec, qn_m1, ck_tt, bd_ss, ix, isB0, isB1, if_pos, if_neg, if_true, if_false, Nat.reduceAdd, Nat.reduceLeDiff, Nat.reduceSub, Nat.reduceEqDiff, Nat.reduceMul, Nat.reduceLT, Nat.zero_add, not_true, not_false_iff, f_R_tried_L4]
theorem t_branch {fu : Nat} (hf : 20000 ≤ fu) {T : S_T} {x : Int32 × Int32} {th fl : Int32} {ho : Nat → Int32} {r : S_R11} {b : Nat} (hb : b < 3) {N : Nat} (hN : N ≤ if b = 0 then 6 else 4) {X : Type} (RL : Nat → S_R → Int32 → Option X) (fin : S_R → Option X) (hs : ∀ n R i, i < N → RL (n + 1) R (qn i) = bd (f_R_tried fu R (qn b)) fun R' => RL n R' (qn (i + 1))) (hz : ∀ n R, RL (n + 1) R (qn N) = fin R) : ∀ (d n n' i : Nat) (P Q : S_P) (D : Int64) (sz kd ce ar ks kp op : Nat → Int32) (g : pg), d < n → d < n' → i + d = N → pgr P g → pgr (sz, kd, ce, ar) g → gok g → gsz g b ≤ i → ∃ (P' Q' : S_P) (D' : Int64) (sz' kd' ce' ar' ks' kp' op' : Nat → Int32) (g' : pg), (∀ b', b' < 3 → b' ≠ b → gsz g' b' = gsz g b') ∧ pgr P' g' ∧ pgr (sz', kd', ce', ar') g' ∧ gok g' ∧ f_H_drawBranch_L2 fu n (P, Q, T, D, x) (qn b) (qn N) (qn i) = some (P', Q', T, D', x) ∧ RL n' (th, sz, kd, ce, ar, ks, kp, fl, D, ho, op, r) (qn i) = fin (th, sz', kd', ce', ar', ks', kp', fl, D', ho, op', r) := by
  have hN6 : N ≤ 6 := by split at hN <;> omega
  intro d
  induction d with
  | zero =>
    intro n n' i P Q D sz kd ce ar ks kp op g hn hn' hi hP hR hg hsz
    obtain ⟨m, rfl⟩ : ∃ m, n = m + 1 := ⟨n - 1, by omega⟩
    obtain ⟨m', rfl⟩ : ∃ m, n' = m + 1 := ⟨n' - 1, by omega⟩
    refine ⟨P, Q, D, sz, kd, ce, ar, ks, kp, op, g, fun _ _ _ => rfl, hP, hR, hg, ?_, ?_⟩
    · simp (disch := omega) only [q0, q1, q2, q3, q4, q5, q6, q7, q8, q14, q15, q16, q20, q31, q44, q50, q70, q1000, qn_le, qn_lt, qn_eq, qn_add, qn_inb, qn_ix, qn_dec, qn_m1, ck_tt, bd_ss, ix, isB0, isB1, if_pos, if_neg, if_true, if_false, Nat.reduceAdd, Nat.reduceLeDiff, Nat.reduceSub, Nat.reduceEqDiff, Nat.reduceMul, Nat.reduceLT, Nat.zero_add, not_true, not_false_iff, f_H_drawBranch_L2]
    · have : i = N := by omega
      rw [this]; exact hz _ _
  | succ d ih =>
    intro n n' i P Q D sz kd ce ar ks kp op g hn hn' hi hP hR hg hsz
    obtain ⟨m, rfl⟩ : ∃ m, n = m + 1 := ⟨n - 1, by omega⟩
    obtain ⟨m', rfl⟩ : ∃ m, n' = m + 1 := ⟨n' - 1, by omega⟩
    have hr : grm g b := by unfold grm; omega
    obtain ⟨P1, Q1, D1, sz1, kd1, ce1, ar1, ks1, kp1, op1, g1, hg1, hP1, hR1, hgk1, eH, eR⟩ := t_try20 hf (T := T) (x := x) (th := th) (fl := fl) (ho := ho) (r := r) hb (f_H_drawBranch_L2 fu m) (qn N) (qn i) 20 fu fu 0 0 P Q D sz kd ce ar ks kp op g (by omega) (by omega) (by omega) hP hR hg (Or.inl ⟨rfl, hr⟩)
    have hsz1 : gsz g1 b ≤ i + 1 := by
      rcases hg1 with h1 | ⟨_, h1, _⟩
      · rw [h1]; omega
      · omega
    have hoth : ∀ b', b' < 3 → b' ≠ b → gsz g1 b' = gsz g b' := by
      rcases hg1 with h1 | ⟨_, _, h1⟩
      · rw [h1]; intros; rfl
      · exact h1
    obtain ⟨P', Q', D', sz', kd', ce', ar', ks', kp', op', g', hg', hP', hR', hgk', iH, iR⟩ := ih m m' (i + 1) P1 Q1 D1 sz1 kd1 ce1 ar1 ks1 kp1 op1 g1 (by omega) (by omega) (by omega) hP1 hR1 hgk1 hsz1
    refine ⟨P', Q', D', sz', kd', ce', ar', ks', kp', op', g', fun b' h1 h2 => (hg' b' h1 h2).trans (hoth b' h1 h2), hP', hR', hgk', ?_, ?_⟩
    · have e : f_H_drawBranch_L2 fu (m + 1) (P, Q, T, D, x) (qn b) (qn N) (qn i) = f_H_drawBranch_L13 fu (f_H_drawBranch_L2 fu m) fu (P, Q, T, D, x) (qn b) (qn N) (qn i) (qn 0) (qn 0) := by
        simp (disch := omega) only [q0, q1, q2, q3, q4, q5, q6, q7, q8, q14, q15, q16, q20, q31, q44, q50, q70, q1000, qn_le, qn_lt, qn_eq, qn_add, qn_inb, qn_ix, qn_dec, qn_m1, ck_tt, bd_ss, ix, isB0, isB1, if_pos, if_neg, if_true, if_false, Nat.reduceAdd, Nat.reduceLeDiff, Nat.reduceSub, Nat.reduceEqDiff, Nat.reduceMul, Nat.reduceLT, Nat.zero_add, not_true, not_false_iff, f_H_drawBranch_L2]
      rw [e, eH, qn_add]; exact iH
    · rw [hs _ _ _ (by omega)]
      have e : f_R_tried fu (th, sz, kd, ce, ar, ks, kp, fl, D, ho, op, r) (qn b) = f_R_tried_L4 fu fu (th, sz, kd, ce, ar, ks, kp, fl, D, ho, op, r) (qn b) (qn 0) (qn 0) := rfl
      rw [e, eR, bd_ss]; exact iR
