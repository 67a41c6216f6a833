abbrev S_R5 : Type := (Nat → Int32) × (Nat → Int32) × Int32 × Int64 × (Nat → Int32) × (Nat → Int32) × (Nat → Int32) × (Nat → Int32) × Int32 × Int32 × (Nat → Int32) × (Nat → Int32) × (Nat → Int32) × (Nat → Int32) × (Nat → Int32) × (Nat → Int32) × (Nat → Int32) × Int32 × Int32 × Int32 × Int32 × Int32 × (Nat → Int32)
abbrev S_R7 : Type := Int32 × Int64 × (Nat → Int32) × (Nat → Int32) × (Nat → Int32) × (Nat → Int32) × Int32 × Int32 × (Nat → Int32) × (Nat → Int32) × (Nat → Int32) × (Nat → Int32) × (Nat → Int32) × (Nat → Int32) × (Nat → Int32) × Int32 × Int32 × Int32 × Int32 × Int32 × (Nat → Int32)
theorem t_R_many {fu : Nat} {th : Int32} {sz kd ce ar : Nat → Int32} {r : S_R5} {g : pg} (h : pgr (sz, kd, ce, ar) g) : f_R_many fu (th, sz, kd, ce, ar, r) = some (qn (gn g)) := by
  obtain ⟨h0, h1, h2, h3⟩ := h
  dsimp only at h0 h1 h2
  simp (disch := omega) only [q0, q1, q2, q3, q4, q5, q6, q7, q8, q14, q15, q16, q20, q31, q44, q50, q70, q1000, qn_le, qn_lt, qn_eq, qn_add, qn_inb, qn_ix, qn_dec, qn_m1, ck_tt, bd_ss, ix, isB0, isB1, if_pos, if_neg, if_true, if_false, Nat.reduceAdd, Nat.reduceLeDiff, Nat.reduceSub, Nat.reduceEqDiff, Nat.reduceMul, Nat.reduceLT, Nat.zero_add, not_true, not_false_iff, f_R_many, h0, h1, h2, gn]
theorem t_R_branch {fu : Nat} {th : Int32} {sz kd ce ar : Nat → Int32} {r : S_R5} {g : pg} (h : pgr (sz, kd, ce, ar) g) (hg : gok g) {i : Nat} (hi : i < 2147483648) : f_R_branch fu (th, sz, kd, ce, ar, r) (qn i) = some (qn (gbr g i)) := by
  have h1 := hg.1; have h2 := hg.2.1
  obtain ⟨e0, e1, e2, e3⟩ := h
  dsimp only at e0 e1 e2
  simp (disch := omega) only [q0, q1, q2, q3, q4, q5, q6, q7, q8, q14, q15, q16, q20, q31, q44, q50, q70, q1000, qn_le, qn_lt, qn_eq, qn_add, qn_inb, qn_ix, qn_dec, qn_m1, ck_tt, bd_ss, ix, isB0, isB1, if_pos, if_neg, if_true, if_false, Nat.reduceAdd, Nat.reduceLeDiff, Nat.reduceSub, Nat.reduceEqDiff, Nat.reduceMul, Nat.reduceLT, Nat.zero_add, not_true, not_false_iff, f_R_branch, e0, e1, gbr]
  by_cases a1 : gp g ≤ i
  · by_cases a2 : gp g + ga g ≤ i
    · simp (disch := omega) only [q0, q1, q2, q3, q4, q5, q6, q7, q8, q14, q15, q16, q20, q31, q44, q50, q70, q1000, qn_le, qn_lt, qn_eq, qn_add, qn_inb, qn_ix, qn_dec, qn_m1, ck_tt, bd_ss, ix, isB0, isB1, if_pos, if_neg, if_true, if_false, Nat.reduceAdd, Nat.reduceLeDiff, Nat.reduceSub, Nat.reduceEqDiff, Nat.reduceMul, Nat.reduceLT, Nat.zero_add, not_true, not_false_iff]
    · simp (disch := omega) only [q0, q1, q2, q3, q4, q5, q6, q7, q8, q14, q15, q16, q20, q31, q44, q50, q70, q1000, qn_le, qn_lt, qn_eq, qn_add, qn_inb, qn_ix, qn_dec, qn_m1, ck_tt, bd_ss, ix, isB0, isB1, if_pos, if_neg, if_true, if_false, Nat.reduceAdd, Nat.reduceLeDiff, Nat.reduceSub, Nat.reduceEqDiff, Nat.reduceMul, Nat.reduceLT, Nat.zero_add, not_true, not_false_iff]
  · simp (disch := omega) only [q0, q1, q2, q3, q4, q5, q6, q7, q8, q14, q15, q16, q20, q31, q44, q50, q70, q1000, qn_le, qn_lt, qn_eq, qn_add, qn_inb, qn_ix, qn_dec, qn_m1, ck_tt, bd_ss, ix, isB0, isB1, if_pos, if_neg, if_true, if_false, Nat.reduceAdd, Nat.reduceLeDiff, Nat.reduceSub, Nat.reduceEqDiff, Nat.reduceMul, Nat.reduceLT, Nat.zero_add, not_true, not_false_iff]
theorem t_R_first {fu : Nat} {th : Int32} {sz kd ce ar : Nat → Int32} {r : S_R5} {g : pg} (h : pgr (sz, kd, ce, ar) g) {b : Nat} (hb : b < 3) : f_R_first fu (th, sz, kd, ce, ar, r) (qn b) = some (qn (gst g b)) := by
  obtain ⟨e0, e1, e2, e3⟩ := h
  dsimp only at e0 e1 e2
  simp (disch := omega) only [q0, q1, q2, q3, q4, q5, q6, q7, q8, q14, q15, q16, q20, q31, q44, q50, q70, q1000, qn_le, qn_lt, qn_eq, qn_add, qn_inb, qn_ix, qn_dec, qn_m1, ck_tt, bd_ss, ix, isB0, isB1, if_pos, if_neg, if_true, if_false, Nat.reduceAdd, Nat.reduceLeDiff, Nat.reduceSub, Nat.reduceEqDiff, Nat.reduceMul, Nat.reduceLT, Nat.zero_add, not_true, not_false_iff, f_R_first, e0, e1, gst]
  by_cases a1 : b = 0
  · simp (disch := omega) only [q0, q1, q2, q3, q4, q5, q6, q7, q8, q14, q15, q16, q20, q31, q44, q50, q70, q1000, qn_le, qn_lt, qn_eq, qn_add, qn_inb, qn_ix, qn_dec, qn_m1, ck_tt, bd_ss, ix, isB0, isB1, if_pos, if_neg, if_true, if_false, Nat.reduceAdd, Nat.reduceLeDiff, Nat.reduceSub, Nat.reduceEqDiff, Nat.reduceMul, Nat.reduceLT, Nat.zero_add, not_true, not_false_iff]
  · by_cases a2 : b = 1
    · simp (disch := omega) only [q0, q1, q2, q3, q4, q5, q6, q7, q8, q14, q15, q16, q20, q31, q44, q50, q70, q1000, qn_le, qn_lt, qn_eq, qn_add, qn_inb, qn_ix, qn_dec, qn_m1, ck_tt, bd_ss, ix, isB0, isB1, if_pos, if_neg, if_true, if_false, Nat.reduceAdd, Nat.reduceLeDiff, Nat.reduceSub, Nat.reduceEqDiff, Nat.reduceMul, Nat.reduceLT, Nat.zero_add, not_true, not_false_iff]
    · simp (disch := omega) only [q0, q1, q2, q3, q4, q5, q6, q7, q8, q14, q15, q16, q20, q31, q44, q50, q70, q1000, qn_le, qn_lt, qn_eq, qn_add, qn_inb, qn_ix, qn_dec, qn_m1, ck_tt, bd_ss, ix, isB0, isB1, if_pos, if_neg, if_true, if_false, Nat.reduceAdd, Nat.reduceLeDiff, Nat.reduceSub, Nat.reduceEqDiff, Nat.reduceMul, Nat.reduceLT, Nat.zero_add, not_true, not_false_iff]
theorem t_R_mayStand {fu : Nat} {th : Int32} {sz kd ce ar : Nat → Int32} {r : S_R5} {g : pg} (h : pgr (sz, kd, ce, ar) g) (hg : gok g) {i b own : Nat} (hi : i < 2147483648) (hb : b < 3) (ho : own < 100) : bqr (f_R_mayStand fu (th, sz, kd, ce, ar, r) (qn i) (qn b) (qn own)) (gmay g i b own) := by
  have h1 := hg.1
  have e0 : sz 0 = qn (gp g) := h.1
  have hbr := gbr_lt g i
  unfold gmay
  by_cases a1 : own ≤ i
  · refine ⟨fun hx => absurd hx.1 (by omega), fun _ => ?_⟩
    simp (disch := omega) only [q0, q1, q2, q3, q4, q5, q6, q7, q8, q14, q15, q16, q20, q31, q44, q50, q70, q1000, qn_le, qn_lt, qn_eq, qn_add, qn_inb, qn_ix, qn_dec, qn_m1, ck_tt, bd_ss, ix, isB0, isB1, if_pos, if_neg, if_true, if_false, Nat.reduceAdd, Nat.reduceLeDiff, Nat.reduceSub, Nat.reduceEqDiff, Nat.reduceMul, Nat.reduceLT, Nat.zero_add, not_true, not_false_iff, f_R_mayStand]
  · by_cases a2 : i < gp g
    · refine ⟨fun _ => ?_, fun hx => absurd ⟨by omega, Or.inl a2⟩ hx⟩
      simp (disch := omega) only [q0, q1, q2, q3, q4, q5, q6, q7, q8, q14, q15, q16, q20, q31, q44, q50, q70, q1000, qn_le, qn_lt, qn_eq, qn_add, qn_inb, qn_ix, qn_dec, qn_m1, ck_tt, bd_ss, ix, isB0, isB1, if_pos, if_neg, if_true, if_false, Nat.reduceAdd, Nat.reduceLeDiff, Nat.reduceSub, Nat.reduceEqDiff, Nat.reduceMul, Nat.reduceLT, Nat.zero_add, not_true, not_false_iff, f_R_mayStand, e0]
    · by_cases a3 : gbr g i = b
      · refine ⟨fun _ => ?_, fun hx => absurd ⟨by omega, Or.inr a3⟩ hx⟩
        simp (disch := omega) only [q0, q1, q2, q3, q4, q5, q6, q7, q8, q14, q15, q16, q20, q31, q44, q50, q70, q1000, qn_le, qn_lt, qn_eq, qn_add, qn_inb, qn_ix, qn_dec, qn_m1, ck_tt, bd_ss, ix, isB0, isB1, if_pos, if_neg, if_true, if_false, Nat.reduceAdd, Nat.reduceLeDiff, Nat.reduceSub, Nat.reduceEqDiff, Nat.reduceMul, Nat.reduceLT, Nat.zero_add, not_true, not_false_iff, f_R_mayStand, e0, t_R_branch h hg]
      · refine ⟨fun hx => ?_, fun _ => ?_⟩
        · rcases hx.2 with h3 | h3
          · exact absurd h3 a2
          · exact absurd h3 a3
        · simp (disch := omega) only [q0, q1, q2, q3, q4, q5, q6, q7, q8, q14, q15, q16, q20, q31, q44, q50, q70, q1000, qn_le, qn_lt, qn_eq, qn_add, qn_inb, qn_ix, qn_dec, qn_m1, ck_tt, bd_ss, ix, isB0, isB1, if_pos, if_neg, if_true, if_false, Nat.reduceAdd, Nat.reduceLeDiff, Nat.reduceSub, Nat.reduceEqDiff, Nat.reduceMul, Nat.reduceLT, Nat.zero_add, not_true, not_false_iff, f_R_mayStand, e0, t_R_branch h hg]
theorem t_R_copy {fu : Nat} {th : Int32} {sz kd ce ar : Nat → Int32} {r : S_R5} {i j : Nat} (hi : i < 14) (hj : j < 14) : f_R_copy fu (th, sz, kd, ce, ar, r) (qn i) (qn j) = some (th, sz, upd kd j (kd i), upd ce j (ce i), upd ar j (ar i), r) := by
  simp (disch := omega) only [q0, q1, q2, q3, q4, q5, q6, q7, q8, q14, q15, q16, q20, q31, q44, q50, q70, q1000, qn_le, qn_lt, qn_eq, qn_add, qn_inb, qn_ix, qn_dec, qn_m1, ck_tt, bd_ss, ix, isB0, isB1, if_pos, if_neg, if_true, if_false, Nat.reduceAdd, Nat.reduceLeDiff, Nat.reduceSub, Nat.reduceEqDiff, Nat.reduceMul, Nat.reduceLT, Nat.zero_add, not_true, not_false_iff, f_R_copy]
theorem t_R_insert_L20 (fu : Nat) (th : Int32) (sz : Nat → Int32) (r : S_R5) (b k c v : Int32) : ∀ (d n s t : Nat) (kd ce ar : Nat → Int32), d < n → t ≤ s + d → t < 14 → s < 14 → f_R_insert_L20 fu n (th, sz, kd, ce, ar, r) b k c v (qn s) (qn t) = f_R_insert_L43 fu (th, sz, shu kd s t, shu ce s t, shu ar s t, r) b k c v (qn s) := by
  intro d
  induction d with
  | zero =>
    intro n s t kd ce ar hn ht h14 hs
    obtain ⟨m, rfl⟩ : ∃ m, n = m + 1 := ⟨n - 1, by omega⟩
    simp (disch := omega) only [q0, q1, q2, q3, q4, q5, q6, q7, q8, q14, q15, q16, q20, q31, q44, q50, q70, q1000, qn_le, qn_lt, qn_eq, qn_add, qn_inb, qn_ix, qn_dec, qn_m1, ck_tt, bd_ss, ix, isB0, isB1, if_pos, if_neg, if_true, if_false, Nat.reduceAdd, Nat.reduceLeDiff, Nat.reduceSub, Nat.reduceEqDiff, Nat.reduceMul, Nat.reduceLT, Nat.zero_add, not_true, not_false_iff, f_R_insert_L20, shu_end]
  | succ d ih =>
    intro n s t kd ce ar hn ht h14 hs
    obtain ⟨m, rfl⟩ : ∃ m, n = m + 1 := ⟨n - 1, by omega⟩
    by_cases hst : t ≤ s
    · simp (disch := omega) only [q0, q1, q2, q3, q4, q5, q6, q7, q8, q14, q15, q16, q20, q31, q44, q50, q70, q1000, qn_le, qn_lt, qn_eq, qn_add, qn_inb, qn_ix, qn_dec, qn_m1, ck_tt, bd_ss, ix, isB0, isB1, if_pos, if_neg, if_true, if_false, Nat.reduceAdd, Nat.reduceLeDiff, Nat.reduceSub, Nat.reduceEqDiff, Nat.reduceMul, Nat.reduceLT, Nat.zero_add, not_true, not_false_iff, f_R_insert_L20, shu_end]
    · simp (disch := omega) only [q0, q1, q2, q3, q4, q5, q6, q7, q8, q14, q15, q16, q20, q31, q44, q50, q70, q1000, qn_le, qn_lt, qn_eq, qn_add, qn_inb, qn_ix, qn_dec, qn_m1, ck_tt, bd_ss, ix, isB0, isB1, if_pos, if_neg, if_true, if_false, Nat.reduceAdd, Nat.reduceLeDiff, Nat.reduceSub, Nat.reduceEqDiff, Nat.reduceMul, Nat.reduceLT, Nat.zero_add, not_true, not_false_iff, f_R_insert_L20, qn_sub, t_R_copy, ih]
      simp only [shu_step _ s t (by omega)]
theorem i32_add0 (x : Int32) : x + qn 0 = x := by rw [← q0]; exact Int32.add_zero x
theorem i32_sub0 (x : Int32) : x - qn 0 = x := by rw [← q0]; exact Int32.sub_zero x
theorem t_R_insert_L59 (fu : Nat) (th : Int32) (sz kd ce : Nat → Int32) (r : S_R5) (k c v : Int32) (s N : Nat) (hs : s < 14) (hN : N ≤ 14) (hz : sz 0 + sz 1 + sz 2 = qn N) : ∀ (d n i : Nat) (ar : Nat → Int32), d < n → N ≤ i + d → i < 100 → f_R_insert_L59 fu n (th, sz, kd, ce, ar, r) k c v (qn s) (qn i) = f_R_insert_L104 fu (th, sz, kd, ce, rnm ar s (qn 1) i N, r) k c v (qn s) := by
  intro d
  induction d with
  | zero =>
    intro n i ar hn hd hi
    obtain ⟨m, rfl⟩ : ∃ m, n = m + 1 := ⟨n - 1, by omega⟩
    simp (disch := omega) only [q0, q1, q2, q3, q4, q5, q6, q7, q8, q14, q15, q16, q20, q31, q44, q50, q70, q1000, qn_le, qn_lt, qn_eq, qn_add, qn_inb, qn_ix, qn_dec, qn_m1, ck_tt, bd_ss, ix, isB0, isB1, if_pos, if_neg, if_true, if_false, Nat.reduceAdd, Nat.reduceLeDiff, Nat.reduceSub, Nat.reduceEqDiff, Nat.reduceMul, Nat.reduceLT, Nat.zero_add, not_true, not_false_iff, f_R_insert_L59, f_R_many, hz, rnm_end]
  | succ d ih =>
    intro n i ar hn hd hi
    obtain ⟨m, rfl⟩ : ∃ m, n = m + 1 := ⟨n - 1, by omega⟩
    by_cases hst : N ≤ i
    · simp (disch := omega) only [q0, q1, q2, q3, q4, q5, q6, q7, q8, q14, q15, q16, q20, q31, q44, q50, q70, q1000, qn_le, qn_lt, qn_eq, qn_add, qn_inb, qn_ix, qn_dec, qn_m1, ck_tt, bd_ss, ix, isB0, isB1, if_pos, if_neg, if_true, if_false, Nat.reduceAdd, Nat.reduceLeDiff, Nat.reduceSub, Nat.reduceEqDiff, Nat.reduceMul, Nat.reduceLT, Nat.zero_add, not_true, not_false_iff, f_R_insert_L59, f_R_many, hz, rnm_end]
    · by_cases hc : ar i < qn (8 + s)
      · simp (disch := omega) only [q0, q1, q2, q3, q4, q5, q6, q7, q8, q14, q15, q16, q20, q31, q44, q50, q70, q1000, qn_le, qn_lt, qn_eq, qn_add, qn_inb, qn_ix, qn_dec, qn_m1, ck_tt, bd_ss, ix, isB0, isB1, if_pos, if_neg, if_true, if_false, Nat.reduceAdd, Nat.reduceLeDiff, Nat.reduceSub, Nat.reduceEqDiff, Nat.reduceMul, Nat.reduceLT, Nat.zero_add, not_true, not_false_iff, f_R_insert_L59, f_R_many, hz, hc, i32_add0, upd_self, ih]
        rw [rnm_same _ _ _ _ _ hc]
      · simp (disch := omega) only [q0, q1, q2, q3, q4, q5, q6, q7, q8, q14, q15, q16, q20, q31, q44, q50, q70, q1000, qn_le, qn_lt, qn_eq, qn_add, qn_inb, qn_ix, qn_dec, qn_m1, ck_tt, bd_ss, ix, isB0, isB1, if_pos, if_neg, if_true, if_false, Nat.reduceAdd, Nat.reduceLeDiff, Nat.reduceSub, Nat.reduceEqDiff, Nat.reduceMul, Nat.reduceLT, Nat.zero_add, not_true, not_false_iff, f_R_insert_L59, f_R_many, hz, hc, ih]
        rw [rnm_step _ _ _ _ _ hc (by omega)]
theorem t_R_insert {fu : Nat} (hf : 20000 ≤ fu) {th : Int32} {sz kd ce ar : Nat → Int32} {r : S_R5} {g : pg} (h : pgr (sz, kd, ce, ar) g) (hg : gok g) {b k c v : Nat} (hb : b < 3) (hr : grm g b) : ∃ sz' kd' ce' ar', f_R_insert fu (th, sz, kd, ce, ar, r) (qn b) (qn k) (qn c) (qn v) = some (qn (gst g b + gsz g b), (th, sz', kd', ce', ar', r)) ∧ pgr (sz', kd', ce', ar') (gadd g b k c v) := by
  have h14 := grm_lt hg hb hr
  have hat := gend_le g hb
  have hsz : sz b = qn (gsz g b) := h.sz hb
  have hz := upd_sizes (z := sz) h.1 h.2.1 h.2.2.1 hb (· + 1) (qn (gsz g b + 1)) rfl
  have hN : upd sz b (qn (gsz g b + 1)) 0 + upd sz b (qn (gsz g b + 1)) 1 + upd sz b (qn (gsz g b + 1)) 2 = qn (gn g + 1) := by
    rw [hz.1, hz.2.1, hz.2.2, qn_add, qn_add]
    have := gn_gadd g (k := k) (c := c) (v := v) hb
    rw [← this]; rfl
  refine ⟨_, _, _, _, by simp (disch := omega) only [q0, q1, q2, q3, q4, q5, q6, q7, q8, q14, q15, q16, q20, q31, q44, q50, q70, q1000, qn_le, qn_lt, qn_eq, qn_add, qn_inb, qn_ix, qn_dec, qn_m1, ck_tt, bd_ss, ix, isB0, isB1, if_pos, if_neg, if_true, if_false, Nat.reduceAdd, Nat.reduceLeDiff, Nat.reduceSub, Nat.reduceEqDiff, Nat.reduceMul, Nat.reduceLT, Nat.zero_add, not_true, not_false_iff, f_R_insert, t_R_first h hb, t_R_many h, hsz, t_R_insert_L20 fu th sz r (qn b) (qn k) (qn c) (qn v) 14 fu, f_R_insert_L43, t_R_insert_L59 fu th (upd sz b (qn (gsz g b + 1))) _ _ r (qn k) (qn c) (qn v) _ (gn g + 1) (show gst g b + gsz g b < 14 by omega) (by omega) hN 14 fu, f_R_insert_L104]; rfl, ?_⟩
  refine ⟨hz.1, hz.2.1, hz.2.2, ?_⟩
  intro i hi
  rw [gn_gadd g hb] at hi
  show upd (shu kd _ _) _ _ i = qn (if i < gst g b + gsz g b then gk g i else if i = gst g b + gsz g b then k else gk g (i - 1)) ∧ upd (shu ce _ _) _ _ i = qn (if i < gst g b + gsz g b then gc g i else if i = gst g b + gsz g b then c else gc g (i - 1)) ∧ upd (rnm (shu ar _ _) _ _ _ _) _ _ i = qn (if i < gst g b + gsz g b then gv g i else if i = gst g b + gsz g b then v else if gv g (i - 1) < 8 + (gst g b + gsz g b) then gv g (i - 1) else gv g (i - 1) + 1)
  generalize hA : gst g b + gsz g b = A at *
  by_cases h1 : i < A
  · have h2 := h.2.2.2 i (by omega)
    dsimp only at h2
    have h5 : ¬ (A < i ∧ i ≤ gn g) := by omega
    have h7 : ¬ (A + 1 ≤ i ∧ i < gn g + 1) := by omega
    simp only [upd, if_neg (show ¬ i = A by omega), if_pos h1, shu, rnm, if_neg h5, if_neg h7, h2.1, h2.2.1, h2.2.2]
    exact ⟨trivial, trivial, trivial⟩
  · by_cases h2 : i = A
    · subst h2
      simp only [upd, if_true, if_neg h1]
      exact ⟨trivial, trivial, trivial⟩
    · have h3 := h.2.2.2 (i - 1) (by omega)
      dsimp only at h3
      have h4 := hg.v22 (i := i - 1) (by omega)
      have h5 : (A < i ∧ i ≤ gn g) := by omega
      simp only [upd, if_neg h2, if_neg h1, shu, rnm, if_pos h5, h3.1, h3.2.1, h3.2.2]
      refine ⟨trivial, trivial, ?_⟩
      rw [if_pos (by omega)]
      by_cases h6 : gv g (i - 1) < 8 + A
      · rw [if_pos h6, if_pos]
        simp (disch := omega) only [q0, q1, q2, q3, q4, q5, q6, q7, q8, q14, q15, q16, q20, q31, q44, q50, q70, q1000, qn_le, qn_lt, qn_eq, qn_add, qn_inb, qn_ix, qn_dec, qn_m1, ck_tt, bd_ss, ix, isB0, isB1, if_pos, if_neg, if_true, if_false, Nat.reduceAdd, Nat.reduceLeDiff, Nat.reduceSub, Nat.reduceEqDiff, Nat.reduceMul, Nat.reduceLT, Nat.zero_add, not_true, not_false_iff]
        omega
      · rw [if_neg h6, if_neg, qn_add]
        simp (disch := omega) only [q0, q1, q2, q3, q4, q5, q6, q7, q8, q14, q15, q16, q20, q31, q44, q50, q70, q1000, qn_le, qn_lt, qn_eq, qn_add, qn_inb, qn_ix, qn_dec, qn_m1, ck_tt, bd_ss, ix, isB0, isB1, if_pos, if_neg, if_true, if_false, Nat.reduceAdd, Nat.reduceLeDiff, Nat.reduceSub, Nat.reduceEqDiff, Nat.reduceMul, Nat.reduceLT, Nat.zero_add, not_true, not_false_iff]
        omega
