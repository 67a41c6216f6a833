def glow (g : pg) (i : Nat) (h : Nat) : pg := (g.1, gk g, gc g, fun j => if j = i then (if h = 0 then 0 else gv g i / 2) else gv g j)
theorem t_P_lower {fu : Nat} {P : S_P} {g : pg} (h : pgr P g) (hg : gok g) {i b : Nat} (hi : i < 100) (hb : b < 2) : (¬ (i < gn g ∧ gv g i < 8 ∧ b + 1 ≤ gv g i) → f_P_lower fu P (qn i) (qn b) = some (qn 0, P)) ∧ (i < gn g ∧ gv g i < 8 ∧ b + 1 ≤ gv g i → ∃ P', f_P_lower fu P (qn i) (qn b) = some (qn 1, P') ∧ pgr P' (glow g i b)) := by
  have h14 := hg.n14
  have hb' : b = 0 ∨ b = 1 := by omega
  refine ⟨fun hx => ?_, fun hx => ?_⟩
  · by_cases h1 : i < gn g
    · have h2 := (h.2.2.2 i h1).2.2
      have h3 := hg.v22 h1
      by_cases h4 : 8 ≤ gv g i
      · simp (disch := omega) only [q0, q1, q2, q3, q4, q5, q6, q7, q8, q14, q15, q16, q20, q31, q44, q50, q70, q1000, qn_le, qn_lt, qn_eq, qn_add, qn_inb, qn_ix, qn_dec, qn_m1, ck_tt, bd_ss, ix, isB0, isB1, if_pos, if_neg, if_true, if_false, Nat.reduceAdd, Nat.reduceLeDiff, Nat.reduceSub, Nat.reduceEqDiff, Nat.reduceMul, Nat.reduceLT, Nat.zero_add, not_true, not_false_iff, f_P_lower, t_P_size h, h2]
      · rcases hb' with rfl | rfl
        · simp (disch := omega) only [q0, q1, q2, q3, q4, q5, q6, q7, q8, q14, q15, q16, q20, q31, q44, q50, q70, q1000, qn_le, qn_lt, qn_eq, qn_add, qn_inb, qn_ix, qn_dec, qn_m1, ck_tt, bd_ss, ix, isB0, isB1, if_pos, if_neg, if_true, if_false, Nat.reduceAdd, Nat.reduceLeDiff, Nat.reduceSub, Nat.reduceEqDiff, Nat.reduceMul, Nat.reduceLT, Nat.zero_add, not_true, not_false_iff, f_P_lower, t_P_size h, h2, f_P_lower_L37]
        · simp (disch := omega) only [q0, q1, q2, q3, q4, q5, q6, q7, q8, q14, q15, q16, q20, q31, q44, q50, q70, q1000, qn_le, qn_lt, qn_eq, qn_add, qn_inb, qn_ix, qn_dec, qn_m1, ck_tt, bd_ss, ix, isB0, isB1, if_pos, if_neg, if_true, if_false, Nat.reduceAdd, Nat.reduceLeDiff, Nat.reduceSub, Nat.reduceEqDiff, Nat.reduceMul, Nat.reduceLT, Nat.zero_add, not_true, not_false_iff, f_P_lower, t_P_size h, h2, f_P_lower_L37]
    · simp (disch := omega) only [q0, q1, q2, q3, q4, q5, q6, q7, q8, q14, q15, q16, q20, q31, q44, q50, q70, q1000, qn_le, qn_lt, qn_eq, qn_add, qn_inb, qn_ix, qn_dec, qn_m1, ck_tt, bd_ss, ix, isB0, isB1, if_pos, if_neg, if_true, if_false, Nat.reduceAdd, Nat.reduceLeDiff, Nat.reduceSub, Nat.reduceEqDiff, Nat.reduceMul, Nat.reduceLT, Nat.zero_add, not_true, not_false_iff, f_P_lower, t_P_size h]
  · obtain ⟨h1, h2, h3⟩ := hx
    have h4 := (h.2.2.2 i h1).2.2
    have hfin : ∀ x, x = qn (if b = 0 then 0 else gv g i / 2) → pgr (P.1, P.2.1, P.2.2.1, upd P.2.2.2 i x) (glow g i b) := by
      intro x hx
      refine ⟨h.1, h.2.1, h.2.2.1, fun j hj => ?_⟩
      have h5 := h.2.2.2 j hj
      refine ⟨h5.1, h5.2.1, ?_⟩
      show upd P.2.2.2 i x j = qn (if j = i then (if b = 0 then 0 else gv g i / 2) else gv g j)
      unfold upd
      by_cases h6 : j = i
      · rw [if_pos h6, if_pos h6, hx]
      · rw [if_neg h6, if_neg h6, h5.2.2]
    rcases hb' with rfl | rfl
    · refine ⟨_, by simp (disch := omega) only [q0, q1, q2, q3, q4, q5, q6, q7, q8, q14, q15, q16, q20, q31, q44, q50, q70, q1000, qn_le, qn_lt, qn_eq, qn_add, qn_inb, qn_ix, qn_dec, qn_m1, ck_tt, bd_ss, ix, isB0, isB1, if_pos, if_neg, if_true, if_false, Nat.reduceAdd, Nat.reduceLeDiff, Nat.reduceSub, Nat.reduceEqDiff, Nat.reduceMul, Nat.reduceLT, Nat.zero_add, not_true, not_false_iff, f_P_lower, t_P_size h, h4, f_P_lower_L37]; rfl, ?_⟩
      exact hfin _ rfl
    · refine ⟨_, by simp (disch := omega) only [q0, q1, q2, q3, q4, q5, q6, q7, q8, q14, q15, q16, q20, q31, q44, q50, q70, q1000, qn_le, qn_lt, qn_eq, qn_add, qn_inb, qn_ix, qn_dec, qn_m1, ck_tt, bd_ss, ix, isB0, isB1, if_pos, if_neg, if_true, if_false, Nat.reduceAdd, Nat.reduceLeDiff, Nat.reduceSub, Nat.reduceEqDiff, Nat.reduceMul, Nat.reduceLT, Nat.zero_add, not_true, not_false_iff, f_P_lower, t_P_size h, h4, f_P_lower_L37, nz_qn, qn_div]; rfl, ?_⟩
      exact hfin _ rfl
theorem t_P_mayTake {fu : Nat} {P : S_P} {g : pg} (h : pgr P g) (hg : gok g) {b v : Nat} (hb : b < 3) (hv : v < 2147483648) : bqr (f_P_mayTake fu P (qn b) (qn v)) (v < 8 ∨ gmay g (v - 8) b (gst g b + gsz g b)) := by
  have h14 := hg.n14
  have h6 := hg.1
  have hd := gn_def g
  have hle := gend_le g hb
  by_cases h1 : v < 8
  · refine ⟨fun _ => ?_, fun hx => absurd (Or.inl h1) hx⟩
    simp (disch := omega) only [q0, q1, q2, q3, q4, q5, q6, q7, q8, q14, q15, q16, q20, q31, q44, q50, q70, q1000, qn_le, qn_lt, qn_eq, qn_add, qn_inb, qn_ix, qn_dec, qn_m1, ck_tt, bd_ss, ix, isB0, isB1, if_pos, if_neg, if_true, if_false, Nat.reduceAdd, Nat.reduceLeDiff, Nat.reduceSub, Nat.reduceEqDiff, Nat.reduceMul, Nat.reduceLT, Nat.zero_add, not_true, not_false_iff, f_P_mayTake]
  · by_cases h2 : v - 8 < gp g
    · have h3 : gmay g (v - 8) b (gst g b + gsz g b) := by
        refine ⟨?_, Or.inl h2⟩
        have : b = 0 ∨ b = 1 ∨ b = 2 := by omega
        rcases this with rfl | rfl | rfl
        · show v - 8 < 0 + gp g; omega
        · show v - 8 < gp g + ga g; omega
        · show v - 8 < gp g + ga g + gb g; omega
      refine ⟨fun _ => ?_, fun hx => absurd (Or.inr h3) hx⟩
      simp (disch := omega) only [q0, q1, q2, q3, q4, q5, q6, q7, q8, q14, q15, q16, q20, q31, q44, q50, q70, q1000, qn_le, qn_lt, qn_eq, qn_add, qn_inb, qn_ix, qn_dec, qn_m1, ck_tt, bd_ss, ix, isB0, isB1, if_pos, if_neg, if_true, if_false, Nat.reduceAdd, Nat.reduceLeDiff, Nat.reduceSub, Nat.reduceEqDiff, Nat.reduceMul, Nat.reduceLT, Nat.zero_add, not_true, not_false_iff, f_P_mayTake, qn_sub, h.1]
    · have h3 : gmay g (v - 8) b (gst g b + gsz g b) ↔ (gst g b ≤ v - 8 ∧ v - 8 < gst g b + gsz g b) := by
        have : b = 0 ∨ b = 1 ∨ b = 2 := by omega
        unfold gmay gbr
        rcases this with rfl | rfl | rfl
        · have : gst g 0 = 0 := rfl
          have : gsz g 0 = gp g := rfl
          omega
        · have : gst g 1 = gp g := rfl
          have : gsz g 1 = ga g := rfl
          rw [if_neg h2]; split <;> omega
        · have : gst g 2 = gp g + ga g := rfl
          have : gsz g 2 = gb g := rfl
          rw [if_neg h2]; split <;> omega
      have h5 : gst g b + gsz g b ≤ 14 := by omega
      by_cases h4 : v - 8 < gst g b
      · refine ⟨fun hx => ?_, fun hx => ?_⟩
        · rw [h3] at hx; omega
        · simp (disch := omega) only [q0, q1, q2, q3, q4, q5, q6, q7, q8, q14, q15, q16, q20, q31, q44, q50, q70, q1000, qn_le, qn_lt, qn_eq, qn_add, qn_inb, qn_ix, qn_dec, qn_m1, ck_tt, bd_ss, ix, isB0, isB1, if_pos, if_neg, if_true, if_false, Nat.reduceAdd, Nat.reduceLeDiff, Nat.reduceSub, Nat.reduceEqDiff, Nat.reduceMul, Nat.reduceLT, Nat.zero_add, not_true, not_false_iff, f_P_mayTake, qn_sub, h.1, t_P_start h hb]
      · by_cases h7 : v - 8 < gst g b + gsz g b
        · refine ⟨fun hx => ?_, fun hx => ?_⟩
          · simp (disch := omega) only [q0, q1, q2, q3, q4, q5, q6, q7, q8, q14, q15, q16, q20, q31, q44, q50, q70, q1000, qn_le, qn_lt, qn_eq, qn_add, qn_inb, qn_ix, qn_dec, qn_m1, ck_tt, bd_ss, ix, isB0, isB1, if_pos, if_neg, if_true, if_false, Nat.reduceAdd, Nat.reduceLeDiff, Nat.reduceSub, Nat.reduceEqDiff, Nat.reduceMul, Nat.reduceLT, Nat.zero_add, not_true, not_false_iff, f_P_mayTake, qn_sub, h.1, t_P_start h hb, t_P_end h hb]
          · rw [h3] at hx; omega
        · refine ⟨fun hx => ?_, fun hx => ?_⟩
          · rw [h3] at hx; omega
          · simp (disch := omega) only [q0, q1, q2, q3, q4, q5, q6, q7, q8, q14, q15, q16, q20, q31, q44, q50, q70, q1000, qn_le, qn_lt, qn_eq, qn_add, qn_inb, qn_ix, qn_dec, qn_m1, ck_tt, bd_ss, ix, isB0, isB1, if_pos, if_neg, if_true, if_false, Nat.reduceAdd, Nat.reduceLeDiff, Nat.reduceSub, Nat.reduceEqDiff, Nat.reduceMul, Nat.reduceLT, Nat.zero_add, not_true, not_false_iff, f_P_mayTake, qn_sub, h.1, t_P_start h hb, t_P_end h hb]
theorem gmay_lin (g : pg) (j i : Nat) : gmay g j (gbr g i) i ↔ j < i ∧ (j < gp g ∨ i < gp g + ga g ∨ gp g + ga g ≤ j) := by
  unfold gmay gbr
  by_cases h1 : j < gp g
  · constructor <;> intro h <;> omega
  · rw [if_neg h1]
    by_cases h2 : i < gp g
    · rw [if_pos h2]; constructor
      · intro h; omega
      · intro h; omega
    · rw [if_neg h2]
      by_cases h3 : i < gp g + ga g
      · rw [if_pos h3]; split <;> omega
      · rw [if_neg h3]; split <;> omega
theorem gmay_end (g : pg) (j : Nat) {b : Nat} (hb : b < 3) : gmay g j b (gst g b + gsz g b) ↔ (b = 0 ∧ j < gp g) ∨ (b = 1 ∧ j < gp g + ga g) ∨ (b = 2 ∧ j < gn g ∧ (j < gp g ∨ gp g + ga g ≤ j)) := by
  have hd := gn_def g
  have : b = 0 ∨ b = 1 ∨ b = 2 := by omega
  unfold gmay gbr
  rcases this with rfl | rfl | rfl
  · have e : gst g 0 + gsz g 0 = gp g := Nat.zero_add _
    rw [e]; omega
  · have e : gst g 1 + gsz g 1 = gp g + ga g := rfl
    rw [e]; split
    · omega
    · split <;> omega
  · have e : gst g 2 + gsz g 2 = gn g := rfl
    rw [e]; split
    · omega
    · split <;> omega
theorem gok_lin (g : pg) : gok g ↔ gp g ≤ 6 ∧ ga g ≤ 4 ∧ gb g ≤ 4 ∧ ∀ i, i < gn g → gk g i ≤ 6 ∧ gc g i ≤ 2 ∧ (gv g i < 8 ∨ (gv g i - 8 < i ∧ (gv g i - 8 < gp g ∨ i < gp g + ga g ∨ gp g + ga g ≤ gv g i - 8))) := by
  unfold gok
  simp only [gmay_lin]
theorem gadd_ok {g : pg} (hg : gok g) {b k c v : Nat} (hb : b < 3) (hr : grm g b) (hk : k ≤ 6) (hc : c ≤ 2) (hv : v < 8 ∨ gmay g (v - 8) b (gst g b + gsz g b)) : gok (gadd g b k c v) := by
  have hd := gn_def g
  obtain ⟨h6, ha4, hb4, hgi⟩ := (gok_lin g).1 hg
  rw [gmay_end g _ hb] at hv
  rw [gok_lin]
  have hn := gn_gadd g (k := k) (c := c) (v := v) hb
  have hle := gend_le g hb
  refine ⟨?_, ?_, ?_, ?_⟩
  · have : b = 0 ∨ b = 1 ∨ b = 2 := by omega
    rcases this with rfl | rfl | rfl
    · exact hr
    · exact h6
    · exact h6
  · have : b = 0 ∨ b = 1 ∨ b = 2 := by omega
    rcases this with rfl | rfl | rfl
    · exact ha4
    · exact hr
    · exact ha4
  · have : b = 0 ∨ b = 1 ∨ b = 2 := by omega
    rcases this with rfl | rfl | rfl
    · exact hb4
    · exact hb4
    · exact hr
  · intro i hi
    rw [hn] at hi
    have sizes : (b = 0 ∧ gp (gadd g b k c v) = gp g + 1 ∧ ga (gadd g b k c v) = ga g ∧ gst g b + gsz g b = gp g) ∨ (b = 1 ∧ gp (gadd g b k c v) = gp g ∧ ga (gadd g b k c v) = ga g + 1 ∧ gst g b + gsz g b = gp g + ga g) ∨ (b = 2 ∧ gp (gadd g b k c v) = gp g ∧ ga (gadd g b k c v) = ga g ∧ gst g b + gsz g b = gp g + ga g + gb g) := by
      have : b = 0 ∨ b = 1 ∨ b = 2 := by omega
      rcases this with rfl | rfl | rfl
      · refine Or.inl ⟨rfl, rfl, rfl, Nat.zero_add _⟩
      · exact Or.inr (Or.inl ⟨rfl, rfl, rfl, rfl⟩)
      · exact Or.inr (Or.inr ⟨rfl, rfl, rfl, rfl⟩)
    have ek : gk (gadd g b k c v) i = if i < gst g b + gsz g b then gk g i else if i = gst g b + gsz g b then k else gk g (i - 1) := rfl
    have ec : gc (gadd g b k c v) i = if i < gst g b + gsz g b then gc g i else if i = gst g b + gsz g b then c else gc g (i - 1) := rfl
    have ev : gv (gadd g b k c v) i = if i < gst g b + gsz g b then gv g i else if i = gst g b + gsz g b then v else if gv g (i - 1) < 8 + (gst g b + gsz g b) then gv g (i - 1) else gv g (i - 1) + 1 := rfl
    rw [ek, ec, ev]
    generalize gp (gadd g b k c v) = p' at *
    generalize ga (gadd g b k c v) = a' at *
    generalize gst g b + gsz g b = A at *
    by_cases h1 : i < A
    · have h2 := hgi i (by omega)
      rw [if_pos h1, if_pos h1, if_pos h1]
      exact ⟨h2.1, h2.2.1, by omega⟩
    · by_cases h2 : i = A
      · rw [if_neg h1, if_pos h2, if_neg h1, if_pos h2, if_neg h1, if_pos h2]
        exact ⟨hk, hc, by omega⟩
      · have h3 := hgi (i - 1) (by omega)
        rw [if_neg h1, if_neg h2, if_neg h1, if_neg h2, if_neg h1, if_neg h2]
        refine ⟨h3.1, h3.2.1, ?_⟩
        by_cases h5 : gv g (i - 1) < 8 + A
        · rw [if_pos h5]; omega
        · rw [if_neg h5]; omega
theorem grem_ok {g : pg} (hg : gok g) {i0 : Nat} (hi0 : i0 < gn g) (hn : ¬ gneed g 0 i0) : gok (grem g i0) := by
  have hd := gn_def g
  obtain ⟨h6, ha4, hb4, hgi⟩ := (gok_lin g).1 hg
  have hN := gn_grem hi0
  rw [gok_lin]
  have sizes : (i0 < gp g ∧ gp (grem g i0) = gp g - 1 ∧ ga (grem g i0) = ga g ∧ gb (grem g i0) = gb g) ∨ (gp g ≤ i0 ∧ i0 < gp g + ga g ∧ gp (grem g i0) = gp g ∧ ga (grem g i0) = ga g - 1 ∧ gb (grem g i0) = gb g) ∨ (gp g + ga g ≤ i0 ∧ gp (grem g i0) = gp g ∧ ga (grem g i0) = ga g ∧ gb (grem g i0) = gb g - 1) := by
    have e1 : gp (grem g i0) = (gss g (gbr g i0) (· - 1)).1 := rfl
    have e2 : ga (grem g i0) = (gss g (gbr g i0) (· - 1)).2.1 := rfl
    have e3 : gb (grem g i0) = (gss g (gbr g i0) (· - 1)).2.2 := rfl
    rw [e1, e2, e3]
    unfold gbr
    by_cases h1 : i0 < gp g
    · rw [if_pos h1]; exact Or.inl ⟨h1, rfl, rfl, rfl⟩
    · rw [if_neg h1]
      by_cases h2 : i0 < gp g + ga g
      · rw [if_pos h2]; exact Or.inr (Or.inl ⟨by omega, h2, rfl, rfl, rfl⟩)
      · rw [if_neg h2]; exact Or.inr (Or.inr ⟨by omega, rfl, rfl, rfl⟩)
  refine ⟨by omega, by omega, by omega, ?_⟩
  intro i hi
  rw [hN] at hi
  have ek : gk (grem g i0) i = gk g (if i < i0 then i else i + 1) := by
    show (if i < i0 then gk g i else gk g (i + 1)) = _; split <;> rfl
  have ec : gc (grem g i0) i = gc g (if i < i0 then i else i + 1) := by
    show (if i < i0 then gc g i else gc g (i + 1)) = _; split <;> rfl
  have ev : gv (grem g i0) i = if gv g (if i < i0 then i else i + 1) < 8 + (i0 + 1) then gv g (if i < i0 then i else i + 1) else gv g (if i < i0 then i else i + 1) - 1 := rfl
  rw [ek, ec, ev]
  have hj : ∃ j, (if i < i0 then i else i + 1) = j ∧ j < gn g ∧ ((i < i0 ∧ j = i) ∨ (i0 ≤ i ∧ j = i + 1)) := by
    refine ⟨_, rfl, ?_, ?_⟩
    · split <;> omega
    · split
      · rename_i h; exact Or.inl ⟨h, rfl⟩
      · rename_i h; exact Or.inr ⟨by omega, rfl⟩
  obtain ⟨j, ej, hjn, hjc⟩ := hj
  rw [ej]
  have h1 := hgi j hjn
  have h2 : gv g j ≠ 8 + i0 := fun h => hn ⟨j, by omega, hjn, h⟩
  refine ⟨h1.1, h1.2.1, ?_⟩
  by_cases h3 : gv g j < 8 + (i0 + 1)
  · rw [if_pos h3]; omega
  · rw [if_neg h3]; omega
theorem gprom_ok {g : pg} (hg : gok g) {b : Nat} (hb : b = 1 ∨ b = 2) (hs : 0 < gsz g b) (hp : gp g < 6) : gok (gprom g b) := by
  have hd := gn_def g
  obtain ⟨h6, ha4, hb4, hgi⟩ := (gok_lin g).1 hg
  have hN := gn_gprom hb hs
  rw [gok_lin]
  have sizes : (b = 1 ∧ 0 < ga g ∧ gp (gprom g b) = gp g + 1 ∧ ga (gprom g b) = ga g - 1 ∧ gb (gprom g b) = gb g ∧ gst g b = gp g) ∨ (b = 2 ∧ 0 < gb g ∧ gp (gprom g b) = gp g + 1 ∧ ga (gprom g b) = ga g ∧ gb (gprom g b) = gb g - 1 ∧ gst g b = gp g + ga g) := by
    rcases hb with rfl | rfl
    · exact Or.inl ⟨rfl, hs, rfl, rfl, rfl, rfl⟩
    · exact Or.inr ⟨rfl, hs, rfl, rfl, rfl, rfl⟩
  refine ⟨by omega, by omega, by omega, ?_⟩
  intro i hi
  rw [hN] at hi
  have ej : ∃ j, (if i = gp g then gst g b else if gp g < i ∧ i ≤ gst g b then i - 1 else i) = j ∧ j < gn g ∧ ((i = gp g ∧ j = gst g b) ∨ (gp g < i ∧ i ≤ gst g b ∧ j = i - 1) ∨ ((i < gp g ∨ gst g b < i) ∧ j = i)) := by
    refine ⟨_, rfl, ?_, ?_⟩
    · split
      · omega
      · split <;> omega
    · split
      · omega
      · split <;> omega
  obtain ⟨j, ej, hjn, hjc⟩ := ej
  have e1 : gk (gprom g b) i = gk g j := by
    rw [← ej]; show (if i = gp g then gk g (gst g b) else if gp g < i ∧ i ≤ gst g b then gk g (i - 1) else gk g i) = _
    split
    · rfl
    · split <;> rfl
  have e2 : gc (gprom g b) i = gc g j := by
    rw [← ej]; show (if i = gp g then gc g (gst g b) else if gp g < i ∧ i ≤ gst g b then gc g (i - 1) else gc g i) = _
    split
    · rfl
    · split <;> rfl
  have e3 : gv (gprom g b) i = if gv g j = 8 + gst g b then 8 + gp g else if 8 + gp g ≤ gv g j ∧ gv g j < 8 + gst g b then gv g j + 1 else gv g j := by
    rw [← ej]; rfl
  rw [e1, e2, e3]
  have h1 := hgi j hjn
  refine ⟨h1.1, h1.2.1, ?_⟩
  by_cases h2 : gv g j = 8 + gst g b
  · rw [if_pos h2]; omega
  · rw [if_neg h2]
    by_cases h3 : 8 + gp g ≤ gv g j ∧ gv g j < 8 + gst g b
    · rw [if_pos h3]; omega
    · rw [if_neg h3]; omega
theorem glow_ok {g : pg} (hg : gok g) {i h : Nat} (hi : gv g i < 8) : gok (glow g i h) := by
  obtain ⟨h6, ha4, hb4, hgi⟩ := (gok_lin g).1 hg
  rw [gok_lin]
  refine ⟨h6, ha4, hb4, fun j hj => ?_⟩
  have h1 := hgi j hj
  refine ⟨h1.1, h1.2.1, ?_⟩
  have e : gv (glow g i h) j = if j = i then (if h = 0 then 0 else gv g i / 2) else gv g j := rfl
  rw [e]
  have e1 : gp (glow g i h) = gp g := rfl
  have e2 : ga (glow g i h) = ga g := rfl
  rw [e1, e2]
  by_cases h2 : j = i
  · rw [if_pos h2]; split <;> omega
  · rw [if_neg h2]; exact h1.2.2
