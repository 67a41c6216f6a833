theorem gmay_kn {g : pg} {b i : Nat} (hb : b < 3) : gmay g i b (gst g b + gsz g b) ↔ (i < gp g ∨ (gst g b ≤ i ∧ i < gst g b + gsz g b)) := by
  have hd := gn_def g
  rw [gmay_end g i hb]
  have : b = 0 ∨ b = 1 ∨ b = 2 := by omega
  rcases this with rfl | rfl | rfl
  · have e1 : gst g 0 = 0 := rfl
    have e2 : gsz g 0 = gp g := rfl
    omega
  · have e1 : gst g 1 = gp g := rfl
    have e2 : gsz g 1 = ga g := rfl
    omega
  · have e1 : gst g 2 = gp g + ga g := rfl
    have e2 : gsz g 2 = gb g := rfl
    omega
/- how many of the first i numbers may stand -/
def gct (g : pg) (b i : Nat) : Nat := if i ≤ gp g then i else if b = 0 then gp g else if i ≤ gst g b then gp g else if i ≤ gst g b + gsz g b then gp g + (i - gst g b) else gp g + gsz g b
theorem gct_0 (g : pg) (b : Nat) : gct g b 0 = 0 := by unfold gct; rw [if_pos (by omega)]
theorem gct_y {g : pg} {b i : Nat} (hb : b < 3) (h : gmay g i b (gst g b + gsz g b)) : gct g b (i + 1) = gct g b i + 1 := by
  rw [gmay_kn hb] at h
  have : b = 0 ∨ b = 1 ∨ b = 2 := by omega
  unfold gct
  rcases this with rfl | rfl | rfl
  · have e1 : gst g 0 = 0 := rfl
    have e2 : gsz g 0 = gp g := rfl
    repeat' split
    all_goals omega
  · have e1 : gst g 1 = gp g := rfl
    have e2 : gsz g 1 = ga g := rfl
    repeat' split
    all_goals omega
  · have e1 : gst g 2 = gp g + ga g := rfl
    have e2 : gsz g 2 = gb g := rfl
    repeat' split
    all_goals omega
theorem gct_n {g : pg} {b i : Nat} (hb : b < 3) (h : ¬ gmay g i b (gst g b + gsz g b)) : gct g b (i + 1) = gct g b i := by
  rw [gmay_kn hb] at h
  have : b = 0 ∨ b = 1 ∨ b = 2 := by omega
  unfold gct
  rcases this with rfl | rfl | rfl
  · have e1 : gst g 0 = 0 := rfl
    have e2 : gsz g 0 = gp g := rfl
    repeat' split
    all_goals omega
  · have e1 : gst g 1 = gp g := rfl
    have e2 : gsz g 1 = ga g := rfl
    repeat' split
    all_goals omega
  · have e1 : gst g 2 = gp g + ga g := rfl
    have e2 : gsz g 2 = gb g := rfl
    repeat' split
    all_goals omega
theorem gct_end {g : pg} {b : Nat} (hb : b < 3) : gct g b (gst g b + gsz g b) = gkn g b := by
  have : b = 0 ∨ b = 1 ∨ b = 2 := by omega
  unfold gct gkn
  rcases this with rfl | rfl | rfl
  · have e1 : gst g 0 = 0 := rfl
    have e2 : gsz g 0 = gp g := rfl
    repeat' split
    all_goals omega
  · have e1 : gst g 1 = gp g := rfl
    have e2 : gsz g 1 = ga g := rfl
    repeat' split
    all_goals omega
  · have e1 : gst g 2 = gp g + ga g := rfl
    have e2 : gsz g 2 = gb g := rfl
    repeat' split
    all_goals omega
theorem gka_may {g : pg} {b x : Nat} (hb : b < 3) (hx : x < gkn g b) : gmay g (gka g b x) b (gst g b + gsz g b) ∧ gct g b (gka g b x) = x := by
  rw [gmay_kn hb]
  have : b = 0 ∨ b = 1 ∨ b = 2 := by omega
  unfold gct gkn gka at *
  rcases this with rfl | rfl | rfl
  · have e1 : gst g 0 = 0 := rfl
    have e2 : gsz g 0 = gp g := rfl
    rw [if_pos rfl] at hx
    rw [if_pos hx, if_pos (by omega)]
    omega
  · have e1 : gst g 1 = gp g := rfl
    have e2 : gsz g 1 = ga g := rfl
    rw [if_neg (by omega)] at hx
    by_cases h1 : x < gp g
    · rw [if_pos h1, if_pos (by omega)]; omega
    · rw [if_neg h1, if_neg (show ¬ (1 = 0) by omega)]
      repeat' split
      all_goals omega
  · have e1 : gst g 2 = gp g + ga g := rfl
    have e2 : gsz g 2 = gb g := rfl
    rw [if_neg (by omega)] at hx
    by_cases h1 : x < gp g
    · rw [if_pos h1, if_pos (by omega)]; omega
    · rw [if_neg h1, if_neg (show ¬ (2 = 0) by omega)]
      repeat' split
      all_goals omega
theorem gct_mono {g : pg} {b : Nat} (hb : b < 3) (i : Nat) : ∀ d, gct g b i ≤ gct g b (i + d) := by
  intro d
  induction d with
  | zero => exact Nat.le_refl _
  | succ d ih =>
    by_cases h : gmay g (i + d) b (gst g b + gsz g b)
    · have := gct_y hb h
      have e : i + (d + 1) = i + d + 1 := rfl
      rw [e, this]; omega
    · have := gct_n hb h
      have e : i + (d + 1) = i + d + 1 := rfl
      rw [e, this]; exact ih
theorem gct_inj {g : pg} {b i j : Nat} (hb : b < 3) (h1 : gmay g i b (gst g b + gsz g b)) (h2 : gmay g j b (gst g b + gsz g b)) (h : gct g b i = gct g b j) : i = j := by
  have a1 := gct_y hb h1
  have a2 := gct_y hb h2
  by_cases c1 : i < j
  · have := gct_mono hb (g := g) (i + 1) (j - (i + 1))
    have e : i + 1 + (j - (i + 1)) = j := by omega
    rw [e] at this; omega
  · by_cases c2 : j < i
    · have := gct_mono hb (g := g) (j + 1) (i - (j + 1))
      have e : j + 1 + (i - (j + 1)) = i := by omega
      rw [e] at this; omega
    · omega
theorem t_R_before_L6 (fu : Nat) {th : Int32} {sz kd ce ar : Nat → Int32} {r : S_R5} {g : pg} (h : pgr (sz, kd, ce, ar) g) (hg : gok g) {b i : Nat} (hb : b < 3) (hi : i < 100) : ∀ (d n j : Nat), d < n → j + d = i → f_R_before_L6 fu (th, sz, kd, ce, ar, r) n (qn i) (qn b) (qn (gst g b + gsz g b)) (qn (gct g b j)) (qn j) = some (qn (gct g b i)) := by
  have h14 := hg.n14
  have hle := gend_le g hb
  intro d
  induction d with
  | zero =>
    intro n j hn hj
    obtain ⟨m, rfl⟩ : ∃ m, n = m + 1 := ⟨n - 1, by omega⟩
    have : j = i := by omega
    subst this
    simp (disch := omega) only [q0, q1, q2, q3, q4, q5, q6, q7, q8, q14, q15, q16, q20, q31, q44, q50, q70, q1000, qn_le, qn_lt, qn_eq, qn_add, qn_inb, qn_ix, qn_dec, qn_m1, ck_tt, bd_ss, ix, isB0, isB1, if_pos, if_neg, if_true, if_false, Nat.reduceAdd, Nat.reduceLeDiff, Nat.reduceSub, Nat.reduceEqDiff, Nat.reduceMul, Nat.reduceLT, Nat.zero_add, not_true, not_false_iff, f_R_before_L6]
  | succ d ih =>
    intro n j hn hj
    obtain ⟨m, rfl⟩ : ∃ m, n = m + 1 := ⟨n - 1, by omega⟩
    have hm := t_R_mayStand (fu := fu) (th := th) (r := r) h hg (i := j) (b := b) (own := gst g b + gsz g b) (by omega) hb (by omega)
    have h1 := ih m (j + 1) (by omega) (by omega)
    by_cases hx : gmay g j b (gst g b + gsz g b)
    · rw [gct_y hb hx] at h1
      simp (disch := omega) only [q0, q1, q2, q3, q4, q5, q6, q7, q8, q14, q15, q16, q20, q31, q44, q50, q70, q1000, qn_le, qn_lt, qn_eq, qn_add, qn_inb, qn_ix, qn_dec, qn_m1, ck_tt, bd_ss, ix, isB0, isB1, if_pos, if_neg, if_true, if_false, Nat.reduceAdd, Nat.reduceLeDiff, Nat.reduceSub, Nat.reduceEqDiff, Nat.reduceMul, Nat.reduceLT, Nat.zero_add, not_true, not_false_iff, f_R_before_L6, hm.1 hx, h1]
    · rw [gct_n hb hx] at h1
      simp (disch := omega) only [q0, q1, q2, q3, q4, q5, q6, q7, q8, q14, q15, q16, q20, q31, q44, q50, q70, q1000, qn_le, qn_lt, qn_eq, qn_add, qn_inb, qn_ix, qn_dec, qn_m1, ck_tt, bd_ss, ix, isB0, isB1, if_pos, if_neg, if_true, if_false, Nat.reduceAdd, Nat.reduceLeDiff, Nat.reduceSub, Nat.reduceEqDiff, Nat.reduceMul, Nat.reduceLT, Nat.zero_add, not_true, not_false_iff, f_R_before_L6, hm.2 hx, Nat.add_zero, h1]
theorem t_R_before {fu : Nat} (hf : 20000 ≤ fu) {th : Int32} {sz kd ce ar : Nat → Int32} {r : S_R5} {g : pg} (h : pgr (sz, kd, ce, ar) g) (hg : gok g) {b i : Nat} (hb : b < 3) (hi : i < 100) : f_R_before fu (th, sz, kd, ce, ar, r) (qn i) (qn b) (qn (gst g b + gsz g b)) = some (qn (gct g b i)) := by
  have h1 := t_R_before_L6 fu (th := th) (r := r) h hg hb hi i fu 0 (by omega) (by omega)
  rw [gct_0] at h1
  exact h1
theorem t_R_tried_L64 (fu : Nat) {k4 : S_R → Int32 → Int32 → Int32 → Option (S_R)} {th : Int32} {sz kd ce ar : Nat → Int32} {r : S_R5} {g : pg} (h : pgr (sz, kd, ce, ar) g) (hg : gok g) {b : Nat} (hb : b < 3) (t k c s : Int32) : ∀ (d n j : Nat), d < n → j + d = gst g b + gsz g b → f_R_tried_L64 fu k4 n (th, sz, kd, ce, ar, r) (qn b) t k c s (qn (gst g b + gsz g b)) (qn (gct g b j)) (qn j) = f_R_tried_L99 fu k4 (th, sz, kd, ce, ar, r) (qn b) t k c s (qn (gst g b + gsz g b)) (qn (gkn g b)) := by
  have h14 := hg.n14
  have hle := gend_le g hb
  intro d
  induction d with
  | zero =>
    intro n j hn hj
    obtain ⟨m, rfl⟩ : ∃ m, n = m + 1 := ⟨n - 1, by omega⟩
    have : j = gst g b + gsz g b := by omega
    rw [this, gct_end hb]
    simp (disch := omega) only [q0, q1, q2, q3, q4, q5, q6, q7, q8, q14, q15, q16, q20, q31, q44, q50, q70, q1000, qn_le, qn_lt, qn_eq, qn_add, qn_inb, qn_ix, qn_dec, qn_m1, ck_tt, bd_ss, ix, isB0, isB1, if_pos, if_neg, if_true, if_false, Nat.reduceAdd, Nat.reduceLeDiff, Nat.reduceSub, Nat.reduceEqDiff, Nat.reduceMul, Nat.reduceLT, Nat.zero_add, not_true, not_false_iff, f_R_tried_L64]
  | succ d ih =>
    intro n j hn hj
    obtain ⟨m, rfl⟩ : ∃ m, n = m + 1 := ⟨n - 1, by omega⟩
    have hm := t_R_mayStand (fu := fu) (th := th) (r := r) h hg (i := j) (b := b) (own := gst g b + gsz g b) (by omega) hb (by omega)
    have h1 := ih m (j + 1) (by omega) (by omega)
    by_cases hx : gmay g j b (gst g b + gsz g b)
    · rw [gct_y hb hx] at h1
      simp (disch := omega) only [q0, q1, q2, q3, q4, q5, q6, q7, q8, q14, q15, q16, q20, q31, q44, q50, q70, q1000, qn_le, qn_lt, qn_eq, qn_add, qn_inb, qn_ix, qn_dec, qn_m1, ck_tt, bd_ss, ix, isB0, isB1, if_pos, if_neg, if_true, if_false, Nat.reduceAdd, Nat.reduceLeDiff, Nat.reduceSub, Nat.reduceEqDiff, Nat.reduceMul, Nat.reduceLT, Nat.zero_add, not_true, not_false_iff, f_R_tried_L64, hm.1 hx, h1]
    · rw [gct_n hb hx] at h1
      simp (disch := omega) only [q0, q1, q2, q3, q4, q5, q6, q7, q8, q14, q15, q16, q20, q31, q44, q50, q70, q1000, qn_le, qn_lt, qn_eq, qn_add, qn_inb, qn_ix, qn_dec, qn_m1, ck_tt, bd_ss, ix, isB0, isB1, if_pos, if_neg, if_true, if_false, Nat.reduceAdd, Nat.reduceLeDiff, Nat.reduceSub, Nat.reduceEqDiff, Nat.reduceMul, Nat.reduceLT, Nat.zero_add, not_true, not_false_iff, f_R_tried_L64, hm.2 hx, Nat.add_zero, h1]
