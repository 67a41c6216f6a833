theorem gok.n14 {g : pg} (h : gok g) : gn g ≤ 14 := by
  have := h.1; have := h.2.1; have := h.2.2.1; unfold gn; omega
def bqr (x : Option Int32) (p : Prop) : Prop := (p → x = some (qn 1)) ∧ (¬ p → x = some (qn 0))
theorem t_P_branchOf {fu : Nat} {P : S_P} {g : pg} (h : pgr P g) (hg : gok g) {i : Nat} (hi : i < 100) : f_P_branchOf fu P (qn i) = some (qn (gbr g i)) := by
  have h1 := hg.1; have h2 := hg.2.1
  have e1 : gst g 1 = gp g := rfl
  have e2 : gst g 2 = gp g + ga g := rfl
  simp only [f_P_branchOf, q1, q2, q0, t_P_start h (show 1 < 3 by omega), t_P_start h (show 2 < 3 by omega), bd_ss, e1, e2, gbr]
  simp (disch := omega) only [q0, q1, q2, q3, q4, q5, q6, q7, q8, q14, q15, q16, q20, q31, q44, q50, q70, q1000, qn_le, qn_lt, qn_eq, qn_add, qn_inb, qn_ix, qn_dec, qn_m1, ck_tt, bd_ss, ix, isB0, isB1, if_pos, if_neg, if_true, if_false, Nat.reduceAdd, Nat.reduceLeDiff, Nat.reduceSub, Nat.reduceEqDiff, Nat.reduceMul, Nat.reduceLT, Nat.zero_add, not_true, not_false_iff]
  by_cases a1 : gp g ≤ i
  · by_cases a2 : gp g + ga g ≤ i
    · simp (disch := omega) only [q0, q1, q2, q3, q4, q5, q6, q7, q8, q14, q15, q16, q20, q31, q44, q50, q70, q1000, qn_le, qn_lt, qn_eq, qn_add, qn_inb, qn_ix, qn_dec, qn_m1, ck_tt, bd_ss, ix, isB0, isB1, if_pos, if_neg, if_true, if_false, Nat.reduceAdd, Nat.reduceLeDiff, Nat.reduceSub, Nat.reduceEqDiff, Nat.reduceMul, Nat.reduceLT, Nat.zero_add, not_true, not_false_iff]
    · simp (disch := omega) only [q0, q1, q2, q3, q4, q5, q6, q7, q8, q14, q15, q16, q20, q31, q44, q50, q70, q1000, qn_le, qn_lt, qn_eq, qn_add, qn_inb, qn_ix, qn_dec, qn_m1, ck_tt, bd_ss, ix, isB0, isB1, if_pos, if_neg, if_true, if_false, Nat.reduceAdd, Nat.reduceLeDiff, Nat.reduceSub, Nat.reduceEqDiff, Nat.reduceMul, Nat.reduceLT, Nat.zero_add, not_true, not_false_iff]
  · simp (disch := omega) only [q0, q1, q2, q3, q4, q5, q6, q7, q8, q14, q15, q16, q20, q31, q44, q50, q70, q1000, qn_le, qn_lt, qn_eq, qn_add, qn_inb, qn_ix, qn_dec, qn_m1, ck_tt, bd_ss, ix, isB0, isB1, if_pos, if_neg, if_true, if_false, Nat.reduceAdd, Nat.reduceLeDiff, Nat.reduceSub, Nat.reduceEqDiff, Nat.reduceMul, Nat.reduceLT, Nat.zero_add, not_true, not_false_iff]
theorem gsz_lt {g : pg} (hg : gok g) (b : Nat) : gsz g b < 100 := by
  have h1 := hg.1; have h2 := hg.2.1; have h3 := hg.2.2.1
  unfold gsz; split
  · omega
  · split <;> omega
theorem t_P_hasRoom {fu : Nat} {P : S_P} {g : pg} (h : pgr P g) (hg : gok g) {b : Nat} (hb : b < 3) : bqr (f_P_hasRoom fu P (qn b)) (grm g b) := by
  have h4 := gsz_lt hg b
  have hc : f_P_hasRoom fu P (qn b) = if b = 0 then (if 6 ≤ gsz g b then some (qn 0) else some (qn 1)) else (if 4 ≤ gsz g b then some (qn 0) else some (qn 1)) := by
    simp (disch := omega) only [q0, q1, q2, q3, q4, q5, q6, q7, q8, q14, q15, q16, q20, q31, q44, q50, q70, q1000, qn_le, qn_lt, qn_eq, qn_add, qn_inb, qn_ix, qn_dec, qn_m1, ck_tt, bd_ss, ix, isB0, isB1, if_pos, if_neg, if_true, if_false, Nat.reduceAdd, Nat.reduceLeDiff, Nat.reduceSub, Nat.reduceEqDiff, Nat.reduceMul, Nat.reduceLT, Nat.zero_add, not_true, not_false_iff, f_P_hasRoom, h.sz hb]
  rw [hc]
  unfold grm
  by_cases hb0 : b = 0
  · rw [if_pos hb0, if_pos hb0]
    exact ⟨fun h => if_neg (by omega), fun h => if_pos (by omega)⟩
  · rw [if_neg hb0, if_neg hb0]
    exact ⟨fun h => if_neg (by omega), fun h => if_pos (by omega)⟩
def gkn (g : pg) (b : Nat) : Nat := if b = 0 then gp g else gp g + gsz g b
theorem t_P_known {fu : Nat} {P : S_P} {g : pg} (h : pgr P g) {b : Nat} (hb : b < 3) : f_P_known fu P (qn b) = some (qn (gkn g b)) := by
  simp (disch := omega) only [q0, q1, q2, q3, q4, q5, q6, q7, q8, q14, q15, q16, q20, q31, q44, q50, q70, q1000, qn_le, qn_lt, qn_eq, qn_add, qn_inb, qn_ix, qn_dec, qn_m1, ck_tt, bd_ss, ix, isB0, isB1, if_pos, if_neg, if_true, if_false, Nat.reduceAdd, Nat.reduceLeDiff, Nat.reduceSub, Nat.reduceEqDiff, Nat.reduceMul, Nat.reduceLT, Nat.zero_add, not_true, not_false_iff, f_P_known, h.sz hb, h.1, gkn]
  by_cases hb0 : b = 0
  · simp (disch := omega) only [q0, q1, q2, q3, q4, q5, q6, q7, q8, q14, q15, q16, q20, q31, q44, q50, q70, q1000, qn_le, qn_lt, qn_eq, qn_add, qn_inb, qn_ix, qn_dec, qn_m1, ck_tt, bd_ss, ix, isB0, isB1, if_pos, if_neg, if_true, if_false, Nat.reduceAdd, Nat.reduceLeDiff, Nat.reduceSub, Nat.reduceEqDiff, Nat.reduceMul, Nat.reduceLT, Nat.zero_add, not_true, not_false_iff]
  · simp (disch := omega) only [q0, q1, q2, q3, q4, q5, q6, q7, q8, q14, q15, q16, q20, q31, q44, q50, q70, q1000, qn_le, qn_lt, qn_eq, qn_add, qn_inb, qn_ix, qn_dec, qn_m1, ck_tt, bd_ss, ix, isB0, isB1, if_pos, if_neg, if_true, if_false, Nat.reduceAdd, Nat.reduceLeDiff, Nat.reduceSub, Nat.reduceEqDiff, Nat.reduceMul, Nat.reduceLT, Nat.zero_add, not_true, not_false_iff]
def gka (g : pg) (b k : Nat) : Nat := if k < gp g then k else gst g b + k - gp g
theorem t_P_knownAt {fu : Nat} {P : S_P} {g : pg} (h : pgr P g) (hg : gok g) {b k : Nat} (hb : b < 3) (hk : k < 100) : f_P_knownAt fu P (qn b) (qn k) = some (qn (gka g b k)) := by
  have h1 := hg.1
  simp (disch := omega) only [q0, q1, q2, q3, q4, q5, q6, q7, q8, q14, q15, q16, q20, q31, q44, q50, q70, q1000, qn_le, qn_lt, qn_eq, qn_add, qn_inb, qn_ix, qn_dec, qn_m1, ck_tt, bd_ss, ix, isB0, isB1, if_pos, if_neg, if_true, if_false, Nat.reduceAdd, Nat.reduceLeDiff, Nat.reduceSub, Nat.reduceEqDiff, Nat.reduceMul, Nat.reduceLT, Nat.zero_add, not_true, not_false_iff, f_P_knownAt, h.1, gka]
  by_cases hc : gp g ≤ k
  · simp (disch := omega) only [q0, q1, q2, q3, q4, q5, q6, q7, q8, q14, q15, q16, q20, q31, q44, q50, q70, q1000, qn_le, qn_lt, qn_eq, qn_add, qn_inb, qn_ix, qn_dec, qn_m1, ck_tt, bd_ss, ix, isB0, isB1, if_pos, if_neg, if_true, if_false, Nat.reduceAdd, Nat.reduceLeDiff, Nat.reduceSub, Nat.reduceEqDiff, Nat.reduceMul, Nat.reduceLT, Nat.zero_add, not_true, not_false_iff, t_P_start h hb, qn_sub]
  · simp (disch := omega) only [q0, q1, q2, q3, q4, q5, q6, q7, q8, q14, q15, q16, q20, q31, q44, q50, q70, q1000, qn_le, qn_lt, qn_eq, qn_add, qn_inb, qn_ix, qn_dec, qn_m1, ck_tt, bd_ss, ix, isB0, isB1, if_pos, if_neg, if_true, if_false, Nat.reduceAdd, Nat.reduceLeDiff, Nat.reduceSub, Nat.reduceEqDiff, Nat.reduceMul, Nat.reduceLT, Nat.zero_add, not_true, not_false_iff]
def gneed (g : pg) (i i0 : Nat) : Prop := ∃ j, i ≤ j ∧ j < gn g ∧ gv g j = 8 + i0
theorem gneed_not {g : pg} {i i0 : Nat} (h : gn g ≤ i) : ¬ gneed g i i0 := by rintro ⟨j, h1, h2, h3⟩; omega
theorem gneed_s {g : pg} {i i0 : Nat} (hc : ¬ gv g i = 8 + i0) : gneed g i i0 ↔ gneed g (i + 1) i0 := by
  constructor
  · rintro ⟨j, h1, h2, h3⟩
    refine ⟨j, ?_, h2, h3⟩
    by_cases hji : j = i
    · subst hji; exact absurd h3 hc
    · omega
  · rintro ⟨j, h1, h2, h3⟩; exact ⟨j, by omega, h2, h3⟩
theorem t_P_isNeeded_L7 (fu : Nat) {P : S_P} {g : pg} (h : pgr P g) (hg : gok g) {i0 : Nat} (hi0 : i0 < 100) : ∀ (d n i : Nat), d < n → gn g ≤ i + d → i < 100 → bqr (f_P_isNeeded_L7 fu P n (qn i0) (qn (gn g)) (qn i)) (gneed g i i0) := by
  have h14 := hg.n14
  intro d
  induction d with
  | zero =>
    intro n i hn hd hi
    obtain ⟨m, rfl⟩ : ∃ m, n = m + 1 := ⟨n - 1, by omega⟩
    refine ⟨fun h => absurd h (gneed_not (by omega)), fun _ => ?_⟩
    simp (disch := omega) only [q0, q1, q2, q3, q4, q5, q6, q7, q8, q14, q15, q16, q20, q31, q44, q50, q70, q1000, qn_le, qn_lt, qn_eq, qn_add, qn_inb, qn_ix, qn_dec, qn_m1, ck_tt, bd_ss, ix, isB0, isB1, if_pos, if_neg, if_true, if_false, Nat.reduceAdd, Nat.reduceLeDiff, Nat.reduceSub, Nat.reduceEqDiff, Nat.reduceMul, Nat.reduceLT, Nat.zero_add, not_true, not_false_iff, f_P_isNeeded_L7]
  | succ d ih =>
    intro n i hn hd hi
    obtain ⟨m, rfl⟩ : ∃ m, n = m + 1 := ⟨n - 1, by omega⟩
    by_cases hst : gn g ≤ i
    · refine ⟨fun h => absurd h (gneed_not (by omega)), fun _ => ?_⟩
      simp (disch := omega) only [q0, q1, q2, q3, q4, q5, q6, q7, q8, q14, q15, q16, q20, q31, q44, q50, q70, q1000, qn_le, qn_lt, qn_eq, qn_add, qn_inb, qn_ix, qn_dec, qn_m1, ck_tt, bd_ss, ix, isB0, isB1, if_pos, if_neg, if_true, if_false, Nat.reduceAdd, Nat.reduceLeDiff, Nat.reduceSub, Nat.reduceEqDiff, Nat.reduceMul, Nat.reduceLT, Nat.zero_add, not_true, not_false_iff, f_P_isNeeded_L7]
    · have h2 := h.2.2.2 i (by omega)
      have h4 := hg.v22 (i := i) (by omega)
      by_cases hc : gv g i = 8 + i0
      · refine ⟨fun _ => ?_, fun h => absurd ⟨i, by omega, by omega, hc⟩ h⟩
        simp (disch := omega) only [q0, q1, q2, q3, q4, q5, q6, q7, q8, q14, q15, q16, q20, q31, q44, q50, q70, q1000, qn_le, qn_lt, qn_eq, qn_add, qn_inb, qn_ix, qn_dec, qn_m1, ck_tt, bd_ss, ix, isB0, isB1, if_pos, if_neg, if_true, if_false, Nat.reduceAdd, Nat.reduceLeDiff, Nat.reduceSub, Nat.reduceEqDiff, Nat.reduceMul, Nat.reduceLT, Nat.zero_add, not_true, not_false_iff, f_P_isNeeded_L7, h2.2.2]
      · rw [gneed_s hc]
        have h5 := ih m (i + 1) (by omega) (by omega) (by omega)
        have h6 : f_P_isNeeded_L7 fu P (m + 1) (qn i0) (qn (gn g)) (qn i) = f_P_isNeeded_L7 fu P m (qn i0) (qn (gn g)) (qn (i + 1)) := by
          simp (disch := omega) only [q0, q1, q2, q3, q4, q5, q6, q7, q8, q14, q15, q16, q20, q31, q44, q50, q70, q1000, qn_le, qn_lt, qn_eq, qn_add, qn_inb, qn_ix, qn_dec, qn_m1, ck_tt, bd_ss, ix, isB0, isB1, if_pos, if_neg, if_true, if_false, Nat.reduceAdd, Nat.reduceLeDiff, Nat.reduceSub, Nat.reduceEqDiff, Nat.reduceMul, Nat.reduceLT, Nat.zero_add, not_true, not_false_iff, f_P_isNeeded_L7, h2.2.2]
        rw [h6]; exact h5
theorem t_P_isNeeded {fu : Nat} (hf : 20000 ≤ fu) {P : S_P} {g : pg} (h : pgr P g) (hg : gok g) {i0 : Nat} (hi0 : i0 < 100) : bqr (f_P_isNeeded fu P (qn i0)) (gneed g 0 i0) := by
  have h14 := hg.n14
  have h1 := t_P_isNeeded_L7 fu h hg hi0 14 fu 0 (by omega) (by omega) (by omega)
  have h2 : f_P_isNeeded fu P (qn i0) = f_P_isNeeded_L7 fu P fu (qn i0) (qn (gn g)) (qn 0) := by
    simp (disch := omega) only [q0, q1, q2, q3, q4, q5, q6, q7, q8, q14, q15, q16, q20, q31, q44, q50, q70, q1000, qn_le, qn_lt, qn_eq, qn_add, qn_inb, qn_ix, qn_dec, qn_m1, ck_tt, bd_ss, ix, isB0, isB1, if_pos, if_neg, if_true, if_false, Nat.reduceAdd, Nat.reduceLeDiff, Nat.reduceSub, Nat.reduceEqDiff, Nat.reduceMul, Nat.reduceLT, Nat.zero_add, not_true, not_false_iff, f_P_isNeeded, t_P_size h]
  rw [h2]; exact h1
def grem (g : pg) (i0 : Nat) : pg :=
  (gss g (gbr g i0) (· - 1),
   fun i => if i < i0 then gk g i else gk g (i + 1),
   fun i => if i < i0 then gc g i else gc g (i + 1),
   fun i => if gv g (if i < i0 then i else i + 1) < 8 + (i0 + 1) then gv g (if i < i0 then i else i + 1) else gv g (if i < i0 then i else i + 1) - 1)
def shd (f : Nat → Int32) (s t : Nat) : Nat → Int32 := fun j => if s ≤ j + 1 ∧ j + 1 < t then f (j + 1) else f j
theorem shd_end (f : Nat → Int32) (s t : Nat) (h : t ≤ s) : shd f s t = f := by
  funext j; unfold shd; rw [if_neg (by omega)]
theorem shd_step (f : Nat → Int32) (s t : Nat) (h : s < t) (h0 : 0 < s) : shd (upd f (s - 1) (f s)) (s + 1) t = shd f s t := by
  funext j; unfold shd
  by_cases h1 : s ≤ j + 1 ∧ j + 1 < t
  · rw [if_pos h1]
    by_cases h2 : s = j + 1
    · rw [if_neg (by omega), h2]; exact upd_at _ _ _
    · rw [if_pos (by omega), upd_ne _ _ _ _ (by omega)]
  · rw [if_neg h1, if_neg (by omega), upd_ne _ _ _ _ (by omega)]
theorem t_P_remove_L42 (fu : Nat) (i0 : Nat) : ∀ (d n i N : Nat) (P : S_P), d < n → N ≤ i + d → N ≤ 14 → i < 100 → 0 < i → f_P_remove_L42 fu n P (qn i0) (qn N) (qn i) = f_P_remove_L78 fu (P.1, shd P.2.1 i N, shd P.2.2.1 i N, shd P.2.2.2 i N) (qn i0) := by
  intro d
  induction d with
  | zero =>
    intro n i N P hn hd h14 hi h0
    obtain ⟨m, rfl⟩ : ∃ m, n = m + 1 := ⟨n - 1, by omega⟩
    simp (disch := omega) only [q0, q1, q2, q3, q4, q5, q6, q7, q8, q14, q15, q16, q20, q31, q44, q50, q70, q1000, qn_le, qn_lt, qn_eq, qn_add, qn_inb, qn_ix, qn_dec, qn_m1, ck_tt, bd_ss, ix, isB0, isB1, if_pos, if_neg, if_true, if_false, Nat.reduceAdd, Nat.reduceLeDiff, Nat.reduceSub, Nat.reduceEqDiff, Nat.reduceMul, Nat.reduceLT, Nat.zero_add, not_true, not_false_iff, f_P_remove_L42, shd_end]
  | succ d ih =>
    intro n i N P hn hd h14 hi h0
    obtain ⟨m, rfl⟩ : ∃ m, n = m + 1 := ⟨n - 1, by omega⟩
    by_cases hst : N ≤ i
    · simp (disch := omega) only [q0, q1, q2, q3, q4, q5, q6, q7, q8, q14, q15, q16, q20, q31, q44, q50, q70, q1000, qn_le, qn_lt, qn_eq, qn_add, qn_inb, qn_ix, qn_dec, qn_m1, ck_tt, bd_ss, ix, isB0, isB1, if_pos, if_neg, if_true, if_false, Nat.reduceAdd, Nat.reduceLeDiff, Nat.reduceSub, Nat.reduceEqDiff, Nat.reduceMul, Nat.reduceLT, Nat.zero_add, not_true, not_false_iff, f_P_remove_L42, shd_end]
    · simp (disch := omega) only [q0, q1, q2, q3, q4, q5, q6, q7, q8, q14, q15, q16, q20, q31, q44, q50, q70, q1000, qn_le, qn_lt, qn_eq, qn_add, qn_inb, qn_ix, qn_dec, qn_m1, ck_tt, bd_ss, ix, isB0, isB1, if_pos, if_neg, if_true, if_false, Nat.reduceAdd, Nat.reduceLeDiff, Nat.reduceSub, Nat.reduceEqDiff, Nat.reduceMul, Nat.reduceLT, Nat.zero_add, not_true, not_false_iff, f_P_remove_L42, qn_sub, t_P_put, ih]
      simp only [shd_step _ i N (by omega) h0]
theorem gbr_lt (g : pg) (i : Nat) : gbr g i < 3 := by unfold gbr; split; omega; split <;> omega
theorem gsz_pos {g : pg} {i : Nat} (hi : i < gn g) : 0 < gsz g (gbr g i) := by
  have h := gn_def g
  unfold gbr gsz
  by_cases h1 : i < gp g
  · rw [if_pos h1]; simp; omega
  · rw [if_neg h1]
    by_cases h2 : i < gp g + ga g
    · rw [if_pos h2]; simp; omega
    · rw [if_neg h2]; simp; omega
theorem gn_grem {g : pg} {i0 : Nat} (hi : i0 < gn g) : gn (grem g i0) = gn g - 1 := by
  have h := gsz_pos hi
  have h1 := gbr_lt g i0
  have hd := gn_def g
  have e : gn (grem g i0) = (gss g (gbr g i0) (· - 1)).1 + (gss g (gbr g i0) (· - 1)).2.1 + (gss g (gbr g i0) (· - 1)).2.2 := rfl
  rw [e]
  have : gbr g i0 = 0 ∨ gbr g i0 = 1 ∨ gbr g i0 = 2 := by omega
  rcases this with h2 | h2 | h2
  · rw [h2] at h ⊢
    have h : 0 < gp g := h
    show gp g - 1 + ga g + gb g = _; omega
  · rw [h2] at h ⊢
    have h : 0 < ga g := h
    show gp g + (ga g - 1) + gb g = _; omega
  · rw [h2] at h ⊢
    have h : 0 < gb g := h
    show gp g + ga g + (gb g - 1) = _; omega
theorem t_P_remove {fu : Nat} (hf : 20000 ≤ fu) {P : S_P} {g : pg} (h : pgr P g) (hg : gok g) {i0 : Nat} (hi0 : i0 < gn g) : (gneed g 0 i0 → f_P_remove fu P (qn i0) = some (qn 0, P)) ∧ (¬ gneed g 0 i0 → ∃ P', f_P_remove fu P (qn i0) = some (qn 1, P') ∧ pgr P' (grem g i0)) := by
  have h14 := hg.n14
  have hn := t_P_isNeeded hf h hg (i0 := i0) (by omega)
  refine ⟨fun hx => ?_, fun hx => ?_⟩
  · simp (disch := omega) only [q0, q1, q2, q3, q4, q5, q6, q7, q8, q14, q15, q16, q20, q31, q44, q50, q70, q1000, qn_le, qn_lt, qn_eq, qn_add, qn_inb, qn_ix, qn_dec, qn_m1, ck_tt, bd_ss, ix, isB0, isB1, if_pos, if_neg, if_true, if_false, Nat.reduceAdd, Nat.reduceLeDiff, Nat.reduceSub, Nat.reduceEqDiff, Nat.reduceMul, Nat.reduceLT, Nat.zero_add, not_true, not_false_iff, f_P_remove, t_P_size h, hn.1 hx]
  · have hb := gbr_lt g i0
    have hz := upd_sizes h.1 h.2.1 h.2.2.1 hb (· - 1) (qn (gsz g (gbr g i0) - 1)) rfl
    have hN : upd P.1 (gbr g i0) (qn (gsz g (gbr g i0) - 1)) 0 + upd P.1 (gbr g i0) (qn (gsz g (gbr g i0) - 1)) 1 + upd P.1 (gbr g i0) (qn (gsz g (gbr g i0) - 1)) 2 = qn (gn g - 1) := by
      rw [hz.1, hz.2.1, hz.2.2, qn_add, qn_add, ← gn_grem hi0]; rfl
    have hp := gsz_pos hi0
    refine ⟨_, by simp (disch := omega) only [q0, q1, q2, q3, q4, q5, q6, q7, q8, q14, q15, q16, q20, q31, q44, q50, q70, q1000, qn_le, qn_lt, qn_eq, qn_add, qn_inb, qn_ix, qn_dec, qn_m1, ck_tt, bd_ss, ix, isB0, isB1, if_pos, if_neg, if_true, if_false, Nat.reduceAdd, Nat.reduceLeDiff, Nat.reduceSub, Nat.reduceEqDiff, Nat.reduceMul, Nat.reduceLT, Nat.zero_add, not_true, not_false_iff, f_P_remove, t_P_size h, hn.2 hx, t_P_branchOf h hg, h.sz hb, qn_sub, t_P_remove_L42 fu i0 14 fu (i0 + 1) (gn g), f_P_remove_L78, t_P_renumber hf (-qn 1) (show i0 + 1 < 100 by omega) hN]; rfl, ?_⟩
    refine ⟨hz.1, hz.2.1, hz.2.2, ?_⟩
    intro i hi
    rw [gn_grem hi0] at hi
    show shd P.2.1 _ _ i = qn (if i < i0 then gk g i else gk g (i + 1)) ∧ shd P.2.2.1 _ _ i = qn (if i < i0 then gc g i else gc g (i + 1)) ∧ rnm (shd P.2.2.2 _ _) _ _ _ _ i = qn (if gv g (if i < i0 then i else i + 1) < 8 + (i0 + 1) then gv g (if i < i0 then i else i + 1) else gv g (if i < i0 then i else i + 1) - 1)
    have key : ∀ j, j < gn g → (if i < i0 then i else i + 1) = j → shd P.2.1 (i0 + 1) (gn g) i = P.2.1 j ∧ shd P.2.2.1 (i0 + 1) (gn g) i = P.2.2.1 j ∧ shd P.2.2.2 (i0 + 1) (gn g) i = P.2.2.2 j := by
      intro j hj he
      by_cases h1 : i < i0
      · rw [if_pos h1] at he
        subst he
        have : ¬ (i0 + 1 ≤ i + 1 ∧ i + 1 < gn g) := by omega
        simp only [shd, if_neg this]
        exact ⟨trivial, trivial, trivial⟩
      · rw [if_neg h1] at he
        subst he
        have : (i0 + 1 ≤ i + 1 ∧ i + 1 < gn g) := by omega
        simp only [shd, if_pos this]
        exact ⟨trivial, trivial, trivial⟩
    generalize hj : (if i < i0 then i else i + 1) = j at *
    have hjn : j < gn g := by
      rw [← hj]; split <;> omega
    have h1 := key j hjn rfl
    have h2 := h.2.2.2 j hjn
    have h3 := hg.v22 hjn
    have e1 : (if i < i0 then gk g i else gk g (i + 1)) = gk g j := by rw [← hj]; split <;> rfl
    have e2 : (if i < i0 then gc g i else gc g (i + 1)) = gc g j := by rw [← hj]; split <;> rfl
    rw [e1, e2]
    refine ⟨h1.1.trans h2.1, h1.2.1.trans h2.2.1, ?_⟩
    unfold rnm
    rw [if_pos (by omega), h1.2.2, h2.2.2]
    by_cases h6 : gv g j < 8 + (i0 + 1)
    · rw [if_pos h6, if_pos]
      simp (disch := omega) only [q0, q1, q2, q3, q4, q5, q6, q7, q8, q14, q15, q16, q20, q31, q44, q50, q70, q1000, qn_le, qn_lt, qn_eq, qn_add, qn_inb, qn_ix, qn_dec, qn_m1, ck_tt, bd_ss, ix, isB0, isB1, if_pos, if_neg, if_true, if_false, Nat.reduceAdd, Nat.reduceLeDiff, Nat.reduceSub, Nat.reduceEqDiff, Nat.reduceMul, Nat.reduceLT, Nat.zero_add, not_true, not_false_iff]
      omega
    · rw [if_neg h6, if_neg, qn_dec (by omega)]
      simp (disch := omega) only [q0, q1, q2, q3, q4, q5, q6, q7, q8, q14, q15, q16, q20, q31, q44, q50, q70, q1000, qn_le, qn_lt, qn_eq, qn_add, qn_inb, qn_ix, qn_dec, qn_m1, ck_tt, bd_ss, ix, isB0, isB1, if_pos, if_neg, if_true, if_false, Nat.reduceAdd, Nat.reduceLeDiff, Nat.reduceSub, Nat.reduceEqDiff, Nat.reduceMul, Nat.reduceLT, Nat.zero_add, not_true, not_false_iff]
      omega
