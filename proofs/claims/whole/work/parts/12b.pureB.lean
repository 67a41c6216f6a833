theorem upd_at (f : Nat → Int32) (k : Nat) (x : Int32) : upd f k x k = x := by simp [upd]
theorem upd_ne (f : Nat → Int32) (k j : Nat) (x : Int32) (h : j ≠ k) : upd f k x j = f j := by simp [upd, h]
def pg : Type := (Nat × Nat × Nat) × (Nat → Nat) × (Nat → Nat) × (Nat → Nat)
def gp (g : pg) : Nat := g.1.1
def ga (g : pg) : Nat := g.1.2.1
def gb (g : pg) : Nat := g.1.2.2
def gn (g : pg) : Nat := gp g + ga g + gb g
def gk (g : pg) : Nat → Nat := g.2.1
def gc (g : pg) : Nat → Nat := g.2.2.1
def gv (g : pg) : Nat → Nat := g.2.2.2
def gst (g : pg) (b : Nat) : Nat := if b = 0 then 0 else if b = 1 then gp g else gp g + ga g
def gsz (g : pg) (b : Nat) : Nat := if b = 0 then gp g else if b = 1 then ga g else gb g
def gbr (g : pg) (i : Nat) : Nat := if i < gp g then 0 else if i < gp g + ga g then 1 else 2
def gmay (g : pg) (j b own : Nat) : Prop := j < own ∧ (j < gp g ∨ gbr g j = b)
def pgr (P : S_P) (g : pg) : Prop := P.1 0 = qn (gp g) ∧ P.1 1 = qn (ga g) ∧ P.1 2 = qn (gb g) ∧ ∀ i, i < gn g → P.2.1 i = qn (gk g i) ∧ P.2.2.1 i = qn (gc g i) ∧ P.2.2.2 i = qn (gv g i)
def gok (g : pg) : Prop := gp g ≤ 6 ∧ ga g ≤ 4 ∧ gb g ≤ 4 ∧ ∀ i, i < gn g → gk g i ≤ 6 ∧ gc g i ≤ 2 ∧ (gv g i < 8 ∨ gmay g (gv g i - 8) (gbr g i) i)
theorem gn_def (g : pg) : gn g = gp g + ga g + gb g := rfl
theorem gok.v {g : pg} (h : gok g) {i : Nat} (hi : i < gn g) : gv g i < 8 + i ∨ gv g i < 8 := by
  rcases (h.2.2.2 i hi).2.2 with h1 | h1
  · exact Or.inr h1
  · have := h1.1; omega
theorem gok.v22 {g : pg} (h : gok g) {i : Nat} (hi : i < gn g) : gv g i < 22 := by
  have h1 := h.v hi
  have := h.1; have := h.2.1; have := h.2.2.1; have := gn_def g
  omega
theorem t_P_size {fu : Nat} {P : S_P} {g : pg} (h : pgr P g) : f_P_size fu P = some (qn (gn g)) := by
  simp only [f_P_size, q0, q1, q2, qn_inb (show 0 < 3 by omega), qn_inb (show 1 < 3 by omega), qn_inb (show 2 < 3 by omega), ck_tt, ix, qn_ix (show 0 < 2147483648 by omega), qn_ix (show 1 < 2147483648 by omega), qn_ix (show 2 < 2147483648 by omega), h.1, h.2.1, h.2.2.1, qn_add, gn]
  rfl
theorem t_P_start {fu : Nat} {P : S_P} {g : pg} (h : pgr P g) {b : Nat} (hb : b < 3) : f_P_start fu P (qn b) = some (qn (gst g b)) := by
  simp (disch := omega) only [f_P_start, q0, q1, qn_eq, gst]
  split
  · rfl
  · split
    · simp (disch := omega) only [qn_inb, ck_tt, ix, qn_ix, h.1]
    · simp (disch := omega) only [qn_inb, ck_tt, ix, qn_ix, h.1, h.2.1, qn_add]
theorem pgr.sz {P : S_P} {g : pg} (h : pgr P g) {b : Nat} (hb : b < 3) : P.1 b = qn (gsz g b) := by
  have : b = 0 ∨ b = 1 ∨ b = 2 := by omega
  rcases this with rfl | rfl | rfl
  · exact h.1
  · exact h.2.1
  · exact h.2.2.1
theorem t_P_end {fu : Nat} {P : S_P} {g : pg} (h : pgr P g) {b : Nat} (hb : b < 3) : f_P_end fu P (qn b) = some (qn (gst g b + gsz g b)) := by
  simp (disch := omega) only [f_P_end, t_P_start h hb, bd_ss, qn_inb, ck_tt, ix, qn_ix, h.sz hb, qn_add]
theorem t_P_empty_L2 (fu n : Nat) (P : S_P) : f_P_empty_L2 fu (n + 4) P (qn 0) = some (upd (upd (upd P.1 0 (qn 0)) 1 (qn 0)) 2 (qn 0), P.2) := by
  simp (disch := omega) only [q0, q1, q2, q3, q4, q5, q6, q7, q8, q14, q15, q16, q20, q31, q44, q50, q70, q1000, qn_le, qn_lt, qn_eq, qn_add, qn_inb, qn_ix, qn_dec, qn_m1, ck_tt, bd_ss, ix, isB0, isB1, if_pos, if_neg, if_true, if_false, Nat.reduceAdd, Nat.reduceLeDiff, Nat.reduceSub, Nat.reduceEqDiff, Nat.reduceMul, Nat.reduceLT, Nat.zero_add, not_true, not_false_iff, f_P_empty_L2]
theorem t_P_copy_L2 (fu n : Nat) (P1 P : S_P) : f_P_copyFrom_L2 fu P1 (n + 4) P (qn 0) = f_P_copyFrom_L25 fu P1 (upd (upd (upd P.1 0 (P1.1 0)) 1 (P1.1 1)) 2 (P1.1 2), P.2) := by
  simp (disch := omega) only [q0, q1, q2, q3, q4, q5, q6, q7, q8, q14, q15, q16, q20, q31, q44, q50, q70, q1000, qn_le, qn_lt, qn_eq, qn_add, qn_inb, qn_ix, qn_dec, qn_m1, ck_tt, bd_ss, ix, isB0, isB1, if_pos, if_neg, if_true, if_false, Nat.reduceAdd, Nat.reduceLeDiff, Nat.reduceSub, Nat.reduceEqDiff, Nat.reduceMul, Nat.reduceLT, Nat.zero_add, not_true, not_false_iff, f_P_copyFrom_L2]
theorem t_P_copyFrom {fu : Nat} (hf : 20000 ≤ fu) {P P1 : S_P} {g : pg} (h : pgr P1 g) (hg : gok g) : ∃ P', f_P_copyFrom fu P P1 = some P' ∧ pgr P' g := by
  obtain ⟨m, rfl⟩ : ∃ m, fu = m + 4 := ⟨fu - 4, by omega⟩
  have h14 : gn g ≤ 14 := by have := hg.1; have := hg.2.1; have := hg.2.2.1; unfold gn; omega
  have hc : cpok (qn 0) (qn 0) (qn (gn g)) 14 14 = true := by
    have h0 : ¬ qn 0 < qn 0 := by simp (disch := omega) only [q0, q1, q2, q3, q4, q5, q6, q7, q8, q14, q15, q16, q20, q31, q44, q50, q70, q1000, qn_le, qn_lt, qn_eq, qn_add, qn_inb, qn_ix, qn_dec, qn_m1, ck_tt, bd_ss, ix, isB0, isB1, if_pos, if_neg, if_true, if_false, Nat.reduceAdd, Nat.reduceLeDiff, Nat.reduceSub, Nat.reduceEqDiff, Nat.reduceMul, Nat.reduceLT, Nat.zero_add, not_true, not_false_iff]
    have h1 : ¬ qn (gn g) < qn 0 := by simp (disch := omega) only [q0, q1, q2, q3, q4, q5, q6, q7, q8, q14, q15, q16, q20, q31, q44, q50, q70, q1000, qn_le, qn_lt, qn_eq, qn_add, qn_inb, qn_ix, qn_dec, qn_m1, ck_tt, bd_ss, ix, isB0, isB1, if_pos, if_neg, if_true, if_false, Nat.reduceAdd, Nat.reduceLeDiff, Nat.reduceSub, Nat.reduceEqDiff, Nat.reduceMul, Nat.reduceLT, Nat.zero_add, not_true, not_false_iff]; omega
    unfold cpok; rw [q0]; apply decide_eq_true
    refine ⟨h0, h0, h1, ?_, ?_⟩
    · simp (disch := omega) only [q0, q1, q2, q3, q4, q5, q6, q7, q8, q14, q15, q16, q20, q31, q44, q50, q70, q1000, qn_le, qn_lt, qn_eq, qn_add, qn_inb, qn_ix, qn_dec, qn_m1, ck_tt, bd_ss, ix, isB0, isB1, if_pos, if_neg, if_true, if_false, Nat.reduceAdd, Nat.reduceLeDiff, Nat.reduceSub, Nat.reduceEqDiff, Nat.reduceMul, Nat.reduceLT, Nat.zero_add, not_true, not_false_iff]; omega
    · simp (disch := omega) only [q0, q1, q2, q3, q4, q5, q6, q7, q8, q14, q15, q16, q20, q31, q44, q50, q70, q1000, qn_le, qn_lt, qn_eq, qn_add, qn_inb, qn_ix, qn_dec, qn_m1, ck_tt, bd_ss, ix, isB0, isB1, if_pos, if_neg, if_true, if_false, Nat.reduceAdd, Nat.reduceLeDiff, Nat.reduceSub, Nat.reduceEqDiff, Nat.reduceMul, Nat.reduceLT, Nat.zero_add, not_true, not_false_iff]; omega
  have hs : ∀ x : (Nat → Int32) × (Nat → Int32) × (Nat → Int32), f_P_size (m + 4) (upd (upd (upd P.1 0 (P1.1 0)) 1 (P1.1 1)) 2 (P1.1 2), x) = some (qn (gn g)) := by
    intro x
    simp (disch := omega) only [q0, q1, q2, q3, q4, q5, q6, q7, q8, q14, q15, q16, q20, q31, q44, q50, q70, q1000, qn_le, qn_lt, qn_eq, qn_add, qn_inb, qn_ix, qn_dec, qn_m1, ck_tt, bd_ss, ix, isB0, isB1, if_pos, if_neg, if_true, if_false, Nat.reduceAdd, Nat.reduceLeDiff, Nat.reduceSub, Nat.reduceEqDiff, Nat.reduceMul, Nat.reduceLT, Nat.zero_add, not_true, not_false_iff, f_P_size, h.1, h.2.1, h.2.2.1, upd_at, upd_ne, ne_eq, gn]
  refine ⟨_, by simp (disch := omega) only [q0, q1, q2, q3, q4, q5, q6, q7, q8, q14, q15, q16, q20, q31, q44, q50, q70, q1000, qn_le, qn_lt, qn_eq, qn_add, qn_inb, qn_ix, qn_dec, qn_m1, ck_tt, bd_ss, ix, isB0, isB1, if_pos, if_neg, if_true, if_false, Nat.reduceAdd, Nat.reduceLeDiff, Nat.reduceSub, Nat.reduceEqDiff, Nat.reduceMul, Nat.reduceLT, Nat.zero_add, not_true, not_false_iff, f_P_copyFrom, t_P_copy_L2, f_P_copyFrom_L25, hs, hc]; rfl, ?_⟩
  refine ⟨?_, ?_, ?_, ?_⟩
  · simp [upd, h.1]
  · simp [upd, h.2.1]
  · simp [upd, h.2.2.1]
  · intro i hi
    have h1 := h.2.2.2 i hi
    simp only [va_cpy, Nat.zero_le, true_and, Nat.zero_add, Nat.sub_zero, if_pos hi]
    exact h1
def shu (f : Nat → Int32) (s t : Nat) : Nat → Int32 := fun j => if s < j ∧ j ≤ t then f (j - 1) else f j
theorem shu_step (f : Nat → Int32) (s t : Nat) (h : s < t) : shu (upd f t (f (t - 1))) s (t - 1) = shu f s t := by
  funext j
  unfold shu upd
  split <;> split <;> (try split) <;> first | rfl | (exfalso; omega) | (congr 1; omega) | (rename_i h1 h2; congr 1; omega) | skip
  all_goals (try rw [if_neg (by omega)])
  all_goals first | rfl | (subst_vars; rfl)
theorem shu_end (f : Nat → Int32) (s t : Nat) (h : t ≤ s) : shu f s t = f := by
  funext j; unfold shu; rw [if_neg (by omega)]
theorem t_P_put {fu : Nat} (P : S_P) {i : Nat} (hi : i < 14) (x y z : Int32) : f_P_put fu P (qn i) x y z = some (P.1, upd P.2.1 i x, upd P.2.2.1 i y, upd P.2.2.2 i z) := by
  simp (disch := omega) only [q0, q1, q2, q3, q4, q5, q6, q7, q8, q14, q15, q16, q20, q31, q44, q50, q70, q1000, qn_le, qn_lt, qn_eq, qn_add, qn_inb, qn_ix, qn_dec, qn_m1, ck_tt, bd_ss, ix, isB0, isB1, if_pos, if_neg, if_true, if_false, Nat.reduceAdd, Nat.reduceLeDiff, Nat.reduceSub, Nat.reduceEqDiff, Nat.reduceMul, Nat.reduceLT, Nat.zero_add, not_true, not_false_iff, f_P_put]
theorem t_P_shiftUp_L2 (fu : Nat) : ∀ (d n s t : Nat) (P : S_P), d < n → t ≤ s + d → t < 14 → s < 14 → f_P_shiftUp_L2 fu n P (qn s) (qn t) = some (P.1, shu P.2.1 s t, shu P.2.2.1 s t, shu P.2.2.2 s t) := by
  intro d
  induction d with
  | zero =>
    intro n s t P hn ht h14 hs
    obtain ⟨m, rfl⟩ : ∃ m, n = m + 1 := ⟨n - 1, by omega⟩
    simp (disch := omega) only [q0, q1, q2, q3, q4, q5, q6, q7, q8, q14, q15, q16, q20, q31, q44, q50, q70, q1000, qn_le, qn_lt, qn_eq, qn_add, qn_inb, qn_ix, qn_dec, qn_m1, ck_tt, bd_ss, ix, isB0, isB1, if_pos, if_neg, if_true, if_false, Nat.reduceAdd, Nat.reduceLeDiff, Nat.reduceSub, Nat.reduceEqDiff, Nat.reduceMul, Nat.reduceLT, Nat.zero_add, not_true, not_false_iff, f_P_shiftUp_L2, shu_end]
  | succ d ih =>
    intro n s t P hn ht h14 hs
    obtain ⟨m, rfl⟩ : ∃ m, n = m + 1 := ⟨n - 1, by omega⟩
    by_cases hst : t ≤ s
    · simp (disch := omega) only [q0, q1, q2, q3, q4, q5, q6, q7, q8, q14, q15, q16, q20, q31, q44, q50, q70, q1000, qn_le, qn_lt, qn_eq, qn_add, qn_inb, qn_ix, qn_dec, qn_m1, ck_tt, bd_ss, ix, isB0, isB1, if_pos, if_neg, if_true, if_false, Nat.reduceAdd, Nat.reduceLeDiff, Nat.reduceSub, Nat.reduceEqDiff, Nat.reduceMul, Nat.reduceLT, Nat.zero_add, not_true, not_false_iff, f_P_shiftUp_L2, shu_end]
    · simp (disch := omega) only [q0, q1, q2, q3, q4, q5, q6, q7, q8, q14, q15, q16, q20, q31, q44, q50, q70, q1000, qn_le, qn_lt, qn_eq, qn_add, qn_inb, qn_ix, qn_dec, qn_m1, ck_tt, bd_ss, ix, isB0, isB1, if_pos, if_neg, if_true, if_false, Nat.reduceAdd, Nat.reduceLeDiff, Nat.reduceSub, Nat.reduceEqDiff, Nat.reduceMul, Nat.reduceLT, Nat.zero_add, not_true, not_false_iff, f_P_shiftUp_L2, qn_sub, t_P_put, ih]
      simp only [shu_step _ s t (by omega)]
theorem t_P_shiftUp {fu : Nat} (hf : 20000 ≤ fu) {s t : Nat} (P : S_P) (ht : t < 14) (hs : s < 14) : f_P_shiftUp fu P (qn s) (qn t) = some (P.1, shu P.2.1 s t, shu P.2.2.1 s t, shu P.2.2.2 s t) :=
  t_P_shiftUp_L2 fu 14 fu s t P (by omega) (by omega) ht hs
def rnm (f : Nat → Int32) (s : Nat) (by_ : Int32) (i n : Nat) : Nat → Int32 := fun j => if i ≤ j ∧ j < n then (if f j < qn (8 + s) then f j else f j + by_) else f j
theorem rnm_end (f : Nat → Int32) (s : Nat) (x : Int32) (i n : Nat) (h : n ≤ i) : rnm f s x i n = f := by
  funext j; unfold rnm; rw [if_neg (by omega)]
theorem rnm_same (f : Nat → Int32) (s : Nat) (x : Int32) (i n : Nat) (h : f i < qn (8 + s)) : rnm f s x (i + 1) n = rnm f s x i n := by
  funext j; unfold rnm
  by_cases hj : j = i
  · subst hj; rw [if_neg (by omega)]; split
    · rfl
    · rfl
  · by_cases h1 : i ≤ j ∧ j < n
    · rw [if_pos h1, if_pos (by omega)]
    · rw [if_neg h1, if_neg (by omega)]
theorem rnm_step (f : Nat → Int32) (s : Nat) (x : Int32) (i n : Nat) (h : ¬ f i < qn (8 + s)) (hi : i < n) : rnm (upd f i (f i + x)) s x (i + 1) n = rnm f s x i n := by
  funext j; unfold rnm
  by_cases hj : j = i
  · subst hj; rw [if_neg (by omega), upd_at, if_pos (by omega), if_neg h]
  · rw [upd_ne _ _ _ _ hj]
    by_cases h1 : i ≤ j ∧ j < n
    · rw [if_pos h1, if_pos (by omega)]
    · rw [if_neg h1, if_neg (by omega)]
theorem t_P_renumber_L8 (fu : Nat) (s : Nat) (x : Int32) (hs : s < 100) : ∀ (d n i N : Nat) (P : S_P), d < n → N ≤ i + d → N ≤ 14 → i < 100 → f_P_renumber_L8 fu n P (qn s) x (qn N) (qn i) = some (P.1, P.2.1, P.2.2.1, rnm P.2.2.2 s x i N) := by
  intro d
  induction d with
  | zero =>
    intro n i N P hn ht h14 hi
    obtain ⟨m, rfl⟩ : ∃ m, n = m + 1 := ⟨n - 1, by omega⟩
    simp (disch := omega) only [q0, q1, q2, q3, q4, q5, q6, q7, q8, q14, q15, q16, q20, q31, q44, q50, q70, q1000, qn_le, qn_lt, qn_eq, qn_add, qn_inb, qn_ix, qn_dec, qn_m1, ck_tt, bd_ss, ix, isB0, isB1, if_pos, if_neg, if_true, if_false, Nat.reduceAdd, Nat.reduceLeDiff, Nat.reduceSub, Nat.reduceEqDiff, Nat.reduceMul, Nat.reduceLT, Nat.zero_add, not_true, not_false_iff, f_P_renumber_L8, rnm_end]
  | succ d ih =>
    intro n i N P hn ht h14 hi
    obtain ⟨m, rfl⟩ : ∃ m, n = m + 1 := ⟨n - 1, by omega⟩
    by_cases hst : N ≤ i
    · simp (disch := omega) only [q0, q1, q2, q3, q4, q5, q6, q7, q8, q14, q15, q16, q20, q31, q44, q50, q70, q1000, qn_le, qn_lt, qn_eq, qn_add, qn_inb, qn_ix, qn_dec, qn_m1, ck_tt, bd_ss, ix, isB0, isB1, if_pos, if_neg, if_true, if_false, Nat.reduceAdd, Nat.reduceLeDiff, Nat.reduceSub, Nat.reduceEqDiff, Nat.reduceMul, Nat.reduceLT, Nat.zero_add, not_true, not_false_iff, f_P_renumber_L8, rnm_end]
    · by_cases hc : P.2.2.2 i < qn (8 + s)
      · simp (disch := omega) only [q0, q1, q2, q3, q4, q5, q6, q7, q8, q14, q15, q16, q20, q31, q44, q50, q70, q1000, qn_le, qn_lt, qn_eq, qn_add, qn_inb, qn_ix, qn_dec, qn_m1, ck_tt, bd_ss, ix, isB0, isB1, if_pos, if_neg, if_true, if_false, Nat.reduceAdd, Nat.reduceLeDiff, Nat.reduceSub, Nat.reduceEqDiff, Nat.reduceMul, Nat.reduceLT, Nat.zero_add, not_true, not_false_iff, f_P_renumber_L8, hc, ih]
        rw [rnm_same _ _ _ _ _ hc]
      · simp (disch := omega) only [q0, q1, q2, q3, q4, q5, q6, q7, q8, q14, q15, q16, q20, q31, q44, q50, q70, q1000, qn_le, qn_lt, qn_eq, qn_add, qn_inb, qn_ix, qn_dec, qn_m1, ck_tt, bd_ss, ix, isB0, isB1, if_pos, if_neg, if_true, if_false, Nat.reduceAdd, Nat.reduceLeDiff, Nat.reduceSub, Nat.reduceEqDiff, Nat.reduceMul, Nat.reduceLT, Nat.zero_add, not_true, not_false_iff, f_P_renumber_L8, hc, ih]
        rw [rnm_step _ _ _ _ _ hc (by omega)]
theorem t_P_renumber {fu : Nat} (hf : 20000 ≤ fu) {z kd cd vd : Nat → Int32} {s N : Nat} (x : Int32) (hs : s < 100) (hz : z 0 + z 1 + z 2 = qn N) (hN : N ≤ 14) : f_P_renumber fu (z, kd, cd, vd) (qn s) x = some (z, kd, cd, rnm vd s x 0 N) := by
  simp (disch := omega) only [q0, q1, q2, q3, q4, q5, q6, q7, q8, q14, q15, q16, q20, q31, q44, q50, q70, q1000, qn_le, qn_lt, qn_eq, qn_add, qn_inb, qn_ix, qn_dec, qn_m1, ck_tt, bd_ss, ix, isB0, isB1, if_pos, if_neg, if_true, if_false, Nat.reduceAdd, Nat.reduceLeDiff, Nat.reduceSub, Nat.reduceEqDiff, Nat.reduceMul, Nat.reduceLT, Nat.zero_add, not_true, not_false_iff, f_P_renumber, f_P_size, hz]
  exact t_P_renumber_L8 fu s x hs 14 fu 0 N (z, kd, cd, vd) (by omega) (by omega) hN (by omega)
def gss (g : pg) (b : Nat) (f : Nat → Nat) : Nat × Nat × Nat := if b = 0 then (f (gp g), ga g, gb g) else if b = 1 then (gp g, f (ga g), gb g) else (gp g, ga g, f (gb g))
def gadd (g : pg) (b k c v : Nat) : pg :=
  (gss g b (· + 1),
   fun i => if i < gst g b + gsz g b then gk g i else if i = gst g b + gsz g b then k else gk g (i - 1),
   fun i => if i < gst g b + gsz g b then gc g i else if i = gst g b + gsz g b then c else gc g (i - 1),
   fun i => if i < gst g b + gsz g b then gv g i else if i = gst g b + gsz g b then v else if gv g (i - 1) < 8 + (gst g b + gsz g b) then gv g (i - 1) else gv g (i - 1) + 1)
theorem gend_le (g : pg) {b : Nat} (hb : b < 3) : gst g b + gsz g b ≤ gn g := by
  have : b = 0 ∨ b = 1 ∨ b = 2 := by omega
  rcases this with rfl | rfl | rfl
  · show 0 + gp g ≤ gp g + ga g + gb g; omega
  · show gp g + ga g ≤ gp g + ga g + gb g; omega
  · show gp g + ga g + gb g ≤ gp g + ga g + gb g; omega
theorem gn_gadd (g : pg) {b k c v : Nat} (hb : b < 3) : gn (gadd g b k c v) = gn g + 1 := by
  have : b = 0 ∨ b = 1 ∨ b = 2 := by omega
  rcases this with rfl | rfl | rfl
  · show gp g + 1 + ga g + gb g = gp g + ga g + gb g + 1; omega
  · show gp g + (ga g + 1) + gb g = gp g + ga g + gb g + 1; omega
  · show gp g + ga g + (gb g + 1) = gp g + ga g + gb g + 1; omega
def grm (g : pg) (b : Nat) : Prop := gsz g b < (if b = 0 then 6 else 4)
theorem grm_lt {g : pg} (hg : gok g) {b : Nat} (hb : b < 3) (h : grm g b) : gn g < 14 := by
  have h1 := hg.1; have h2 := hg.2.1; have h3 := hg.2.2.1
  have : b = 0 ∨ b = 1 ∨ b = 2 := by omega
  unfold gn
  rcases this with rfl | rfl | rfl
  · have : gp g < 6 := h
    omega
  · have : ga g < 4 := h
    omega
  · have : gb g < 4 := h
    omega
theorem upd_sizes {z : Nat → Int32} {g : pg} (h0 : z 0 = qn (gp g)) (h1 : z 1 = qn (ga g)) (h2 : z 2 = qn (gb g)) {b : Nat} (hb : b < 3) (f : Nat → Nat) (x : Int32) (hx : x = qn (f (gsz g b))) :
    upd z b x 0 = qn (gss g b f).1 ∧ upd z b x 1 = qn (gss g b f).2.1 ∧ upd z b x 2 = qn (gss g b f).2.2 := by
  have : b = 0 ∨ b = 1 ∨ b = 2 := by omega
  subst hx
  rcases this with rfl | rfl | rfl
  · exact ⟨rfl, h1, h2⟩
  · exact ⟨h0, rfl, h2⟩
  · exact ⟨h0, h1, rfl⟩
theorem t_P_append {fu : Nat} (hf : 20000 ≤ fu) {P : S_P} {g : pg} (h : pgr P g) (hg : gok g) {b k c v : Nat} (hb : b < 3) (hr : grm g b) : ∃ P', f_P_append fu P (qn b) (qn k) (qn c) (qn v) = some P' ∧ pgr P' (gadd g b k c v) := by
  have h14 := grm_lt hg hb hr
  have hat := gend_le g hb
  have hz := upd_sizes h.1 h.2.1 h.2.2.1 hb (· + 1) (qn (gsz g b + 1)) rfl
  have hN : upd P.1 b (qn (gsz g b + 1)) 0 + upd P.1 b (qn (gsz g b + 1)) 1 + upd P.1 b (qn (gsz g b + 1)) 2 = qn (gn g + 1) := by
    rw [hz.1, hz.2.1, hz.2.2, qn_add, qn_add]
    have := gn_gadd g (k := k) (c := c) (v := v) hb
    rw [← this]; rfl
  refine ⟨_, by simp (disch := omega) only [q0, q1, q2, q3, q4, q5, q6, q7, q8, q14, q15, q16, q20, q31, q44, q50, q70, q1000, qn_le, qn_lt, qn_eq, qn_add, qn_inb, qn_ix, qn_dec, qn_m1, ck_tt, bd_ss, ix, isB0, isB1, if_pos, if_neg, if_true, if_false, Nat.reduceAdd, Nat.reduceLeDiff, Nat.reduceSub, Nat.reduceEqDiff, Nat.reduceMul, Nat.reduceLT, Nat.zero_add, not_true, not_false_iff, f_P_append, t_P_end h hb, t_P_size h, t_P_shiftUp hf, h.sz hb, t_P_renumber hf (qn 1) (show gst g b + gsz g b < 100 by omega) hN, t_P_put]; rfl, ?_⟩
  refine ⟨hz.1, hz.2.1, hz.2.2, ?_⟩
  intro i hi
  rw [gn_gadd g hb] at hi
  show upd (shu P.2.1 _ _) _ _ i = qn (if i < gst g b + gsz g b then gk g i else if i = gst g b + gsz g b then k else gk g (i - 1)) ∧ upd (shu P.2.2.1 _ _) _ _ i = qn (if i < gst g b + gsz g b then gc g i else if i = gst g b + gsz g b then c else gc g (i - 1)) ∧ upd (rnm (shu P.2.2.2 _ _) _ _ _ _) _ _ i = qn (if i < gst g b + gsz g b then gv g i else if i = gst g b + gsz g b then v else if gv g (i - 1) < 8 + (gst g b + gsz g b) then gv g (i - 1) else gv g (i - 1) + 1)
  generalize hA : gst g b + gsz g b = A at *
  by_cases h1 : i < A
  · have h2 := h.2.2.2 i (by omega)
    have h3 := hg.v (i := i) (by omega)
    have h4 := hg.v22 (i := i) (by omega)
    have h5 : ¬ (A < i ∧ i ≤ gn g) := by omega
    simp only [upd, if_neg (show ¬ i = A by omega), if_pos h1, shu, rnm, if_neg h5, h2.1, h2.2.1, h2.2.2]
    refine ⟨trivial, trivial, ?_⟩
    rw [if_pos (by omega), if_pos]
    simp (disch := omega) only [q0, q1, q2, q3, q4, q5, q6, q7, q8, q14, q15, q16, q20, q31, q44, q50, q70, q1000, qn_le, qn_lt, qn_eq, qn_add, qn_inb, qn_ix, qn_dec, qn_m1, ck_tt, bd_ss, ix, isB0, isB1, if_pos, if_neg, if_true, if_false, Nat.reduceAdd, Nat.reduceLeDiff, Nat.reduceSub, Nat.reduceEqDiff, Nat.reduceMul, Nat.reduceLT, Nat.zero_add, not_true, not_false_iff]
    omega
  · by_cases h2 : i = A
    · subst h2
      simp only [upd, if_true, if_neg h1]
      exact ⟨trivial, trivial, trivial⟩
    · have h3 := h.2.2.2 (i - 1) (by omega)
      have h4 := hg.v22 (i := i - 1) (by omega)
      have h5 : (A < i ∧ i ≤ gn g) := by omega
      simp only [upd, if_neg h2, if_neg h1, shu, rnm, if_pos h5, h3.1, h3.2.1, h3.2.2]
      refine ⟨trivial, trivial, ?_⟩
      rw [if_pos (by omega)]
      by_cases h6 : gv g (i - 1) < 8 + A
      · rw [if_pos h6, if_pos]
        simp (disch := omega) only [q0, q1, q2, q3, q4, q5, q6, q7, q8, q14, q15, q16, q20, q31, q44, q50, q70, q1000, qn_le, qn_lt, qn_eq, qn_add, qn_inb, qn_ix, qn_dec, qn_m1, ck_tt, bd_ss, ix, isB0, isB1, if_pos, if_neg, if_true, if_false, Nat.reduceAdd, Nat.reduceLeDiff, Nat.reduceSub, Nat.reduceEqDiff, Nat.reduceMul, Nat.reduceLT, Nat.zero_add, not_true, not_false_iff]
        omega
      · rw [if_neg h6, if_neg, qn_add]
        simp (disch := omega) only [q0, q1, q2, q3, q4, q5, q6, q7, q8, q14, q15, q16, q20, q31, q44, q50, q70, q1000, qn_le, qn_lt, qn_eq, qn_add, qn_inb, qn_ix, qn_dec, qn_m1, ck_tt, bd_ss, ix, isB0, isB1, if_pos, if_neg, if_true, if_false, Nat.reduceAdd, Nat.reduceLeDiff, Nat.reduceSub, Nat.reduceEqDiff, Nat.reduceMul, Nat.reduceLT, Nat.zero_add, not_true, not_false_iff]
        omega
