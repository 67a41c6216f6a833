theorem t_R_leaveOut_L4 (fu : Nat) {th : Int32} {sz kd ce ar : Nat → Int32} {r : S_R5} {g : pg} (h : pgr (sz, kd, ce, ar) g) (hg : gok g) {i0 : Nat} (hi0 : i0 < 100) : ∀ (d n i : Nat), d < n → gn g ≤ i + d → i < 100 → (f_R_leaveOut_L4 fu n (th, sz, kd, ce, ar, r) (qn i0) (qn 0) (qn i) = f_R_leaveOut_L41 fu (th, sz, kd, ce, ar, r) (qn i0) (qn 0)) ∧ (gneed g i i0 → f_R_leaveOut_L4 fu n (th, sz, kd, ce, ar, r) (qn i0) (qn 1) (qn i) = f_R_leaveOut_L41 fu (th, sz, kd, ce, ar, r) (qn i0) (qn 0)) ∧ (¬ gneed g i i0 → f_R_leaveOut_L4 fu n (th, sz, kd, ce, ar, r) (qn i0) (qn 1) (qn i) = f_R_leaveOut_L41 fu (th, sz, kd, ce, ar, r) (qn i0) (qn 1)) := by
  have h14 := hg.n14
  intro d
  induction d with
  | zero =>
    intro n i hn hd hi
    obtain ⟨m, rfl⟩ : ∃ m, n = m + 1 := ⟨n - 1, by omega⟩
    refine ⟨?_, fun hx => absurd hx (gneed_not (by omega)), fun _ => ?_⟩
    · simp (disch := omega) only [q0, q1, q2, q3, q4, q5, q6, q7, q8, q14, q15, q16, q20, q31, q44, q50, q70, q1000, qn_le, qn_lt, qn_eq, qn_add, qn_inb, qn_ix, qn_dec, qn_m1, ck_tt, bd_ss, ix, isB0, isB1, if_pos, if_neg, if_true, if_false, Nat.reduceAdd, Nat.reduceLeDiff, Nat.reduceSub, Nat.reduceEqDiff, Nat.reduceMul, Nat.reduceLT, Nat.zero_add, not_true, not_false_iff, f_R_leaveOut_L4, t_R_many h]
    · simp (disch := omega) only [q0, q1, q2, q3, q4, q5, q6, q7, q8, q14, q15, q16, q20, q31, q44, q50, q70, q1000, qn_le, qn_lt, qn_eq, qn_add, qn_inb, qn_ix, qn_dec, qn_m1, ck_tt, bd_ss, ix, isB0, isB1, if_pos, if_neg, if_true, if_false, Nat.reduceAdd, Nat.reduceLeDiff, Nat.reduceSub, Nat.reduceEqDiff, Nat.reduceMul, Nat.reduceLT, Nat.zero_add, not_true, not_false_iff, f_R_leaveOut_L4, t_R_many h]
  | succ d ih =>
    intro n i hn hd hi
    obtain ⟨m, rfl⟩ : ∃ m, n = m + 1 := ⟨n - 1, by omega⟩
    by_cases hst : gn g ≤ i
    · refine ⟨?_, fun hx => absurd hx (gneed_not (by omega)), fun _ => ?_⟩
      · simp (disch := omega) only [q0, q1, q2, q3, q4, q5, q6, q7, q8, q14, q15, q16, q20, q31, q44, q50, q70, q1000, qn_le, qn_lt, qn_eq, qn_add, qn_inb, qn_ix, qn_dec, qn_m1, ck_tt, bd_ss, ix, isB0, isB1, if_pos, if_neg, if_true, if_false, Nat.reduceAdd, Nat.reduceLeDiff, Nat.reduceSub, Nat.reduceEqDiff, Nat.reduceMul, Nat.reduceLT, Nat.zero_add, not_true, not_false_iff, f_R_leaveOut_L4, t_R_many h]
      · simp (disch := omega) only [q0, q1, q2, q3, q4, q5, q6, q7, q8, q14, q15, q16, q20, q31, q44, q50, q70, q1000, qn_le, qn_lt, qn_eq, qn_add, qn_inb, qn_ix, qn_dec, qn_m1, ck_tt, bd_ss, ix, isB0, isB1, if_pos, if_neg, if_true, if_false, Nat.reduceAdd, Nat.reduceLeDiff, Nat.reduceSub, Nat.reduceEqDiff, Nat.reduceMul, Nat.reduceLT, Nat.zero_add, not_true, not_false_iff, f_R_leaveOut_L4, t_R_many h]
    · have h2 : ar i = qn (gv g i) := (h.2.2.2 i (by omega)).2.2
      have h4 := hg.v22 (i := i) (by omega)
      have h5 := ih m (i + 1) (by omega) (by omega) (by omega)
      refine ⟨?_, ?_⟩
      · simp (disch := omega) only [q0, q1, q2, q3, q4, q5, q6, q7, q8, q14, q15, q16, q20, q31, q44, q50, q70, q1000, qn_le, qn_lt, qn_eq, qn_add, qn_inb, qn_ix, qn_dec, qn_m1, ck_tt, bd_ss, ix, isB0, isB1, if_pos, if_neg, if_true, if_false, Nat.reduceAdd, Nat.reduceLeDiff, Nat.reduceSub, Nat.reduceEqDiff, Nat.reduceMul, Nat.reduceLT, Nat.zero_add, not_true, not_false_iff, f_R_leaveOut_L4, t_R_many h, h5.1]
      · by_cases hc : gv g i = 8 + i0
        · refine ⟨fun _ => ?_, fun hx => absurd ⟨i, by omega, by omega, hc⟩ hx⟩
          simp (disch := omega) only [q0, q1, q2, q3, q4, q5, q6, q7, q8, q14, q15, q16, q20, q31, q44, q50, q70, q1000, qn_le, qn_lt, qn_eq, qn_add, qn_inb, qn_ix, qn_dec, qn_m1, ck_tt, bd_ss, ix, isB0, isB1, if_pos, if_neg, if_true, if_false, Nat.reduceAdd, Nat.reduceLeDiff, Nat.reduceSub, Nat.reduceEqDiff, Nat.reduceMul, Nat.reduceLT, Nat.zero_add, not_true, not_false_iff, f_R_leaveOut_L4, t_R_many h, h2, h5.1]
        · rw [gneed_s hc]
          refine ⟨fun hx => ?_, fun hx => ?_⟩
          · simp (disch := omega) only [q0, q1, q2, q3, q4, q5, q6, q7, q8, q14, q15, q16, q20, q31, q44, q50, q70, q1000, qn_le, qn_lt, qn_eq, qn_add, qn_inb, qn_ix, qn_dec, qn_m1, ck_tt, bd_ss, ix, isB0, isB1, if_pos, if_neg, if_true, if_false, Nat.reduceAdd, Nat.reduceLeDiff, Nat.reduceSub, Nat.reduceEqDiff, Nat.reduceMul, Nat.reduceLT, Nat.zero_add, not_true, not_false_iff, f_R_leaveOut_L4, t_R_many h, h2, h5.2.1 hx]
          · simp (disch := omega) only [q0, q1, q2, q3, q4, q5, q6, q7, q8, q14, q15, q16, q20, q31, q44, q50, q70, q1000, qn_le, qn_lt, qn_eq, qn_add, qn_inb, qn_ix, qn_dec, qn_m1, ck_tt, bd_ss, ix, isB0, isB1, if_pos, if_neg, if_true, if_false, Nat.reduceAdd, Nat.reduceLeDiff, Nat.reduceSub, Nat.reduceEqDiff, Nat.reduceMul, Nat.reduceLT, Nat.zero_add, not_true, not_false_iff, f_R_leaveOut_L4, t_R_many h, h2, h5.2.2 hx]
def sdn (f : Nat → Int32) (s t : Nat) : Nat → Int32 := fun j => if s ≤ j ∧ j < t then f (j + 1) else f j
theorem sdn_end (f : Nat → Int32) (s t : Nat) (h : t ≤ s) : sdn f s t = f := by
  funext j; unfold sdn; rw [if_neg (by omega)]
theorem sdn_step (f : Nat → Int32) (s t : Nat) (h : s < t) : sdn (upd f s (f (s + 1))) (s + 1) t = sdn f s t := by
  funext j; unfold sdn
  by_cases h1 : s ≤ j ∧ j < t
  · rw [if_pos h1]
    by_cases h2 : s = j
    · rw [if_neg (by omega), h2]; exact upd_at _ _ _
    · rw [if_pos (by omega), upd_ne _ _ _ _ (by omega)]
  · rw [if_neg h1, if_neg (by omega), upd_ne _ _ _ _ (by omega)]
theorem t_R_leaveOut_L57 (fu : Nat) (th : Int32) (sz : Nat → Int32) (r : S_R5) (i0 v : Int32) (N : Nat) (hN : N < 14) (hz : sz 0 + sz 1 + sz 2 = qn N) : ∀ (d n i : Nat) (kd ce ar : Nat → Int32), d < n → N ≤ i + d → i < 100 → f_R_leaveOut_L57 fu n (th, sz, kd, ce, ar, r) i0 v (qn i) = f_R_leaveOut_L81 fu fu (th, sz, sdn kd i N, sdn ce i N, sdn ar i N, r) i0 v (qn 0) := by
  intro d
  induction d with
  | zero =>
    intro n i kd ce ar hn hd hi
    obtain ⟨m, rfl⟩ : ∃ m, n = m + 1 := ⟨n - 1, by omega⟩
    simp (disch := omega) only [q0, q1, q2, q3, q4, q5, q6, q7, q8, q14, q15, q16, q20, q31, q44, q50, q70, q1000, qn_le, qn_lt, qn_eq, qn_add, qn_inb, qn_ix, qn_dec, qn_m1, ck_tt, bd_ss, ix, isB0, isB1, if_pos, if_neg, if_true, if_false, Nat.reduceAdd, Nat.reduceLeDiff, Nat.reduceSub, Nat.reduceEqDiff, Nat.reduceMul, Nat.reduceLT, Nat.zero_add, not_true, not_false_iff, f_R_leaveOut_L57, f_R_many, hz, sdn_end]
  | succ d ih =>
    intro n i kd ce ar hn hd hi
    obtain ⟨m, rfl⟩ : ∃ m, n = m + 1 := ⟨n - 1, by omega⟩
    by_cases hst : N ≤ i
    · simp (disch := omega) only [q0, q1, q2, q3, q4, q5, q6, q7, q8, q14, q15, q16, q20, q31, q44, q50, q70, q1000, qn_le, qn_lt, qn_eq, qn_add, qn_inb, qn_ix, qn_dec, qn_m1, ck_tt, bd_ss, ix, isB0, isB1, if_pos, if_neg, if_true, if_false, Nat.reduceAdd, Nat.reduceLeDiff, Nat.reduceSub, Nat.reduceEqDiff, Nat.reduceMul, Nat.reduceLT, Nat.zero_add, not_true, not_false_iff, f_R_leaveOut_L57, f_R_many, hz, sdn_end]
    · simp (disch := omega) only [q0, q1, q2, q3, q4, q5, q6, q7, q8, q14, q15, q16, q20, q31, q44, q50, q70, q1000, qn_le, qn_lt, qn_eq, qn_add, qn_inb, qn_ix, qn_dec, qn_m1, ck_tt, bd_ss, ix, isB0, isB1, if_pos, if_neg, if_true, if_false, Nat.reduceAdd, Nat.reduceLeDiff, Nat.reduceSub, Nat.reduceEqDiff, Nat.reduceMul, Nat.reduceLT, Nat.zero_add, not_true, not_false_iff, f_R_leaveOut_L57, f_R_many, hz, t_R_copy, ih]
      simp only [sdn_step _ i N (by omega)]
def rnl (f : Nat → Int32) (s : Nat) (i n : Nat) : Nat → Int32 := fun j => if i ≤ j ∧ j < n then (if f j ≤ qn (8 + s) then f j else f j - qn 1) else f j
theorem rnl_end (f : Nat → Int32) (s i n : Nat) (h : n ≤ i) : rnl f s i n = f := by
  funext j; unfold rnl; rw [if_neg (by omega)]
theorem rnl_same (f : Nat → Int32) (s i n : Nat) (h : f i ≤ qn (8 + s)) : rnl f s (i + 1) n = rnl f s i n := by
  funext j; unfold rnl
  by_cases hj : j = i
  · subst hj; rw [if_neg (by omega)]; split
    · rfl
    · rfl
  · by_cases h1 : i ≤ j ∧ j < n
    · rw [if_pos h1, if_pos (by omega)]
    · rw [if_neg h1, if_neg (by omega)]
theorem rnl_step (f : Nat → Int32) (s i n : Nat) (h : ¬ f i ≤ qn (8 + s)) (hi : i < n) : rnl (upd f i (f i - qn 1)) s (i + 1) n = rnl f s i n := by
  funext j; unfold rnl
  by_cases hj : j = i
  · subst hj; rw [if_neg (by omega), upd_at, if_pos (by omega), if_neg h]
  · rw [upd_ne _ _ _ _ hj]
    by_cases h1 : i ≤ j ∧ j < n
    · rw [if_pos h1, if_pos (by omega)]
    · rw [if_neg h1, if_neg (by omega)]
theorem t_R_leaveOut_L81 (fu : Nat) (th : Int32) (sz kd ce : Nat → Int32) (r : S_R5) (s : Nat) (v : Int32) (hv : isB v = true) (hs : s < 14) (N : Nat) (hN : N < 14) (hz : sz 0 + sz 1 + sz 2 = qn N) : ∀ (d n i : Nat) (ar : Nat → Int32), d < n → N ≤ i + d → i < 100 → f_R_leaveOut_L81 fu n (th, sz, kd, ce, ar, r) (qn s) v (qn i) = some (v, (th, sz, kd, ce, rnl ar s i N, r)) := by
  intro d
  induction d with
  | zero =>
    intro n i ar hn hd hi
    obtain ⟨m, rfl⟩ : ∃ m, n = m + 1 := ⟨n - 1, by omega⟩
    simp (disch := omega) only [q0, q1, q2, q3, q4, q5, q6, q7, q8, q14, q15, q16, q20, q31, q44, q50, q70, q1000, qn_le, qn_lt, qn_eq, qn_add, qn_inb, qn_ix, qn_dec, qn_m1, ck_tt, bd_ss, ix, isB0, isB1, if_pos, if_neg, if_true, if_false, Nat.reduceAdd, Nat.reduceLeDiff, Nat.reduceSub, Nat.reduceEqDiff, Nat.reduceMul, Nat.reduceLT, Nat.zero_add, not_true, not_false_iff, f_R_leaveOut_L81, f_R_many, hz, rnl_end, hv]
  | succ d ih =>
    intro n i ar hn hd hi
    obtain ⟨m, rfl⟩ : ∃ m, n = m + 1 := ⟨n - 1, by omega⟩
    by_cases hst : N ≤ i
    · simp (disch := omega) only [q0, q1, q2, q3, q4, q5, q6, q7, q8, q14, q15, q16, q20, q31, q44, q50, q70, q1000, qn_le, qn_lt, qn_eq, qn_add, qn_inb, qn_ix, qn_dec, qn_m1, ck_tt, bd_ss, ix, isB0, isB1, if_pos, if_neg, if_true, if_false, Nat.reduceAdd, Nat.reduceLeDiff, Nat.reduceSub, Nat.reduceEqDiff, Nat.reduceMul, Nat.reduceLT, Nat.zero_add, not_true, not_false_iff, f_R_leaveOut_L81, f_R_many, hz, rnl_end, hv]
    · by_cases hc : ar i ≤ qn (8 + s)
      · simp (disch := omega) only [q0, q1, q2, q3, q4, q5, q6, q7, q8, q14, q15, q16, q20, q31, q44, q50, q70, q1000, qn_le, qn_lt, qn_eq, qn_add, qn_inb, qn_ix, qn_dec, qn_m1, ck_tt, bd_ss, ix, isB0, isB1, if_pos, if_neg, if_true, if_false, Nat.reduceAdd, Nat.reduceLeDiff, Nat.reduceSub, Nat.reduceEqDiff, Nat.reduceMul, Nat.reduceLT, Nat.zero_add, not_true, not_false_iff, f_R_leaveOut_L81, f_R_many, hz, hc, i32_sub0, upd_self, ih]
        rw [rnl_same _ _ _ _ hc]
      · simp (disch := omega) only [q0, q1, q2, q3, q4, q5, q6, q7, q8, q14, q15, q16, q20, q31, q44, q50, q70, q1000, qn_le, qn_lt, qn_eq, qn_add, qn_inb, qn_ix, qn_dec, qn_m1, ck_tt, bd_ss, ix, isB0, isB1, if_pos, if_neg, if_true, if_false, Nat.reduceAdd, Nat.reduceLeDiff, Nat.reduceSub, Nat.reduceEqDiff, Nat.reduceMul, Nat.reduceLT, Nat.zero_add, not_true, not_false_iff, f_R_leaveOut_L81, f_R_many, hz, hc, ih]
        rw [rnl_step _ _ _ _ hc (by omega)]
theorem t_R_leaveOut {fu : Nat} (hf : 20000 ≤ fu) {th : Int32} {sz kd ce ar : Nat → Int32} {r : S_R5} {g : pg} (h : pgr (sz, kd, ce, ar) g) (hg : gok g) {i0 : Nat} (hi0 : i0 < gn g) : ∃ sz' kd' ce' ar', (gneed g 0 i0 → f_R_leaveOut fu (th, sz, kd, ce, ar, r) (qn i0) = some (qn 0, (th, sz', kd', ce', ar', r))) ∧ (¬ gneed g 0 i0 → f_R_leaveOut fu (th, sz, kd, ce, ar, r) (qn i0) = some (qn 1, (th, sz', kd', ce', ar', r))) ∧ pgr (sz', kd', ce', ar') (grem g i0) := by
  have h14 := hg.n14
  have hb := gbr_lt g i0
  have hz := upd_sizes (z := sz) h.1 h.2.1 h.2.2.1 hb (· - 1) (qn (gsz g (gbr g i0) - 1)) rfl
  have hN : upd sz (gbr g i0) (qn (gsz g (gbr g i0) - 1)) 0 + upd sz (gbr g i0) (qn (gsz g (gbr g i0) - 1)) 1 + upd sz (gbr g i0) (qn (gsz g (gbr g i0) - 1)) 2 = qn (gn g - 1) := by
    rw [hz.1, hz.2.1, hz.2.2, qn_add, qn_add, ← gn_grem hi0]; rfl
  have hp := gsz_pos hi0
  have hsz : sz (gbr g i0) = qn (gsz g (gbr g i0)) := h.sz hb
  have hL := t_R_leaveOut_L4 fu (th := th) (r := r) h hg (i0 := i0) (by omega) 14 fu 0 (by omega) (by omega) (by omega)
  have hM : ∀ v, isB v = true → f_R_leaveOut_L41 fu (th, sz, kd, ce, ar, r) (qn i0) v = some (v, (th, upd sz (gbr g i0) (qn (gsz g (gbr g i0) - 1)), sdn kd i0 (gn g - 1), sdn ce i0 (gn g - 1), rnl (sdn ar i0 (gn g - 1)) i0 0 (gn g - 1), r)) := by
    intro v hv
    simp (disch := omega) only [q0, q1, q2, q3, q4, q5, q6, q7, q8, q14, q15, q16, q20, q31, q44, q50, q70, q1000, qn_le, qn_lt, qn_eq, qn_add, qn_inb, qn_ix, qn_dec, qn_m1, ck_tt, bd_ss, ix, isB0, isB1, if_pos, if_neg, if_true, if_false, Nat.reduceAdd, Nat.reduceLeDiff, Nat.reduceSub, Nat.reduceEqDiff, Nat.reduceMul, Nat.reduceLT, Nat.zero_add, not_true, not_false_iff, f_R_leaveOut_L41, t_R_branch h hg, hsz, qn_sub, t_R_leaveOut_L57 fu th (upd sz (gbr g i0) (qn (gsz g (gbr g i0) - 1))) r (qn i0) v (gn g - 1) (by omega) hN 14 fu, t_R_leaveOut_L81 fu th (upd sz (gbr g i0) (qn (gsz g (gbr g i0) - 1))) _ _ r i0 v hv (by omega) (gn g - 1) (by omega) hN 14 fu]
  refine ⟨upd sz (gbr g i0) (qn (gsz g (gbr g i0) - 1)), sdn kd i0 (gn g - 1), sdn ce i0 (gn g - 1), rnl (sdn ar i0 (gn g - 1)) i0 0 (gn g - 1), fun hx => ?_, fun hx => ?_, ?_⟩
  rotate_left 2
  · refine ⟨hz.1, hz.2.1, hz.2.2, ?_⟩
    intro i hi
    rw [gn_grem hi0] at hi
    have ek : gk (grem g i0) i = gk g (if i < i0 then i else i + 1) := by
      show (if i < i0 then gk g i else gk g (i + 1)) = _; split <;> rfl
    have ec : gc (grem g i0) i = gc g (if i < i0 then i else i + 1) := by
      show (if i < i0 then gc g i else gc g (i + 1)) = _; split <;> rfl
    have ev : gv (grem g i0) i = if gv g (if i < i0 then i else i + 1) < 8 + (i0 + 1) then gv g (if i < i0 then i else i + 1) else gv g (if i < i0 then i else i + 1) - 1 := rfl
    rw [ek, ec, ev]
    have hj : ∃ j, (if i < i0 then i else i + 1) = j ∧ j < gn g ∧ ((i < i0 ∧ j = i) ∨ (i0 ≤ i ∧ j = i + 1)) := by
      refine ⟨_, rfl, ?_, ?_⟩
      · split <;> omega
      · split
        · rename_i h; exact Or.inl ⟨h, rfl⟩
        · rename_i h; exact Or.inr ⟨by omega, rfl⟩
    obtain ⟨j, ej, hjn, hjc⟩ := hj
    rw [ej]
    have key : ∀ f : Nat → Int32, sdn f i0 (gn g - 1) i = f j := by
      intro f
      unfold sdn
      rcases hjc with ⟨h1, h2⟩ | ⟨h1, h2⟩
      · rw [if_neg (by omega), h2]
      · rw [if_pos (by omega), h2]
    have h2 := h.2.2.2 j hjn
    have h3 := hg.v22 hjn
    refine ⟨(key _).trans h2.1, (key _).trans h2.2.1, ?_⟩
    show rnl _ _ _ _ i = _
    unfold rnl
    rw [if_pos (by omega), key]
    have h4 : ar j = qn (gv g j) := h2.2.2
    rw [h4]
    by_cases h6 : gv g j < 8 + (i0 + 1)
    · rw [if_pos h6, if_pos]
      simp (disch := omega) only [q0, q1, q2, q3, q4, q5, q6, q7, q8, q14, q15, q16, q20, q31, q44, q50, q70, q1000, qn_le, qn_lt, qn_eq, qn_add, qn_inb, qn_ix, qn_dec, qn_m1, ck_tt, bd_ss, ix, isB0, isB1, if_pos, if_neg, if_true, if_false, Nat.reduceAdd, Nat.reduceLeDiff, Nat.reduceSub, Nat.reduceEqDiff, Nat.reduceMul, Nat.reduceLT, Nat.zero_add, not_true, not_false_iff]
      omega
    · rw [if_neg h6, if_neg, qn_sub (by omega)]
      simp (disch := omega) only [q0, q1, q2, q3, q4, q5, q6, q7, q8, q14, q15, q16, q20, q31, q44, q50, q70, q1000, qn_le, qn_lt, qn_eq, qn_add, qn_inb, qn_ix, qn_dec, qn_m1, ck_tt, bd_ss, ix, isB0, isB1, if_pos, if_neg, if_true, if_false, Nat.reduceAdd, Nat.reduceLeDiff, Nat.reduceSub, Nat.reduceEqDiff, Nat.reduceMul, Nat.reduceLT, Nat.zero_add, not_true, not_false_iff]
      omega
  · simp (disch := omega) only [q0, q1, q2, q3, q4, q5, q6, q7, q8, q14, q15, q16, q20, q31, q44, q50, q70, q1000, qn_le, qn_lt, qn_eq, qn_add, qn_inb, qn_ix, qn_dec, qn_m1, ck_tt, bd_ss, ix, isB0, isB1, if_pos, if_neg, if_true, if_false, Nat.reduceAdd, Nat.reduceLeDiff, Nat.reduceSub, Nat.reduceEqDiff, Nat.reduceMul, Nat.reduceLT, Nat.zero_add, not_true, not_false_iff, f_R_leaveOut, hL.2.1 hx, hM _ isB0]
  · simp (disch := omega) only [q0, q1, q2, q3, q4, q5, q6, q7, q8, q14, q15, q16, q20, q31, q44, q50, q70, q1000, qn_le, qn_lt, qn_eq, qn_add, qn_inb, qn_ix, qn_dec, qn_m1, ck_tt, bd_ss, ix, isB0, isB1, if_pos, if_neg, if_true, if_false, Nat.reduceAdd, Nat.reduceLeDiff, Nat.reduceSub, Nat.reduceEqDiff, Nat.reduceMul, Nat.reduceLT, Nat.zero_add, not_true, not_false_iff, f_R_leaveOut, hL.2.2 hx, hM _ isB1]
theorem t_R_raise_L40 (fu : Nat) (th : Int32) (sz : Nat → Int32) (r : S_R5) (b s k c v : Int32) : ∀ (d n s0 t : Nat) (kd ce ar : Nat → Int32), d < n → t ≤ s0 + d → t < 14 → s0 < 14 → f_R_raise_L40 fu n (th, sz, kd, ce, ar, r) b s (qn s0) k c v (qn t) = f_R_raise_L62 fu (th, sz, shu kd s0 t, shu ce s0 t, shu ar s0 t, r) b s (qn s0) k c v := by
  intro d
  induction d with
  | zero =>
    intro n s0 t kd ce ar hn ht h14 hs
    obtain ⟨m, rfl⟩ : ∃ m, n = m + 1 := ⟨n - 1, by omega⟩
    simp (disch := omega) only [q0, q1, q2, q3, q4, q5, q6, q7, q8, q14, q15, q16, q20, q31, q44, q50, q70, q1000, qn_le, qn_lt, qn_eq, qn_add, qn_inb, qn_ix, qn_dec, qn_m1, ck_tt, bd_ss, ix, isB0, isB1, if_pos, if_neg, if_true, if_false, Nat.reduceAdd, Nat.reduceLeDiff, Nat.reduceSub, Nat.reduceEqDiff, Nat.reduceMul, Nat.reduceLT, Nat.zero_add, not_true, not_false_iff, f_R_raise_L40, shu_end]
  | succ d ih =>
    intro n s0 t kd ce ar hn ht h14 hs
    obtain ⟨m, rfl⟩ : ∃ m, n = m + 1 := ⟨n - 1, by omega⟩
    by_cases hst : t ≤ s0
    · simp (disch := omega) only [q0, q1, q2, q3, q4, q5, q6, q7, q8, q14, q15, q16, q20, q31, q44, q50, q70, q1000, qn_le, qn_lt, qn_eq, qn_add, qn_inb, qn_ix, qn_dec, qn_m1, ck_tt, bd_ss, ix, isB0, isB1, if_pos, if_neg, if_true, if_false, Nat.reduceAdd, Nat.reduceLeDiff, Nat.reduceSub, Nat.reduceEqDiff, Nat.reduceMul, Nat.reduceLT, Nat.zero_add, not_true, not_false_iff, f_R_raise_L40, shu_end]
    · simp (disch := omega) only [q0, q1, q2, q3, q4, q5, q6, q7, q8, q14, q15, q16, q20, q31, q44, q50, q70, q1000, qn_le, qn_lt, qn_eq, qn_add, qn_inb, qn_ix, qn_dec, qn_m1, ck_tt, bd_ss, ix, isB0, isB1, if_pos, if_neg, if_true, if_false, Nat.reduceAdd, Nat.reduceLeDiff, Nat.reduceSub, Nat.reduceEqDiff, Nat.reduceMul, Nat.reduceLT, Nat.zero_add, not_true, not_false_iff, f_R_raise_L40, qn_sub, t_R_copy, ih]
      simp only [shu_step _ s0 t (by omega)]
theorem t_R_raise_L109 (fu : Nat) (th : Int32) (sz kd ce : Nat → Int32) (r : S_R5) (s t N : Nat) (hN : N ≤ 14) (hz : sz 0 + sz 1 + sz 2 = qn N) : ∀ (d n i : Nat) (ar : Nat → Int32), d < n → N ≤ i + d → i < 100 → f_R_raise_L109 fu n (th, sz, kd, ce, ar, r) (qn s) (qn t) (qn i) = some (th, sz, kd, ce, pmr ar s t i N, r) := by
  intro d
  induction d with
  | zero =>
    intro n i ar hn hd hi
    obtain ⟨m, rfl⟩ : ∃ m, n = m + 1 := ⟨n - 1, by omega⟩
    simp (disch := omega) only [q0, q1, q2, q3, q4, q5, q6, q7, q8, q14, q15, q16, q20, q31, q44, q50, q70, q1000, qn_le, qn_lt, qn_eq, qn_add, qn_inb, qn_ix, qn_dec, qn_m1, ck_tt, bd_ss, ix, isB0, isB1, if_pos, if_neg, if_true, if_false, Nat.reduceAdd, Nat.reduceLeDiff, Nat.reduceSub, Nat.reduceEqDiff, Nat.reduceMul, Nat.reduceLT, Nat.zero_add, not_true, not_false_iff, f_R_raise_L109, f_R_many, hz, pmr_end]
  | succ d ih =>
    intro n i ar hn hd hi
    obtain ⟨m, rfl⟩ : ∃ m, n = m + 1 := ⟨n - 1, by omega⟩
    by_cases hst : N ≤ i
    · simp (disch := omega) only [q0, q1, q2, q3, q4, q5, q6, q7, q8, q14, q15, q16, q20, q31, q44, q50, q70, q1000, qn_le, qn_lt, qn_eq, qn_add, qn_inb, qn_ix, qn_dec, qn_m1, ck_tt, bd_ss, ix, isB0, isB1, if_pos, if_neg, if_true, if_false, Nat.reduceAdd, Nat.reduceLeDiff, Nat.reduceSub, Nat.reduceEqDiff, Nat.reduceMul, Nat.reduceLT, Nat.zero_add, not_true, not_false_iff, f_R_raise_L109, f_R_many, hz, pmr_end]
    · by_cases h1 : ar i - qn 8 = qn s
      · simp (disch := omega) only [q0, q1, q2, q3, q4, q5, q6, q7, q8, q14, q15, q16, q20, q31, q44, q50, q70, q1000, qn_le, qn_lt, qn_eq, qn_add, qn_inb, qn_ix, qn_dec, qn_m1, ck_tt, bd_ss, ix, isB0, isB1, if_pos, if_neg, if_true, if_false, Nat.reduceAdd, Nat.reduceLeDiff, Nat.reduceSub, Nat.reduceEqDiff, Nat.reduceMul, Nat.reduceLT, Nat.zero_add, not_true, not_false_iff, f_R_raise_L109, f_R_many, hz, h1, ih]
        rw [pmr_step _ _ _ _ _ (by omega) _ (by rw [if_pos h1])]
      · by_cases h2 : ar i - qn 8 < qn t
        · simp (disch := omega) only [q0, q1, q2, q3, q4, q5, q6, q7, q8, q14, q15, q16, q20, q31, q44, q50, q70, q1000, qn_le, qn_lt, qn_eq, qn_add, qn_inb, qn_ix, qn_dec, qn_m1, ck_tt, bd_ss, ix, isB0, isB1, if_pos, if_neg, if_true, if_false, Nat.reduceAdd, Nat.reduceLeDiff, Nat.reduceSub, Nat.reduceEqDiff, Nat.reduceMul, Nat.reduceLT, Nat.zero_add, not_true, not_false_iff, f_R_raise_L109, f_R_many, hz, h1, h2, ih]
          rw [pmr_step ar s t i N (by omega) (ar i) (by rw [if_neg h1, if_pos h2])]
        · by_cases h3 : qn s ≤ ar i - qn 8
          · simp (disch := omega) only [q0, q1, q2, q3, q4, q5, q6, q7, q8, q14, q15, q16, q20, q31, q44, q50, q70, q1000, qn_le, qn_lt, qn_eq, qn_add, qn_inb, qn_ix, qn_dec, qn_m1, ck_tt, bd_ss, ix, isB0, isB1, if_pos, if_neg, if_true, if_false, Nat.reduceAdd, Nat.reduceLeDiff, Nat.reduceSub, Nat.reduceEqDiff, Nat.reduceMul, Nat.reduceLT, Nat.zero_add, not_true, not_false_iff, f_R_raise_L109, f_R_many, hz, h1, h2, h3, ih]
            rw [pmr_step ar s t i N (by omega) (ar i) (by rw [if_neg h1, if_neg h2, if_pos h3])]
          · simp (disch := omega) only [q0, q1, q2, q3, q4, q5, q6, q7, q8, q14, q15, q16, q20, q31, q44, q50, q70, q1000, qn_le, qn_lt, qn_eq, qn_add, qn_inb, qn_ix, qn_dec, qn_m1, ck_tt, bd_ss, ix, isB0, isB1, if_pos, if_neg, if_true, if_false, Nat.reduceAdd, Nat.reduceLeDiff, Nat.reduceSub, Nat.reduceEqDiff, Nat.reduceMul, Nat.reduceLT, Nat.zero_add, not_true, not_false_iff, f_R_raise_L109, f_R_many, hz, h1, h2, h3, ih]
            rw [pmr_step ar s t i N (by omega) _ (by rw [if_neg h1, if_neg h2, if_neg h3])]
theorem t_R_raise {fu : Nat} (hf : 20000 ≤ fu) {th : Int32} {sz kd ce ar : Nat → Int32} {r : S_R5} {g : pg} (h : pgr (sz, kd, ce, ar) g) (hg : gok g) {b : Nat} (hb : b = 1 ∨ b = 2) (hs : 0 < gsz g b) (hp6 : gp g < 6) : ∃ sz' kd' ce' ar', f_R_raise fu (th, sz, kd, ce, ar, r) (qn b) = some (th, sz', kd', ce', ar', r) ∧ pgr (sz', kd', ce', ar') (gprom g b) := by
  have hb3 : b < 3 := by omega
  have h4 := gsz_lt hg b
  have h14 := hg.n14
  have hgs := gst_lt_n hb hs
  have hsz : sz b = qn (gsz g b) := h.sz hb3
  have h0 : sz 0 = qn (gp g) := h.1
  have hz : upd (upd sz 0 (qn (gp g + 1))) b (qn (gsz g b - 1)) 0 = qn (gp (gprom g b)) ∧ upd (upd sz 0 (qn (gp g + 1))) b (qn (gsz g b - 1)) 1 = qn (ga (gprom g b)) ∧ upd (upd sz 0 (qn (gp g + 1))) b (qn (gsz g b - 1)) 2 = qn (gb (gprom g b)) := by
    rcases hb with rfl | rfl
    · exact ⟨rfl, rfl, h.2.2.1⟩
    · exact ⟨rfl, h.2.1, rfl⟩
  have hN : upd (upd sz 0 (qn (gp g + 1))) b (qn (gsz g b - 1)) 0 + upd (upd sz 0 (qn (gp g + 1))) b (qn (gsz g b - 1)) 1 + upd (upd sz 0 (qn (gp g + 1))) b (qn (gsz g b - 1)) 2 = qn (gn g) := by
    rw [hz.1, hz.2.1, hz.2.2, qn_add, qn_add, ← gn_gprom hb hs]; rfl
  refine ⟨_, _, _, _, by simp (disch := omega) only [q0, q1, q2, q3, q4, q5, q6, q7, q8, q14, q15, q16, q20, q31, q44, q50, q70, q1000, qn_le, qn_lt, qn_eq, qn_add, qn_inb, qn_ix, qn_dec, qn_m1, ck_tt, bd_ss, ix, isB0, isB1, if_pos, if_neg, if_true, if_false, Nat.reduceAdd, Nat.reduceLeDiff, Nat.reduceSub, Nat.reduceEqDiff, Nat.reduceMul, Nat.reduceLT, Nat.zero_add, not_true, not_false_iff, f_R_raise, t_R_first h hb3, h0, t_R_raise_L40 fu th sz r (qn b) (qn (gst g b)) _ _ _ 14 fu, f_R_raise_L62, upd_ne, ne_eq, hsz, qn_sub, t_R_raise_L109 fu th (upd (upd sz 0 (qn (gp g + 1))) b (qn (gsz g b - 1))) _ _ r (gst g b) (gp g) (gn g) h14 hN 14 fu]; rfl, ?_⟩
  refine ⟨hz.1, hz.2.1, hz.2.2, ?_⟩
  intro i hi
  rw [gn_gprom hb hs] at hi
  generalize hj : (if i = gp g then gst g b else if gp g < i ∧ i ≤ gst g b then i - 1 else i) = j at *
  have hjn : j < gn g := by
    rw [← hj]; split
    · omega
    · split <;> omega
  have key : ∀ (f : Nat → Int32), upd (shu f (gp g) (gst g b)) (gp g) (f (gst g b)) i = f j := by
    intro f
    rw [← hj]
    by_cases h7 : i = gp g
    · rw [if_pos h7, h7, upd_at]
    · rw [if_neg h7, upd_ne _ _ _ _ h7]
      unfold shu
      split <;> rfl
  have h2 := h.2.2.2 j hjn
  have h3 := hg.v22 hjn
  have e1 : gk (gprom g b) i = gk g j := by
    rw [← hj]; show (if i = gp g then gk g (gst g b) else if gp g < i ∧ i ≤ gst g b then gk g (i - 1) else gk g i) = _
    split
    · rfl
    · split <;> rfl
  have e2 : gc (gprom g b) i = gc g j := by
    rw [← hj]; show (if i = gp g then gc g (gst g b) else if gp g < i ∧ i ≤ gst g b then gc g (i - 1) else gc g i) = _
    split
    · rfl
    · split <;> rfl
  have e3 : gv (gprom g b) i = if gv g j = 8 + gst g b then 8 + gp g else if 8 + gp g ≤ gv g j ∧ gv g j < 8 + gst g b then gv g j + 1 else gv g j := by
    rw [← hj]; rfl
  rw [e1, e2, e3]
  refine ⟨(key _).trans h2.1, (key _).trans h2.2.1, ?_⟩
  show pmr _ _ _ _ _ i = _
  unfold pmr
  have h9 : ar j = qn (gv g j) := h2.2.2
  rw [if_pos (by omega), key, h9]
  exact pmr_at (by omega) (by omega) (by omega) hgs.1
def kpg (ks kp : Nat → Int32) (g : pg) : Prop := ks 0 = qn (gp g) ∧ ks 1 = qn (ga g) ∧ ks 2 = qn (gb g) ∧ ∀ i, i < gn g → kp (3 * i) = qn (gk g i) ∧ kp (3 * i + 1) = qn (gc g i) ∧ kp (3 * i + 2) = qn (gv g i)
theorem t_R_keep_L27 (fu : Nat) (th : Int32) (sz kd ce ar ks : Nat → Int32) (r : S_R7) : ∀ (d n i : Nat) (kp : Nat → Int32), d < n → 14 ≤ i + d → i < 100 → ∃ kp', f_R_keep_L27 fu n (th, sz, kd, ce, ar, ks, kp, r) (qn i) = some (th, sz, kd, ce, ar, ks, kp', r) ∧ (∀ j, j < 3 * i → kp' j = kp j) ∧ ∀ j, i ≤ j → j < 14 → kp' (3 * j) = kd j ∧ kp' (3 * j + 1) = ce j ∧ kp' (3 * j + 2) = ar j := by
  intro d
  induction d with
  | zero =>
    intro n i kp hn hd hi
    obtain ⟨m, rfl⟩ : ∃ m, n = m + 1 := ⟨n - 1, by omega⟩
    refine ⟨kp, by simp (disch := omega) only [q0, q1, q2, q3, q4, q5, q6, q7, q8, q14, q15, q16, q20, q31, q44, q50, q70, q1000, qn_le, qn_lt, qn_eq, qn_add, qn_inb, qn_ix, qn_dec, qn_m1, ck_tt, bd_ss, ix, isB0, isB1, if_pos, if_neg, if_true, if_false, Nat.reduceAdd, Nat.reduceLeDiff, Nat.reduceSub, Nat.reduceEqDiff, Nat.reduceMul, Nat.reduceLT, Nat.zero_add, not_true, not_false_iff, f_R_keep_L27], fun _ _ => rfl, fun j h1 h2 => ?_⟩
    omega
  | succ d ih =>
    intro n i kp hn hd hi
    obtain ⟨m, rfl⟩ : ∃ m, n = m + 1 := ⟨n - 1, by omega⟩
    by_cases hst : 14 ≤ i
    · refine ⟨kp, by simp (disch := omega) only [q0, q1, q2, q3, q4, q5, q6, q7, q8, q14, q15, q16, q20, q31, q44, q50, q70, q1000, qn_le, qn_lt, qn_eq, qn_add, qn_inb, qn_ix, qn_dec, qn_m1, ck_tt, bd_ss, ix, isB0, isB1, if_pos, if_neg, if_true, if_false, Nat.reduceAdd, Nat.reduceLeDiff, Nat.reduceSub, Nat.reduceEqDiff, Nat.reduceMul, Nat.reduceLT, Nat.zero_add, not_true, not_false_iff, f_R_keep_L27], fun _ _ => rfl, fun j h1 h2 => ?_⟩
      omega
    · obtain ⟨kp', h1, h2, h3⟩ := ih m (i + 1) (upd (upd (upd kp (3 * i) (kd i)) (3 * i + 1) (ce i)) (3 * i + 2) (ar i)) (by omega) (by omega) (by omega)
      refine ⟨kp', by simp (disch := omega) only [q0, q1, q2, q3, q4, q5, q6, q7, q8, q14, q15, q16, q20, q31, q44, q50, q70, q1000, qn_le, qn_lt, qn_eq, qn_add, qn_inb, qn_ix, qn_dec, qn_m1, ck_tt, bd_ss, ix, isB0, isB1, if_pos, if_neg, if_true, if_false, Nat.reduceAdd, Nat.reduceLeDiff, Nat.reduceSub, Nat.reduceEqDiff, Nat.reduceMul, Nat.reduceLT, Nat.zero_add, not_true, not_false_iff, f_R_keep_L27, qn_mul, h1], ?_, ?_⟩
      · intro j hj
        rw [h2 j (by omega), upd_ne _ _ _ _ (by omega), upd_ne _ _ _ _ (by omega), upd_ne _ _ _ _ (by omega)]
      · intro j hj1 hj2
        by_cases hji : j = i
        · subst hji
          rw [h2 _ (by omega), h2 _ (by omega), h2 _ (by omega), upd_at]
          rw [upd_ne _ _ _ _ (show 3 * j ≠ 3 * j + 2 by omega), upd_ne _ _ _ _ (show 3 * j ≠ 3 * j + 1 by omega), upd_at]
          rw [upd_ne _ _ _ _ (show 3 * j + 1 ≠ 3 * j + 2 by omega), upd_at]
          exact ⟨rfl, rfl, rfl⟩
        · exact h3 j (by omega) hj2
theorem t_R_keep {fu : Nat} (hf : 20000 ≤ fu) {th : Int32} {sz kd ce ar ks kp : Nat → Int32} {r : S_R7} {g : pg} (h : pgr (sz, kd, ce, ar) g) (hg : gok g) : ∃ ks' kp', f_R_keep fu (th, sz, kd, ce, ar, ks, kp, r) = some (th, sz, kd, ce, ar, ks', kp', r) ∧ kpg ks' kp' g := by
  have h14 := hg.n14
  obtain ⟨kp', h1, h2, h3⟩ := t_R_keep_L27 fu th sz kd ce ar (upd (upd (upd ks 0 (sz 0)) 1 (sz 1)) 2 (sz 2)) r 14 fu 0 kp (by omega) (by omega) (by omega)
  have h4 : ∀ n, f_R_keep_L2 fu (n + 4) (th, sz, kd, ce, ar, ks, kp, r) (qn 0) = f_R_keep_L27 fu fu (th, sz, kd, ce, ar, upd (upd (upd ks 0 (sz 0)) 1 (sz 1)) 2 (sz 2), kp, r) (qn 0) := by
    intro n; simp (disch := omega) only [q0, q1, q2, q3, q4, q5, q6, q7, q8, q14, q15, q16, q20, q31, q44, q50, q70, q1000, qn_le, qn_lt, qn_eq, qn_add, qn_inb, qn_ix, qn_dec, qn_m1, ck_tt, bd_ss, ix, isB0, isB1, if_pos, if_neg, if_true, if_false, Nat.reduceAdd, Nat.reduceLeDiff, Nat.reduceSub, Nat.reduceEqDiff, Nat.reduceMul, Nat.reduceLT, Nat.zero_add, not_true, not_false_iff, f_R_keep_L2]
  have h5 := h4 (fu - 4)
  rw [Nat.sub_add_cancel (by omega)] at h5
  refine ⟨_, kp', by simp (disch := omega) only [q0, q1, q2, q3, q4, q5, q6, q7, q8, q14, q15, q16, q20, q31, q44, q50, q70, q1000, qn_le, qn_lt, qn_eq, qn_add, qn_inb, qn_ix, qn_dec, qn_m1, ck_tt, bd_ss, ix, isB0, isB1, if_pos, if_neg, if_true, if_false, Nat.reduceAdd, Nat.reduceLeDiff, Nat.reduceSub, Nat.reduceEqDiff, Nat.reduceMul, Nat.reduceLT, Nat.zero_add, not_true, not_false_iff, f_R_keep, h5, h1]; rfl, ?_⟩
  refine ⟨h.1, h.2.1, h.2.2.1, fun i hi => ?_⟩
  have h6 := h3 i (by omega) (by omega)
  have h7 := h.2.2.2 i hi
  exact ⟨h6.1.trans h7.1, h6.2.1.trans h7.2.1, h6.2.2.trans h7.2.2⟩
theorem t_R_putBack_L27 (fu : Nat) (th : Int32) (sz ks kp : Nat → Int32) (r : S_R7) : ∀ (d n i : Nat) (kd ce ar : Nat → Int32), d < n → 14 ≤ i + d → i < 100 → ∃ kd' ce' ar', f_R_putBack_L27 fu n (th, sz, kd, ce, ar, ks, kp, r) (qn i) = some (th, sz, kd', ce', ar', ks, kp, r) ∧ (∀ j, j < i → kd' j = kd j ∧ ce' j = ce j ∧ ar' j = ar j) ∧ ∀ j, i ≤ j → j < 14 → kd' j = kp (3 * j) ∧ ce' j = kp (3 * j + 1) ∧ ar' j = kp (3 * j + 2) := by
  intro d
  induction d with
  | zero =>
    intro n i kd ce ar hn hd hi
    obtain ⟨m, rfl⟩ : ∃ m, n = m + 1 := ⟨n - 1, by omega⟩
    refine ⟨kd, ce, ar, by simp (disch := omega) only [q0, q1, q2, q3, q4, q5, q6, q7, q8, q14, q15, q16, q20, q31, q44, q50, q70, q1000, qn_le, qn_lt, qn_eq, qn_add, qn_inb, qn_ix, qn_dec, qn_m1, ck_tt, bd_ss, ix, isB0, isB1, if_pos, if_neg, if_true, if_false, Nat.reduceAdd, Nat.reduceLeDiff, Nat.reduceSub, Nat.reduceEqDiff, Nat.reduceMul, Nat.reduceLT, Nat.zero_add, not_true, not_false_iff, f_R_putBack_L27], fun _ _ => ⟨rfl, rfl, rfl⟩, fun j h1 h2 => ?_⟩
    omega
  | succ d ih =>
    intro n i kd ce ar hn hd hi
    obtain ⟨m, rfl⟩ : ∃ m, n = m + 1 := ⟨n - 1, by omega⟩
    by_cases hst : 14 ≤ i
    · refine ⟨kd, ce, ar, by simp (disch := omega) only [q0, q1, q2, q3, q4, q5, q6, q7, q8, q14, q15, q16, q20, q31, q44, q50, q70, q1000, qn_le, qn_lt, qn_eq, qn_add, qn_inb, qn_ix, qn_dec, qn_m1, ck_tt, bd_ss, ix, isB0, isB1, if_pos, if_neg, if_true, if_false, Nat.reduceAdd, Nat.reduceLeDiff, Nat.reduceSub, Nat.reduceEqDiff, Nat.reduceMul, Nat.reduceLT, Nat.zero_add, not_true, not_false_iff, f_R_putBack_L27], fun _ _ => ⟨rfl, rfl, rfl⟩, fun j h1 h2 => ?_⟩
      omega
    · obtain ⟨kd', ce', ar', h1, h2, h3⟩ := ih m (i + 1) (upd kd i (kp (3 * i))) (upd ce i (kp (3 * i + 1))) (upd ar i (kp (3 * i + 2))) (by omega) (by omega) (by omega)
      refine ⟨kd', ce', ar', by simp (disch := omega) only [q0, q1, q2, q3, q4, q5, q6, q7, q8, q14, q15, q16, q20, q31, q44, q50, q70, q1000, qn_le, qn_lt, qn_eq, qn_add, qn_inb, qn_ix, qn_dec, qn_m1, ck_tt, bd_ss, ix, isB0, isB1, if_pos, if_neg, if_true, if_false, Nat.reduceAdd, Nat.reduceLeDiff, Nat.reduceSub, Nat.reduceEqDiff, Nat.reduceMul, Nat.reduceLT, Nat.zero_add, not_true, not_false_iff, f_R_putBack_L27, qn_mul, h1], ?_, ?_⟩
      · intro j hj
        have := h2 j (by omega)
        rw [upd_ne _ _ _ _ (by omega), upd_ne _ _ _ _ (by omega), upd_ne _ _ _ _ (by omega)] at this
        exact this
      · intro j hj1 hj2
        by_cases hji : j = i
        · subst hji
          have := h2 j (by omega)
          rw [upd_at, upd_at, upd_at] at this
          exact this
        · exact h3 j (by omega) hj2
theorem t_R_putBack {fu : Nat} (hf : 20000 ≤ fu) {th : Int32} {sz kd ce ar ks kp : Nat → Int32} {r : S_R7} {g : pg} (h : kpg ks kp g) (hg : gok g) : ∃ sz' kd' ce' ar', f_R_putBack fu (th, sz, kd, ce, ar, ks, kp, r) = some (th, sz', kd', ce', ar', ks, kp, r) ∧ pgr (sz', kd', ce', ar') g := by
  have h14 := hg.n14
  obtain ⟨kd', ce', ar', h1, h2, h3⟩ := t_R_putBack_L27 fu th (upd (upd (upd sz 0 (ks 0)) 1 (ks 1)) 2 (ks 2)) ks kp r 14 fu 0 kd ce ar (by omega) (by omega) (by omega)
  have h4 : ∀ n, f_R_putBack_L2 fu (n + 4) (th, sz, kd, ce, ar, ks, kp, r) (qn 0) = f_R_putBack_L27 fu fu (th, upd (upd (upd sz 0 (ks 0)) 1 (ks 1)) 2 (ks 2), kd, ce, ar, ks, kp, r) (qn 0) := by
    intro n; simp (disch := omega) only [q0, q1, q2, q3, q4, q5, q6, q7, q8, q14, q15, q16, q20, q31, q44, q50, q70, q1000, qn_le, qn_lt, qn_eq, qn_add, qn_inb, qn_ix, qn_dec, qn_m1, ck_tt, bd_ss, ix, isB0, isB1, if_pos, if_neg, if_true, if_false, Nat.reduceAdd, Nat.reduceLeDiff, Nat.reduceSub, Nat.reduceEqDiff, Nat.reduceMul, Nat.reduceLT, Nat.zero_add, not_true, not_false_iff, f_R_putBack_L2]
  have h5 := h4 (fu - 4)
  rw [Nat.sub_add_cancel (by omega)] at h5
  refine ⟨_, kd', ce', ar', by simp (disch := omega) only [q0, q1, q2, q3, q4, q5, q6, q7, q8, q14, q15, q16, q20, q31, q44, q50, q70, q1000, qn_le, qn_lt, qn_eq, qn_add, qn_inb, qn_ix, qn_dec, qn_m1, ck_tt, bd_ss, ix, isB0, isB1, if_pos, if_neg, if_true, if_false, Nat.reduceAdd, Nat.reduceLeDiff, Nat.reduceSub, Nat.reduceEqDiff, Nat.reduceMul, Nat.reduceLT, Nat.zero_add, not_true, not_false_iff, f_R_putBack, h5, h1]; rfl, ?_⟩
  refine ⟨h.1, h.2.1, h.2.2.1, fun i hi => ?_⟩
  have h6 := h3 i (by omega) (by omega)
  have h7 := h.2.2.2 i hi
  exact ⟨h6.1.trans h7.1, h6.2.1.trans h7.2.1, h6.2.2.trans h7.2.2⟩
