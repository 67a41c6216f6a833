section STP
variable {fu f : Nat} {an nu ca ba nc ne no : Nat → Int32} {P : S_P} {i k c v n b : Nat} {w : Nat → Nat} {mo x : Int32}
theorem stp_call (hb : b < 3) (hi : i < 14) (hn : nc b = qn i) (he : ne b = qn 0) (e1 : P.2.1 i = qn k) (e3 : P.2.2.2 i = qn v) (hk : k ≤ 6) (hf : f < 16) (hx : v < 8 ∧ x = qn v ∨ 8 ≤ v ∧ v < 22 ∧ x = an (v - 8)) : (gspk k f → f_M_step fu (an, nu, ca, ba, pz w, nc, ne, no, qn f) P (qn b) mo = some (an, upd nu i x, upd ca i mo, ba, pz w, nc, upd ne b (qn 1), no, qn f)) ∧ (¬ gspk k f → f_M_step fu (an, nu, ca, ba, pz w, nc, ne, no, qn f) P (qn b) mo = some (an, upd nu i x, upd ca i mo, ba, pz w, nc, upd ne b (qn 2), no, qn f)) := by
  have h1 := t_M_isSplit (fu := fu) (an := an) (nu := upd nu i x) (ca := upd ca i mo) (ba := ba) (z := pz w) (nc := nc) (ne := ne) (no := no) hk hf
  have h2 : f_M_numberOf fu (an, nu, upd ca i mo, ba, pz w, nc, ne, no, qn f) (qn v) = some x := by
    rcases hx with ⟨h3, rfl⟩ | ⟨h3, h4, rfl⟩
    · simp (disch := omega) only [↓reduceIte, q0, q1, q2, q3, q4, q5, q6, q7, q8, q14, q15, q16, q20, q31, q44, q50, q70, q1000, qn_le_t, qn_le_f, qn_lt_t, qn_lt_f, qn_eq_t, qn_eq_f, qn_add, qn_inb, qn_ix, qn_dec, qn_m1, ck_tt, bd_ss, ix, isB0, isB1, Nat.reduceAdd, Nat.reduceSub, Nat.reduceMul, Nat.zero_add, f_M_numberOf]
    · simp (disch := omega) only [↓reduceIte, q0, q1, q2, q3, q4, q5, q6, q7, q8, q14, q15, q16, q20, q31, q44, q50, q70, q1000, qn_le_t, qn_le_f, qn_lt_t, qn_lt_f, qn_eq_t, qn_eq_f, qn_add, qn_inb, qn_ix, qn_dec, qn_m1, ck_tt, bd_ss, ix, isB0, isB1, Nat.reduceAdd, Nat.reduceSub, Nat.reduceMul, Nat.zero_add, f_M_numberOf, qn_sub]
  refine ⟨fun hs => ?_, fun hs => ?_⟩
  · simp (disch := omega) only [↓reduceIte, q0, q1, q2, q3, q4, q5, q6, q7, q8, q14, q15, q16, q20, q31, q44, q50, q70, q1000, qn_le_t, qn_le_f, qn_lt_t, qn_lt_f, qn_eq_t, qn_eq_f, qn_add, qn_inb, qn_ix, qn_dec, qn_m1, ck_tt, bd_ss, ix, isB0, isB1, Nat.reduceAdd, Nat.reduceSub, Nat.reduceMul, Nat.zero_add, f_M_step, hn, he, e1, e3, h2, h1.1 hs]
  · simp (disch := omega) only [↓reduceIte, q0, q1, q2, q3, q4, q5, q6, q7, q8, q14, q15, q16, q20, q31, q44, q50, q70, q1000, qn_le_t, qn_le_f, qn_lt_t, qn_lt_f, qn_eq_t, qn_eq_f, qn_add, qn_inb, qn_ix, qn_dec, qn_m1, ck_tt, bd_ss, ix, isB0, isB1, Nat.reduceAdd, Nat.reduceSub, Nat.reduceMul, Nat.zero_add, f_M_step, hn, he, e1, e3, h2, h1.2 hs]
theorem stp_note (hb : b < 3) (hi : i < 14) (hn : nc b = qn i) (he : ne b = qn 1) (e1 : P.2.1 i = qn k) (e2 : P.2.2.1 i = qn c) (hk : k ≤ 6) (hc : c < 3) (hw : w16 w) : f_M_step fu (an, nu, ca, ba, pz w, nc, ne, no, qn f) P (qn b) mo = some (an, nu, ca, ba, pz w, nc, upd ne b (qn 2), upd no b (qn (w (if k = 6 then (c + 1) % 3 else c) % 8)), qn f) := by
  by_cases h6 : k = 6
  · subst h6
    have h3 : (c + 1) % 3 < 3 := Nat.mod_lt _ (by omega)
    simp (disch := omega) only [↓reduceIte, q0, q1, q2, q3, q4, q5, q6, q7, q8, q14, q15, q16, q20, q31, q44, q50, q70, q1000, qn_le_t, qn_le_f, qn_lt_t, qn_lt_f, qn_eq_t, qn_eq_f, qn_add, qn_inb, qn_ix, qn_dec, qn_m1, ck_tt, bd_ss, ix, isB0, isB1, Nat.reduceAdd, Nat.reduceSub, Nat.reduceMul, Nat.zero_add, f_M_step, hn, he, e1, e2, t_O_source hc, t_O_held hw h3]
  · rw [if_neg h6]
    simp (disch := omega) only [↓reduceIte, q0, q1, q2, q3, q4, q5, q6, q7, q8, q14, q15, q16, q20, q31, q44, q50, q70, q1000, qn_le_t, qn_le_f, qn_lt_t, qn_lt_f, qn_eq_t, qn_eq_f, qn_add, qn_inb, qn_ix, qn_dec, qn_m1, ck_tt, bd_ss, ix, isB0, isB1, Nat.reduceAdd, Nat.reduceSub, Nat.reduceMul, Nat.zero_add, f_M_step, hn, he, e1, e2, t_O_held hw hc]
theorem naft_dnew {w : Nat → Nat} {k c v l : Nat} (hk : k ≤ 6) (hl : ¬ (k = 3 ∧ l = 1)) : naft w k c v = nset w c (dnew (w c) k v (w (if k = 6 then (c + 1) % 3 else c) % 8) l) := by
  unfold naft dnew
  have : k = 0 ∨ k = 1 ∨ k = 2 ∨ k = 3 ∨ k = 4 ∨ k = 5 ∨ k = 6 := by omega
  rcases this with rfl | rfl | rfl | rfl | rfl | rfl | rfl
  · rfl
  · rfl
  · rfl
  · have : ¬ l = 1 := fun h => hl ⟨rfl, h⟩
    simp [this]
  · rfl
  · rfl
  · rfl
theorem nans_dans {w : Nat → Nat} {k c v : Nat} (hk : k ≤ 6) : nans w k c v = dans w k c v (w (if k = 6 then (c + 1) % 3 else c) % 8) := by
  unfold nans dans
  have : k = 0 ∨ k = 1 ∨ k = 2 ∨ k = 3 ∨ k = 4 ∨ k = 5 ∨ k = 6 := by omega
  rcases this with rfl | rfl | rfl | rfl | rfl | rfl | rfl <;> rfl
theorem nset_same (w : Nat → Nat) (c : Nat) : nset w c (w c) = w := by
  funext j; unfold nset; split
  · rename_i h; rw [h]
  · rfl
theorem stp_act (hb : b < 3) (hi : i < 14) (hn : nc b = qn i) (he : ne b = qn 2) (e1 : P.2.1 i = qn k) (e2 : P.2.2.1 i = qn c) (hk : k ≤ 6) (hc : c < 3) (hf : f < 16) (hs : ¬ gspk k f) (hw : w16 w) (hv : nu i = qn v) (v8 : v < 8) (l : Nat) (hl : gltk k f ∧ l = 1 ∨ ¬ gltk k f ∧ l = 0) : f_M_step fu (an, nu, ca, ba, pz w, nc, ne, no, qn f) P (qn b) mo = some (upd an i (qn (dans w k c v (w (if k = 6 then (c + 1) % 3 else c) % 8))), nu, ca, ba, pz (nset w c (dnew (w c) k v (w (if k = 6 then (c + 1) % 3 else c) % 8) l)), nc, upd ne b (qn 3), no, qn f) ∧ w16 (nset w c (dnew (w c) k v (w (if k = 6 then (c + 1) % 3 else c) % 8) l)) := by
  have h1 := t_M_isSplit (fu := fu) (an := an) (nu := nu) (ca := ca) (ba := ba) (z := pz w) (nc := nc) (ne := ne) (no := no) hk hf
  have h2 := t_M_isLate (fu := fu) (an := upd an i (qn (nans w k c v))) (nu := nu) (ca := ca) (ba := ba) (z := pz w) (nc := nc) (ne := ne) (no := no) hk hf
  have h3 := t_O_answer (fu := fu) hw hk hc v8
  have h4 := t_O_after (fu := fu) hw hk hc v8
  rw [← nans_dans hk]
  rcases hl with ⟨hl, rfl⟩ | ⟨hl, rfl⟩
  · have e : dnew (w c) k v (w (if k = 6 then (c + 1) % 3 else c) % 8) 1 = w c := by
      have := hl.1; subst this; rfl
    rw [e, nset_same]
    refine ⟨?_, hw⟩
    simp (disch := omega) only [↓reduceIte, q0, q1, q2, q3, q4, q5, q6, q7, q8, q14, q15, q16, q20, q31, q44, q50, q70, q1000, qn_le_t, qn_le_f, qn_lt_t, qn_lt_f, qn_eq_t, qn_eq_f, qn_add, qn_inb, qn_ix, qn_dec, qn_m1, ck_tt, bd_ss, ix, isB0, isB1, Nat.reduceAdd, Nat.reduceSub, Nat.reduceMul, Nat.zero_add, f_M_step, hn, he, e1, e2, h1.2 hs, f_M_act, hv, h3, h2.1 hl, qn_m1]
  · rw [← naft_dnew hk (by omega)]
    refine ⟨?_, h4.2⟩
    simp (disch := omega) only [↓reduceIte, q0, q1, q2, q3, q4, q5, q6, q7, q8, q14, q15, q16, q20, q31, q44, q50, q70, q1000, qn_le_t, qn_le_f, qn_lt_t, qn_lt_f, qn_eq_t, qn_eq_f, qn_add, qn_inb, qn_ix, qn_dec, qn_m1, ck_tt, bd_ss, ix, isB0, isB1, Nat.reduceAdd, Nat.reduceSub, Nat.reduceMul, Nat.zero_add, f_M_step, hn, he, e1, e2, h1.2 hs, f_M_act, hv, h3, h2.2 hl, h4.1]
theorem stp_acts (hb : b < 3) (hi : i < 14) (hn : nc b = qn i) (he : ne b = qn 2) (e1 : P.2.1 i = qn k) (e2 : P.2.2.1 i = qn c) (hk : k ≤ 6) (hc : c < 3) (hf : f < 16) (hs : gspk k f) (hw : w16 w) (hv : nu i = qn v) (v8 : v < 8) (hno : no b = qn n) (n8 : n < 8) : f_M_step fu (an, nu, ca, ba, pz w, nc, ne, no, qn f) P (qn b) mo = some (upd an i (qn (dans w k c v n)), nu, ca, ba, pz (nset w c (dnew (w c) k v n 0)), nc, upd ne b (qn 3), no, qn f) ∧ w16 (nset w c (dnew (w c) k v n 0)) := by
  have h1 := t_M_isSplit (fu := fu) (an := an) (nu := nu) (ca := ca) (ba := ba) (z := pz w) (nc := nc) (ne := ne) (no := no) hk hf
  have hk456 : k = 4 ∨ k = 5 ∨ k = 6 := by unfold gspk at hs; omega
  have h8 : (n + v) % 8 < 8 := Nat.mod_lt _ (by omega)
  rcases hk456 with rfl | rfl | rfl
  · have h4 := t_O_after (fu := fu) hw (show 3 ≤ 6 by omega) hc h8
    refine ⟨?_, h4.2⟩
    simp (disch := omega) only [↓reduceIte, q0, q1, q2, q3, q4, q5, q6, q7, q8, q14, q15, q16, q20, q31, q44, q50, q70, q1000, qn_le_t, qn_le_f, qn_lt_t, qn_lt_f, qn_eq_t, qn_eq_f, qn_add, qn_inb, qn_ix, qn_dec, qn_m1, ck_tt, bd_ss, ix, isB0, isB1, Nat.reduceAdd, Nat.reduceSub, Nat.reduceMul, Nat.zero_add, f_M_step, hn, he, e1, e2, h1.1 hs, hno, f_M_actByNote, hv, nz_qn, qn_mod, h4.1]
    rfl
  · have h4 := t_O_after (fu := fu) hw (show 3 ≤ 6 by omega) hc v8
    refine ⟨?_, h4.2⟩
    simp (disch := omega) only [↓reduceIte, q0, q1, q2, q3, q4, q5, q6, q7, q8, q14, q15, q16, q20, q31, q44, q50, q70, q1000, qn_le_t, qn_le_f, qn_lt_t, qn_lt_f, qn_eq_t, qn_eq_f, qn_add, qn_inb, qn_ix, qn_dec, qn_m1, ck_tt, bd_ss, ix, isB0, isB1, Nat.reduceAdd, Nat.reduceSub, Nat.reduceMul, Nat.zero_add, f_M_step, hn, he, e1, e2, h1.1 hs, hno, f_M_actByNote, hv, h4.1]
    rfl
  · have h4 := t_O_after (fu := fu) hw (show 3 ≤ 6 by omega) hc n8
    have h5 := t_O_held (fu := fu) hw hc
    refine ⟨?_, h4.2⟩
    simp (disch := omega) only [↓reduceIte, q0, q1, q2, q3, q4, q5, q6, q7, q8, q14, q15, q16, q20, q31, q44, q50, q70, q1000, qn_le_t, qn_le_f, qn_lt_t, qn_lt_f, qn_eq_t, qn_eq_f, qn_add, qn_inb, qn_ix, qn_dec, qn_m1, ck_tt, bd_ss, ix, isB0, isB1, Nat.reduceAdd, Nat.reduceSub, Nat.reduceMul, Nat.zero_add, f_M_step, hn, he, e1, e2, h1.1 hs, hno, f_M_actByNote, hv, h4.1, h5]
    rfl
theorem stp_ret (hb : b < 3) (hi : i < 14) (hn : nc b = qn i) (he : ne b = qn 3) (e1 : P.2.1 i = qn k) (hk : k ≤ 6) (hf : f < 16) : (gltk k f → f_M_step fu (an, nu, ca, ba, pz w, nc, ne, no, qn f) P (qn b) mo = some (an, nu, ca, upd ba i mo, pz w, upd nc b (qn i), upd ne b (qn 4), no, qn f)) ∧ (¬ gltk k f → f_M_step fu (an, nu, ca, ba, pz w, nc, ne, no, qn f) P (qn b) mo = some (an, nu, ca, upd ba i mo, pz w, upd nc b (qn (i + 1)), upd ne b (qn 0), no, qn f)) := by
  have h2 := t_M_isLate (fu := fu) (an := an) (nu := nu) (ca := ca) (ba := upd ba i mo) (z := pz w) (nc := nc) (ne := ne) (no := no) hk hf
  have h3 := t_M_isLate (fu := fu) (an := an) (nu := nu) (ca := ca) (ba := upd ba i mo) (z := pz w) (nc := nc) (ne := upd ne b (qn 4)) (no := no) hk hf
  have h4 := t_M_isLate (fu := fu) (an := an) (nu := nu) (ca := ca) (ba := upd ba i mo) (z := pz w) (nc := nc) (ne := upd ne b (qn 0)) (no := no) hk hf
  refine ⟨fun hs => ?_, fun hs => ?_⟩
  · simp (disch := omega) only [↓reduceIte, q0, q1, q2, q3, q4, q5, q6, q7, q8, q14, q15, q16, q20, q31, q44, q50, q70, q1000, qn_le_t, qn_le_f, qn_lt_t, qn_lt_f, qn_eq_t, qn_eq_f, qn_add, qn_inb, qn_ix, qn_dec, qn_m1, ck_tt, bd_ss, ix, isB0, isB1, Nat.reduceAdd, Nat.reduceSub, Nat.reduceMul, Nat.zero_add, f_M_step, hn, he, e1, h2.1 hs, f_M_step_L228, h3.1 hs]
  · simp (disch := omega) only [↓reduceIte, q0, q1, q2, q3, q4, q5, q6, q7, q8, q14, q15, q16, q20, q31, q44, q50, q70, q1000, qn_le_t, qn_le_f, qn_lt_t, qn_lt_f, qn_eq_t, qn_eq_f, qn_add, qn_inb, qn_ix, qn_dec, qn_m1, ck_tt, bd_ss, ix, isB0, isB1, Nat.reduceAdd, Nat.reduceSub, Nat.reduceMul, Nat.zero_add, f_M_step, hn, he, e1, h2.2 hs, f_M_step_L228, h4.2 hs]
theorem stp_late (hb : b < 3) (hi : i < 14) (hn : nc b = qn i) (he : ne b = qn 4) (e1 : P.2.1 i = qn k) (e2 : P.2.2.1 i = qn c) (hk : k = 3) (hc : c < 3) (hw : w16 w) (hv : nu i = qn v) (v8 : v < 8) : f_M_step fu (an, nu, ca, ba, pz w, nc, ne, no, qn f) P (qn b) mo = some (an, nu, ca, ba, pz (nset w c (w c / 8 * 8 + v)), upd nc b (qn (i + 1)), upd ne b (qn 0), no, qn f) ∧ w16 (nset w c (w c / 8 * 8 + v)) := by
  subst hk
  have h4 := t_O_after (fu := fu) hw (show 3 ≤ 6 by omega) hc v8
  refine ⟨?_, h4.2⟩
  simp (disch := omega) only [↓reduceIte, q0, q1, q2, q3, q4, q5, q6, q7, q8, q14, q15, q16, q20, q31, q44, q50, q70, q1000, qn_le_t, qn_le_f, qn_lt_t, qn_lt_f, qn_eq_t, qn_eq_f, qn_add, qn_inb, qn_ix, qn_dec, qn_m1, ck_tt, bd_ss, ix, isB0, isB1, Nat.reduceAdd, Nat.reduceSub, Nat.reduceMul, Nat.zero_add, f_M_step, hn, he, e1, e2, hv, h4.1]
  rfl
end STP
