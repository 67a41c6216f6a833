theorem otw_sh (m o : Nat) : ∀ x, x ≤ m → otw (m + 1) o (x + 1) = o / 2 ^ m % 2 + otw m o x := by
  intro x
  induction x with
  | zero =>
    intro _
    show 0 + o / 2 ^ (m + 1 - 1 - 0) % 2 = o / 2 ^ m % 2 + 0
    rw [Nat.add_sub_cancel, Nat.sub_zero]; omega
  | succ x ih =>
    intro hx
    have h := ih (by omega)
    show otw (m + 1) o (x + 1) + o / 2 ^ (m + 1 - 1 - (x + 1)) % 2 = o / 2 ^ m % 2 + (otw m o x + o / 2 ^ (m - 1 - x) % 2)
    have e : m + 1 - 1 - (x + 1) = m - 1 - x := by omega
    rw [h, e]; omega
theorem opk_sh0 {m o i j x : Nat} (hx : x < m) (h : o / 2 ^ m % 2 = 0) : opk (m + 1) o i j (x + 1) = opk m o (i + 1) j x := by
  have hl := otw_le m o x
  unfold opk
  have e : m + 1 - 1 - (x + 1) = m - 1 - x := by omega
  rw [e, otw_sh m o x (by omega), h]
  split <;> omega
theorem opk_sh1 {m o i j x : Nat} (hx : x < m) (h : o / 2 ^ m % 2 = 1) : opk (m + 1) o i j (x + 1) = opk m o i (j + 1) x := by
  have hl := otw_le m o x
  unfold opk
  have e : m + 1 - 1 - (x + 1) = m - 1 - x := by omega
  rw [e, otw_sh m o x (by omega), h]
  split <;> omega
theorem otw_low (m q o : Nat) : ∀ x, x ≤ m → otw m (2 ^ m * q + o) x = otw m o x := by
  intro x
  induction x with
  | zero => intro _; rfl
  | succ x ih =>
    intro hx
    show otw m (2 ^ m * q + o) x + (2 ^ m * q + o) / 2 ^ (m - 1 - x) % 2 = otw m o x + o / 2 ^ (m - 1 - x) % 2
    rw [ih (by omega)]
    have e : 2 ^ m = 2 ^ (m - 1 - x) * (2 * 2 ^ x) := by
      rw [← Nat.pow_succ', ← Nat.pow_add]
      congr 1; omega
    have e2 : 2 ^ m * q + o = 2 ^ (m - 1 - x) * (2 * (2 ^ x * q)) + o := by
      rw [e, Nat.mul_assoc, Nat.mul_assoc]
    rw [e2, Nat.mul_add_div (Nat.two_pow_pos _), Nat.mul_add_mod]
theorem opk_low {m q o i j x : Nat} (hx : x < m) : opk m (2 ^ m * q + o) i j x = opk m o i j x := by
  unfold opk
  rw [otw_low m q o x (by omega)]
  have e : 2 ^ m = 2 ^ (m - 1 - x) * (2 * 2 ^ x) := by
    rw [← Nat.pow_succ', ← Nat.pow_add]
    congr 1; omega
  have e2 : 2 ^ m * q + o = 2 ^ (m - 1 - x) * (2 * (2 ^ x * q)) + o := by
    rw [e, Nat.mul_assoc, Nat.mul_assoc]
  have e3 : (2 ^ m * q + o) / 2 ^ (m - 1 - x) % 2 = o / 2 ^ (m - 1 - x) % 2 := by
    rw [e2, Nat.mul_add_div (Nat.two_pow_pos _), Nat.mul_add_mod]
  rw [e3]
section SRCH
variable {fu : Nat} {P : S_P} {an nu ca ba : Nat → Int32} {mr : Int32 × (Nat → Int32) × (Nat → Int32) × (Nat → Int32) × Int32} {g : pg} {nv av C D : Nat → Nat}
theorem t_J_answersSo (hP : pgr P g) (hg : gok g) (hn : ∀ i, i < 14 → nv i < 8 ∧ nu i = qn (nv i)) (ha : ∀ i, i < 14 → av i < 8 ∧ an i = qn (av i)) {w : Nat → Nat} (hw : w16 w) {i : Nat} (hi : i < gn g) : bqr (f_J_answersSo fu P (an, nu, ca, ba, mr) (pz w) (qn i)) (anw g nv av w i) := by
  have h14 := hg.n14
  have p := hP.2.2.2 i hi
  have gi := hg.2.2.2 i hi
  have h1 := hn i (by omega)
  have h2 := ha i (by omega)
  have h3 := t_O_answer (fu := fu) hw gi.1 (show gc g i < 3 by have := gi.2.1; omega) h1.1
  have h4 : nans w (gk g i) (gc g i) (nv i) < 8 := by
    rw [nans_dans gi.1]; exact dans8 (Nat.mod_lt _ (by omega))
  unfold anw
  refine ⟨fun hx => ?_, fun hx => ?_⟩
  · rw [hx] at h3
    simp (disch := omega) only [↓reduceIte, q0, q1, q2, q3, q4, q5, q6, q7, q8, q14, q15, q16, q20, q31, q44, q50, q70, q1000, qn_le_t, qn_le_f, qn_lt_t, qn_lt_f, qn_eq_t, qn_eq_f, qn_add, qn_inb, qn_ix, qn_dec, qn_m1, ck_tt, bd_ss, ix, isB0, isB1, Nat.reduceAdd, Nat.reduceSub, Nat.reduceMul, Nat.zero_add, f_J_answersSo, p.1, p.2.1, h1.2, h3, h2.2]
  · have h5 := h2.1
    simp (disch := omega) only [↓reduceIte, q0, q1, q2, q3, q4, q5, q6, q7, q8, q14, q15, q16, q20, q31, q44, q50, q70, q1000, qn_le_t, qn_le_f, qn_lt_t, qn_lt_f, qn_eq_t, qn_eq_f, qn_add, qn_inb, qn_ix, qn_dec, qn_m1, ck_tt, bd_ss, ix, isB0, isB1, Nat.reduceAdd, Nat.reduceSub, Nat.reduceMul, Nat.zero_add, f_J_answersSo, p.1, p.2.1, h1.2, h3, h2.2]
theorem t_J_after (hP : pgr P g) (hg : gok g) (hn : ∀ i, i < 14 → nv i < 8 ∧ nu i = qn (nv i)) {w : Nat → Nat} (hw : w16 w) {i : Nat} (hi : i < gn g) : f_J_after fu P (an, nu, ca, ba, mr) (pz w) (qn i) = some (pz (nxw g nv w i)) ∧ w16 (nxw g nv w i) := by
  have h14 := hg.n14
  have p := hP.2.2.2 i hi
  have gi := hg.2.2.2 i hi
  have h1 := hn i (by omega)
  have h3 := t_O_after (fu := fu) hw gi.1 (show gc g i < 3 by have := gi.2.1; omega) h1.1
  refine ⟨?_, h3.2⟩
  simp (disch := omega) only [↓reduceIte, q0, q1, q2, q3, q4, q5, q6, q7, q8, q14, q15, q16, q20, q31, q44, q50, q70, q1000, qn_le_t, qn_le_f, qn_lt_t, qn_lt_f, qn_eq_t, qn_eq_f, qn_add, qn_inb, qn_ix, qn_dec, qn_m1, ck_tt, bd_ss, ix, isB0, isB1, Nat.reduceAdd, Nat.reduceSub, Nat.reduceMul, Nat.zero_add, f_J_after, p.1, p.2.1, h1.2, h3.1]
  rfl
def hq (a : Nat) : Int32 := qn (if a = 0 then 0 else 1)
variable {rc : S_J → S_P → S_M → Int32 → Int32 → Int32 → Int32 → Option (Int32 × S_J)}
theorem se_2 (hP : pgr P g) (hg : gok g) (hn : ∀ i, i < 14 → nv i < 8 ∧ nu i = qn (nv i)) (ha : ∀ i, i < 14 → av i < 8 ∧ an i = qn (av i)) (hcd : ∀ i, inBr g i → (ca i = qn (C i) ∧ C i < 70) ∧ (ba i = qn (D i) ∧ D i < 70)) {w : Nat → Nat} (hw : w16 w) {a b i j k : Nat} (hi : i + a = gp g + ga g) (hj : j + b = gn g) (hi0 : gp g ≤ i) (hj0 : gp g + ga g ≤ j) (hk : k < 8) (J : S_J) :
    (¬ (0 < b ∧ (a = 0 ∨ ¬ D i < C j) ∧ anw g nv av w j) → f_J_search_L150 fu rc P (an, nu, ca, ba, mr) J (pz w) (qn i) (qn j) (qn k) (hq a) (hq b) = some (qn 0, J)) ∧ (0 < b ∧ (a = 0 ∨ ¬ D i < C j) ∧ anw g nv av w j → ∀ x J', isB x = true → rc (upd J k (qn j)) P (an, nu, ca, ba, mr) (pz (nxw g nv w j)) (qn i) (qn (j + 1)) (qn (k + 1)) = some (x, J') → f_J_search_L150 fu rc P (an, nu, ca, ba, mr) J (pz w) (qn i) (qn j) (qn k) (hq a) (hq b) = some (x, J')) := by
  have h14 := hg.n14
  have hgd := gn_def g
  by_cases hb : b = 0
  · refine ⟨fun _ => ?_, fun h => by omega⟩
    have e : hq b = qn 0 := by unfold hq; rw [if_pos hb]
    rw [e]
    simp (disch := omega) only [↓reduceIte, q0, q1, q2, q3, q4, q5, q6, q7, q8, q14, q15, q16, q20, q31, q44, q50, q70, q1000, qn_le_t, qn_le_f, qn_lt_t, qn_lt_f, qn_eq_t, qn_eq_f, qn_add, qn_inb, qn_ix, qn_dec, qn_m1, ck_tt, bd_ss, ix, isB0, isB1, Nat.reduceAdd, Nat.reduceSub, Nat.reduceMul, Nat.zero_add, f_J_search_L150, f_J_search_L182]
  · have e : hq b = qn 1 := by unfold hq; rw [if_neg hb]
    have aw := t_J_answersSo (fu := fu) (ca := ca) (ba := ba) (mr := mr) hP hg hn ha hw (i := j) (by omega)
    have af := t_J_after (fu := fu) (an := an) (ca := ca) (ba := ba) (mr := mr) hP hg hn hw (i := j) (by omega)
    have fin : ∀ s : Int32, s = qn 1 → (¬ anw g nv av w j → f_J_search_L182 fu rc P (an, nu, ca, ba, mr) J (pz w) (qn i) (qn j) (qn k) s = some (qn 0, J)) ∧ (anw g nv av w j → ∀ x J', isB x = true → rc (upd J k (qn j)) P (an, nu, ca, ba, mr) (pz (nxw g nv w j)) (qn i) (qn (j + 1)) (qn (k + 1)) = some (x, J') → f_J_search_L182 fu rc P (an, nu, ca, ba, mr) J (pz w) (qn i) (qn j) (qn k) s = some (x, J')) := by
      intro s hs
      subst hs
      refine ⟨fun h => ?_, fun h x J' hx hr => ?_⟩
      · simp (disch := omega) only [↓reduceIte, q0, q1, q2, q3, q4, q5, q6, q7, q8, q14, q15, q16, q20, q31, q44, q50, q70, q1000, qn_le_t, qn_le_f, qn_lt_t, qn_lt_f, qn_eq_t, qn_eq_f, qn_add, qn_inb, qn_ix, qn_dec, qn_m1, ck_tt, bd_ss, ix, isB0, isB1, Nat.reduceAdd, Nat.reduceSub, Nat.reduceMul, Nat.zero_add, f_J_search_L182, aw.2 h]
      · simp (disch := omega) only [↓reduceIte, q0, q1, q2, q3, q4, q5, q6, q7, q8, q14, q15, q16, q20, q31, q44, q50, q70, q1000, qn_le_t, qn_le_f, qn_lt_t, qn_lt_f, qn_eq_t, qn_eq_f, qn_add, qn_inb, qn_ix, qn_dec, qn_m1, ck_tt, bd_ss, ix, isB0, isB1, Nat.reduceAdd, Nat.reduceSub, Nat.reduceMul, Nat.zero_add, f_J_search_L182, aw.1 h, af.1, hr, hx]
    rw [e]
    by_cases ha0 : a = 0
    · have e2 : hq a = qn 0 := by unfold hq; rw [if_pos ha0]
      rw [e2]
      have ee : f_J_search_L150 fu rc P (an, nu, ca, ba, mr) J (pz w) (qn i) (qn j) (qn k) (qn 0) (qn 1) = f_J_search_L182 fu rc P (an, nu, ca, ba, mr) J (pz w) (qn i) (qn j) (qn k) (qn 1) := by
        simp (disch := omega) only [↓reduceIte, q0, q1, q2, q3, q4, q5, q6, q7, q8, q14, q15, q16, q20, q31, q44, q50, q70, q1000, qn_le_t, qn_le_f, qn_lt_t, qn_lt_f, qn_eq_t, qn_eq_f, qn_add, qn_inb, qn_ix, qn_dec, qn_m1, ck_tt, bd_ss, ix, isB0, isB1, Nat.reduceAdd, Nat.reduceSub, Nat.reduceMul, Nat.zero_add, f_J_search_L150]
      rw [ee]
      exact ⟨fun h => (fin _ rfl).1 (fun h2 => h ⟨by omega, Or.inl ha0, h2⟩), fun h => (fin _ rfl).2 h.2.2⟩
    · have e2 : hq a = qn 1 := by unfold hq; rw [if_neg ha0]
      rw [e2]
      have c1 := hcd i ⟨by omega, by omega⟩
      have c2 := hcd j ⟨by omega, by omega⟩
      have c3 := c1.2.2
      have c4 := c2.1.2
      by_cases hd : D i < C j
      · have ee : f_J_search_L150 fu rc P (an, nu, ca, ba, mr) J (pz w) (qn i) (qn j) (qn k) (qn 1) (qn 1) = some (qn 0, J) := by
          simp (disch := omega) only [↓reduceIte, q0, q1, q2, q3, q4, q5, q6, q7, q8, q14, q15, q16, q20, q31, q44, q50, q70, q1000, qn_le_t, qn_le_f, qn_lt_t, qn_lt_f, qn_eq_t, qn_eq_f, qn_add, qn_inb, qn_ix, qn_dec, qn_m1, ck_tt, bd_ss, ix, isB0, isB1, Nat.reduceAdd, Nat.reduceSub, Nat.reduceMul, Nat.zero_add, f_J_search_L150, c1.2.1, c2.1.1, f_J_search_L182]
        exact ⟨fun _ => ee, fun h => by omega⟩
      · have ee : f_J_search_L150 fu rc P (an, nu, ca, ba, mr) J (pz w) (qn i) (qn j) (qn k) (qn 1) (qn 1) = f_J_search_L182 fu rc P (an, nu, ca, ba, mr) J (pz w) (qn i) (qn j) (qn k) (qn 1) := by
          simp (disch := omega) only [↓reduceIte, q0, q1, q2, q3, q4, q5, q6, q7, q8, q14, q15, q16, q20, q31, q44, q50, q70, q1000, qn_le_t, qn_le_f, qn_lt_t, qn_lt_f, qn_eq_t, qn_eq_f, qn_add, qn_inb, qn_ix, qn_dec, qn_m1, ck_tt, bd_ss, ix, isB0, isB1, Nat.reduceAdd, Nat.reduceSub, Nat.reduceMul, Nat.zero_add, f_J_search_L150, c1.2.1, c2.1.1]
        rw [ee]
        exact ⟨fun h => (fin _ rfl).1 (fun h2 => h ⟨by omega, Or.inr hd, h2⟩), fun h => (fin _ rfl).2 h.2.2⟩
theorem se_1 (hP : pgr P g) (hg : gok g) (hn : ∀ i, i < 14 → nv i < 8 ∧ nu i = qn (nv i)) (ha : ∀ i, i < 14 → av i < 8 ∧ an i = qn (av i)) (hcd : ∀ i, inBr g i → (ca i = qn (C i) ∧ C i < 70) ∧ (ba i = qn (D i) ∧ D i < 70)) {w : Nat → Nat} (hw : w16 w) {d a b i j k : Nat} (hi : i + a = gp g + ga g) (hj : j + b = gn g) (hi0 : gp g ≤ i) (hj0 : gp g + ga g ≤ j) (hk : k < 8) (hab : 0 < a + b) (J : S_J) :
    (¬ (0 < a ∧ (b = 0 ∨ ¬ D j < C i) ∧ anw g nv av w i) → f_J_search fu (d + 1) J P (an, nu, ca, ba, mr) (pz w) (qn i) (qn j) (qn k) = f_J_search_L150 fu (f_J_search fu d) P (an, nu, ca, ba, mr) J (pz w) (qn i) (qn j) (qn k) (hq a) (hq b)) ∧ (0 < a ∧ (b = 0 ∨ ¬ D j < C i) ∧ anw g nv av w i → ∀ J', (f_J_search fu d (upd J k (qn i)) P (an, nu, ca, ba, mr) (pz (nxw g nv w i)) (qn (i + 1)) (qn j) (qn (k + 1)) = some (qn 0, J') → f_J_search fu (d + 1) J P (an, nu, ca, ba, mr) (pz w) (qn i) (qn j) (qn k) = f_J_search_L150 fu (f_J_search fu d) P (an, nu, ca, ba, mr) J' (pz w) (qn i) (qn j) (qn k) (hq a) (hq b)) ∧ (f_J_search fu d (upd J k (qn i)) P (an, nu, ca, ba, mr) (pz (nxw g nv w i)) (qn (i + 1)) (qn j) (qn (k + 1)) = some (qn 1, J') → f_J_search fu (d + 1) J P (an, nu, ca, ba, mr) (pz w) (qn i) (qn j) (qn k) = some (qn 1, J'))) := by
  have h14 := hg.n14
  have hgd := gn_def g
  have n1 : gst g 1 + gsz g 1 = gp g + ga g := rfl
  have n2 : gst g 2 + gsz g 2 = gn g := rfl
  -- to L46
  have s46 : f_J_search fu (d + 1) J P (an, nu, ca, ba, mr) (pz w) (qn i) (qn j) (qn k) = f_J_search_L46 fu (f_J_search fu d) P (an, nu, ca, ba, mr) J (pz w) (qn i) (qn j) (qn k) (hq a) (hq b) := by
    by_cases ha0 : a = 0
    · have e2 : hq a = qn 0 := by unfold hq; rw [if_pos ha0]
      have e3 : hq b = qn 1 := by unfold hq; rw [if_neg (by omega)]
      rw [e2, e3]
      simp (disch := omega) only [↓reduceIte, q0, q1, q2, q3, q4, q5, q6, q7, q8, q14, q15, q16, q20, q31, q44, q50, q70, q1000, qn_le_t, qn_le_f, qn_lt_t, qn_lt_f, qn_eq_t, qn_eq_f, qn_add, qn_inb, qn_ix, qn_dec, qn_m1, ck_tt, bd_ss, ix, isB0, isB1, Nat.reduceAdd, Nat.reduceSub, Nat.reduceMul, Nat.zero_add, f_J_search, t_P_end hP, n1, f_J_search_L15, n2]
    · have e2 : hq a = qn 1 := by unfold hq; rw [if_neg ha0]
      rw [e2]
      by_cases hb0 : b = 0
      · have e3 : hq b = qn 0 := by unfold hq; rw [if_pos hb0]
        rw [e3]
        simp (disch := omega) only [↓reduceIte, q0, q1, q2, q3, q4, q5, q6, q7, q8, q14, q15, q16, q20, q31, q44, q50, q70, q1000, qn_le_t, qn_le_f, qn_lt_t, qn_lt_f, qn_eq_t, qn_eq_f, qn_add, qn_inb, qn_ix, qn_dec, qn_m1, ck_tt, bd_ss, ix, isB0, isB1, Nat.reduceAdd, Nat.reduceSub, Nat.reduceMul, Nat.zero_add, f_J_search, t_P_end hP, n1, f_J_search_L15, n2]
      · have e3 : hq b = qn 1 := by unfold hq; rw [if_neg hb0]
        rw [e3]
        simp (disch := omega) only [↓reduceIte, q0, q1, q2, q3, q4, q5, q6, q7, q8, q14, q15, q16, q20, q31, q44, q50, q70, q1000, qn_le_t, qn_le_f, qn_lt_t, qn_lt_f, qn_eq_t, qn_eq_f, qn_add, qn_inb, qn_ix, qn_dec, qn_m1, ck_tt, bd_ss, ix, isB0, isB1, Nat.reduceAdd, Nat.reduceSub, Nat.reduceMul, Nat.zero_add, f_J_search, t_P_end hP, n1, f_J_search_L15, n2]
  rw [s46]
  by_cases ha0 : a = 0
  · refine ⟨fun _ => ?_, fun h => by omega⟩
    have e2 : hq a = qn 0 := by unfold hq; rw [if_pos ha0]
    rw [e2]
    simp (disch := omega) only [↓reduceIte, q0, q1, q2, q3, q4, q5, q6, q7, q8, q14, q15, q16, q20, q31, q44, q50, q70, q1000, qn_le_t, qn_le_f, qn_lt_t, qn_lt_f, qn_eq_t, qn_eq_f, qn_add, qn_inb, qn_ix, qn_dec, qn_m1, ck_tt, bd_ss, ix, isB0, isB1, Nat.reduceAdd, Nat.reduceSub, Nat.reduceMul, Nat.zero_add, f_J_search_L46, f_J_search_L90]
  · have e2 : hq a = qn 1 := by unfold hq; rw [if_neg ha0]
    rw [e2]
    have aw := t_J_answersSo (fu := fu) (ca := ca) (ba := ba) (mr := mr) hP hg hn ha hw (i := i) (by omega)
    have af := t_J_after (fu := fu) (an := an) (ca := ca) (ba := ba) (mr := mr) hP hg hn hw (i := i) (by omega)
    have fin : ∀ v8 : Int32, (¬ anw g nv av w i → f_J_search_L90 fu (f_J_search fu d) P (an, nu, ca, ba, mr) J (pz w) (qn i) (qn j) (qn k) (qn 1) v8 (qn 1) = f_J_search_L150 fu (f_J_search fu d) P (an, nu, ca, ba, mr) J (pz w) (qn i) (qn j) (qn k) (qn 1) v8) ∧ (anw g nv av w i → ∀ J', (f_J_search fu d (upd J k (qn i)) P (an, nu, ca, ba, mr) (pz (nxw g nv w i)) (qn (i + 1)) (qn j) (qn (k + 1)) = some (qn 0, J') → f_J_search_L90 fu (f_J_search fu d) P (an, nu, ca, ba, mr) J (pz w) (qn i) (qn j) (qn k) (qn 1) v8 (qn 1) = f_J_search_L150 fu (f_J_search fu d) P (an, nu, ca, ba, mr) J' (pz w) (qn i) (qn j) (qn k) (qn 1) v8) ∧ (f_J_search fu d (upd J k (qn i)) P (an, nu, ca, ba, mr) (pz (nxw g nv w i)) (qn (i + 1)) (qn j) (qn (k + 1)) = some (qn 1, J') → f_J_search_L90 fu (f_J_search fu d) P (an, nu, ca, ba, mr) J (pz w) (qn i) (qn j) (qn k) (qn 1) v8 (qn 1) = some (qn 1, J'))) := by
      intro v8
      refine ⟨fun h => ?_, fun h J' => ⟨fun hr => ?_, fun hr => ?_⟩⟩
      · simp (disch := omega) only [↓reduceIte, q0, q1, q2, q3, q4, q5, q6, q7, q8, q14, q15, q16, q20, q31, q44, q50, q70, q1000, qn_le_t, qn_le_f, qn_lt_t, qn_lt_f, qn_eq_t, qn_eq_f, qn_add, qn_inb, qn_ix, qn_dec, qn_m1, ck_tt, bd_ss, ix, isB0, isB1, Nat.reduceAdd, Nat.reduceSub, Nat.reduceMul, Nat.zero_add, f_J_search_L90, aw.2 h]
      · simp (disch := omega) only [↓reduceIte, q0, q1, q2, q3, q4, q5, q6, q7, q8, q14, q15, q16, q20, q31, q44, q50, q70, q1000, qn_le_t, qn_le_f, qn_lt_t, qn_lt_f, qn_eq_t, qn_eq_f, qn_add, qn_inb, qn_ix, qn_dec, qn_m1, ck_tt, bd_ss, ix, isB0, isB1, Nat.reduceAdd, Nat.reduceSub, Nat.reduceMul, Nat.zero_add, f_J_search_L90, aw.1 h, af.1, hr]
      · simp (disch := omega) only [↓reduceIte, q0, q1, q2, q3, q4, q5, q6, q7, q8, q14, q15, q16, q20, q31, q44, q50, q70, q1000, qn_le_t, qn_le_f, qn_lt_t, qn_lt_f, qn_eq_t, qn_eq_f, qn_add, qn_inb, qn_ix, qn_dec, qn_m1, ck_tt, bd_ss, ix, isB0, isB1, Nat.reduceAdd, Nat.reduceSub, Nat.reduceMul, Nat.zero_add, f_J_search_L90, aw.1 h, af.1, hr]
    by_cases hb0 : b = 0
    · have e3 : hq b = qn 0 := by unfold hq; rw [if_pos hb0]
      rw [e3]
      have ee : f_J_search_L46 fu (f_J_search fu d) P (an, nu, ca, ba, mr) J (pz w) (qn i) (qn j) (qn k) (qn 1) (qn 0) = f_J_search_L90 fu (f_J_search fu d) P (an, nu, ca, ba, mr) J (pz w) (qn i) (qn j) (qn k) (qn 1) (qn 0) (qn 1) := by
        simp (disch := omega) only [↓reduceIte, q0, q1, q2, q3, q4, q5, q6, q7, q8, q14, q15, q16, q20, q31, q44, q50, q70, q1000, qn_le_t, qn_le_f, qn_lt_t, qn_lt_f, qn_eq_t, qn_eq_f, qn_add, qn_inb, qn_ix, qn_dec, qn_m1, ck_tt, bd_ss, ix, isB0, isB1, Nat.reduceAdd, Nat.reduceSub, Nat.reduceMul, Nat.zero_add, f_J_search_L46]
      rw [ee]
      exact ⟨fun h => (fin _).1 (fun h2 => h ⟨by omega, Or.inl hb0, h2⟩), fun h => (fin _).2 h.2.2⟩
    · have e3 : hq b = qn 1 := by unfold hq; rw [if_neg hb0]
      rw [e3]
      have c1 := hcd j ⟨by omega, by omega⟩
      have c2 := hcd i ⟨by omega, by omega⟩
      have c3 := c1.2.2
      have c4 := c2.1.2
      by_cases hd : D j < C i
      · have ee : f_J_search_L46 fu (f_J_search fu d) P (an, nu, ca, ba, mr) J (pz w) (qn i) (qn j) (qn k) (qn 1) (qn 1) = f_J_search_L150 fu (f_J_search fu d) P (an, nu, ca, ba, mr) J (pz w) (qn i) (qn j) (qn k) (qn 1) (qn 1) := by
          simp (disch := omega) only [↓reduceIte, q0, q1, q2, q3, q4, q5, q6, q7, q8, q14, q15, q16, q20, q31, q44, q50, q70, q1000, qn_le_t, qn_le_f, qn_lt_t, qn_lt_f, qn_eq_t, qn_eq_f, qn_add, qn_inb, qn_ix, qn_dec, qn_m1, ck_tt, bd_ss, ix, isB0, isB1, Nat.reduceAdd, Nat.reduceSub, Nat.reduceMul, Nat.zero_add, f_J_search_L46, c1.2.1, c2.1.1, f_J_search_L90]
        exact ⟨fun _ => ee, fun h => by omega⟩
      · have ee : f_J_search_L46 fu (f_J_search fu d) P (an, nu, ca, ba, mr) J (pz w) (qn i) (qn j) (qn k) (qn 1) (qn 1) = f_J_search_L90 fu (f_J_search fu d) P (an, nu, ca, ba, mr) J (pz w) (qn i) (qn j) (qn k) (qn 1) (qn 1) (qn 1) := by
          simp (disch := omega) only [↓reduceIte, q0, q1, q2, q3, q4, q5, q6, q7, q8, q14, q15, q16, q20, q31, q44, q50, q70, q1000, qn_le_t, qn_le_f, qn_lt_t, qn_lt_f, qn_eq_t, qn_eq_f, qn_add, qn_inb, qn_ix, qn_dec, qn_m1, ck_tt, bd_ss, ix, isB0, isB1, Nat.reduceAdd, Nat.reduceSub, Nat.reduceMul, Nat.zero_add, f_J_search_L46, c1.2.1, c2.1.1]
        rw [ee]
        exact ⟨fun h => (fin _).1 (fun h2 => h ⟨by omega, Or.inr hd, h2⟩), fun h => (fin _).2 h.2.2⟩
end SRCH
