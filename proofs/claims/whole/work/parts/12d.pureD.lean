def gprom (g : pg) (b : Nat) : pg :=
  (if b = 1 then (gp g + 1, ga g - 1, gb g) else (gp g + 1, ga g, gb g - 1),
   fun i => if i = gp g then gk g (gst g b) else if gp g < i ∧ i ≤ gst g b then gk g (i - 1) else gk g i,
   fun i => if i = gp g then gc g (gst g b) else if gp g < i ∧ i ≤ gst g b then gc g (i - 1) else gc g i,
   fun i => let w := gv g (if i = gp g then gst g b else if gp g < i ∧ i ≤ gst g b then i - 1 else i)
     if w = 8 + gst g b then 8 + gp g else if 8 + gp g ≤ w ∧ w < 8 + gst g b then w + 1 else w)
def pmr (f : Nat → Int32) (s t : Nat) (i n : Nat) : Nat → Int32 := fun j => if i ≤ j ∧ j < n then (if f j - qn 8 = qn s then qn (8 + t) else if f j - qn 8 < qn t then f j else if qn s ≤ f j - qn 8 then f j else f j + qn 1) else f j
theorem pmr_end (f : Nat → Int32) (s t i n : Nat) (h : n ≤ i) : pmr f s t i n = f := by
  funext j; unfold pmr; rw [if_neg (by omega)]
theorem pmr_step (f : Nat → Int32) (s t i n : Nat) (hi : i < n) (x : Int32) (hx : x = (if f i - qn 8 = qn s then qn (8 + t) else if f i - qn 8 < qn t then f i else if qn s ≤ f i - qn 8 then f i else f i + qn 1)) : pmr (upd f i x) s t (i + 1) n = pmr f s t i n := by
  funext j; unfold pmr
  by_cases hj : j = i
  · subst hj; rw [if_neg (by omega), upd_at, if_pos (by omega), hx]
  · rw [upd_ne _ _ _ _ hj]
    by_cases h1 : i ≤ j ∧ j < n
    · rw [if_pos h1, if_pos (by omega)]
    · rw [if_neg h1, if_neg (by omega)]
theorem upd_self (f : Nat → Int32) (i : Nat) : upd f i (f i) = f := by
  funext j; unfold upd; split
  · rename_i h; rw [h]
  · rfl
theorem t_P_promote_L102 (fu : Nat) (s t : Nat) : ∀ (d n i N : Nat) (P : S_P), d < n → N ≤ i + d → N ≤ 14 → i < 100 → f_P_promote_L102 fu n P (qn s) (qn t) (qn N) (qn i) = some (qn 1, (P.1, P.2.1, P.2.2.1, pmr P.2.2.2 s t i N)) := by
  intro d
  induction d with
  | zero =>
    intro n i N P hn hd h14 hi
    obtain ⟨m, rfl⟩ : ∃ m, n = m + 1 := ⟨n - 1, by omega⟩
    simp (disch := omega) only [q0, q1, q2, q3, q4, q5, q6, q7, q8, q14, q15, q16, q20, q31, q44, q50, q70, q1000, qn_le, qn_lt, qn_eq, qn_add, qn_inb, qn_ix, qn_dec, qn_m1, ck_tt, bd_ss, ix, isB0, isB1, if_pos, if_neg, if_true, if_false, Nat.reduceAdd, Nat.reduceLeDiff, Nat.reduceSub, Nat.reduceEqDiff, Nat.reduceMul, Nat.reduceLT, Nat.zero_add, not_true, not_false_iff, f_P_promote_L102, pmr_end]
  | succ d ih =>
    intro n i N P hn hd h14 hi
    obtain ⟨m, rfl⟩ : ∃ m, n = m + 1 := ⟨n - 1, by omega⟩
    by_cases hst : N ≤ i
    · simp (disch := omega) only [q0, q1, q2, q3, q4, q5, q6, q7, q8, q14, q15, q16, q20, q31, q44, q50, q70, q1000, qn_le, qn_lt, qn_eq, qn_add, qn_inb, qn_ix, qn_dec, qn_m1, ck_tt, bd_ss, ix, isB0, isB1, if_pos, if_neg, if_true, if_false, Nat.reduceAdd, Nat.reduceLeDiff, Nat.reduceSub, Nat.reduceEqDiff, Nat.reduceMul, Nat.reduceLT, Nat.zero_add, not_true, not_false_iff, f_P_promote_L102, pmr_end]
    · by_cases h1 : P.2.2.2 i - qn 8 = qn s
      · simp (disch := omega) only [q0, q1, q2, q3, q4, q5, q6, q7, q8, q14, q15, q16, q20, q31, q44, q50, q70, q1000, qn_le, qn_lt, qn_eq, qn_add, qn_inb, qn_ix, qn_dec, qn_m1, ck_tt, bd_ss, ix, isB0, isB1, if_pos, if_neg, if_true, if_false, Nat.reduceAdd, Nat.reduceLeDiff, Nat.reduceSub, Nat.reduceEqDiff, Nat.reduceMul, Nat.reduceLT, Nat.zero_add, not_true, not_false_iff, f_P_promote_L102, h1, ih]
        rw [pmr_step _ _ _ _ _ (by omega) _ (by rw [if_pos h1])]
      · by_cases h2 : P.2.2.2 i - qn 8 < qn t
        · simp (disch := omega) only [q0, q1, q2, q3, q4, q5, q6, q7, q8, q14, q15, q16, q20, q31, q44, q50, q70, q1000, qn_le, qn_lt, qn_eq, qn_add, qn_inb, qn_ix, qn_dec, qn_m1, ck_tt, bd_ss, ix, isB0, isB1, if_pos, if_neg, if_true, if_false, Nat.reduceAdd, Nat.reduceLeDiff, Nat.reduceSub, Nat.reduceEqDiff, Nat.reduceMul, Nat.reduceLT, Nat.zero_add, not_true, not_false_iff, f_P_promote_L102, h1, h2, ih]
          have := pmr_step P.2.2.2 s t i N (by omega) (P.2.2.2 i) (by rw [if_neg h1, if_pos h2])
          rw [upd_self] at this
          rw [this]
        · by_cases h3 : qn s ≤ P.2.2.2 i - qn 8
          · simp (disch := omega) only [q0, q1, q2, q3, q4, q5, q6, q7, q8, q14, q15, q16, q20, q31, q44, q50, q70, q1000, qn_le, qn_lt, qn_eq, qn_add, qn_inb, qn_ix, qn_dec, qn_m1, ck_tt, bd_ss, ix, isB0, isB1, if_pos, if_neg, if_true, if_false, Nat.reduceAdd, Nat.reduceLeDiff, Nat.reduceSub, Nat.reduceEqDiff, Nat.reduceMul, Nat.reduceLT, Nat.zero_add, not_true, not_false_iff, f_P_promote_L102, h1, h2, h3, ih]
            have := pmr_step P.2.2.2 s t i N (by omega) (P.2.2.2 i) (by rw [if_neg h1, if_neg h2, if_pos h3])
            rw [upd_self] at this
            rw [this]
          · simp (disch := omega) only [q0, q1, q2, q3, q4, q5, q6, q7, q8, q14, q15, q16, q20, q31, q44, q50, q70, q1000, qn_le, qn_lt, qn_eq, qn_add, qn_inb, qn_ix, qn_dec, qn_m1, ck_tt, bd_ss, ix, isB0, isB1, if_pos, if_neg, if_true, if_false, Nat.reduceAdd, Nat.reduceLeDiff, Nat.reduceSub, Nat.reduceEqDiff, Nat.reduceMul, Nat.reduceLT, Nat.zero_add, not_true, not_false_iff, f_P_promote_L102, h1, h2, h3, ih]
            rw [pmr_step P.2.2.2 s t i N (by omega) _ (by rw [if_neg h1, if_neg h2, if_neg h3])]
theorem qn_sub_toInt {w k : Nat} (hw : w < 1000) (hk : k < 1000) : (qn w - qn k).toInt = (w : Int) - k := by
  rw [Int32.toInt_sub, qn_toInt (by omega), qn_toInt (by omega)]
  apply Int.bmod_eq_of_le <;> simp <;> omega
theorem pmr_at {w s t : Nat} (hw : w < 100) (hs : s < 100) (ht : t < 100) (hts : t ≤ s) : (if qn w - qn 8 = qn s then qn (8 + t) else if qn w - qn 8 < qn t then qn w else if qn s ≤ qn w - qn 8 then qn w else qn w + qn 1) = qn (if w = 8 + s then 8 + t else if 8 + t ≤ w ∧ w < 8 + s then w + 1 else w) := by
  have e1 : (qn w - qn 8 = qn s) ↔ w = 8 + s := by
    rw [← Int32.toInt_inj, qn_sub_toInt (by omega) (by omega), qn_toInt (by omega)]; omega
  have e2 : (qn w - qn 8 < qn t) ↔ w < 8 + t := by
    rw [Int32.lt_iff_toInt_lt, qn_sub_toInt (by omega) (by omega), qn_toInt (by omega)]; omega
  have e3 : (qn s ≤ qn w - qn 8) ↔ 8 + s ≤ w := by
    rw [Int32.le_iff_toInt_le, qn_sub_toInt (by omega) (by omega), qn_toInt (by omega)]; omega
  by_cases h1 : w = 8 + s
  · rw [if_pos (e1.2 h1), if_pos h1]
  · rw [if_neg (fun h => h1 (e1.1 h)), if_neg h1]
    by_cases h2 : w < 8 + t
    · rw [if_pos (e2.2 h2), if_neg (by omega)]
    · rw [if_neg (fun h => h2 (e2.1 h))]
      by_cases h3 : 8 + s ≤ w
      · rw [if_pos (e3.2 h3), if_neg (by omega)]
      · rw [if_neg (fun h => h3 (e3.1 h)), if_pos (by omega), qn_add]
theorem gn_gprom {g : pg} {b : Nat} (hb : b = 1 ∨ b = 2) (hs : 0 < gsz g b) : gn (gprom g b) = gn g := by
  have hd := gn_def g
  rcases hb with rfl | rfl
  · have h1 : 0 < ga g := hs
    show gp g + 1 + (ga g - 1) + gb g = _; omega
  · have h1 : 0 < gb g := hs
    show gp g + 1 + ga g + (gb g - 1) = _; omega
theorem gst_lt_n {g : pg} {b : Nat} (hb : b = 1 ∨ b = 2) (hs : 0 < gsz g b) : gp g ≤ gst g b ∧ gst g b < gn g := by
  have hd := gn_def g
  rcases hb with rfl | rfl
  · have h1 : 0 < ga g := hs
    have : gst g 1 = gp g := rfl
    omega
  · have h1 : 0 < gb g := hs
    have : gst g 2 = gp g + ga g := rfl
    omega
theorem prom_sizes {z : Nat → Int32} {g : pg} (h0 : z 0 = qn (gp g)) (h1 : z 1 = qn (ga g)) (h2 : z 2 = qn (gb g)) {b : Nat} (hb : b = 1 ∨ b = 2) (x y : Int32) (hx : x = qn (gsz g b - 1)) (hy : y = qn (gp g + 1)) :
    upd (upd z b x) 0 y 0 = qn (gp (gprom g b)) ∧ upd (upd z b x) 0 y 1 = qn (ga (gprom g b)) ∧ upd (upd z b x) 0 y 2 = qn (gb (gprom g b)) := by
  subst hx; subst hy
  rcases hb with rfl | rfl
  · exact ⟨rfl, rfl, h2⟩
  · exact ⟨rfl, h1, rfl⟩
theorem t_P_promote {fu : Nat} (hf : 20000 ≤ fu) {P : S_P} {g : pg} (h : pgr P g) (hg : gok g) {b : Nat} (hb : b = 1 ∨ b = 2) : (¬ (0 < gsz g b ∧ gp g < 6) → f_P_promote fu P (qn b) = some (qn 0, P)) ∧ (0 < gsz g b ∧ gp g < 6 → ∃ P', f_P_promote fu P (qn b) = some (qn 1, P') ∧ pgr P' (gprom g b)) := by
  have hb3 : b < 3 := by omega
  have h4 := gsz_lt hg b
  have h14 := hg.n14
  have hr := t_P_hasRoom (fu := fu) h hg (b := 0) (by omega)
  have h6 := hg.1
  refine ⟨fun hx => ?_, fun hx => ?_⟩
  · by_cases hc : gsz g b = 0
    · simp (disch := omega) only [q0, q1, q2, q3, q4, q5, q6, q7, q8, q14, q15, q16, q20, q31, q44, q50, q70, q1000, qn_le, qn_lt, qn_eq, qn_add, qn_inb, qn_ix, qn_dec, qn_m1, ck_tt, bd_ss, ix, isB0, isB1, if_pos, if_neg, if_true, if_false, Nat.reduceAdd, Nat.reduceLeDiff, Nat.reduceSub, Nat.reduceEqDiff, Nat.reduceMul, Nat.reduceLT, Nat.zero_add, not_true, not_false_iff, f_P_promote, h.sz hb3]
    · have : ¬ grm g 0 := by intro h7; exact hx ⟨by omega, h7⟩
      simp (disch := omega) only [q0, q1, q2, q3, q4, q5, q6, q7, q8, q14, q15, q16, q20, q31, q44, q50, q70, q1000, qn_le, qn_lt, qn_eq, qn_add, qn_inb, qn_ix, qn_dec, qn_m1, ck_tt, bd_ss, ix, isB0, isB1, if_pos, if_neg, if_true, if_false, Nat.reduceAdd, Nat.reduceLeDiff, Nat.reduceSub, Nat.reduceEqDiff, Nat.reduceMul, Nat.reduceLT, Nat.zero_add, not_true, not_false_iff, f_P_promote, h.sz hb3, hr.2 this]
  · have hrm : grm g 0 := hx.2
    have hgs := gst_lt_n hb hx.1
    have h0b : ¬ (0 = b) := by omega
    have hz := prom_sizes h.1 h.2.1 h.2.2.1 hb (qn (gsz g b - 1)) (qn (gp g + 1)) rfl rfl
    have hN : upd (upd P.1 b (qn (gsz g b - 1))) 0 (qn (gp g + 1)) 0 + upd (upd P.1 b (qn (gsz g b - 1))) 0 (qn (gp g + 1)) 1 + upd (upd P.1 b (qn (gsz g b - 1))) 0 (qn (gp g + 1)) 2 = qn (gn g) := by
      rw [hz.1, hz.2.1, hz.2.2, qn_add, qn_add, ← gn_gprom hb hx.1]; rfl
    have hS : ∀ x : (Nat → Int32) × (Nat → Int32) × (Nat → Int32), f_P_size fu (upd (upd P.1 b (qn (gsz g b - 1))) 0 (qn (gp g + 1)), x) = some (qn (gn g)) := by
      intro x
      simp (disch := omega) only [q0, q1, q2, q3, q4, q5, q6, q7, q8, q14, q15, q16, q20, q31, q44, q50, q70, q1000, qn_le, qn_lt, qn_eq, qn_add, qn_inb, qn_ix, qn_dec, qn_m1, ck_tt, bd_ss, ix, isB0, isB1, if_pos, if_neg, if_true, if_false, Nat.reduceAdd, Nat.reduceLeDiff, Nat.reduceSub, Nat.reduceEqDiff, Nat.reduceMul, Nat.reduceLT, Nat.zero_add, not_true, not_false_iff, f_P_size, hN]
    have h1 := (h.2.2.2 _ hgs.2)
    refine ⟨_, by simp (disch := omega) only [q0, q1, q2, q3, q4, q5, q6, q7, q8, q14, q15, q16, q20, q31, q44, q50, q70, q1000, qn_le, qn_lt, qn_eq, qn_add, qn_inb, qn_ix, qn_dec, qn_m1, ck_tt, bd_ss, ix, isB0, isB1, if_pos, if_neg, if_true, if_false, Nat.reduceAdd, Nat.reduceLeDiff, Nat.reduceSub, Nat.reduceEqDiff, Nat.reduceMul, Nat.reduceLT, Nat.zero_add, not_true, not_false_iff, f_P_promote, h.sz hb3, h.1, hr.1 hrm, t_P_start h hb3, t_P_shiftUp hf, t_P_put, qn_sub, upd_ne, ne_eq, hS, t_P_promote_L102 fu (gst g b) (gp g) 14 fu 0 (gn g)]; rfl, ?_⟩
    refine ⟨hz.1, hz.2.1, hz.2.2, ?_⟩
    intro i hi
    rw [gn_gprom hb hx.1] at hi
    generalize hj : (if i = gp g then gst g b else if gp g < i ∧ i ≤ gst g b then i - 1 else i) = j at *
    have hjn : j < gn g := by
      rw [← hj]; split
      · omega
      · split <;> omega
    have key : ∀ (f : Nat → Int32), upd (shu f (gp g) (gst g b)) (gp g) (f (gst g b)) i = f j := by
      intro f
      rw [← hj]
      by_cases h7 : i = gp g
      · rw [if_pos h7, h7, upd_at]
      · rw [if_neg h7, upd_ne _ _ _ _ h7]
        unfold shu
        split <;> rfl
    have h2 := h.2.2.2 j hjn
    have h3 := hg.v22 hjn
    have e1 : gk (gprom g b) i = gk g j := by
      rw [← hj]; show (if i = gp g then gk g (gst g b) else if gp g < i ∧ i ≤ gst g b then gk g (i - 1) else gk g i) = _
      split
      · rfl
      · split <;> rfl
    have e2 : gc (gprom g b) i = gc g j := by
      rw [← hj]; show (if i = gp g then gc g (gst g b) else if gp g < i ∧ i ≤ gst g b then gc g (i - 1) else gc g i) = _
      split
      · rfl
      · split <;> rfl
    have e3 : gv (gprom g b) i = if gv g j = 8 + gst g b then 8 + gp g else if 8 + gp g ≤ gv g j ∧ gv g j < 8 + gst g b then gv g j + 1 else gv g j := by
      rw [← hj]; rfl
    rw [e1, e2, e3]
    refine ⟨(key _).trans h2.1, (key _).trans h2.2.1, ?_⟩
    show pmr _ _ _ _ _ i = _
    unfold pmr
    rw [if_pos (by omega), key, h2.2.2]
    exact pmr_at (by omega) (by omega) (by omega) hgs.1
