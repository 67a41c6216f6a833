theorem qn_neg1 : (qn 0 + -qn 1 : Int32) < qn 0 := by
  rw [Int32.lt_iff_toInt_lt]; decide
theorem t_R_tried_L142 {fu : Nat} (hf : 20000 ≤ fu) {k4 : S_R → Int32 → Int32 → Int32 → Option (S_R)} {th : Int32} {sz kd ce ar : Nat → Int32} {r : S_R5} {g : pg} (h : pgr (sz, kd, ce, ar) g) (hg : gok g) {b x : Nat} (hb : b < 3) (hx : x < gkn g b) (t k c : Int32) : ∀ (d n : Nat) (v : Int32), d < n → d ≤ gst g b + gsz g b → (d ≤ gka g b x → v = qn (8 + gka g b x)) → f_R_tried_L142 fu k4 n (th, sz, kd, ce, ar, r) (qn b) t k c (qn (gst g b + gsz g b)) v (qn x) (qn d + -qn 1) = f_R_tried_L191 fu k4 (th, sz, kd, ce, ar, r) (qn b) t k c (qn (8 + gka g b x)) := by
  have h14 := hg.n14
  have hle := gend_le g hb
  have hka := gka_may hb hx
  have hx14 : x ≤ 14 := by
    have : gkn g b ≤ gn g := by
      unfold gkn gsz gn; repeat' split
      all_goals omega
    omega
  intro d
  induction d with
  | zero =>
    intro n v hn hd hv
    obtain ⟨m, rfl⟩ : ∃ m, n = m + 1 := ⟨n - 1, by omega⟩
    rw [hv (by omega)]
    simp (disch := omega) only [q0, q1, q2, q3, q4, q5, q6, q7, q8, q14, q15, q16, q20, q31, q44, q50, q70, q1000, qn_le, qn_lt, qn_eq, qn_add, qn_inb, qn_ix, qn_dec, qn_m1, ck_tt, bd_ss, ix, isB0, isB1, if_pos, if_neg, if_true, if_false, Nat.reduceAdd, Nat.reduceLeDiff, Nat.reduceSub, Nat.reduceEqDiff, Nat.reduceMul, Nat.reduceLT, Nat.zero_add, not_true, not_false_iff, f_R_tried_L142, qn_neg1]
  | succ d ih =>
    intro n v hn hd hv
    obtain ⟨m, rfl⟩ : ∃ m, n = m + 1 := ⟨n - 1, by omega⟩
    have hm := t_R_mayStand (fu := fu) (th := th) (r := r) h hg (i := d) (b := b) (own := gst g b + gsz g b) (by omega) hb (by omega)
    have e : qn (d + 1) + -qn 1 = qn d := by rw [qn_dec (by omega), Nat.add_sub_cancel]
    rw [e]
    by_cases hmx : gmay g d b (gst g b + gsz g b)
    · have hbf := t_R_before hf (th := th) (r := r) h hg (b := b) (i := d) hb (by omega)
      have hcl : gct g b d ≤ 14 := by
        unfold gct gsz; repeat' split
        all_goals first | omega | (have := hg.1; have := hg.2.1; have := hg.2.2.1; omega)
      by_cases heq : gct g b d = x
      · have hdk : d = gka g b x := gct_inj hb hmx hka.1 (heq.trans hka.2.symm)
        have h1 := ih m (qn (8 + d)) (by omega) (by omega) (fun _ => by rw [hdk])
        have h2 : qn (gct g b d) = qn x := by rw [heq]
        simp (disch := omega) only [q0, q1, q2, q3, q4, q5, q6, q7, q8, q14, q15, q16, q20, q31, q44, q50, q70, q1000, qn_le, qn_lt, qn_eq, qn_add, qn_inb, qn_ix, qn_dec, qn_m1, ck_tt, bd_ss, ix, isB0, isB1, if_pos, if_neg, if_true, if_false, Nat.reduceAdd, Nat.reduceLeDiff, Nat.reduceSub, Nat.reduceEqDiff, Nat.reduceMul, Nat.reduceLT, Nat.zero_add, not_true, not_false_iff, f_R_tried_L142, hm.1 hmx, hbf, h2]
        exact h1
      · have h1 := ih m v (by omega) (by omega) (fun hle2 => hv (by
          by_cases hdk : d = gka g b x
          · rw [hdk] at heq; exact absurd hka.2 heq
          · omega))
        simp (disch := omega) only [q0, q1, q2, q3, q4, q5, q6, q7, q8, q14, q15, q16, q20, q31, q44, q50, q70, q1000, qn_le, qn_lt, qn_eq, qn_add, qn_inb, qn_ix, qn_dec, qn_m1, ck_tt, bd_ss, ix, isB0, isB1, if_pos, if_neg, if_true, if_false, Nat.reduceAdd, Nat.reduceLeDiff, Nat.reduceSub, Nat.reduceEqDiff, Nat.reduceMul, Nat.reduceLT, Nat.zero_add, not_true, not_false_iff, f_R_tried_L142, hm.1 hmx, hbf]
        exact h1
    · have h1 := ih m v (by omega) (by omega) (fun hle2 => hv (by
          by_cases hdk : d = gka g b x
          · rw [hdk] at hmx; exact absurd hka.1 hmx
          · omega))
      simp (disch := omega) only [q0, q1, q2, q3, q4, q5, q6, q7, q8, q14, q15, q16, q20, q31, q44, q50, q70, q1000, qn_le, qn_lt, qn_eq, qn_add, qn_inb, qn_ix, qn_dec, qn_m1, ck_tt, bd_ss, ix, isB0, isB1, if_pos, if_neg, if_true, if_false, Nat.reduceAdd, Nat.reduceLeDiff, Nat.reduceSub, Nat.reduceEqDiff, Nat.reduceMul, Nat.reduceLT, Nat.zero_add, not_true, not_false_iff, f_R_tried_L142, hm.2 hmx]
      exact h1
