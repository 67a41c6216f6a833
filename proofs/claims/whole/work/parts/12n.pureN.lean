def hx33 (y : Int64) : Nat := (y.toUInt64 >>> ((33 : Int32).toInt64.toUInt64 &&& Int64.toUInt64 63)).toNat
theorem hx33_lt (y : Int64) : hx33 y < 2147483648 := by
  unfold hx33
  have e : ((33 : Int32).toInt64.toUInt64 &&& Int64.toUInt64 63) = 33 := by decide
  rw [e, UInt64.toNat_shiftRight]
  have h := y.toUInt64.toNat_lt
  have e2 : UInt64.toNat 33 % 64 = 33 := by decide
  rw [e2, Nat.shiftRight_eq_div_pow]
  omega
theorem i64_of (u : UInt64) (h : u.toNat < 2147483648) : u.toInt64.toInt = (u.toNat : Int) := by
  have : u.toInt64.toInt = (u.toBitVec).toInt := rfl
  rw [this, BitVec.toInt_eq_toNat_of_lt]
  · rfl
  · have : u.toBitVec.toNat = u.toNat := rfl
    rw [this]; omega
theorem hx33_64 (y : Int64) : ((y.toUInt64 >>> ((33 : Int32).toInt64.toUInt64 &&& Int64.toUInt64 63)).toInt64).toInt = (hx33 y : Int) := i64_of _ (hx33_lt y)
theorem i32_of {z : Int64} {X : Nat} (h : z.toInt = (X : Int)) (hX : X < 2147483648) : z.toInt32 = qn X := by
  apply Int32.toInt_inj.mp
  rw [qn_toInt hX, Int64.toInt_toInt32, h]
  apply Int.bmod_eq_of_le <;> simp <;> omega
theorem qn_64 {b : Nat} (hb : b < 2147483648) : (qn b).toInt64.toInt = (b : Int) := by
  rw [Int32.toInt_toInt64, qn_toInt hb]
theorem mod64 {z n : Int64} {X b : Nat} (h : z.toInt = (X : Int)) (hX : X < 2147483648) (hn : n.toInt = (b : Int)) (hb : 0 < b) (hb2 : b < 2147483648) : (z - z / n * n).toInt32 = qn (X % b) := by
  have h1 : X % b < 2147483648 := Nat.lt_of_le_of_lt (Nat.mod_le _ _) hX
  apply i32_of _ h1
  have hd : (z / n).toInt = ((X / b : Nat) : Int) := by
    rw [Int64.toInt_div_of_ne_right _ _ (by
      intro h2
      have h3 := congrArg Int64.toInt h2
      have h4 : Int64.toInt (-1) = -1 := by decide
      rw [hn, h4] at h3; omega), h, hn]
    exact (Int.ofNat_tdiv X b).symm
  have hle : X / b * b ≤ X := Nat.div_mul_le_self X b
  have hm : (z / n * n).toInt = ((X / b * b : Nat) : Int) := by
    rw [Int64.toInt_mul, hd, hn, ← Int.natCast_mul]
    generalize X / b * b = Y at hle
    apply Int.bmod_eq_of_le <;> simp <;> omega
  rw [Int64.toInt_sub, h, hm]
  have e : (X : Int) - ((X / b * b : Nat) : Int) = ((X % b : Nat) : Int) := by
    have := Nat.div_add_mod X b
    rw [Nat.mul_comm] at this
    omega
  rw [e]
  apply Int.bmod_eq_of_le <;> simp <;> omega
def lcg (a c D : Int64) : Int64 := (D * a) + c
def LA : Int64 := 6364136223846793005
def LC : Int64 := 1442695040888963407
theorem t_D_below {fu : Nat} (D : Int64) {b : Nat} (hb : 0 < b) (hb2 : b < 2147483648) : f_D_below fu D (qn b) = some (qn (hx33 (lcg LA LC D) % b), lcg LA LC D) := by
  have h0 : ¬ qn b ≤ qn 0 := by rw [qn_le hb2 (by omega)]; omega
  have e : ∀ y : Int64, ((y.toUInt64 >>> ((33 : Int32).toInt64.toUInt64 &&& Int64.toUInt64 63)).toInt64).toInt32 = qn (hx33 y) := fun y => i32_of (hx33_64 y) (hx33_lt y)
  unfold f_D_below
  rw [q0, if_neg h0, nz_qn hb hb2, ck_tt]
  show some ((((lcg LA LC D).toUInt64 >>> ((33 : Int32).toInt64.toUInt64 &&& Int64.toUInt64 63)).toInt64).toInt32 - (((lcg LA LC D).toUInt64 >>> ((33 : Int32).toInt64.toUInt64 &&& Int64.toUInt64 63)).toInt64).toInt32 / qn b * qn b, lcg LA LC D) = _
  rw [e, qn_mod (hx33_lt _) hb2 hb]
theorem t_R_drawn {fu : Nat} {th fl : Int32} {sz kd ce ar ks kp ho : Nat → Int32} {D : Int64} {r : (Nat → Int32) × S_R11} {b : Nat} (hb : 0 < b) (hb2 : b < 2147483648) : f_R_drawn fu (th, sz, kd, ce, ar, ks, kp, fl, D, ho, r) (qn b) = some (qn (hx33 (lcg LA LC D) % b), (th, sz, kd, ce, ar, ks, kp, fl, lcg LA LC D, ho, r)) := by
  have h0 : nzL (qn b).toInt64 = true := by
    unfold nzL; apply decide_eq_true
    intro h; have := congrArg Int64.toInt h; rw [qn_64 hb2] at this
    have e : Int64.toInt 0 = 0 := by decide
    rw [e] at this; omega
  unfold f_R_drawn
  rw [h0, ck_tt]
  show some ((((lcg LA LC D).toUInt64 >>> ((33 : Int32).toInt64.toUInt64 &&& Int64.toUInt64 63)).toInt64 - ((lcg LA LC D).toUInt64 >>> ((33 : Int32).toInt64.toUInt64 &&& Int64.toUInt64 63)).toInt64 / (qn b).toInt64 * (qn b).toInt64).toInt32, (th, sz, kd, ce, ar, ks, kp, fl, lcg LA LC D, ho, r)) = _
  rw [mod64 (hx33_64 _) (hx33_lt _) (qn_64 hb2) hb hb2]
theorem t_H_append {fu : Nat} (hf : 20000 ≤ fu) {P Q : S_P} {x : S_T × S_D × Int32 × Int32} {g : pg} (h : pgr P g) (hg : gok g) {b k c v : Nat} (hb : b < 3) (hr : grm g b) (hk : k ≤ 6) (hc : c ≤ 2) (hv : v < 8 ∨ gmay g (v - 8) b (gst g b + gsz g b)) : ∃ P' Q', (gvalid (gadd g b k c v) → f_H_appendIfValid fu (P, Q, x) (qn b) (qn k) (qn c) (qn v) = some (qn 1, (P', Q', x)) ∧ pgr P' (gadd g b k c v)) ∧ (¬ gvalid (gadd g b k c v) → f_H_appendIfValid fu (P, Q, x) (qn b) (qn k) (qn c) (qn v) = some (qn 0, (P, Q', x))) := by
  obtain ⟨Q1, e1, r1⟩ := t_P_copyFrom hf (P := Q) h hg
  obtain ⟨Q2, e2, r2⟩ := t_P_append hf r1 hg (k := k) (c := c) (v := v) hb hr
  have hg2 := gadd_ok hg hb hr hk hc hv
  have e3 := t_P_isValid hf r2 hg2
  obtain ⟨P3, e4, r4⟩ := t_P_copyFrom hf (P := P) r2 hg2
  refine ⟨P3, Q2, fun hx => ⟨?_, r4⟩, fun hx => ?_⟩
  · simp (disch := omega) only [q0, q1, q2, q3, q4, q5, q6, q7, q8, q14, q15, q16, q20, q31, q44, q50, q70, q1000, qn_le, qn_lt, qn_eq, qn_add, qn_inb, qn_ix, qn_dec, qn_m1, ck_tt, bd_ss, ix, isB0, isB1, if_pos, if_neg, if_true, if_false, Nat.reduceAdd, Nat.reduceLeDiff, Nat.reduceSub, Nat.reduceEqDiff, Nat.reduceMul, Nat.reduceLT, Nat.zero_add, not_true, not_false_iff, f_H_appendIfValid, e1, e2, e3.1 hx, e4]
  · simp (disch := omega) only [q0, q1, q2, q3, q4, q5, q6, q7, q8, q14, q15, q16, q20, q31, q44, q50, q70, q1000, qn_le, qn_lt, qn_eq, qn_add, qn_inb, qn_ix, qn_dec, qn_m1, ck_tt, bd_ss, ix, isB0, isB1, if_pos, if_neg, if_true, if_false, Nat.reduceAdd, Nat.reduceLeDiff, Nat.reduceSub, Nat.reduceEqDiff, Nat.reduceMul, Nat.reduceLT, Nat.zero_add, not_true, not_false_iff, f_H_appendIfValid, e1, e2, e3.2 hx]
theorem t_R_try {fu : Nat} (hf : 20000 ≤ fu) {th fl : Int32} {sz kd ce ar ks kp ho op : Nat → Int32} {gg : Int64} {r : S_R11} {g : pg} (h : pgr (sz, kd, ce, ar) g) (hg : gok g) {b k c v : Nat} (hb : b < 3) (hr : grm g b) (hk : k ≤ 6) (hc : c ≤ 2) (hv : v < 8 ∨ gmay g (v - 8) b (gst g b + gsz g b)) : ∃ ks' kp' sz' kd' ce' ar' op' sz'' kd'' ce'' ar'', f_R_keep fu (th, sz, kd, ce, ar, ks, kp, fl, gg, ho, op, r) = some (th, sz, kd, ce, ar, ks', kp', fl, gg, ho, op, r) ∧ f_R_insert fu (th, sz, kd, ce, ar, ks', kp', fl, gg, ho, op, r) (qn b) (qn k) (qn c) (qn v) = some (qn (gst g b + gsz g b), (th, sz', kd', ce', ar', ks', kp', fl, gg, ho, op, r)) ∧ pgr (sz', kd', ce', ar') (gadd g b k c v) ∧ (gvalid (gadd g b k c v) → f_R_valid fu (th, sz', kd', ce', ar', ks', kp', fl, gg, ho, op, r) = some (qn 1, (th, sz', kd', ce', ar', ks', kp', fl, gg, ho, op', r))) ∧ (¬ gvalid (gadd g b k c v) → f_R_valid fu (th, sz', kd', ce', ar', ks', kp', fl, gg, ho, op, r) = some (qn 0, (th, sz', kd', ce', ar', ks', kp', fl, gg, ho, op', r))) ∧ f_R_putBack fu (th, sz', kd', ce', ar', ks', kp', fl, gg, ho, op', r) = some (th, sz'', kd'', ce'', ar'', ks', kp', fl, gg, ho, op', r) ∧ pgr (sz'', kd'', ce'', ar'') g := by
  obtain ⟨ks', kp', e1, k1⟩ := t_R_keep hf (th := th) (ks := ks) (kp := kp) (r := (fl, gg, ho, op, r)) h hg
  obtain ⟨sz', kd', ce', ar', e2, r2⟩ := t_R_insert hf (th := th) (r := (ks', kp', fl, gg, ho, op, r)) h hg (k := k) (c := c) (v := v) hb hr
  have hg2 := gadd_ok hg hb hr hk hc hv
  obtain ⟨op', e3, e4⟩ := t_R_valid hf (th := th) (fl := fl) (ks := ks') (kp := kp') (ho := ho) (op := op) (gg := gg) (r := r) r2 hg2
  obtain ⟨sz'', kd'', ce'', ar'', e5, r5⟩ := t_R_putBack hf (th := th) (sz := sz') (kd := kd') (ce := ce') (ar := ar') (r := (fl, gg, ho, op', r)) k1 hg
  exact ⟨ks', kp', sz', kd', ce', ar', op', sz'', kd'', ce'', ar'', e1, e2, r2, e3, e4, e5, r5⟩
