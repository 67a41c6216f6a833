def obs : Nat → Nat → List Bool
  | 0, _ => []
  | m + 1, o => decide (o / 2 ^ m % 2 = 1) :: obs m o
theorem obs_len : ∀ (m o : Nat), (obs m o).length = m := by
  intro m; induction m with
  | zero => intro o; rfl
  | succ m ih => intro o; simp [obs, ih]
theorem obs_low : ∀ (m q o : Nat), obs m (2 ^ m * q + o) = obs m o := by
  intro m
  induction m with
  | zero => intros; rfl
  | succ m ih =>
    intro q o
    have e : 2 ^ (m + 1) * q + o = 2 ^ m * (2 * q) + o := by rw [Nat.pow_succ, Nat.mul_assoc]
    show _ :: obs m _ = _ :: obs m _
    rw [e, ih (2 * q) o]
    congr 1
    have hp : 0 < 2 ^ m := Nat.two_pow_pos m
    rw [Nat.mul_add_div hp, Nat.mul_add_mod]
theorem obs_ex : ∀ (bs : List Bool), ∃ o, o < 2 ^ bs.length ∧ obs bs.length o = bs := by
  intro bs
  induction bs with
  | nil => exact ⟨0, by simp, rfl⟩
  | cons x bs ih =>
    obtain ⟨o, h1, h2⟩ := ih
    cases x with
    | false =>
      refine ⟨o, by simp [Nat.pow_succ]; omega, ?_⟩
      show decide (o / 2 ^ bs.length % 2 = 1) :: obs bs.length o = _
      rw [h2, Nat.div_eq_of_lt h1]; rfl
    | true =>
      refine ⟨2 ^ bs.length * 1 + o, by simp [Nat.pow_succ]; omega, ?_⟩
      show decide ((2 ^ bs.length * 1 + o) / 2 ^ bs.length % 2 = 1) :: obs bs.length (2 ^ bs.length * 1 + o) = _
      rw [obs_low, h2, Nat.mul_add_div (Nat.two_pow_pos _), Nat.div_eq_of_lt h1]; rfl
def ocn (m o : Nat) : Nat := (obs m o).count true
theorem ocn_s (m o : Nat) : ocn (m + 1) o = o / 2 ^ m % 2 + ocn m o := by
  unfold ocn
  show (decide (o / 2 ^ m % 2 = 1) :: obs m o).count true = _
  rw [List.count_cons]
  have h : o / 2 ^ m % 2 < 2 := Nat.mod_lt _ (by omega)
  by_cases h1 : o / 2 ^ m % 2 = 1
  · simp [h1]; omega
  · have : o / 2 ^ m % 2 = 0 := by omega
    simp [this]
theorem ocn_le (m o : Nat) : ocn m o ≤ m := by
  have := List.count_le_length (a := true) (l := obs m o)
  rw [obs_len] at this; exact this
theorem ocn_b : ∀ (m o : Nat), ocn (m + 1) o = o % 2 + ocn m (o / 2) := by
  intro m
  induction m with
  | zero => intro o; rw [ocn_s]; simp [ocn, obs]
  | succ m ih =>
    intro o
    rw [ocn_s, ih o, ocn_s m (o / 2), Nat.div_div_eq_div_mul, Nat.pow_succ, Nat.mul_comm (2 ^ m) 2]
    omega
theorem ocn_0 : ∀ m, ocn m 0 = 0 := by
  intro m; induction m with
  | zero => rfl
  | succ m ih => rw [ocn_s, ih]; simp
abbrev S_R11 : Type := (Nat → Int32) × (Nat → Int32) × Int32 × Int32 × (Nat → Int32) × (Nat → Int32) × (Nat → Int32) × (Nat → Int32) × (Nat → Int32) × (Nat → Int32) × (Nat → Int32) × Int32 × Int32 × Int32 × Int32 × Int32 × (Nat → Int32)
theorem t_R_isOrder_L4 (fu : Nat) {th : Int32} {sz kd ce ar : Nat → Int32} {r : S_R5} {g : pg} (h : pgr (sz, kd, ce, ar) g) (hg : gok g) : ∀ (d n t o : Nat), d < n → o < 2 ^ d → d ≤ 30 → t + d < 100 → bqr (f_R_isOrder_L4 fu (th, sz, kd, ce, ar, r) n (qn t) (qn o)) (t + ocn d o = gb g) := by
  have h2 : sz 2 = qn (gb g) := h.2.2.1
  have hb4 := hg.2.2.1
  have base : ∀ n t, t < 200 → bqr (f_R_isOrder_L4 fu (th, sz, kd, ce, ar, r) (n + 1) (qn t) (qn 0)) (t = gb g) := by
    intro n t ht
    refine ⟨fun hx => ?_, fun hx => ?_⟩
    · simp (disch := omega) only [q0, q1, q2, q3, q4, q5, q6, q7, q8, q14, q15, q16, q20, q31, q44, q50, q70, q1000, qn_le, qn_lt, qn_eq, qn_add, qn_inb, qn_ix, qn_dec, qn_m1, ck_tt, bd_ss, ix, isB0, isB1, if_pos, if_neg, if_true, if_false, Nat.reduceAdd, Nat.reduceLeDiff, Nat.reduceSub, Nat.reduceEqDiff, Nat.reduceMul, Nat.reduceLT, Nat.zero_add, not_true, not_false_iff, f_R_isOrder_L4, f_R_isOrder_L21, h2]
    · simp (disch := omega) only [q0, q1, q2, q3, q4, q5, q6, q7, q8, q14, q15, q16, q20, q31, q44, q50, q70, q1000, qn_le, qn_lt, qn_eq, qn_add, qn_inb, qn_ix, qn_dec, qn_m1, ck_tt, bd_ss, ix, isB0, isB1, if_pos, if_neg, if_true, if_false, Nat.reduceAdd, Nat.reduceLeDiff, Nat.reduceSub, Nat.reduceEqDiff, Nat.reduceMul, Nat.reduceLT, Nat.zero_add, not_true, not_false_iff, f_R_isOrder_L4, f_R_isOrder_L21, h2]
  intro d
  induction d with
  | zero =>
    intro n t o hn ho hd ht
    obtain ⟨m, rfl⟩ : ∃ m, n = m + 1 := ⟨n - 1, by omega⟩
    have : o = 0 := by simp at ho; exact ho
    subst this
    exact base m t (by omega)
  | succ d ih =>
    intro n t o hn ho hd ht
    obtain ⟨m, rfl⟩ : ∃ m, n = m + 1 := ⟨n - 1, by omega⟩
    by_cases h0 : o = 0
    · subst h0
      rw [ocn_0]
      exact base m t (by omega)
    · have hp : 2 ^ (d + 1) ≤ 2 ^ 30 := Nat.pow_le_pow_right (by omega) hd
      have hlt : o < 2147483648 := by omega
      have hs : f_R_isOrder_L4 fu (th, sz, kd, ce, ar, r) (m + 1) (qn t) (qn o) = f_R_isOrder_L4 fu (th, sz, kd, ce, ar, r) m (qn (t + o % 2)) (qn (o / 2)) := by
        have e : qn 1 &&& qn 31 = qn 1 := by decide
        simp (disch := omega) only [q0, q1, q2, q3, q4, q5, q6, q7, q8, q14, q15, q16, q20, q31, q44, q50, q70, q1000, qn_le, qn_lt, qn_eq, qn_add, qn_inb, qn_ix, qn_dec, qn_m1, ck_tt, bd_ss, ix, isB0, isB1, if_pos, if_neg, if_true, if_false, Nat.reduceAdd, Nat.reduceLeDiff, Nat.reduceSub, Nat.reduceEqDiff, Nat.reduceMul, Nat.reduceLT, Nat.zero_add, not_true, not_false_iff, f_R_isOrder_L4, qn_and, and1, e, qn_shr]
      rw [hs, ocn_b]
      have h3 := ih m (t + o % 2) (o / 2) (by omega) (by rw [Nat.pow_succ] at ho; omega) (by omega) (by omega)
      rw [← Nat.add_assoc]; exact h3
theorem t_R_isOrder {fu : Nat} (hf : 20000 ≤ fu) {th : Int32} {sz kd ce ar : Nat → Int32} {r : S_R5} {g : pg} (h : pgr (sz, kd, ce, ar) g) (hg : gok g) {m o : Nat} (hm : m ≤ 8) (ho : o < 2 ^ m) : bqr (f_R_isOrder fu (th, sz, kd, ce, ar, r) (qn o)) (ocn m o = gb g) := by
  have h1 := t_R_isOrder_L4 fu (th := th) (r := r) h hg m fu 0 o (by omega) ho (by omega) (by omega)
  rw [Nat.zero_add] at h1
  exact h1
def otw (m o : Nat) : Nat → Nat
  | 0 => 0
  | k + 1 => otw m o k + o / 2 ^ (m - 1 - k) % 2
theorem otw_le (m o : Nat) : ∀ k, otw m o k ≤ k := by
  intro k; induction k with
  | zero => exact Nat.le_refl _
  | succ k ih =>
    have : o / 2 ^ (m - 1 - k) % 2 < 2 := Nat.mod_lt _ (by omega)
    show otw m o k + _ ≤ _; omega
theorem otw_ocn (m o : Nat) : ∀ k, k ≤ m → otw m o k + ocn (m - k) o = ocn m o := by
  intro k; induction k with
  | zero => intro _; show 0 + ocn m o = _; omega
  | succ k ih =>
    intro hk
    have h1 := ih (by omega)
    have e : m - k = (m - 1 - k) + 1 := by omega
    rw [e, ocn_s] at h1
    have e2 : m - (k + 1) = m - 1 - k := by omega
    show otw m o k + o / 2 ^ (m - 1 - k) % 2 + _ = _
    rw [e2]; omega
theorem sh31 {k : Nat} (hk : k < 32) : qn k &&& qn 31 = qn k := by
  rw [qn_and]
  have : k &&& 31 = k % 32 := Nat.and_two_pow_sub_one_eq_mod k 5
  rw [this, Nat.mod_eq_of_lt hk]
theorem land31 {k : Nat} (hk : k < 32) : k &&& 31 = k := by
  have : k &&& 31 = k % 32 := Nat.and_two_pow_sub_one_eq_mod k 5
  rw [this, Nat.mod_eq_of_lt hk]
def opl (g : pg) (o k : Nat) : Nat := if o / 2 ^ (ga g + gb g - 1 - k) % 2 = 1 then gp g + ga g + otw (ga g + gb g) o k else gp g + k - otw (ga g + gb g) o k
theorem t_R_placed_L20 (fu : Nat) {th : Int32} {sz kd ce ar : Nat → Int32} {r : S_R5} {g : pg} (h : pgr (sz, kd, ce, ar) g) (hg : gok g) {o k : Nat} (ho : o < 256) (hk : k < ga g + gb g) : ∀ (d n j : Nat), d < n → j + d = k → f_R_placed_L20 fu (th, sz, kd, ce, ar, r) n (qn o) (qn k) (qn (ga g + gb g)) (qn (otw (ga g + gb g) o j)) (qn j) = some (qn (opl g o k)) := by
  have ha4 := hg.2.1; have hb4 := hg.2.2.1; have h6 := hg.1
  intro d
  induction d with
  | zero =>
    intro n j hn hj
    obtain ⟨m, rfl⟩ : ∃ m, n = m + 1 := ⟨n - 1, by omega⟩
    have : j = k := by omega
    subst this
    have hle := otw_le (ga g + gb g) o j
    have e1 : gst g 1 = gp g := rfl
    have e2 : gst g 2 = gp g + ga g := rfl
    have hm2 : o / 2 ^ (ga g + gb g - 1 - j) % 2 < 2 := Nat.mod_lt _ (by omega)
    unfold opl
    by_cases hbit : o / 2 ^ (ga g + gb g - 1 - j) % 2 = 1
    · simp (disch := omega) only [q0, q1, q2, q3, q4, q5, q6, q7, q8, q14, q15, q16, q20, q31, q44, q50, q70, q1000, qn_le, qn_lt, qn_eq, qn_add, qn_inb, qn_ix, qn_dec, qn_m1, ck_tt, bd_ss, ix, isB0, isB1, if_pos, if_neg, if_true, if_false, Nat.reduceAdd, Nat.reduceLeDiff, Nat.reduceSub, Nat.reduceEqDiff, Nat.reduceMul, Nat.reduceLT, Nat.zero_add, not_true, not_false_iff, f_R_placed_L20, f_R_placed_L47, qn_sub, qn_and, land31, qn_shr, and1, hbit, t_R_first h, e2]
    · simp (disch := omega) only [q0, q1, q2, q3, q4, q5, q6, q7, q8, q14, q15, q16, q20, q31, q44, q50, q70, q1000, qn_le, qn_lt, qn_eq, qn_add, qn_inb, qn_ix, qn_dec, qn_m1, ck_tt, bd_ss, ix, isB0, isB1, if_pos, if_neg, if_true, if_false, Nat.reduceAdd, Nat.reduceLeDiff, Nat.reduceSub, Nat.reduceEqDiff, Nat.reduceMul, Nat.reduceLT, Nat.zero_add, not_true, not_false_iff, f_R_placed_L20, f_R_placed_L47, qn_sub, qn_and, land31, qn_shr, and1, hbit, t_R_first h, e1]
  | succ d ih =>
    intro n j hn hj
    obtain ⟨m, rfl⟩ : ∃ m, n = m + 1 := ⟨n - 1, by omega⟩
    have hle := otw_le (ga g + gb g) o j
    have h1 := ih m (j + 1) (by omega) (by omega)
    simp (disch := omega) only [q0, q1, q2, q3, q4, q5, q6, q7, q8, q14, q15, q16, q20, q31, q44, q50, q70, q1000, qn_le, qn_lt, qn_eq, qn_add, qn_inb, qn_ix, qn_dec, qn_m1, ck_tt, bd_ss, ix, isB0, isB1, if_pos, if_neg, if_true, if_false, Nat.reduceAdd, Nat.reduceLeDiff, Nat.reduceSub, Nat.reduceEqDiff, Nat.reduceMul, Nat.reduceLT, Nat.zero_add, not_true, not_false_iff, f_R_placed_L20, qn_sub, qn_and, land31, qn_shr, and1]
    exact h1
theorem t_R_placed {fu : Nat} (hf : 20000 ≤ fu) {th : Int32} {sz kd ce ar : Nat → Int32} {r : S_R5} {g : pg} (h : pgr (sz, kd, ce, ar) g) (hg : gok g) {o k : Nat} (ho : o < 256) (hk : k < ga g + gb g) : f_R_placed fu (th, sz, kd, ce, ar, r) (qn o) (qn k) = some (qn (opl g o k)) := by
  have ha4 := hg.2.1; have hb4 := hg.2.2.1
  have h1 := t_R_placed_L20 fu (th := th) (r := r) h hg ho hk k fu 0 (by omega) (by omega)
  have e1 : sz 1 = qn (ga g) := h.2.1
  have e2 : sz 2 = qn (gb g) := h.2.2.1
  simp (disch := omega) only [q0, q1, q2, q3, q4, q5, q6, q7, q8, q14, q15, q16, q20, q31, q44, q50, q70, q1000, qn_le, qn_lt, qn_eq, qn_add, qn_inb, qn_ix, qn_dec, qn_m1, ck_tt, bd_ss, ix, isB0, isB1, if_pos, if_neg, if_true, if_false, Nat.reduceAdd, Nat.reduceLeDiff, Nat.reduceSub, Nat.reduceEqDiff, Nat.reduceMul, Nat.reduceLT, Nat.zero_add, not_true, not_false_iff, f_R_placed, e1, e2]
  exact h1
theorem opl_in {g : pg} {o k : Nat} (hk : k < ga g + gb g) (ho : ocn (ga g + gb g) o = gb g) : opl g o k < gn g ∧ gp g ≤ opl g o k := by
  have h1 := otw_ocn (ga g + gb g) o k (by omega)
  have h2 := otw_le (ga g + gb g) o k
  have e : ga g + gb g - k = (ga g + gb g - 1 - k) + 1 := by omega
  rw [e, ocn_s] at h1
  have h3 := ocn_le (ga g + gb g - 1 - k) o
  have h4 : o / 2 ^ (ga g + gb g - 1 - k) % 2 < 2 := Nat.mod_lt _ (by omega)
  unfold opl gn
  split <;> omega
def opr (op : Nat → Int32) (o : Nat → Bool) : Prop := ∀ c, c < 3 → op c = if o c then qn 1 else qn 0
theorem opr_nx {op : Nat → Int32} {o : Nat → Bool} (h : opr op o) {k c : Nat} {x : Int32} (hx : x = if (nxo o k c c) then qn 1 else qn 0) : opr (upd op c x) (nxo o k c) := by
  intro j hj
  unfold upd
  by_cases hjc : j = c
  · rw [if_pos hjc, hx, hjc]
  · rw [if_neg hjc]
    have : nxo o k c j = o j := by unfold nxo; rw [if_neg hjc]
    rw [this]; exact h j hj
theorem t_R_finds {fu : Nat} {th fl : Int32} {sz kd ce ar ks kp ho op : Nat → Int32} {gg : Int64} {r : S_R11} {g : pg} (h : pgr (sz, kd, ce, ar) g) (hg : gok g) {o : Nat → Bool} (hop : opr op o) {i : Nat} (hi : i < gn g) : ∃ op', (gok_ g o i → f_R_finds fu (th, sz, kd, ce, ar, ks, kp, fl, gg, ho, op, r) (qn i) = some (qn 1, (th, sz, kd, ce, ar, ks, kp, fl, gg, ho, op', r))) ∧ (¬ gok_ g o i → f_R_finds fu (th, sz, kd, ce, ar, ks, kp, fl, gg, ho, op, r) (qn i) = some (qn 0, (th, sz, kd, ce, ar, ks, kp, fl, gg, ho, op', r))) ∧ opr op' (gnx g o i) := by
  have h14 := hg.n14
  have h1 := h.2.2.2 i hi
  have e1 : kd i = qn (gk g i) := h1.1
  have e2 : ce i = qn (gc g i) := h1.2.1
  have h2 := hg.2.2.2 i hi
  have hk := h2.1
  have hc : gc g i < 3 := by have := h2.2.1; omega
  have hs : (gc g i + 1) % 3 < 3 := Nat.mod_lt _ (by omega)
  have o1 := hop _ hc
  have o2 := hop _ hs
  refine ⟨upd op (gc g i) (if nxo o (gk g i) (gc g i) (gc g i) then qn 1 else qn 0), ?_, ?_, opr_nx hop rfl⟩
  · intro hx
    unfold gok_ oko at hx
    have hL : f_R_finds_L71 fu (th, sz, kd, ce, ar, ks, kp, fl, gg, ho, op, r) (qn i) (qn (gc g i)) (qn 1) = some (qn 1, (th, sz, kd, ce, ar, ks, kp, fl, gg, ho, upd op (gc g i) (if nxo o (gk g i) (gc g i) (gc g i) then qn 1 else qn 0), r)) := by
      unfold nxo
      by_cases k1 : gk g i = 1
      · simp (disch := omega) only [q0, q1, q2, q3, q4, q5, q6, q7, q8, q14, q15, q16, q20, q31, q44, q50, q70, q1000, qn_le, qn_lt, qn_eq, qn_add, qn_inb, qn_ix, qn_dec, qn_m1, ck_tt, bd_ss, ix, isB0, isB1, if_pos, if_neg, if_true, if_false, Nat.reduceAdd, Nat.reduceLeDiff, Nat.reduceSub, Nat.reduceEqDiff, Nat.reduceMul, Nat.reduceLT, Nat.zero_add, not_true, not_false_iff, f_R_finds_L71, e1, k1, Nat.one_ne_zero, Bool.false_eq_true]
      · by_cases k0 : gk g i = 0
        · simp (disch := omega) only [q0, q1, q2, q3, q4, q5, q6, q7, q8, q14, q15, q16, q20, q31, q44, q50, q70, q1000, qn_le, qn_lt, qn_eq, qn_add, qn_inb, qn_ix, qn_dec, qn_m1, ck_tt, bd_ss, ix, isB0, isB1, if_pos, if_neg, if_true, if_false, Nat.reduceAdd, Nat.reduceLeDiff, Nat.reduceSub, Nat.reduceEqDiff, Nat.reduceMul, Nat.reduceLT, Nat.zero_add, not_true, not_false_iff, f_R_finds_L71, e1, k0, k1]
        · cases hoc : o (gc g i)
          · rw [hoc] at o1
            simp (disch := omega) only [q0, q1, q2, q3, q4, q5, q6, q7, q8, q14, q15, q16, q20, q31, q44, q50, q70, q1000, qn_le, qn_lt, qn_eq, qn_add, qn_inb, qn_ix, qn_dec, qn_m1, ck_tt, bd_ss, ix, isB0, isB1, if_pos, if_neg, if_true, if_false, Nat.reduceAdd, Nat.reduceLeDiff, Nat.reduceSub, Nat.reduceEqDiff, Nat.reduceMul, Nat.reduceLT, Nat.zero_add, not_true, not_false_iff, f_R_finds_L71, e1, k0, k1, o1, Bool.false_eq_true]
          · rw [hoc] at o1
            simp (disch := omega) only [q0, q1, q2, q3, q4, q5, q6, q7, q8, q14, q15, q16, q20, q31, q44, q50, q70, q1000, qn_le, qn_lt, qn_eq, qn_add, qn_inb, qn_ix, qn_dec, qn_m1, ck_tt, bd_ss, ix, isB0, isB1, if_pos, if_neg, if_true, if_false, Nat.reduceAdd, Nat.reduceLeDiff, Nat.reduceSub, Nat.reduceEqDiff, Nat.reduceMul, Nat.reduceLT, Nat.zero_add, not_true, not_false_iff, f_R_finds_L71, e1, k0, k1, o1]
    by_cases k0 : gk g i = 0
    · rw [if_pos k0] at hx
      rw [hx] at o1
      simp (disch := omega) only [q0, q1, q2, q3, q4, q5, q6, q7, q8, q14, q15, q16, q20, q31, q44, q50, q70, q1000, qn_le, qn_lt, qn_eq, qn_add, qn_inb, qn_ix, qn_dec, qn_m1, ck_tt, bd_ss, ix, isB0, isB1, if_pos, if_neg, if_true, if_false, Nat.reduceAdd, Nat.reduceLeDiff, Nat.reduceSub, Nat.reduceEqDiff, Nat.reduceMul, Nat.reduceLT, Nat.zero_add, not_true, not_false_iff, f_R_finds, e1, e2, o1, Bool.false_eq_true, hL]
    · rw [if_neg k0] at hx
      by_cases k6 : gk g i = 6
      · rw [if_pos k6] at hx
        rw [hx.1] at o1
        rw [hx.2] at o2
        simp (disch := omega) only [q0, q1, q2, q3, q4, q5, q6, q7, q8, q14, q15, q16, q20, q31, q44, q50, q70, q1000, qn_le, qn_lt, qn_eq, qn_add, qn_inb, qn_ix, qn_dec, qn_m1, ck_tt, bd_ss, ix, isB0, isB1, if_pos, if_neg, if_true, if_false, Nat.reduceAdd, Nat.reduceLeDiff, Nat.reduceSub, Nat.reduceEqDiff, Nat.reduceMul, Nat.reduceLT, Nat.zero_add, not_true, not_false_iff, f_R_finds, e1, e2, o1, nz_qn, qn_mod, o2, hL]
      · rw [if_neg k6] at hx
        rw [hx] at o1
        simp (disch := omega) only [q0, q1, q2, q3, q4, q5, q6, q7, q8, q14, q15, q16, q20, q31, q44, q50, q70, q1000, qn_le, qn_lt, qn_eq, qn_add, qn_inb, qn_ix, qn_dec, qn_m1, ck_tt, bd_ss, ix, isB0, isB1, if_pos, if_neg, if_true, if_false, Nat.reduceAdd, Nat.reduceLeDiff, Nat.reduceSub, Nat.reduceEqDiff, Nat.reduceMul, Nat.reduceLT, Nat.zero_add, not_true, not_false_iff, f_R_finds, e1, e2, o1, hL]
  · intro hx
    unfold gok_ oko at hx
    have hL : f_R_finds_L71 fu (th, sz, kd, ce, ar, ks, kp, fl, gg, ho, op, r) (qn i) (qn (gc g i)) (qn 0) = some (qn 0, (th, sz, kd, ce, ar, ks, kp, fl, gg, ho, upd op (gc g i) (if nxo o (gk g i) (gc g i) (gc g i) then qn 1 else qn 0), r)) := by
      unfold nxo
      by_cases k1 : gk g i = 1
      · simp (disch := omega) only [q0, q1, q2, q3, q4, q5, q6, q7, q8, q14, q15, q16, q20, q31, q44, q50, q70, q1000, qn_le, qn_lt, qn_eq, qn_add, qn_inb, qn_ix, qn_dec, qn_m1, ck_tt, bd_ss, ix, isB0, isB1, if_pos, if_neg, if_true, if_false, Nat.reduceAdd, Nat.reduceLeDiff, Nat.reduceSub, Nat.reduceEqDiff, Nat.reduceMul, Nat.reduceLT, Nat.zero_add, not_true, not_false_iff, f_R_finds_L71, e1, k1, Nat.one_ne_zero, Bool.false_eq_true]
      · by_cases k0 : gk g i = 0
        · simp (disch := omega) only [q0, q1, q2, q3, q4, q5, q6, q7, q8, q14, q15, q16, q20, q31, q44, q50, q70, q1000, qn_le, qn_lt, qn_eq, qn_add, qn_inb, qn_ix, qn_dec, qn_m1, ck_tt, bd_ss, ix, isB0, isB1, if_pos, if_neg, if_true, if_false, Nat.reduceAdd, Nat.reduceLeDiff, Nat.reduceSub, Nat.reduceEqDiff, Nat.reduceMul, Nat.reduceLT, Nat.zero_add, not_true, not_false_iff, f_R_finds_L71, e1, k0, k1]
        · cases hoc : o (gc g i)
          · rw [hoc] at o1
            simp (disch := omega) only [q0, q1, q2, q3, q4, q5, q6, q7, q8, q14, q15, q16, q20, q31, q44, q50, q70, q1000, qn_le, qn_lt, qn_eq, qn_add, qn_inb, qn_ix, qn_dec, qn_m1, ck_tt, bd_ss, ix, isB0, isB1, if_pos, if_neg, if_true, if_false, Nat.reduceAdd, Nat.reduceLeDiff, Nat.reduceSub, Nat.reduceEqDiff, Nat.reduceMul, Nat.reduceLT, Nat.zero_add, not_true, not_false_iff, f_R_finds_L71, e1, k0, k1, o1, Bool.false_eq_true]
          · rw [hoc] at o1
            simp (disch := omega) only [q0, q1, q2, q3, q4, q5, q6, q7, q8, q14, q15, q16, q20, q31, q44, q50, q70, q1000, qn_le, qn_lt, qn_eq, qn_add, qn_inb, qn_ix, qn_dec, qn_m1, ck_tt, bd_ss, ix, isB0, isB1, if_pos, if_neg, if_true, if_false, Nat.reduceAdd, Nat.reduceLeDiff, Nat.reduceSub, Nat.reduceEqDiff, Nat.reduceMul, Nat.reduceLT, Nat.zero_add, not_true, not_false_iff, f_R_finds_L71, e1, k0, k1, o1]
    by_cases k0 : gk g i = 0
    · rw [if_pos k0] at hx
      have hx' : o (gc g i) = true := by cases h9 : o (gc g i); exact absurd h9 hx; rfl
      rw [hx'] at o1
      simp (disch := omega) only [q0, q1, q2, q3, q4, q5, q6, q7, q8, q14, q15, q16, q20, q31, q44, q50, q70, q1000, qn_le, qn_lt, qn_eq, qn_add, qn_inb, qn_ix, qn_dec, qn_m1, ck_tt, bd_ss, ix, isB0, isB1, if_pos, if_neg, if_true, if_false, Nat.reduceAdd, Nat.reduceLeDiff, Nat.reduceSub, Nat.reduceEqDiff, Nat.reduceMul, Nat.reduceLT, Nat.zero_add, not_true, not_false_iff, f_R_finds, e1, e2, o1, hL]
    · rw [if_neg k0] at hx
      cases hoc : o (gc g i)
      · rw [hoc] at o1
        simp (disch := omega) only [q0, q1, q2, q3, q4, q5, q6, q7, q8, q14, q15, q16, q20, q31, q44, q50, q70, q1000, qn_le, qn_lt, qn_eq, qn_add, qn_inb, qn_ix, qn_dec, qn_m1, ck_tt, bd_ss, ix, isB0, isB1, if_pos, if_neg, if_true, if_false, Nat.reduceAdd, Nat.reduceLeDiff, Nat.reduceSub, Nat.reduceEqDiff, Nat.reduceMul, Nat.reduceLT, Nat.zero_add, not_true, not_false_iff, f_R_finds, e1, e2, o1, Bool.false_eq_true, hL]
      · rw [hoc] at o1
        by_cases k6 : gk g i = 6
        · rw [if_pos k6] at hx
          have hx' : o ((gc g i + 1) % 3) = false := by
            cases h9 : o ((gc g i + 1) % 3)
            · rfl
            · exact absurd ⟨hoc, h9⟩ hx
          rw [hx'] at o2
          simp (disch := omega) only [q0, q1, q2, q3, q4, q5, q6, q7, q8, q14, q15, q16, q20, q31, q44, q50, q70, q1000, qn_le, qn_lt, qn_eq, qn_add, qn_inb, qn_ix, qn_dec, qn_m1, ck_tt, bd_ss, ix, isB0, isB1, if_pos, if_neg, if_true, if_false, Nat.reduceAdd, Nat.reduceLeDiff, Nat.reduceSub, Nat.reduceEqDiff, Nat.reduceMul, Nat.reduceLT, Nat.zero_add, not_true, not_false_iff, f_R_finds, e1, e2, o1, nz_qn, qn_mod, o2, Bool.false_eq_true, hL]
        · rw [if_neg k6] at hx
          exact absurd hoc hx
