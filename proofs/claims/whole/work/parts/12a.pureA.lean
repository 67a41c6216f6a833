def qn (n : Nat) : Int32 := Int32.ofNat n
theorem qn_toInt {n : Nat} (h : n < 2147483648) : (qn n).toInt = (n : Int) := by
  unfold qn; exact Int32.toInt_ofNat_of_lt h
theorem qn_ix {n : Nat} (h : n < 2147483648) : (qn n).toNatClampNeg = n := by
  have h1 : (qn n).toNatClampNeg = (qn n).toInt.toNat := rfl
  rw [h1, qn_toInt h]; rfl
theorem qn_le {a b : Nat} (ha : a < 2147483648) (hb : b < 2147483648) : (qn a ≤ qn b) = (a ≤ b) := by
  rw [Int32.le_iff_toInt_le, qn_toInt ha, qn_toInt hb]; exact propext Int.ofNat_le
theorem qn_lt {a b : Nat} (ha : a < 2147483648) (hb : b < 2147483648) : (qn a < qn b) = (a < b) := by
  rw [Int32.lt_iff_toInt_lt, qn_toInt ha, qn_toInt hb]; exact propext Int.ofNat_lt
theorem qn_eq {a b : Nat} (ha : a < 2147483648) (hb : b < 2147483648) : (qn a = qn b) = (a = b) := by
  apply propext; constructor
  · intro h; have := congrArg Int32.toInt h; rw [qn_toInt ha, qn_toInt hb] at this; omega
  · intro h; rw [h]
theorem qn_add (a b : Nat) : qn a + qn b = qn (a + b) := by unfold qn; exact (Int32.ofNat_add a b).symm
theorem qn_mul (a b : Nat) : qn a * qn b = qn (a * b) := by unfold qn; exact (Int32.ofNat_mul a b).symm
theorem qn_sub {a b : Nat} (h : b ≤ a) : qn a - qn b = qn (a - b) := by
  have : qn a = qn (a - b) + qn b := by rw [qn_add]; congr 1; omega
  rw [this]; simp
theorem qn_dec {a : Nat} (h : 1 ≤ a) : qn a + -qn 1 = qn (a - 1) := by
  have h1 : qn a - qn 1 = qn (a - 1) := qn_sub h
  rw [← h1, Int32.sub_eq_add_neg]
theorem qn_inb {a n : Nat} (h : a < n) (hn : n ≤ 2147483648) : inb (qn a) n = true := by
  have h1 : ¬ (qn a < 0) := by
    have : (0 : Int32) = qn 0 := rfl
    rw [this, qn_lt (by omega) (by omega)]; omega
  unfold inb; rw [qn_ix (by omega)]
  exact decide_eq_true (by intro h2; rcases h2 with h2 | h2; exact h1 h2; omega)
theorem qn_m1 {a : Nat} (h : a < 2147483648) : (qn a = -qn 1) = False := by
  apply eq_false
  intro h2
  have h3 := congrArg Int32.toInt h2
  have h4 : (Int32.toInt (-qn 1)) = -1 := by decide
  rw [qn_toInt h, h4] at h3
  omega
theorem ck_tt {α : Type} (k : Option α) : ck true k = k := rfl
theorem bd_ss {α β : Type} (a : α) (k : α → Option β) : bd (some a) k = k a := rfl
theorem isB0 : isB (qn 0) = true := rfl
theorem isB1 : isB (qn 1) = true := rfl
theorem nz_qn {a : Nat} (h : 0 < a) (h2 : a < 2147483648) : nz (qn a) = true := by
  unfold nz; apply decide_eq_true
  have : (0 : Int32) = qn 0 := rfl
  rw [this, qn_eq h2 (by omega)]; omega
theorem q0 : (0 : Int32) = qn 0 := rfl
theorem q1 : (1 : Int32) = qn 1 := rfl
theorem q2 : (2 : Int32) = qn 2 := rfl
theorem q3 : (3 : Int32) = qn 3 := rfl
theorem q4 : (4 : Int32) = qn 4 := rfl
theorem q5 : (5 : Int32) = qn 5 := rfl
theorem q6 : (6 : Int32) = qn 6 := rfl
theorem q7 : (7 : Int32) = qn 7 := rfl
theorem q8 : (8 : Int32) = qn 8 := rfl
theorem q14 : (14 : Int32) = qn 14 := rfl
theorem q15 : (15 : Int32) = qn 15 := rfl
theorem q16 : (16 : Int32) = qn 16 := rfl
theorem q20 : (20 : Int32) = qn 20 := rfl
theorem q31 : (31 : Int32) = qn 31 := rfl
theorem q44 : (44 : Int32) = qn 44 := rfl
theorem q50 : (50 : Int32) = qn 50 := rfl
theorem q70 : (70 : Int32) = qn 70 := rfl
theorem q1000 : (1000 : Int32) = qn 1000 := rfl
theorem qn_div {a b : Nat} (ha : a < 2147483648) (hb : b < 2147483648) (h : 0 < b) : qn a / qn b = qn (a / b) := by
  apply Int32.toInt_inj.mp
  have h1 : a / b < 2147483648 := Nat.lt_of_le_of_lt (Nat.div_le_self a b) ha
  have h5 : qn b ≠ -1 := by
    intro h2
    have h3 := congrArg Int32.toInt h2
    have h4 : (Int32.toInt (-1)) = -1 := by decide
    rw [qn_toInt hb, h4] at h3
    omega
  rw [Int32.toInt_div_of_ne_right _ _ h5, qn_toInt ha, qn_toInt hb, qn_toInt h1]
  exact (Int.ofNat_tdiv a b).symm
theorem qn_mod {a b : Nat} (ha : a < 2147483648) (hb : b < 2147483648) (h : 0 < b) : qn a - qn a / qn b * qn b = qn (a % b) := by
  rw [qn_div ha hb h, qn_mul, qn_sub (Nat.div_mul_le_self a b)]
  congr 1
  have := Nat.div_add_mod a b
  rw [Nat.mul_comm] at this; omega
