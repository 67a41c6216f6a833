theorem qn_le_t {a b : Nat} (h : a ≤ b) (hb : b < 2147483648) : (qn a ≤ qn b) = True := by rw [qn_le (by omega) hb]; exact eq_true h
theorem qn_le_f {a b : Nat} (h : b < a) (ha : a < 2147483648) : (qn a ≤ qn b) = False := by rw [qn_le ha (by omega)]; exact eq_false (by omega)
theorem qn_lt_t {a b : Nat} (h : a < b) (hb : b < 2147483648) : (qn a < qn b) = True := by rw [qn_lt (by omega) hb]; exact eq_true h
theorem qn_lt_f {a b : Nat} (h : b ≤ a) (ha : a < 2147483648) : (qn a < qn b) = False := by rw [qn_lt ha (by omega)]; exact eq_false (by omega)
theorem qn_eq_t {a b : Nat} (h : a = b) : (qn a = qn b) = True := by rw [h]; exact eq_true rfl
theorem qn_eq_f {a b : Nat} (h : ¬ a = b) (ha : a < 2147483648) (hb : b < 2147483648) : (qn a = qn b) = False := by rw [qn_eq ha hb]; exact eq_false h
