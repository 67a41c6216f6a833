theorem updL_at (f : Nat → Int64) (k : Nat) (x : Int64) : vp_updL f k x k = x := by simp [vp_updL]
theorem lcmp_self (x : Int64) : lg_cmp x x = 0 := by
  unfold lg_cmp
  simp

theorem p_add {fu : Nat} (hf : 20000 ≤ fu) {H : S_H} {R : S_R} (h : HR H R) (out : Nat → Int64) (a1 : Int32) (a2 : Int32) (a3 : Int32) (a4 : Int32) : ∃ k H' out' b R', f_L_add fu H out a1 a2 a3 a4 = some (k, H', out') ∧ f_R_add fu R a1 a2 a3 a4 = some (b, R') ∧ R'.1 = k ∧ HR H' R' ∧ (k = 0 → out' (ix 0) = b.toInt64) := by
  obtain ⟨res, H', b, R', e1, e2, h1, h2⟩ := m_add (fu := fu) hf h a1 a2 a3 a4
  rcases h2 with ⟨rfl, ht⟩ | ⟨e, rfl, ht, hne⟩
  · exact ⟨0, H', vp_updL out (ix 0) b.toInt64, b, R', by unfold f_L_add; rw [e1]; rfl, e2, ht, h1, fun _ => updL_at _ _ _⟩
  · by_cases x1 : e = 1
    · subst x1
      exact ⟨1, H', out, b, R', by unfold f_L_add; rw [e1]; rfl, e2, ht, h1, fun h => absurd h (by decide)⟩
    · by_cases x2 : e = 2
      · subst x2
        exact ⟨2, H', out, b, R', by unfold f_L_add; rw [e1]; rfl, e2, ht, h1, fun h => absurd h (by decide)⟩
      · by_cases x3 : e = 3
        · subst x3
          exact ⟨3, H', out, b, R', by unfold f_L_add; rw [e1]; rfl, e2, ht, h1, fun h => absurd h (by decide)⟩
        · exact absurd (by unfold cda; simp [x1, x2, x3]) hne
theorem p_make {fu : Nat} (hf : 20000 ≤ fu) {H : S_H} {R : S_R} (h : HR H R) (out : Nat → Int64) (a1 : Int64) (a3 : Int32) (a4 : Int32) (a5 : Int32) : ∃ k H' out' b R', f_L_make fu H out a1 a3 a4 a5 = some (k, H', out') ∧ f_R_make fu R a1 a3 a4 a5 = some (b, R') ∧ R'.1 = k ∧ HR H' R' ∧ (k = 0 → out' (ix 0) = b.toInt64) := by
  obtain ⟨res, H', b, R', e1, e2, h1, h2⟩ := m_make (fu := fu) hf h a1 a3 a4 a5
  rcases h2 with ⟨rfl, ht⟩ | ⟨e, rfl, ht, hne⟩
  · exact ⟨0, H', vp_updL out (ix 0) b.toInt64, b, R', by unfold f_L_make; rw [e1]; rfl, e2, ht, h1, fun _ => updL_at _ _ _⟩
  · by_cases x1 : e = 1
    · subst x1
      exact ⟨1, H', out, b, R', by unfold f_L_make; rw [e1]; rfl, e2, ht, h1, fun h => absurd h (by decide)⟩
    · exact absurd (by unfold cd1; simp [x1]) hne
theorem p_flaws {fu : Nat} (hf : 20000 ≤ fu) {H : S_H} {R : S_R} (h : HR H R) (out : Nat → Int64) (a1 : Int32) : ∃ k H' out' b R', f_L_flaws fu H out a1 = some (k, H', out') ∧ f_R_flaws fu R a1 = some (b, R') ∧ R'.1 = k ∧ HR H' R' ∧ (k = 0 → out' (ix 0) = b.toInt64) := by
  obtain ⟨res, H', b, R', e1, e2, h1, h2⟩ := m_flaws (fu := fu) h a1
  rcases h2 with ⟨rfl, ht⟩ | ⟨e, rfl, ht, hne⟩
  · exact ⟨0, H', vp_updL out (ix 0) b.toInt64, b, R', by unfold f_L_flaws; rw [e1]; rfl, e2, ht, h1, fun _ => updL_at _ _ _⟩
  · by_cases x1 : e = 1
    · subst x1
      exact ⟨1, H', out, b, R', by unfold f_L_flaws; rw [e1]; rfl, e2, ht, h1, fun h => absurd h (by decide)⟩
    · exact absurd (by unfold cd1; simp [x1]) hne
theorem p_run {fu : Nat} (hf : 20000 ≤ fu) {H : S_H} {R : S_R} (h : HR H R) (out : Nat → Int64) (a1 : Int32) : ∃ k H' out' b R', f_L_run fu H out a1 = some (k, H', out') ∧ f_R_run fu R a1 = some (b, R') ∧ R'.1 = k ∧ HR H' R' ∧ (k = 0 → out' (ix 0) = (if b = 0 then 0 else 1)) := by
  obtain ⟨res, H', b, R', e1, e2, h1, h2, hb⟩ := m_run (fu := fu) hf h a1
  rcases h2 with ⟨rfl, ht⟩ | ⟨e, rfl, ht, hne⟩
  · exact ⟨0, H', vp_updL out (ix 0) (if b = 0 then 0 else 1), b, R', by unfold f_L_run; rw [e1]; rfl, e2, ht, h1, fun _ => updL_at _ _ _⟩
  · by_cases x1 : e = 1
    · subst x1
      exact ⟨1, H', out, b, R', by unfold f_L_run; rw [e1]; rfl, e2, ht, h1, fun h => absurd h (by decide)⟩
    · exact absurd (by unfold cd1; simp [x1]) hne
theorem p_fails {fu : Nat} (hf : 20000 ≤ fu) {H : S_H} {R : S_R} (h : HR H R) (out : Nat → Int64) (a1 : Int64) (a3 : Int32) : ∃ k H' out' b R', f_L_fails fu H out a1 a3 = some (k, H', out') ∧ f_R_fails fu R a1 a3 = some (b, R') ∧ R'.1 = k ∧ HR H' R' ∧ (k = 0 → out' (ix 0) = b.toInt64) := by
  obtain ⟨res, H', b, R', e1, e2, h1, h2⟩ := m_fails (fu := fu) hf h a1 a3
  rcases h2 with ⟨rfl, ht⟩ | ⟨e, rfl, ht, hne⟩
  · exact ⟨0, H', vp_updL out (ix 0) b.toInt64, b, R', by unfold f_L_fails; rw [e1]; rfl, e2, ht, h1, fun _ => updL_at _ _ _⟩
  · by_cases x1 : e = 1
    · subst x1
      exact ⟨1, H', out, b, R', by unfold f_L_fails; rw [e1]; rfl, e2, ht, h1, fun h => absurd h (by decide)⟩
    · exact absurd (by unfold cd1; simp [x1]) hne
theorem p_shrink {fu : Nat} (hf : 20000 ≤ fu) {H : S_H} {R : S_R} (h : HR H R) (out : Nat → Int64) (a1 : Int64) (a3 : Int32) : ∃ k H' out' b R', f_L_shrink fu H out a1 a3 = some (k, H', out') ∧ f_R_shrink fu R a1 a3 = some (b, R') ∧ R'.1 = k ∧ HR H' R' ∧ (k = 0 → out' (ix 0) = b.toInt64) := by
  obtain ⟨res, H', b, R', e1, e2, h1, h2⟩ := m_shrink (fu := fu) hf h a1 a3
  rcases h2 with ⟨rfl, ht⟩ | ⟨e, rfl, ht, hne⟩
  · exact ⟨0, H', vp_updL out (ix 0) b.toInt64, b, R', by unfold f_L_shrink; rw [e1]; rfl, e2, ht, h1, fun _ => updL_at _ _ _⟩
  · by_cases x1 : e = 1
    · subst x1
      exact ⟨1, H', out, b, R', by unfold f_L_shrink; rw [e1]; rfl, e2, ht, h1, fun h => absurd h (by decide)⟩
    · by_cases x2 : e = 2
      · subst x2
        exact ⟨2, H', out, b, R', by unfold f_L_shrink; rw [e1]; rfl, e2, ht, h1, fun h => absurd h (by decide)⟩
      · exact absurd (by unfold cds; simp [x1, x2]) hne
theorem p_command {fu : Nat} (hf : 20000 ≤ fu) {H : S_H} {R : S_R} (h : HR H R) (out : Nat → Int64) (a1 : Int32) (a2 : Int32) : ∃ k H' out' b R', f_L_command fu H out a1 a2 = some (k, H', out') ∧ f_R_command fu R a1 a2 = some (b, R') ∧ R'.1 = k ∧ HR H' R' ∧ (k = 0 → out' (ix 0) = b.toInt64) := by
  obtain ⟨res, b, R', e1, e2, h1, h2⟩ := m_command (fu := fu) h a1 a2
  rcases h2 with ⟨rfl, ht⟩ | ⟨e, rfl, ht, hne⟩
  · exact ⟨0, H, vp_updL out (ix 0) b.toInt64, b, R', by unfold f_L_command; rw [e1]; rfl, e2, ht, h1, fun _ => updL_at _ _ _⟩
  · by_cases x4 : e = 4
    · subst x4
      exact ⟨1, H, out, b, R', by unfold f_L_command; rw [e1]; rfl, e2, ht, h1, fun h => absurd h (by decide)⟩
    · exact absurd (by unfold cd4; simp [x4]) hne
theorem p_event {fu : Nat} (hf : 20000 ≤ fu) {H : S_H} {R : S_R} (h : HR H R) (out : Nat → Int64) (a1 : Int32) (a2 : Int32) : ∃ k H' out' b R', f_L_event fu H out a1 a2 = some (k, H', out') ∧ f_R_event fu R a1 a2 = some (b, R') ∧ R'.1 = k ∧ HR H' R' ∧ (k = 0 → out' (ix 0) = b.toInt64) := by
  obtain ⟨res, b, R', e1, e2, h1, h2⟩ := m_event (fu := fu) h a1 a2
  rcases h2 with ⟨rfl, ht⟩ | ⟨e, rfl, ht, hne⟩
  · exact ⟨0, H, vp_updL out (ix 0) b.toInt64, b, R', by unfold f_L_event; rw [e1]; rfl, e2, ht, h1, fun _ => updL_at _ _ _⟩
  · by_cases x4 : e = 4
    · subst x4
      exact ⟨1, H, out, b, R', by unfold f_L_event; rw [e1]; rfl, e2, ht, h1, fun h => absurd h (by decide)⟩
    · by_cases x2 : e = 2
      · subst x2
        exact ⟨2, H, out, b, R', by unfold f_L_event; rw [e1]; rfl, e2, ht, h1, fun h => absurd h (by decide)⟩
      · exact absurd (by unfold cdi; simp [x4, x2]) hne
theorem p_order {fu : Nat} (hf : 20000 ≤ fu) {H : S_H} {R : S_R} (h : HR H R) (out : Nat → Int64) (a1 : Int32) : ∃ k H' out' b R', f_L_order fu H out a1 = some (k, H', out') ∧ f_R_order fu R a1 = some (b, R') ∧ R'.1 = k ∧ HR H' R' ∧ (k = 0 → out' (ix 0) = b.toInt64) := by
  obtain ⟨res, b, R', e1, e2, h1, h2⟩ := m_order (fu := fu) hf h a1
  rcases h2 with ⟨rfl, ht⟩ | ⟨e, rfl, ht, hne⟩
  · exact ⟨0, H, vp_updL out (ix 0) b.toInt64, b, R', by unfold f_L_order; rw [e1]; rfl, e2, ht, h1, fun _ => updL_at _ _ _⟩
  · by_cases x2 : e = 2
    · subst x2
      exact ⟨1, H, out, b, R', by unfold f_L_order; rw [e1]; rfl, e2, ht, h1, fun h => absurd h (by decide)⟩
    · by_cases x5 : e = 5
      · subst x5
        exact ⟨2, H, out, b, R', by unfold f_L_order; rw [e1]; rfl, e2, ht, h1, fun h => absurd h (by decide)⟩
      · exact absurd (by unfold cdo; simp [x2, x5]) hne
theorem p_cell {fu : Nat} (hf : 20000 ≤ fu) {H : S_H} {R : S_R} (h : HR H R) (out : Nat → Int64) (a1 : Int32) : ∃ k H' out' b R', f_L_cell fu H out a1 = some (k, H', out') ∧ f_R_cell fu R a1 = some (b, R') ∧ R'.1 = k ∧ HR H' R' ∧ (k = 0 → out' (ix 0) = b.toInt64) := by
  obtain ⟨res, b, R', e1, e2, h1, h2⟩ := m_cell (fu := fu) h a1
  rcases h2 with ⟨rfl, ht⟩ | ⟨e, rfl, ht, hne⟩
  · exact ⟨0, H, vp_updL out (ix 0) b.toInt64, b, R', by unfold f_L_cell; rw [e1]; rfl, e2, ht, h1, fun _ => updL_at _ _ _⟩
  · by_cases x4 : e = 4
    · subst x4
      exact ⟨1, H, out, b, R', by unfold f_L_cell; rw [e1]; rfl, e2, ht, h1, fun h => absurd h (by decide)⟩
    · by_cases x2 : e = 2
      · subst x2
        exact ⟨2, H, out, b, R', by unfold f_L_cell; rw [e1]; rfl, e2, ht, h1, fun h => absurd h (by decide)⟩
      · exact absurd (by unfold cdi; simp [x4, x2]) hne
theorem p_count {fu : Nat} (hf : 20000 ≤ fu) {H : S_H} {R : S_R} (h : HR H R) (out : Nat → Int64) (a1 : Int32) : ∃ k H' out' b R', f_L_count fu H out a1 = some (k, H', out') ∧ f_R_count fu R a1 = some (b, R') ∧ R'.1 = k ∧ HR H' R' ∧ (k = 0 → out' (ix 0) = b.toInt64) := by
  obtain ⟨res, b, R', e1, e2, h1, h2⟩ := m_count (fu := fu) h a1
  rcases h2 with ⟨rfl, ht⟩ | ⟨e, rfl, ht, hne⟩
  · exact ⟨0, H, vp_updL out (ix 0) b.toInt64, b, R', by unfold f_L_count; rw [e1]; rfl, e2, ht, h1, fun _ => updL_at _ _ _⟩
  · by_cases x4 : e = 4
    · subst x4
      exact ⟨1, H, out, b, R', by unfold f_L_count; rw [e1]; rfl, e2, ht, h1, fun h => absurd h (by decide)⟩
    · exact absurd (by unfold cd4; simp [x4]) hne
theorem p_tally {fu : Nat} (hf : 20000 ≤ fu) {H : S_H} {R : S_R} (h : HR H R) (out : Nat → Int64) (a1 : Int32) : ∃ k H' out' b R', f_L_tally fu H out a1 = some (k, H', out') ∧ f_R_tally fu R a1 = some (b, R') ∧ R'.1 = k ∧ HR H' R' ∧ (k = 0 → out' (ix 0) = b.toInt64) := by
  obtain ⟨res, b, R', e1, e2, h1, h2⟩ := m_tally (fu := fu) h a1
  rcases h2 with ⟨rfl, ht⟩ | ⟨e, rfl, ht, hne⟩
  · exact ⟨0, H, vp_updL out (ix 0) b.toInt64, b, R', by unfold f_L_tally; rw [e1]; rfl, e2, ht, h1, fun _ => updL_at _ _ _⟩
  · by_cases x4 : e = 4
    · subst x4
      exact ⟨1, H, out, b, R', by unfold f_L_tally; rw [e1]; rfl, e2, ht, h1, fun h => absurd h (by decide)⟩
    · exact absurd (by unfold cd4; simp [x4]) hne
