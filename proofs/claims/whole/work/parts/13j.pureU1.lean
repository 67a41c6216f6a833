/- what a judge needs of a run: kinds, cells, numbers, answers, calls, returns -/
section JDG
variable (g : pg) (nv av C D : Nat → Nat)
def anw (w : Nat → Nat) (i : Nat) : Prop := nans w (gk g i) (gc g i) (nv i) = av i
def nxw (w : Nat → Nat) (i : Nat) : Nat → Nat := naft w (gk g i) (gc g i) (nv i)
def pe : List Bool → Nat → Nat → Nat → Nat → (Nat → Nat) → Prop
  | [], _, _, _, _, _ => True
  | false :: bs, a, b, i, j, w => anw g nv av w i ∧ (b = 0 ∨ ¬ D j < C i) ∧ pe bs (a - 1) b (i + 1) j (nxw g nv w i)
  | true :: bs, a, b, i, j, w => anw g nv av w j ∧ (a = 0 ∨ ¬ D i < C j) ∧ pe bs a (b - 1) i (j + 1) (nxw g nv w j)
/- the place of the k-th in order o -/
def opk (m o i j k : Nat) : Nat := if o / 2 ^ (m - 1 - k) % 2 = 1 then j + otw m o k else i + k - otw m o k
def prr (m o i0 j0 : Nat) : Nat → Nat → (Nat → Nat) → Prop
  | 0, _, _ => True
  | r + 1, k, w => anw g nv av w (opk m o i0 j0 k) ∧ (∀ l, k < l → l < m → C (opk m o i0 j0 k) < D (opk m o i0 j0 l)) ∧ prr m o i0 j0 r (k + 1) (nxw g nv w (opk m o i0 j0 k))
end JDG
theorem otw_add (m o k : Nat) : ∀ d, otw m o k ≤ otw m o (k + d) ∧ otw m o (k + d) ≤ otw m o k + d := by
  intro d
  induction d with
  | zero => exact ⟨Nat.le_refl _, Nat.le_refl _⟩
  | succ d ih =>
    have h : o / 2 ^ (m - 1 - (k + d)) % 2 < 2 := Nat.mod_lt _ (by omega)
    have e : otw m o (k + (d + 1)) = otw m o (k + d) + o / 2 ^ (m - 1 - (k + d)) % 2 := rfl
    omega
/- the first place behind k that has bit x -/
theorem otw_find1 (m o : Nat) : ∀ (r k : Nat), k + r = m → 0 < ocn r o → ∃ l, k ≤ l ∧ l < m ∧ o / 2 ^ (m - 1 - l) % 2 = 1 ∧ otw m o l = otw m o k := by
  intro r
  induction r with
  | zero => intro k hk h; exact absurd h (by show ¬ 0 < 0; omega)
  | succ r ih =>
    intro k hk h
    have e : m - 1 - k = r := by omega
    by_cases hb : o / 2 ^ r % 2 = 1
    · exact ⟨k, Nat.le_refl _, by omega, by rw [e]; exact hb, rfl⟩
    · have h2 : o / 2 ^ r % 2 < 2 := Nat.mod_lt _ (by omega)
      rw [ocn_s] at h
      obtain ⟨l, h3, h4, h5, h6⟩ := ih (k + 1) (by omega) (by omega)
      refine ⟨l, by omega, h4, h5, ?_⟩
      have e2 : otw m o (k + 1) = otw m o k + o / 2 ^ (m - 1 - k) % 2 := rfl
      rw [e] at e2; omega
theorem otw_find0 (m o : Nat) : ∀ (r k : Nat), k + r = m → ocn r o < r → ∃ l, k ≤ l ∧ l < m ∧ o / 2 ^ (m - 1 - l) % 2 = 0 ∧ otw m o l = otw m o k + (l - k) := by
  intro r
  induction r with
  | zero => intro k hk h; omega
  | succ r ih =>
    intro k hk h
    have e : m - 1 - k = r := by omega
    have h2 : o / 2 ^ r % 2 < 2 := Nat.mod_lt _ (by omega)
    by_cases hb : o / 2 ^ r % 2 = 0
    · exact ⟨k, Nat.le_refl _, by omega, by rw [e]; exact hb, by omega⟩
    · rw [ocn_s] at h
      obtain ⟨l, h3, h4, h5, h6⟩ := ih (k + 1) (by omega) (by omega)
      refine ⟨l, by omega, h4, h5, ?_⟩
      have e2 : otw m o (k + 1) = otw m o k + o / 2 ^ (m - 1 - k) % 2 := rfl
      rw [e] at e2; omega
theorem prr_pe {g : pg} {nv av C D : Nat → Nat} {m o A B : Nat} (hm : m = A + B) (hA : A = ga g) (hB : B = gb g) (hord : ocn m o = B)
    (m1 : ∀ i j, inBr g i → inBr g j → gbr g i = gbr g j → i ≤ j → C i < D j) (m2 : ∀ i j, inBr g i → inBr g j → gbr g i ≠ gbr g j → C i ≠ D j) (m3 : ∀ i j, inBr g i → inBr g j → gbr g i = gbr g j → i < j → D i < D j) : ∀ (r k : Nat) (w : Nat → Nat), k + r = m → (prr g nv av C D m o (gp g) (gp g + ga g) r k w ↔ pe g nv av C D (obs r o) (A - (k - otw m o k)) (B - otw m o k) (gp g + k - otw m o k) (gp g + ga g + otw m o k) w) := by
  have hgd := gn_def g
  have b1 : ∀ x, gp g ≤ x → x < gp g + ga g → inBr g x ∧ gbr g x = 1 := fun x h1 h2 => ⟨⟨h1, by omega⟩, gbr_in (b := 1) (Or.inl rfl) h1 h2⟩
  have b2 : ∀ x, gp g + ga g ≤ x → x < gn g → inBr g x ∧ gbr g x = 2 := fun x h1 h2 => ⟨⟨by omega, h2⟩, gbr_in (b := 2) (Or.inr rfl) h1 h2⟩
  intro r
  induction r with
  | zero => intro k w hk; exact ⟨fun _ => trivial, fun _ => trivial⟩
  | succ r ih =>
    intro k w hk
    have hle := otw_le m o k
    have htot := otw_ocn m o k (by omega)
    have e0 : m - k = r + 1 := by omega
    rw [e0, ocn_s] at htot
    have hrl := ocn_le r o
    have e : m - 1 - k = r := by omega
    have h2 : o / 2 ^ r % 2 < 2 := Nat.mod_lt _ (by omega)
    have hs : otw m o (k + 1) = otw m o k + o / 2 ^ r % 2 := by
      show otw m o k + o / 2 ^ (m - 1 - k) % 2 = _
      rw [e]
    have hob : obs (r + 1) o = decide (o / 2 ^ r % 2 = 1) :: obs r o := rfl
    -- what stands behind
    have bh : ∀ l, k < l → l < m → otw m o (k + 1) ≤ otw m o l ∧ otw m o l ≤ otw m o (k + 1) + (l - (k + 1)) ∧ (o / 2 ^ (m - 1 - l) % 2 = 1 → otw m o l < B) ∧ (¬ o / 2 ^ (m - 1 - l) % 2 = 1 → l - otw m o l < A) := by
      intro l h3 h4
      have h5 := otw_add m o (k + 1) (l - (k + 1))
      have e5 : k + 1 + (l - (k + 1)) = l := by omega
      rw [e5] at h5
      have h6 := otw_ocn m o l (by omega)
      have e6 : m - l = (m - 1 - l) + 1 := by omega
      rw [e6, ocn_s] at h6
      have h7 := ocn_le (m - 1 - l) o
      have h8 : o / 2 ^ (m - 1 - l) % 2 < 2 := Nat.mod_lt _ (by omega)
      have h9 := otw_le m o l
      exact ⟨h5.1, h5.2, fun h => by omega, fun h => by omega⟩
    by_cases hbit : o / 2 ^ r % 2 = 1
    · have hpl : opk m o (gp g) (gp g + ga g) k = gp g + ga g + otw m o k := by unfold opk; rw [e, if_pos hbit]
      have i1 := ih (k + 1) (nxw g nv w (gp g + ga g + otw m o k)) (by omega)
      have e7 : A - (k + 1 - otw m o (k + 1)) = A - (k - otw m o k) := by omega
      have e8 : B - otw m o (k + 1) = B - otw m o k - 1 := by omega
      have e9 : gp g + (k + 1) - otw m o (k + 1) = gp g + k - otw m o k := by omega
      have e10 : gp g + ga g + otw m o (k + 1) = gp g + ga g + otw m o k + 1 := by omega
      rw [e7, e8, e9, e10] at i1
      have key : (∀ l, k < l → l < m → C (gp g + ga g + otw m o k) < D (opk m o (gp g) (gp g + ga g) l)) ↔ (A - (k - otw m o k) = 0 ∨ ¬ D (gp g + k - otw m o k) < C (gp g + ga g + otw m o k)) := by
        have x2 := b2 (gp g + ga g + otw m o k) (by omega) (by omega)
        constructor
        · intro h
          by_cases ha : A - (k - otw m o k) = 0
          · exact Or.inl ha
          · right
            obtain ⟨l, z1, z2, z3, z4⟩ := otw_find0 m o r (k + 1) (by omega) (by omega)
            have := h l (by omega) z2
            have e11 : opk m o (gp g) (gp g + ga g) l = gp g + k - otw m o k := by
              unfold opk; rw [if_neg (by omega)]; omega
            rw [e11] at this; omega
        · intro h l h3 h4
          obtain ⟨y1, y2, y3, y4⟩ := bh l h3 h4
          by_cases hl : o / 2 ^ (m - 1 - l) % 2 = 1
          · have e11 : opk m o (gp g) (gp g + ga g) l = gp g + ga g + otw m o l := by unfold opk; rw [if_pos hl]
            rw [e11]
            have := y3 hl
            have x3 := b2 (gp g + ga g + otw m o l) (by omega) (by omega)
            exact m1 _ _ x2.1 x3.1 (by rw [x2.2, x3.2]) (by omega)
          · have e11 : opk m o (gp g) (gp g + ga g) l = gp g + l - otw m o l := by unfold opk; rw [if_neg hl]
            rw [e11]
            have := y4 hl
            have hlo := otw_le m o l
            have x3 := b1 (gp g + l - otw m o l) (by omega) (by omega)
            have x4 := b1 (gp g + k - otw m o k) (by omega) (by omega)
            have h5 : ¬ D (gp g + k - otw m o k) < C (gp g + ga g + otw m o k) := by
              rcases h with h | h
              · omega
              · exact h
            have h6 := m2 _ _ x2.1 x4.1 (by rw [x2.2, x4.2]; omega)
            by_cases h7 : gp g + k - otw m o k = gp g + l - otw m o l
            · rw [← h7]; omega
            · have h8 := m3 _ _ x4.1 x3.1 (by rw [x3.2, x4.2]) (by omega)
              omega
      rw [hob, hbit]
      show (anw g nv av w (opk m o (gp g) (gp g + ga g) k) ∧ _ ∧ _) ↔ (anw g nv av w (gp g + ga g + otw m o k) ∧ _ ∧ _)
      rw [hpl, key, i1]
    · have hbit0 : o / 2 ^ r % 2 = 0 := by omega
      have hpl : opk m o (gp g) (gp g + ga g) k = gp g + k - otw m o k := by unfold opk; rw [e, if_neg hbit]
      have i1 := ih (k + 1) (nxw g nv w (gp g + k - otw m o k)) (by omega)
      have e7 : A - (k + 1 - otw m o (k + 1)) = A - (k - otw m o k) - 1 := by omega
      have e8 : B - otw m o (k + 1) = B - otw m o k := by omega
      have e9 : gp g + (k + 1) - otw m o (k + 1) = gp g + k - otw m o k + 1 := by omega
      have e10 : gp g + ga g + otw m o (k + 1) = gp g + ga g + otw m o k := by omega
      rw [e7, e8, e9, e10] at i1
      have key : (∀ l, k < l → l < m → C (gp g + k - otw m o k) < D (opk m o (gp g) (gp g + ga g) l)) ↔ (B - otw m o k = 0 ∨ ¬ D (gp g + ga g + otw m o k) < C (gp g + k - otw m o k)) := by
        have x1 := b1 (gp g + k - otw m o k) (by omega) (by omega)
        constructor
        · intro h
          by_cases ha : B - otw m o k = 0
          · exact Or.inl ha
          · right
            obtain ⟨l, z1, z2, z3, z4⟩ := otw_find1 m o r (k + 1) (by omega) (by omega)
            have := h l (by omega) z2
            have e11 : opk m o (gp g) (gp g + ga g) l = gp g + ga g + otw m o k := by
              unfold opk; rw [if_pos z3]; omega
            rw [e11] at this; omega
        · intro h l h3 h4
          obtain ⟨y1, y2, y3, y4⟩ := bh l h3 h4
          have hlo := otw_le m o l
          by_cases hl : o / 2 ^ (m - 1 - l) % 2 = 1
          · have e11 : opk m o (gp g) (gp g + ga g) l = gp g + ga g + otw m o l := by unfold opk; rw [if_pos hl]
            rw [e11]
            have := y3 hl
            have x3 := b2 (gp g + ga g + otw m o l) (by omega) (by omega)
            have x4 := b2 (gp g + ga g + otw m o k) (by omega) (by omega)
            have h5 : ¬ D (gp g + ga g + otw m o k) < C (gp g + k - otw m o k) := by
              rcases h with h | h
              · omega
              · exact h
            have h6 := m2 _ _ x1.1 x4.1 (by rw [x1.2, x4.2]; omega)
            by_cases h7 : gp g + ga g + otw m o k = gp g + ga g + otw m o l
            · rw [← h7]; omega
            · have h8 := m3 _ _ x4.1 x3.1 (by rw [x3.2, x4.2]) (by omega)
              omega
          · have e11 : opk m o (gp g) (gp g + ga g) l = gp g + l - otw m o l := by unfold opk; rw [if_neg hl]
            rw [e11]
            have := y4 hl
            have x3 := b1 (gp g + l - otw m o l) (by omega) (by omega)
            exact m1 _ _ x1.1 x3.1 (by rw [x1.2, x3.2]) (by omega)
      rw [hob, hbit0]
      show (anw g nv av w (opk m o (gp g) (gp g + ga g) k) ∧ _ ∧ _) ↔ (anw g nv av w (gp g + k - otw m o k) ∧ _ ∧ _)
      rw [hpl, key, i1]
