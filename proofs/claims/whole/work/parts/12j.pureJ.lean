def oko (o : Nat → Bool) (k c : Nat) : Prop := if k = 0 then o c = false else if k = 6 then o c = true ∧ o ((c + 1) % 3) = true else o c = true
def nxo (o : Nat → Bool) (k c : Nat) : Nat → Bool := fun j => if j = c then (if k = 0 then true else if k = 1 then false else o c) else o j
def ow (o : Nat → Bool) : Nat → Nat := fun c => if o c then 8 else 0
theorem ow16 (o : Nat → Bool) : w16 (ow o) := by
  have : ∀ c, ow o c < 16 := by intro c; unfold ow; split <;> omega
  exact ⟨this 0, this 1, this 2⟩
theorem ow_ge (o : Nat → Bool) (c : Nat) : 8 ≤ ow o c ↔ o c = true := by
  unfold ow; cases o c <;> simp
theorem ow_lt (o : Nat → Bool) (c : Nat) : ow o c < 8 ↔ o c = false := by
  unfold ow; cases o c <;> simp
theorem nall_ow (o : Nat → Bool) (k c : Nat) : nall (ow o) k c ↔ oko o k c := by
  unfold nall oko
  split
  · exact ow_lt o c
  · split
    · rw [ow_ge, ow_ge]
    · exact ow_ge o c
theorem naft_ow (o : Nat → Bool) {k : Nat} (c : Nat) : naft (ow o) k c 0 = ow (nxo o k c) := by
  have h8 : ∀ c, ow o c % 8 = 0 := by intro c; unfold ow; split <;> rfl
  have h9 : ∀ c, ow o c / 8 * 8 = ow o c := by intro c; unfold ow; split <;> rfl
  funext j
  unfold naft nset
  by_cases hj : j = c
  · subst hj
    rw [if_pos rfl, h9, h8, h8]
    unfold ow nxo
    by_cases h0 : k = 0
    · simp [h0]
    · by_cases h1 : k = 1
      · simp [h1]
      · simp [h0, h1]
  · rw [if_neg hj]; unfold ow nxo; rw [if_neg hj]
theorem nxo_comm {o : Nat → Bool} {k c k' c' : Nat} (h1 : oko o k c) (h2 : oko o k' c') (h3 : oko (nxo o k c) k' c') (h4 : oko (nxo o k' c') k c) : nxo (nxo o k c) k' c' = nxo (nxo o k' c') k c := by
  funext j
  by_cases hc : c = c'
  · subst hc
    have a1 : oko o k c → (k = 0 → o c = false) ∧ (k ≠ 0 → o c = true) := by
      intro h; unfold oko at h
      refine ⟨fun hk => ?_, fun hk => ?_⟩
      · rw [if_pos hk] at h; exact h
      · rw [if_neg hk] at h; split at h
        · exact h.1
        · exact h
    have a2 : oko o k' c → (k' = 0 → o c = false) ∧ (k' ≠ 0 → o c = true) := by
      intro h; unfold oko at h
      refine ⟨fun hk => ?_, fun hk => ?_⟩
      · rw [if_pos hk] at h; exact h
      · rw [if_neg hk] at h; split at h
        · exact h.1
        · exact h
    have a3 : (k' = 0 → nxo o k c c = false) ∧ (k' ≠ 0 → nxo o k c c = true) := by
      have h := h3; unfold oko at h
      refine ⟨fun hk => ?_, fun hk => ?_⟩
      · rw [if_pos hk] at h; exact h
      · rw [if_neg hk] at h; split at h
        · exact h.1
        · exact h
    have a4 : (k = 0 → nxo o k' c c = false) ∧ (k ≠ 0 → nxo o k' c c = true) := by
      have h := h4; unfold oko at h
      refine ⟨fun hk => ?_, fun hk => ?_⟩
      · rw [if_pos hk] at h; exact h
      · rw [if_neg hk] at h; split at h
        · exact h.1
        · exact h
    have b1 := a1 h1; have b2 := a2 h2
    by_cases hj : j = c
    · subst hj
      simp only [nxo, if_true] at *
      by_cases e1 : k = 0 <;> by_cases e2 : k' = 0 <;> by_cases e3 : k = 1 <;> by_cases e4 : k' = 1 <;> simp_all
    · simp [nxo, hj]
  · by_cases hj : j = c
    · subst hj
      simp [nxo, hc]
    · by_cases hj2 : j = c'
      · subst hj2; simp [nxo, hj]
      · simp [nxo, hj, hj2]
def gok_ (g : pg) (o : Nat → Bool) (i : Nat) : Prop := oko o (gk g i) (gc g i)
def gnx (g : pg) (o : Nat → Bool) (i : Nat) : Nat → Bool := nxo o (gk g i) (gc g i)
def gB (g : pg) (i : Nat) : Nat → Nat → (Nat → Bool) → Prop
  | 0, _, o => gok_ g o i
  | b + 1, j, o => gok_ g o i ∧ gok_ g o j ∧ gB g i b (j + 1) (gnx g o j)
def grun (g : pg) : Nat → Nat → (Nat → Bool) → Prop
  | 0, _, _ => True
  | b + 1, j, o => gok_ g o j ∧ grun g b (j + 1) (gnx g o j)
def gW (g : pg) (b j : Nat) : Nat → Nat → (Nat → Bool) → Prop
  | 0, _, o => grun g b j o
  | a + 1, i, o => gB g i b j o ∧ gW g b j a (i + 1) (gnx g o i)
def gth (g : pg) : List Bool → Nat → Nat → (Nat → Bool) → Prop
  | [], _, _, _ => True
  | false :: bs, i, j, o => gok_ g o i ∧ gth g bs (i + 1) j (gnx g o i)
  | true :: bs, i, j, o => gok_ g o j ∧ gth g bs i (j + 1) (gnx g o j)
theorem gB_ok {g : pg} {i b j : Nat} {o : Nat → Bool} (h : gB g i b j o) : gok_ g o i := by
  cases b with
  | zero => exact h
  | succ b => exact h.1
theorem gW_y (g : pg) (b j : Nat) : ∀ (a i : Nat) (o : Nat → Bool), gW g (b + 1) j a i o → gok_ g o j ∧ gW g b (j + 1) a i (gnx g o j) := by
  intro a
  induction a with
  | zero => intro i o h; exact h
  | succ a ih =>
    intro i o h
    obtain ⟨⟨h1, h2, h3⟩, h4⟩ := h
    obtain ⟨h5, h6⟩ := ih _ _ h4
    refine ⟨h2, h3, ?_⟩
    have h7 := gB_ok h3
    have := nxo_comm h1 h2 h5 h7
    unfold gnx at h6 ⊢
    rw [← this]; exact h6
theorem gW_th (g : pg) : ∀ (bs : List Bool) (a b i j : Nat) (o : Nat → Bool), bs.length = a + b → bs.count true = b → gW g b j a i o → gth g bs i j o := by
  intro bs
  induction bs with
  | nil => intros; trivial
  | cons x bs ih =>
    intro a b i j o hl hc h
    cases x with
    | false =>
      simp at hl hc
      have := List.count_le_length (a := true) (l := bs)
      obtain ⟨a', rfl⟩ : ∃ a', a = a' + 1 := ⟨a - 1, by omega⟩
      exact ⟨gB_ok h.1, ih a' b (i + 1) j _ (by omega) hc h.2⟩
    | true =>
      simp at hl hc
      obtain ⟨b', rfl⟩ : ∃ b', b = b' + 1 := ⟨b - 1, by omega⟩
      obtain ⟨h1, h2⟩ := gW_y g b' j a i o h
      exact ⟨h1, ih a b' i (j + 1) _ (by omega) (by omega) h2⟩
theorem ex_bs (a b : Nat) : ∃ bs : List Bool, bs.length = a + b ∧ bs.count true = b := ⟨List.replicate a false ++ List.replicate b true, by simp, by simp [List.count_append, List.count_replicate]⟩
theorem gth_W (g : pg) : ∀ (a b i j : Nat) (o : Nat → Bool), (∀ bs : List Bool, bs.length = a + b → bs.count true = b → gth g bs i j o) → gW g b j a i o := by
  intro a
  induction a with
  | zero =>
    intro b
    induction b with
    | zero => intros; trivial
    | succ b ihb =>
      intro i j o h
      obtain ⟨bs, hb1, hb2⟩ := ex_bs 0 b
      have h1 := (h (true :: bs) (by simp; omega) (by simp [hb2])).1
      refine ⟨h1, ihb i (j + 1) _ ?_⟩
      intro bs' hl hc
      exact (h (true :: bs') (by simp; omega) (by simp [hc])).2
  | succ a ih =>
    intro b i j o h
    refine ⟨?_, ih b (i + 1) j _ ?_⟩
    · clear ih
      revert j o
      induction b with
      | zero =>
        intro j o h
        obtain ⟨bs, hb1, hb2⟩ := ex_bs a 0
        exact (h (false :: bs) (by simp; omega) (by simp [hb2])).1
      | succ b ihb =>
        intro j o h
        obtain ⟨bs, hb1, hb2⟩ := ex_bs a (b + 1)
        obtain ⟨bs', hb1', hb2'⟩ := ex_bs (a + 1) b
        refine ⟨(h (false :: bs) (by simp; omega) (by simp [hb2])).1, (h (true :: bs') (by simp; omega) (by simp [hb2'])).1, ?_⟩
        apply ihb
        intro bs'' hl hc
        exact (h (true :: bs'') (by simp; omega) (by simp [hc])).2
    · intro bs hl hc
      exact (h (false :: bs) (by simp; omega) (by simp [hc])).2
