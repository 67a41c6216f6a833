def sm (F : Nat → Nat) : Nat → Nat
  | 0 => 0
  | n + 1 => sm F n + F n
theorem sm_congr {F G : Nat → Nat} : ∀ n, (∀ i, i < n → F i = G i) → sm F n = sm G n := by
  intro n
  induction n with
  | zero => intro _; rfl
  | succ n ih =>
    intro h
    show sm F n + F n = sm G n + G n
    rw [ih (fun i hi => h i (by omega)), h n (by omega)]
theorem sm_le {F : Nat → Nat} {c : Nat} : ∀ n, (∀ i, i < n → F i ≤ c) → sm F n ≤ n * c := by
  intro n
  induction n with
  | zero => intro _; exact Nat.zero_le _
  | succ n ih =>
    intro h
    show sm F n + F n ≤ (n + 1) * c
    have := ih (fun i hi => h i (by omega))
    have := h n (by omega)
    rw [Nat.succ_mul]; omega
theorem sm_out (F : Nat → Nat) (i0 : Nat) : ∀ n, i0 ≤ n → sm (fun i => F (if i < i0 then i else i + 1)) n + F i0 = sm F (n + 1) := by
  intro n
  induction n with
  | zero =>
    intro h
    have : i0 = 0 := by omega
    subst this; rfl
  | succ n ih =>
    intro h
    by_cases hi : i0 = n + 1
    · subst hi
      show sm (fun i => F (if i < n + 1 then i else i + 1)) (n + 1) + F (n + 1) = sm F (n + 1) + F (n + 1)
      rw [sm_congr (n + 1) (F := fun i => F (if i < n + 1 then i else i + 1)) (G := F) (fun i hi => by simp [hi])]
    · have h1 := ih (by omega)
      show sm (fun i => F (if i < i0 then i else i + 1)) n + F (if n < i0 then n else n + 1) + F i0 = sm F (n + 1) + F (n + 1)
      rw [if_neg (by omega)]; omega
def m8 (v : Nat) : Nat := if v < 8 then v else 8
theorem m8_le (v : Nat) : m8 v ≤ 8 := by unfold m8; split <;> omega
def mes (g : pg) : Nat := gn g + (ga g + gb g) + sm (fun i => m8 (gv g i)) (gn g)
theorem mes_le {g : pg} (hg : gok g) : mes g ≤ 134 := by
  have h14 := hg.n14
  have h2 := hg.2.1; have h3 := hg.2.2.1
  have h := sm_le (F := fun i => m8 (gv g i)) (c := 8) (gn g) (fun i _ => m8_le _)
  unfold mes; omega
theorem mes_rem {g : pg} {i0 : Nat} (hi : i0 < gn g) : mes (grem g i0) < mes g := by
  have hn := gn_grem hi
  have hs : ga (grem g i0) + gb (grem g i0) ≤ ga g + gb g := by
    have e2 : ga (grem g i0) = (gss g (gbr g i0) (· - 1)).2.1 := rfl
    have e3 : gb (grem g i0) = (gss g (gbr g i0) (· - 1)).2.2 := rfl
    rw [e2, e3]; unfold gss
    repeat' split
    all_goals simp
    all_goals omega
  have h1 := sm_out (fun i => m8 (gv g i)) i0 (gn g - 1) (by omega)
  have e : gn g - 1 + 1 = gn g := by omega
  rw [e] at h1
  have h2 : sm (fun i => m8 (gv (grem g i0) i)) (gn g - 1) = sm (fun i => (fun j => m8 (gv g j)) (if i < i0 then i else i + 1)) (gn g - 1) := by
    apply sm_congr
    intro i _
    dsimp only
    have ev : gv (grem g i0) i = if gv g (if i < i0 then i else i + 1) < 8 + (i0 + 1) then gv g (if i < i0 then i else i + 1) else gv g (if i < i0 then i else i + 1) - 1 := rfl
    rw [ev]
    unfold m8
    repeat' split
    all_goals omega
  dsimp only at h1 h2
  unfold mes
  rw [hn, h2]; omega
theorem mes_prom {g : pg} {b : Nat} (hb : b = 1 ∨ b = 2) (hs : 0 < gsz g b) : mes (gprom g b) < mes g := by
  have hn := gn_gprom hb hs
  have hst := gst_lt_n hb hs
  have hd : ga (gprom g b) + gb (gprom g b) + 1 = ga g + gb g := by
    rcases hb with rfl | rfl
    · have h1 : 0 < ga g := hs
      show ga g - 1 + gb g + 1 = _; omega
    · have h1 : 0 < gb g := hs
      show ga g + (gb g - 1) + 1 = _; omega
  have key : ∀ i, m8 (gv (gprom g b) i) = m8 (gv g (if i = gp g then gst g b else if gp g < i ∧ i ≤ gst g b then i - 1 else i)) := by
    intro i
    have ev : gv (gprom g b) i = (let w := gv g (if i = gp g then gst g b else if gp g < i ∧ i ≤ gst g b then i - 1 else i)
     if w = 8 + gst g b then 8 + gp g else if 8 + gp g ≤ w ∧ w < 8 + gst g b then w + 1 else w) := rfl
    rw [ev]
    generalize gv g (if i = gp g then gst g b else if gp g < i ∧ i ≤ gst g b then i - 1 else i) = w
    dsimp only
    unfold m8
    repeat' split
    all_goals omega
  have h1 := sm_out (fun i => m8 (gv (gprom g b) i)) (gp g) (gn g - 1) (by omega)
  have h2 := sm_out (fun i => m8 (gv g i)) (gst g b) (gn g - 1) (by omega)
  have e : gn g - 1 + 1 = gn g := by omega
  rw [e] at h1 h2
  have h3 : sm (fun i => (fun i => m8 (gv (gprom g b) i)) (if i < gp g then i else i + 1)) (gn g - 1) = sm (fun i => (fun i => m8 (gv g i)) (if i < gst g b then i else i + 1)) (gn g - 1) := by
    apply sm_congr
    intro i _
    dsimp only
    rw [key]
    congr 2
    repeat' split
    all_goals omega
  have h4 : m8 (gv (gprom g b) (gp g)) = m8 (gv g (gst g b)) := by rw [key, if_pos rfl]
  dsimp only at h1 h2 h3
  unfold mes
  rw [hn]
  omega
theorem sm_lt {F G : Nat → Nat} : ∀ n k, k < n → (∀ i, i < n → F i ≤ G i) → F k < G k → sm F n < sm G n := by
  intro n
  induction n with
  | zero => intro k hk; omega
  | succ n ih =>
    intro k hk h1 h2
    show sm F n + F n < sm G n + G n
    have hle : ∀ m, m ≤ n → sm F m ≤ sm G m := by
      intro m
      induction m with
      | zero => intro _; exact Nat.le_refl _
      | succ m ih2 =>
        intro hm
        have := ih2 (by omega)
        have := h1 m (by omega)
        show sm F m + F m ≤ sm G m + G m; omega
    by_cases e : k = n
    · subst e
      have := hle k (Nat.le_refl _); omega
    · have := ih k (by omega) (fun i hi => h1 i (by omega)) h2
      have := h1 n (by omega); omega
theorem mes_low {g : pg} {i h : Nat} (hi : i < gn g) (h8 : gv g i < 8) (hv : h + 1 ≤ gv g i) (h2 : h < 2) : mes (glow g i h) < mes g := by
  have ev : ∀ j, gv (glow g i h) j = if j = i then (if h = 0 then 0 else gv g i / 2) else gv g j := fun j => rfl
  have key : sm (fun j => m8 (gv (glow g i h) j)) (gn g) < sm (fun j => m8 (gv g j)) (gn g) := by
    apply sm_lt (gn g) i hi
    · intro j _
      rw [ev]
      by_cases e : j = i
      · rw [if_pos e, e]; unfold m8; repeat' split
        all_goals omega
      · rw [if_neg e]; exact Nat.le_refl _
    · rw [ev, if_pos rfl]; unfold m8; repeat' split
      all_goals omega
  have e1 : gn (glow g i h) = gn g := rfl
  have e2 : ga (glow g i h) = ga g := rfl
  have e3 : gb (glow g i h) = gb g := rfl
  unfold mes
  rw [e1, e2, e3]
  omega
