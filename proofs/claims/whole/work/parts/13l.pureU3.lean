theorem obs_top0 {m o : Nat} (h : o < 2 ^ m) : o / 2 ^ m % 2 = 0 ∧ obs (m + 1) o = false :: obs m o := by
  have h1 : o / 2 ^ m = 0 := Nat.div_eq_of_lt h
  refine ⟨by rw [h1], ?_⟩
  show decide (o / 2 ^ m % 2 = 1) :: obs m o = _
  rw [h1]; rfl
theorem obs_top1 {m o : Nat} (h : o < 2 ^ m) : (2 ^ m * 1 + o) / 2 ^ m % 2 = 1 ∧ obs (m + 1) (2 ^ m * 1 + o) = true :: obs m o := by
  have h1 : (2 ^ m * 1 + o) / 2 ^ m = 1 := by
    rw [Nat.mul_add_div (Nat.two_pow_pos m), Nat.div_eq_of_lt h]
  refine ⟨by rw [h1], ?_⟩
  show decide ((2 ^ m * 1 + o) / 2 ^ m % 2 = 1) :: obs m (2 ^ m * 1 + o) = _
  rw [h1, obs_low]; rfl
theorem ocn_top0 {m o : Nat} (h : o < 2 ^ m) : ocn (m + 1) o = ocn m o := by
  rw [ocn_s, (obs_top0 h).1]; omega
theorem ocn_top1 {m o : Nat} (h : o < 2 ^ m) : ocn (m + 1) (2 ^ m * 1 + o) = ocn m o + 1 := by
  rw [ocn_s, (obs_top1 h).1]
  have : ocn m (2 ^ m * 1 + o) = ocn m o := by unfold ocn; rw [obs_low]
  omega
section SRC3
variable {fu : Nat} {P : S_P} {an nu ca ba : Nat → Int32} {mr : Int32 × (Nat → Int32) × (Nat → Int32) × (Nat → Int32) × Int32} {g : pg} {nv av C D : Nat → Nat}
theorem t_search (hP : pgr P g) (hg : gok g) (hn : ∀ i, i < 14 → nv i < 8 ∧ nu i = qn (nv i)) (ha : ∀ i, i < 14 → av i < 8 ∧ an i = qn (av i)) (hcd : ∀ i, inBr g i → (ca i = qn (C i) ∧ C i < 70) ∧ (ba i = qn (D i) ∧ D i < 70)) : ∀ (m d a b i j k : Nat) (J : S_J) (w : Nat → Nat), a + b = m → m < d → k + m ≤ 8 → i + a = gp g + ga g → j + b = gn g → gp g ≤ i → gp g + ga g ≤ j → w16 w →
    (∃ (o : Nat) (J' : S_J), o < 2 ^ m ∧ ocn m o = b ∧ pe g nv av C D (obs m o) a b i j w ∧ (∀ o', o' < o → ocn m o' = b → ¬ pe g nv av C D (obs m o') a b i j w) ∧ f_J_search fu d J P (an, nu, ca, ba, mr) (pz w) (qn i) (qn j) (qn k) = some (qn 1, J') ∧ (∀ x, x < k → J' x = J x) ∧ ∀ x, x < m → J' (k + x) = qn (opk m o i j x)) ∨ (∃ J' : S_J, (∀ o, o < 2 ^ m → ocn m o = b → ¬ pe g nv av C D (obs m o) a b i j w) ∧ f_J_search fu d J P (an, nu, ca, ba, mr) (pz w) (qn i) (qn j) (qn k) = some (qn 0, J') ∧ ∀ x, x < k → J' x = J x) := by
  have h14 := hg.n14
  have hgd := gn_def g
  have n1 : gst g 1 + gsz g 1 = gp g + ga g := rfl
  have n2 : gst g 2 + gsz g 2 = gn g := rfl
  intro m
  induction m with
  | zero =>
    intro d a b i j k J w hab hd hk hi hj hi0 hj0 hw
    obtain ⟨d, rfl⟩ : ∃ x, d = x + 1 := ⟨d - 1, by omega⟩
    left
    refine ⟨0, J, by simp, ?_, trivial, fun o' h => by omega, ?_, fun _ _ => rfl, fun x h => by omega⟩
    · show 0 = b; omega
    · simp (disch := omega) only [↓reduceIte, q0, q1, q2, q3, q4, q5, q6, q7, q8, q14, q15, q16, q20, q31, q44, q50, q70, q1000, qn_le_t, qn_le_f, qn_lt_t, qn_lt_f, qn_eq_t, qn_eq_f, qn_add, qn_inb, qn_ix, qn_dec, qn_m1, ck_tt, bd_ss, ix, isB0, isB1, Nat.reduceAdd, Nat.reduceSub, Nat.reduceMul, Nat.zero_add, f_J_search, t_P_end hP, n1, f_J_search_L15, n2]
  | succ m ih =>
    intro d a b i j k J w hab hd hk hi hj hi0 hj0 hw
    obtain ⟨d, rfl⟩ : ∃ x, d = x + 1 := ⟨d - 1, by omega⟩
    have s1 := se_1 (fu := fu) (mr := mr) hP hg hn ha hcd hw (d := d) hi hj hi0 hj0 (show k < 8 by omega) (by omega) J
    have hpow : 2 ^ (m + 1) = 2 ^ m * 1 + 2 ^ m := by rw [Nat.pow_succ]; omega
    -- branch 1 first
    have first : (∃ (o : Nat) (J' : S_J), o < 2 ^ m ∧ ocn (m + 1) o = b ∧ pe g nv av C D (obs (m + 1) o) a b i j w ∧ (∀ o', o' < o → ocn (m + 1) o' = b → ¬ pe g nv av C D (obs (m + 1) o') a b i j w) ∧ f_J_search fu (d + 1) J P (an, nu, ca, ba, mr) (pz w) (qn i) (qn j) (qn k) = some (qn 1, J') ∧ (∀ x, x < k → J' x = J x) ∧ ∀ x, x < m + 1 → J' (k + x) = qn (opk (m + 1) o i j x)) ∨ (∃ J1 : S_J, (∀ o, o < 2 ^ m → ocn (m + 1) o = b → ¬ pe g nv av C D (obs (m + 1) o) a b i j w) ∧ (∀ x, x < k → J1 x = J x) ∧ f_J_search fu (d + 1) J P (an, nu, ca, ba, mr) (pz w) (qn i) (qn j) (qn k) = f_J_search_L150 fu (f_J_search fu d) P (an, nu, ca, ba, mr) J1 (pz w) (qn i) (qn j) (qn k) (hq a) (hq b)) := by
      by_cases hc : 0 < a ∧ (b = 0 ∨ ¬ D j < C i) ∧ anw g nv av w i
      · have af := t_J_after (fu := fu) (an := an) (ca := ca) (ba := ba) (mr := mr) hP hg hn hw (i := i) (by omega)
        rcases ih d (a - 1) b (i + 1) j (k + 1) (upd J k (qn i)) (nxw g nv w i) (by omega) (by omega) (by omega) (by omega) hj (by omega) hj0 af.2 with ⟨o, J', h1, h2, h3, h4, h5, h6, h7⟩ | ⟨J', h1, h2, h3⟩
        · left
          refine ⟨o, J', h1, by rw [ocn_top0 h1]; exact h2, ?_, ?_, ((s1.2 hc) J').2 h5, ?_, ?_⟩
          · rw [(obs_top0 h1).2]; exact ⟨hc.2.2, hc.2.1, h3⟩
          · intro o' ho' hb' hp'
            have hlt : o' < 2 ^ m := by omega
            rw [(obs_top0 hlt).2] at hp'
            rw [ocn_top0 hlt] at hb'
            exact h4 o' ho' hb' hp'.2.2
          · intro x hx
            rw [h6 x (by omega), upd_ne _ _ _ _ (by omega)]
          · intro x hx
            cases x with
            | zero =>
              have := h6 k (by omega)
              rw [upd_at] at this
              rw [Nat.add_zero, this]
              congr 1
              unfold opk
              have e : m + 1 - 1 - 0 = m := by omega
              rw [e, if_neg (by have := (obs_top0 h1).1; omega)]
              show i = i + 0 - 0; omega
            | succ x =>
              have := h7 x (by omega)
              have e : k + (x + 1) = k + 1 + x := by omega
              rw [e, this, opk_sh0 (by omega) (obs_top0 h1).1]
        · right
          refine ⟨J', ?_, ?_, ((s1.2 hc) J').1 h2⟩
          · intro o ho hb hp
            rw [(obs_top0 ho).2] at hp
            rw [ocn_top0 ho] at hb
            exact h1 o ho hb hp.2.2
          · intro x hx
            rw [h3 x (by omega), upd_ne _ _ _ _ (by omega)]
      · right
        refine ⟨J, ?_, fun _ _ => rfl, s1.1 hc⟩
        intro o ho hb hp
        rw [(obs_top0 ho).2] at hp
        rw [ocn_top0 ho] at hb
        have := ocn_le m o
        exact hc ⟨by omega, hp.2.1, hp.1⟩
    rcases first with ⟨o, J', h1, h2, h3, h4, h5, h6, h7⟩ | ⟨J1, f1, f2, f3⟩
    · left
      exact ⟨o, J', by omega, h2, h3, h4, h5, h6, h7⟩
    · have s2 := se_2 (fu := fu) (mr := mr) (rc := f_J_search fu d) hP hg hn ha hcd hw hi hj hi0 hj0 (show k < 8 by omega) J1
      rw [f3]
      by_cases hc : 0 < b ∧ (a = 0 ∨ ¬ D i < C j) ∧ anw g nv av w j
      · have af := t_J_after (fu := fu) (an := an) (ca := ca) (ba := ba) (mr := mr) hP hg hn hw (i := j) (by omega)
        rcases ih d a (b - 1) i (j + 1) (k + 1) (upd J1 k (qn j)) (nxw g nv w j) (by omega) (by omega) (by omega) hi (by omega) hi0 (by omega) af.2 with ⟨o, J', h1, h2, h3, h4, h5, h6, h7⟩ | ⟨J', h1, h2, h3⟩
        · left
          refine ⟨2 ^ m * 1 + o, J', by omega, by rw [ocn_top1 h1]; omega, ?_, ?_, s2.2 hc _ J' isB1 h5, ?_, ?_⟩
          · rw [(obs_top1 h1).2]; exact ⟨hc.2.2, hc.2.1, h3⟩
          · intro o' ho' hb' hp'
            by_cases hlt : o' < 2 ^ m
            · exact f1 o' hlt hb' hp'
            · obtain ⟨o2, rfl⟩ : ∃ o2, o' = 2 ^ m * 1 + o2 := ⟨o' - 2 ^ m, by omega⟩
              have h8 : o2 < 2 ^ m := by omega
              rw [(obs_top1 h8).2] at hp'
              rw [ocn_top1 h8] at hb'
              exact h4 o2 (by omega) (by omega) hp'.2.2
          · intro x hx
            rw [h6 x (by omega), upd_ne _ _ _ _ (by omega), f2 x hx]
          · intro x hx
            cases x with
            | zero =>
              have := h6 k (by omega)
              rw [upd_at] at this
              rw [Nat.add_zero, this]
              congr 1
              unfold opk
              have e : m + 1 - 1 - 0 = m := by omega
              rw [e, if_pos (obs_top1 h1).1]
              show j = j + 0; omega
            | succ x =>
              have := h7 x (by omega)
              have e : k + (x + 1) = k + 1 + x := by omega
              rw [e, this, opk_sh1 (by omega) (obs_top1 h1).1, opk_low (by omega)]
        · right
          refine ⟨J', ?_, s2.2 hc _ J' isB0 h2, ?_⟩
          · intro o ho hb hp
            by_cases hlt : o < 2 ^ m
            · exact f1 o hlt hb hp
            · obtain ⟨o2, rfl⟩ : ∃ o2, o = 2 ^ m * 1 + o2 := ⟨o - 2 ^ m, by omega⟩
              have h8 : o2 < 2 ^ m := by omega
              rw [(obs_top1 h8).2] at hp
              rw [ocn_top1 h8] at hb
              exact h1 o2 h8 (by omega) hp.2.2
          · intro x hx
            rw [h3 x (by omega), upd_ne _ _ _ _ (by omega), f2 x hx]
      · right
        refine ⟨J1, ?_, s2.1 hc, f2⟩
        intro o ho hb hp
        by_cases hlt : o < 2 ^ m
        · exact f1 o hlt hb hp
        · obtain ⟨o2, rfl⟩ : ∃ o2, o = 2 ^ m * 1 + o2 := ⟨o - 2 ^ m, by omega⟩
          have h8 : o2 < 2 ^ m := by omega
          rw [(obs_top1 h8).2] at hp
          rw [ocn_top1 h8] at hb
          exact hc ⟨by omega, hp.2.1, hp.1⟩
/- the class's judgement -/
def pok (g : pg) (nv av : Nat → Nat) : Nat → Nat → (Nat → Nat) → Prop
  | 0, _, _ => True
  | n + 1, i, w => anw g nv av w i ∧ pok g nv av n (i + 1) (nxw g nv w i)
def pnx (g : pg) (nv : Nat → Nat) : Nat → Nat → (Nat → Nat) → (Nat → Nat)
  | 0, _, w => w
  | n + 1, i, w => pnx g nv n (i + 1) (nxw g nv w i)
theorem t_J_pre (hP : pgr P g) (hg : gok g) (hn : ∀ i, i < 14 → nv i < 8 ∧ nu i = qn (nv i)) (ha : ∀ i, i < 14 → av i < 8 ∧ an i = qn (av i)) (J : S_J) : ∀ (d n i : Nat) (w : Nat → Nat), d < n → i + d = gp g → w16 w → (pok g nv av d i w → f_J_explains_L12 fu P (an, nu, ca, ba, mr) n J (pz w) (qn (gp g)) (qn i) = f_J_explains_L47 fu P (an, nu, ca, ba, mr) J (pz (pnx g nv d i w)) ∧ w16 (pnx g nv d i w)) ∧ (¬ pok g nv av d i w → f_J_explains_L12 fu P (an, nu, ca, ba, mr) n J (pz w) (qn (gp g)) (qn i) = some (qn 0, J)) := by
  have h14 := hg.n14
  have hgd := gn_def g
  intro d
  induction d with
  | zero =>
    intro n i w hn' hi hw
    obtain ⟨n, rfl⟩ : ∃ m, n = m + 1 := ⟨n - 1, by omega⟩
    refine ⟨fun _ => ⟨?_, hw⟩, fun h => absurd trivial h⟩
    simp (disch := omega) only [↓reduceIte, q0, q1, q2, q3, q4, q5, q6, q7, q8, q14, q15, q16, q20, q31, q44, q50, q70, q1000, qn_le_t, qn_le_f, qn_lt_t, qn_lt_f, qn_eq_t, qn_eq_f, qn_add, qn_inb, qn_ix, qn_dec, qn_m1, ck_tt, bd_ss, ix, isB0, isB1, Nat.reduceAdd, Nat.reduceSub, Nat.reduceMul, Nat.zero_add, f_J_explains_L12]
    rfl
  | succ d ih =>
    intro n i w hn' hi hw
    obtain ⟨n, rfl⟩ : ∃ m, n = m + 1 := ⟨n - 1, by omega⟩
    have aw := t_J_answersSo (fu := fu) (ca := ca) (ba := ba) (mr := mr) hP hg hn ha hw (i := i) (by omega)
    have af := t_J_after (fu := fu) (an := an) (ca := ca) (ba := ba) (mr := mr) hP hg hn hw (i := i) (by omega)
    have h1 := ih n (i + 1) (nxw g nv w i) (by omega) (by omega) af.2
    refine ⟨fun h => ?_, fun h => ?_⟩
    · have h2 := h1.1 h.2
      refine ⟨?_, h2.2⟩
      have h3 := h2.1
      simp (disch := omega) only [↓reduceIte, q0, q1, q2, q3, q4, q5, q6, q7, q8, q14, q15, q16, q20, q31, q44, q50, q70, q1000, qn_le_t, qn_le_f, qn_lt_t, qn_lt_f, qn_eq_t, qn_eq_f, qn_add, qn_inb, qn_ix, qn_dec, qn_m1, ck_tt, bd_ss, ix, isB0, isB1, Nat.reduceAdd, Nat.reduceSub, Nat.reduceMul, Nat.zero_add, f_J_explains_L12, aw.1 h.1, af.1]
      exact h3
    · by_cases h2 : anw g nv av w i
      · have h3 := h1.2 (fun h4 => h ⟨h2, h4⟩)
        simp (disch := omega) only [↓reduceIte, q0, q1, q2, q3, q4, q5, q6, q7, q8, q14, q15, q16, q20, q31, q44, q50, q70, q1000, qn_le_t, qn_le_f, qn_lt_t, qn_lt_f, qn_eq_t, qn_eq_f, qn_add, qn_inb, qn_ix, qn_dec, qn_m1, ck_tt, bd_ss, ix, isB0, isB1, Nat.reduceAdd, Nat.reduceSub, Nat.reduceMul, Nat.zero_add, f_J_explains_L12, aw.1 h2, af.1]
        exact h3
      · simp (disch := omega) only [↓reduceIte, q0, q1, q2, q3, q4, q5, q6, q7, q8, q14, q15, q16, q20, q31, q44, q50, q70, q1000, qn_le_t, qn_le_f, qn_lt_t, qn_lt_f, qn_eq_t, qn_eq_f, qn_add, qn_inb, qn_ix, qn_dec, qn_m1, ck_tt, bd_ss, ix, isB0, isB1, Nat.reduceAdd, Nat.reduceSub, Nat.reduceMul, Nat.zero_add, f_J_explains_L12, aw.2 h2]
end SRC3
