def mi (g : pg) (ca ba : Nat → Int32) (m : Nat) (Ca Re : Nat → Prop) : Prop := ∃ C D : Nat → Nat, (∀ i, Ca i → ca i = qn (C i) ∧ C i < m) ∧ (∀ i, Re i → ba i = qn (D i) ∧ D i < m) ∧ (∀ i j, Ca i → Re j → gbr g i = gbr g j → i ≤ j → C i < D j) ∧ (∀ i j, Ca i → Re j → gbr g i ≠ gbr g j → C i ≠ D j) ∧ (∀ i j, Re i → Re j → gbr g i = gbr g j → i < j → D i < D j)
theorem mi_sub {g : pg} {ca ba : Nat → Int32} {m m' : Nat} {Ca Re Ca' Re' : Nat → Prop} (h : mi g ca ba m Ca Re) (hm : m ≤ m') (h1 : ∀ x, Ca' x → Ca x) (h2 : ∀ x, Re' x → Re x) : mi g ca ba m' Ca' Re' := by
  obtain ⟨C, D, a, b, c, d, e⟩ := h
  exact ⟨C, D, fun i hi => ⟨(a i (h1 i hi)).1, by have := (a i (h1 i hi)).2; omega⟩, fun i hi => ⟨(b i (h2 i hi)).1, by have := (b i (h2 i hi)).2; omega⟩, fun i j hi hj => c i j (h1 i hi) (h2 j hj), fun i j hi hj => d i j (h1 i hi) (h2 j hj), fun i j hi hj => e i j (h2 i hi) (h2 j hj)⟩
theorem mi_call {g : pg} {ca ba : Nat → Int32} {m : Nat} {Ca Re : Nat → Prop} (h : mi g ca ba m Ca Re) (i : Nat) (hi : ∀ j, Re j → gbr g i = gbr g j → j < i) : mi g (upd ca i (qn m)) ba (m + 1) (fun x => Ca x ∨ x = i) Re := by
  obtain ⟨C, D, a, b, c, d, e⟩ := h
  refine ⟨nset C i m, D, ?_, ?_, ?_, ?_, e⟩
  · intro x hx
    by_cases hxi : x = i
    · rw [hxi, upd_at, nset_at]; exact ⟨rfl, by omega⟩
    · have := a x (by rcases hx with h | h; exact h; exact absurd h hxi)
      rw [upd_ne _ _ _ _ hxi, nset_ne _ _ hxi]; exact ⟨this.1, by omega⟩
  · intro x hx; exact ⟨(b x hx).1, by have := (b x hx).2; omega⟩
  · intro x j hx hj h1 h2
    by_cases hxi : x = i
    · subst hxi; have := hi j hj h1; omega
    · rw [nset_ne _ _ hxi]; exact c x j (by rcases hx with h | h; exact h; exact absurd h hxi) hj h1 h2
  · intro x j hx hj h1
    by_cases hxi : x = i
    · subst hxi; rw [nset_at]; have := (b j hj).2; omega
    · rw [nset_ne _ _ hxi]; exact d x j (by rcases hx with h | h; exact h; exact absurd h hxi) hj h1
theorem mi_ret {g : pg} {ca ba : Nat → Int32} {m : Nat} {Ca Re : Nat → Prop} (h : mi g ca ba m Ca Re) (i : Nat) (hi : ∀ j, Re j → gbr g i = gbr g j → j < i) : mi g ca (upd ba i (qn m)) (m + 1) Ca (fun x => Re x ∨ x = i) := by
  obtain ⟨C, D, a, b, c, d, e⟩ := h
  refine ⟨C, nset D i m, ?_, ?_, ?_, ?_, ?_⟩
  · intro x hx; exact ⟨(a x hx).1, by have := (a x hx).2; omega⟩
  · intro x hx
    by_cases hxi : x = i
    · rw [hxi, upd_at, nset_at]; exact ⟨rfl, by omega⟩
    · have := b x (by rcases hx with h | h; exact h; exact absurd h hxi)
      rw [upd_ne _ _ _ _ hxi, nset_ne _ _ hxi]; exact ⟨this.1, by omega⟩
  · intro x j hx hj h1 h2
    by_cases hji : j = i
    · subst hji; rw [nset_at]; exact (a x hx).2
    · rw [nset_ne _ _ hji]; exact c x j hx (by rcases hj with h | h; exact h; exact absurd h hji) h1 h2
  · intro x j hx hj h1
    by_cases hji : j = i
    · subst hji; rw [nset_at]; have := (a x hx).2; omega
    · rw [nset_ne _ _ hji]; exact d x j hx (by rcases hj with h | h; exact h; exact absurd h hji) h1
  · intro x j hx hj h1 h2
    by_cases hji : j = i
    · subst hji
      rw [nset_at, nset_ne _ _ (by omega)]
      exact (b x (by rcases hx with h | h; exact h; omega)).2
    · have hj' := (by rcases hj with h | h; exact h; exact absurd h hji : Re j)
      by_cases hxi : x = i
      · subst hxi
        have := hi j hj' h1; omega
      · rw [nset_ne _ _ hji, nset_ne _ _ hxi]
        exact e x j (by rcases hx with h | h; exact h; exact absurd h hxi) hj' h1 h2
theorem evn_ex (k f : Nat) : ∃ E, evn k f E := by
  by_cases hs : gspk k f
  · exact ⟨4, Or.inl ⟨hs, rfl⟩⟩
  · by_cases hl : gltk k f
    · exact ⟨4, Or.inr (Or.inl ⟨hs, hl, rfl⟩)⟩
    · exact ⟨3, Or.inr (Or.inr ⟨hs, hl, rfl⟩)⟩
theorem ev_lt {k f e e' E : Nat} (h1 : evk k f e) (h2 : evr k f e e') (h3 : evn k f E) : e' < E := by
  obtain ⟨h4, h5, h6⟩ := h1
  by_cases hs : gspk k f
  · have := evn_s hs h3; have := evr_s hs h2
    have : e ≠ 4 := fun h => sp_lt hs (h6 h)
    omega
  · have := evr_n hs h2
    by_cases he : e = 4
    · have := evn_l (h6 he) h3; omega
    · have := evn_g h3; omega
theorem t_R_ev {fu f E : Nat} {th : Int32} {sz kd ce ar ks kp : Nat → Int32} {r : Int64 × (Nat → Int32) × (Nat → Int32) × S_R11} {i k : Nat} (hi : i < 14) (e : kd i = qn k) (hk : k ≤ 6) (hf : f < 16) (hE : evn k f E) : f_R_events fu (th, sz, kd, ce, ar, ks, kp, qn f, r) (qn i) = some (qn E) := by
  have h := t_R_events (fu := fu) (th := th) (sz := sz) (ce := ce) (ar := ar) (ks := ks) (kp := kp) (r := r) hi e hk hf
  rcases hE with ⟨h1, rfl⟩ | ⟨h1, h2, rfl⟩ | ⟨h1, h2, rfl⟩
  · exact h.1 h1
  · exact h.2.1 h1 h2
  · exact h.2.2 h1 h2
theorem pre_loop {fu f : Nat} (hfu : 20000 ≤ fu) {P : S_P} {th ra ex : Int32} {sz kd ce ar ks kp ho op at_ ev : Nat → Int32} {gg : Int64} {r : S_R22} {g : pg} {sch : Int32} (hP : pgr P g) (hR : pgr (sz, kd, ce, ar) g) (hg : gok g) (hf : f < 16) : ∀ (d nC n0 n1 cnt i e e' : Nat) (an nu ca ba nc ne no ha io no' : Nat → Int32) (w : Nat → Nat), i < gp g → (gp g - i) * 5 - e ≤ d → d < nC → cnt + d < 70 → 6 ≤ n1 + e' → gp g - i < n0 → w16 w → hvr ha io w → a8 an → a8 nu → nc 0 = qn i → ne 0 = qn e → evk (gk g i) f e → evr (gk g i) f e e' → (e = 2 → gspk (gk g i) f → ∃ n, n < 8 ∧ no 0 = qn n ∧ no' i = qn n) → ∃ (an1 nu1 ca1 ba1 nc1 ne1 no1 ha1 io1 no1' : Nat → Int32) (w1 : Nat → Nat), f_M_perform_L56 fu P nC (an, nu, ca, ba, pz w, nc, ne, no, qn f) sch (qn (gp g)) (qn cnt) = f_M_perform_L87 fu P (an1, nu1, ca1, ba1, pz w1, nc1, ne1, no1, qn f) sch ∧ f_R_go_L41 fu (f_R_go_L29 fu n0) n1 (th, sz, kd, ce, ar, ks, kp, qn f, gg, ho, op, ha, io, ra, ex, an, nu, ca, ba, no', at_, ev, r) sch (qn i) (qn e') = f_R_go_L71 fu fu (th, sz, kd, ce, ar, ks, kp, qn f, gg, ho, op, ha1, io1, ra, ex, an1, nu1, ca1, ba1, no1', at_, ev, r) sch (qn 1) ∧ w16 w1 ∧ hvr ha1 io1 w1 ∧ a8 an1 ∧ a8 nu1 ∧ (∀ b', b' ≠ 0 → nc1 b' = nc b' ∧ ne1 b' = ne b') := by
  have h14 := hg.n14
  have hgd := gn_def g
  have h6 := hg.1
  have ez : sz 0 = qn (gp g) := hR.1
  intro d
  induction d with
  | zero =>
    intro nC n0 n1 cnt i e e' an nu ca ba nc ne no ha io no' w hi hd hnC hc hn1 hn0 hw hh ha8 hn8 hnc hne hek her hno
    have := hek.1
    omega
  | succ d ih =>
    intro nC n0 n1 cnt i e e' an nu ca ba nc ne no ha io no' w hi hd hnC hc hn1 hn0 hw hh ha8 hn8 hnc hne hek her hno
    have he4 := hek.1
    obtain ⟨nC, rfl⟩ : ∃ m, nC = m + 1 := ⟨nC - 1, by omega⟩
    obtain ⟨E, hE⟩ := evn_ex (gk g i) f
    have hlt := ev_lt hek her hE
    have hEg := evn_g hE
    obtain ⟨n1, rfl⟩ : ∃ m, n1 = m + 1 := ⟨n1 - 1, by omega⟩
    have hq := hR.2.2.2 i (by omega)
    have hgi := hg.2.2.2 i (by omega)
    have hevs : ∀ (ha io an nu ca ba no : Nat → Int32), f_R_events fu (th, sz, kd, ce, ar, ks, kp, qn f, gg, ho, op, ha, io, ra, ex, an, nu, ca, ba, no, at_, ev, r) (qn i) = some (qn E) := fun ha io an nu ca ba no => t_R_ev (by omega) hq.1 hgi.1 hf hE
    obtain ⟨an1, nu1, ca1, ba1, nc1, ne1, no1, ha1, io1, no1', w1, i1, e1, sM, sR, hw1, hh1, ha81, hn81, hnc1, hne1, hno1, hno1', htr, hmo⟩ := jstep (fu := fu) (f := f) (ca := ca) (ba := ba) (mo := -qn 1) (th := th) (ra := ra) (ex := ex) (ks := ks) (kp := kp) (ho := ho) (op := op) (at_ := at_) (ev := ev) (gg := gg) (r := r) hP hR hg hf hw hh ha8 hn8 (b := 0) (by omega) (show i < gn g by omega) hnc hne hek her hno
    have oth : ∀ b', b' ≠ 0 → nc1 b' = nc b' ∧ ne1 b' = ne b' := by
      intro b' hb'
      refine ⟨?_, by rw [hne1, upd_ne _ _ _ _ hb']⟩
      rcases hnc1 with h | ⟨h, _⟩
      · rw [h, upd_ne _ _ _ _ hb']
      · rw [h]
    have hnc1' : nc1 0 = qn i1 := by
      rcases hnc1 with h | ⟨h, h'⟩
      · rw [h, upd_at]
      · rw [h, h', hnc]
    have hne1' : ne1 0 = qn e1 := by rw [hne1, upd_at]
    have stM : f_M_perform_L56 fu P (nC + 1) (an, nu, ca, ba, pz w, nc, ne, no, qn f) sch (qn (gp g)) (qn cnt) = f_M_perform_L56 fu P nC (an1, nu1, ca1, ba1, pz w1, nc1, ne1, no1, qn f) sch (qn (gp g)) (qn (cnt + 1)) := by
      simp (disch := omega) only [↓reduceIte, q0, q1, q2, q3, q4, q5, q6, q7, q8, q14, q15, q16, q20, q31, q44, q50, q70, q1000, qn_le_t, qn_le_f, qn_lt_t, qn_lt_f, qn_eq_t, qn_eq_f, qn_add, qn_inb, qn_ix, qn_dec, qn_m1, ck_tt, bd_ss, ix, isB0, isB1, Nat.reduceAdd, Nat.reduceSub, Nat.reduceMul, Nat.zero_add, f_M_perform_L56, hnc, sM]
    have stR : f_R_go_L41 fu (f_R_go_L29 fu n0) (n1 + 1) (th, sz, kd, ce, ar, ks, kp, qn f, gg, ho, op, ha, io, ra, ex, an, nu, ca, ba, no', at_, ev, r) sch (qn i) (qn e') = f_R_go_L41 fu (f_R_go_L29 fu n0) n1 (th, sz, kd, ce, ar, ks, kp, qn f, gg, ho, op, ha1, io1, ra, ex, an1, nu1, ca1, ba1, no1', at_, ev, r) sch (qn i) (qn (e' + 1)) := by
      simp (disch := omega) only [↓reduceIte, q0, q1, q2, q3, q4, q5, q6, q7, q8, q14, q15, q16, q20, q31, q44, q50, q70, q1000, qn_le_t, qn_le_f, qn_lt_t, qn_lt_f, qn_eq_t, qn_eq_f, qn_add, qn_inb, qn_ix, qn_dec, qn_m1, ck_tt, bd_ss, ix, isB0, isB1, Nat.reduceAdd, Nat.reduceSub, Nat.reduceMul, Nat.zero_add, f_R_go_L41, hevs, sR]
    rw [stM, stR]
    rcases htr with ⟨rfl, h1, h2, h3, h4, h5⟩ | ⟨rfl, rfl, h1, h2⟩
    · obtain ⟨an2, nu2, ca2, ba2, nc2, ne2, no2, ha2, io2, no2', w2, x1, x2, x3, x4, x5, x6, x7⟩ := ih nC n0 n1 (cnt + 1) i1 e1 (e' + 1) an1 nu1 ca1 ba1 nc1 ne1 no1 ha1 io1 no1' w1 hi (by omega) (by omega) (by omega) (by omega) hn0 hw1 hh1 ha81 hn81 hnc1' hne1' h2 h3 h5
      exact ⟨an2, nu2, ca2, ba2, nc2, ne2, no2, ha2, io2, no2', w2, x1, x2, x3, x4, x5, x6, fun b' hb' => ⟨(x7 b' hb').1.trans (oth b' hb').1, (x7 b' hb').2.trans (oth b' hb').2⟩⟩
    · have hEe := h2 E hE
      obtain ⟨n1, rfl⟩ : ∃ m, n1 = m + 1 := ⟨n1 - 1, by omega⟩
      obtain ⟨n0, rfl⟩ : ∃ m, n0 = m + 1 := ⟨n0 - 1, by omega⟩
      have stR2 : f_R_go_L41 fu (f_R_go_L29 fu (n0 + 1)) (n1 + 1) (th, sz, kd, ce, ar, ks, kp, qn f, gg, ho, op, ha1, io1, ra, ex, an1, nu1, ca1, ba1, no1', at_, ev, r) sch (qn i) (qn (e' + 1)) = f_R_go_L29 fu (n0 + 1) (th, sz, kd, ce, ar, ks, kp, qn f, gg, ho, op, ha1, io1, ra, ex, an1, nu1, ca1, ba1, no1', at_, ev, r) sch (qn (i + 1)) := by
        unfold f_R_go_L41
        rw [hevs, bd_ss, if_pos (by rw [qn_le (by omega) (by omega)]; omega), q1, qn_add]
      rw [stR2]
      by_cases hend : i + 1 < gp g
      · obtain ⟨an2, nu2, ca2, ba2, nc2, ne2, no2, ha2, io2, no2', w2, x1, x2, x3, x4, x5, x6, x7⟩ := ih nC n0 fu (cnt + 1) (i + 1) 0 0 an1 nu1 ca1 ba1 nc1 ne1 no1 ha1 io1 no1' w1 hend (by omega) (by omega) (by omega) (by omega) (by omega) hw1 hh1 ha81 hn81 hnc1' hne1' ⟨by omega, fun h => by omega, fun h => by omega⟩ (by by_cases hs : gspk (gk g (i + 1)) f; exact Or.inl ⟨hs, rfl⟩; exact Or.inr ⟨hs, rfl⟩) (fun h => by omega)
        have stR3 : f_R_go_L29 fu (n0 + 1) (th, sz, kd, ce, ar, ks, kp, qn f, gg, ho, op, ha1, io1, ra, ex, an1, nu1, ca1, ba1, no1', at_, ev, r) sch (qn (i + 1)) = f_R_go_L41 fu (f_R_go_L29 fu n0) fu (th, sz, kd, ce, ar, ks, kp, qn f, gg, ho, op, ha1, io1, ra, ex, an1, nu1, ca1, ba1, no1', at_, ev, r) sch (qn (i + 1)) (qn 0) := by
          simp (disch := omega) only [↓reduceIte, q0, q1, q2, q3, q4, q5, q6, q7, q8, q14, q15, q16, q20, q31, q44, q50, q70, q1000, qn_le_t, qn_le_f, qn_lt_t, qn_lt_f, qn_eq_t, qn_eq_f, qn_add, qn_inb, qn_ix, qn_dec, qn_m1, ck_tt, bd_ss, ix, isB0, isB1, Nat.reduceAdd, Nat.reduceSub, Nat.reduceMul, Nat.zero_add, f_R_go_L29, ez]
        rw [stR3]
        exact ⟨an2, nu2, ca2, ba2, nc2, ne2, no2, ha2, io2, no2', w2, x1, x2, x3, x4, x5, x6, fun b' hb' => ⟨(x7 b' hb').1.trans (oth b' hb').1, (x7 b' hb').2.trans (oth b' hb').2⟩⟩
      · obtain ⟨nC, rfl⟩ : ∃ m, nC = m + 1 := ⟨nC - 1, by omega⟩
        refine ⟨an1, nu1, ca1, ba1, nc1, ne1, no1, ha1, io1, no1', w1, ?_, ?_, hw1, hh1, ha81, hn81, oth⟩
        · simp (disch := omega) only [↓reduceIte, q0, q1, q2, q3, q4, q5, q6, q7, q8, q14, q15, q16, q20, q31, q44, q50, q70, q1000, qn_le_t, qn_le_f, qn_lt_t, qn_lt_f, qn_eq_t, qn_eq_f, qn_add, qn_inb, qn_ix, qn_dec, qn_m1, ck_tt, bd_ss, ix, isB0, isB1, Nat.reduceAdd, Nat.reduceSub, Nat.reduceMul, Nat.zero_add, f_M_perform_L56, hnc1']
        · simp (disch := omega) only [↓reduceIte, q0, q1, q2, q3, q4, q5, q6, q7, q8, q14, q15, q16, q20, q31, q44, q50, q70, q1000, qn_le_t, qn_le_f, qn_lt_t, qn_lt_f, qn_eq_t, qn_eq_f, qn_add, qn_inb, qn_ix, qn_dec, qn_m1, ck_tt, bd_ss, ix, isB0, isB1, Nat.reduceAdd, Nat.reduceSub, Nat.reduceMul, Nat.zero_add, f_R_go_L29, ez]
