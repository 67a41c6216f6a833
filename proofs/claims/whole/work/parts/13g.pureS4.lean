def gen (g : pg) (b : Nat) : Nat := gst g b + gsz g b
def Cs (g : pg) (I E : Nat → Nat) (x : Nat) : Prop := ∃ b, (b = 1 ∨ b = 2) ∧ gst g b ≤ x ∧ x < gen g b ∧ (x < I b ∨ x = I b ∧ 0 < E b)
def Rs (g : pg) (I E : Nat → Nat) (x : Nat) : Prop := ∃ b, (b = 1 ∨ b = 2) ∧ gst g b ≤ x ∧ x < gen g b ∧ (x < I b ∨ x = I b ∧ E b = 4)
def bi (g : pg) (f : Nat) (nc ne no at_ ev no' : Nat → Int32) (I E E' : Nat → Nat) (b : Nat) : Prop := nc b = qn (I b) ∧ at_ b = qn (I b) ∧ ne b = qn (E b) ∧ ev b = qn (E' b) ∧ gst g b ≤ I b ∧ I b ≤ gen g b ∧ (I b < gen g b → evk (gk g (I b)) f (E b) ∧ evr (gk g (I b)) f (E b) (E' b) ∧ (E b = 2 → gspk (gk g (I b)) f → ∃ n, n < 8 ∧ no b = qn n ∧ no' (I b) = qn n)) ∧ (I b = gen g b → E b = 0)
theorem gbr_in {g : pg} {b x : Nat} (hb : b = 1 ∨ b = 2) (h1 : gst g b ≤ x) (h2 : x < gen g b) : gbr g x = b := by
  unfold gbr
  rcases hb with rfl | rfl
  · have e1 : gst g 1 = gp g := rfl
    have e2 : gen g 1 = gp g + ga g := rfl
    rw [if_neg (by omega), if_pos (by omega)]
  · have e1 : gst g 2 = gp g + ga g := rfl
    rw [if_neg (by omega), if_neg (by omega)]
theorem gen_le {g : pg} {b : Nat} (hb : b = 1 ∨ b = 2) : gen g b ≤ gn g := gend_le g (by omega)
def grm_ (g : pg) (I E : Nat → Nat) (b : Nat) : Nat := (gen g b - I b) * 5 - E b
theorem jturn {fu f : Nat} {P : S_P} {th ra ex : Int32} {sz kd ce ar ks kp ho op : Nat → Int32} {gg : Int64} {r : S_R22} {g : pg} {sch : Int32} (hP : pgr P g) (hR : pgr (sz, kd, ce, ar) g) (hg : gok g) (hf : f < 16) {m : Nat} {an nu ca ba nc ne no ha io no' at_ ev : Nat → Int32} {w I E E' : Nat → Nat} (hw : w16 w) (hh : hvr ha io w) (ha8 : a8 an) (hn8 : a8 nu) (b : Nat) (hb : b = 1 ∨ b = 2) (hbi : ∀ b, b = 1 ∨ b = 2 → bi g f nc ne no at_ ev no' I E E' b) (hI : I b < gen g b) (hmi : mi g ca ba m (Cs g I E) (Rs g I E)) (hm : m < 1000) :
    ∃ (an1 nu1 ca1 ba1 nc1 ne1 no1 ha1 io1 no1' at1 ev1 : Nat → Int32) (w1 I1 E1 E1' : Nat → Nat), f_M_step fu (an, nu, ca, ba, pz w, nc, ne, no, qn f) P (qn b) (qn m) = some (an1, nu1, ca1, ba1, pz w1, nc1, ne1, no1, qn f) ∧ (∀ k, f_R_go_L152 fu k (th, sz, kd, ce, ar, ks, kp, qn f, gg, ho, op, ha, io, ra, ex, an, nu, ca, ba, no', at_, ev, r) sch (qn m) (qn b) = k (th, sz, kd, ce, ar, ks, kp, qn f, gg, ho, op, ha1, io1, ra, ex, an1, nu1, ca1, ba1, no1', at1, ev1, r) sch (qn (m + 1))) ∧ w16 w1 ∧ hvr ha1 io1 w1 ∧ a8 an1 ∧ a8 nu1 ∧ (∀ b, b = 1 ∨ b = 2 → bi g f nc1 ne1 no1 at1 ev1 no1' I1 E1 E1' b) ∧ mi g ca1 ba1 (m + 1) (Cs g I1 E1) (Rs g I1 E1) ∧ grm_ g I1 E1 b < grm_ g I E b ∧ ∀ b', b' ≠ b → grm_ g I1 E1 b' = grm_ g I E b' := by
  have h14 := hg.n14
  have hgl := gen_le (g := g) hb
  obtain ⟨hnc, hat, hne, hev, hIs, hIe, hin, hend⟩ := hbi b hb
  obtain ⟨hek, her, hno⟩ := hin hI
  obtain ⟨E0, hE0⟩ := evn_ex (gk g (I b)) f
  have hlt := ev_lt hek her hE0
  have hEg := evn_g hE0
  have hb3 : b < 3 := by omega
  have hgi := hg.2.2.2 (I b) (by omega)
  have hq := hR.2.2.2 (I b) (by omega)
  obtain ⟨an1, nu1, ca1, ba1, nc1, ne1, no1, ha1, io1, no1', w1, i1, e1, sM, sR, hw1, hh1, ha81, hn81, hnc1, hne1, hno1, hno1', htr, hmo⟩ := jstep (fu := fu) (f := f) (ca := ca) (ba := ba) (mo := qn m) (th := th) (ra := ra) (ex := ex) (ks := ks) (kp := kp) (ho := ho) (op := op) (at_ := at_) (ev := ev) (gg := gg) (r := r) hP hR hg hf hw hh ha8 hn8 (b := b) hb3 (show I b < gn g by omega) hnc hne hek her hno
  have hevs : ∀ (ev : Nat → Int32), f_R_events fu (th, sz, kd, ce, ar, ks, kp, qn f, gg, ho, op, ha1, io1, ra, ex, an1, nu1, ca1, ba1, no1', at_, ev, r) (qn (I b)) = some (qn E0) := fun ev => t_R_ev (by omega) hq.1 hgi.1 hf hE0
  have hother : ∀ b', b' = 1 ∨ b' = 2 → b' ≠ b → I b' ≠ I b ∨ ¬ (I b' < gen g b') := by
    intro b' hb' hne
    obtain ⟨_, _, _, _, hIs', hIe', _, _⟩ := hbi b' hb'
    by_cases h : I b' < gen g b'
    · left
      intro heq
      have h1 := gbr_in hb' hIs' h
      have h2 := gbr_in hb hIs hI
      rw [heq] at h1
      omega
    · exact Or.inr h
  have hRe : ∀ j, Rs g I E j → gbr g (I b) = gbr g j → j < I b ∨ (j = I b ∧ E b = 4) := by
    intro j hj h
    obtain ⟨b', hb', h1, h2, h3⟩ := hj
    have e1 := gbr_in hb' h1 h2
    have e2 := gbr_in hb hIs hI
    have : b' = b := by omega
    subst this
    exact h3
  have hnc1' : nc1 b = qn i1 := by
    rcases hnc1 with h | ⟨h, h'⟩
    · rw [h, upd_at]
    · rw [h, h', hnc]
  have hnc1o : ∀ b', b' ≠ b → nc1 b' = nc b' := by
    intro b' hb'
    rcases hnc1 with h | ⟨h, h'⟩
    · rw [h, upd_ne _ _ _ _ hb']
    · rw [h]
  -- moments
  have hmi1 : ∀ I1 E1 : Nat → Nat, (∀ x, Cs g I1 E1 x → Cs g I E x ∨ (E b = 0 ∧ x = I b)) → (∀ x, Rs g I1 E1 x → Rs g I E x ∨ (E b = 3 ∧ x = I b)) → mi g ca1 ba1 (m + 1) (Cs g I1 E1) (Rs g I1 E1) := by
    intro I1 E1 hC hRR
    rcases hmo with ⟨h0, h1, h2⟩ | ⟨h0, h1, h2⟩ | ⟨h0, h3, h1, h2⟩
    · rw [h1, h2]
      refine mi_sub (mi_call hmi (I b) (fun j hj h => by have := hRe j hj h; omega)) (Nat.le_refl _) ?_ ?_
      · intro x hx
        rcases hC x hx with h | h
        · exact Or.inl h
        · exact Or.inr h.2
      · intro x hx
        rcases hRR x hx with h | h
        · exact h
        · omega
    · rw [h1, h2]
      refine mi_sub (mi_ret hmi (I b) (fun j hj h => by have := hRe j hj h; omega)) (Nat.le_refl _) ?_ ?_
      · intro x hx
        rcases hC x hx with h | h
        · exact h
        · omega
      · intro x hx
        rcases hRR x hx with h | h
        · exact Or.inl h
        · exact Or.inr h.2
    · rw [h1, h2]
      refine mi_sub hmi (by omega) ?_ ?_
      · intro x hx
        rcases hC x hx with h | h
        · exact h
        · exact absurd h.1 h0
      · intro x hx
        rcases hRR x hx with h | h
        · exact h
        · exact absurd h.1 h3
  rcases htr with ⟨rfl, h1, h2, h3, h4, h5⟩ | ⟨rfl, rfl, h1, h2⟩
  · -- it stays
    have hEe := h4 E0 hE0
    have he14 := h2.1
    refine ⟨an1, nu1, ca1, ba1, nc1, ne1, no1, ha1, io1, no1', at_, upd ev b (qn (E' b + 1)), w1, I, nset E b e1, nset E' b (E' b + 1), sM, ?_, hw1, hh1, ha81, hn81, ?_, ?_, ?_, ?_⟩
    · intro k
      simp (disch := omega) only [↓reduceIte, q0, q1, q2, q3, q4, q5, q6, q7, q8, q14, q15, q16, q20, q31, q44, q50, q70, q1000, qn_le_t, qn_le_f, qn_lt_t, qn_lt_f, qn_eq_t, qn_eq_f, qn_add, qn_inb, qn_ix, qn_dec, qn_m1, ck_tt, bd_ss, ix, isB0, isB1, Nat.reduceAdd, Nat.reduceSub, Nat.reduceMul, Nat.zero_add, f_R_go_L152, hat, hev, sR, hevs, upd_at]
    · intro b' hb'
      by_cases hbb : b' = b
      · subst hbb
        refine ⟨hnc1', hat, ?_, upd_at _ _ _ |>.trans ?_, hIs, hIe, fun _ => ?_, fun h => ?_⟩
        · rw [hne1, upd_at, nset_at]
        · rw [nset_at]
        · rw [nset_at, nset_at]; exact ⟨h2, h3, h5⟩
        · omega
      · obtain ⟨y1, y2, y3, y4, y5, y6, y7, y8⟩ := hbi b' hb'
        refine ⟨(hnc1o b' hbb).trans y1, y2, ?_, ?_, y5, y6, fun h => ?_, ?_⟩
        · rw [hne1, upd_ne _ _ _ _ hbb, nset_ne _ _ hbb]; exact y3
        · rw [upd_ne _ _ _ _ hbb, nset_ne _ _ hbb]; exact y4
        · rw [nset_ne _ _ hbb, nset_ne _ _ hbb, hno1 b' hbb]
          rcases hother b' hb' hbb with h7 | h7
          · rw [hno1' _ h7]; exact y7 h
          · exact absurd h h7
        · rw [nset_ne _ _ hbb]; exact y8
    · refine hmi1 I (nset E b e1) ?_ ?_
      · rintro x ⟨b', hb', x1, x2, x3⟩
        by_cases hbb : b' = b
        · subst hbb
          by_cases hx : x < I b'
          · exact Or.inl ⟨b', hb', x1, x2, Or.inl hx⟩
          · have hxe : x = I b' := by omega
            by_cases h0 : E b' = 0
            · exact Or.inr ⟨h0, hxe⟩
            · exact Or.inl ⟨b', hb', x1, x2, Or.inr ⟨hxe, by omega⟩⟩
        · rw [nset_ne _ _ hbb] at x3
          exact Or.inl ⟨b', hb', x1, x2, x3⟩
      · rintro x ⟨b', hb', x1, x2, x3⟩
        by_cases hbb : b' = b
        · subst hbb
          rw [nset_at] at x3
          by_cases hx : x < I b'
          · exact Or.inl ⟨b', hb', x1, x2, Or.inl hx⟩
          · have hxe : x = I b' ∧ e1 = 4 := by omega
            by_cases h0 : E b' = 3
            · exact Or.inr ⟨h0, hxe.1⟩
            · exfalso
              rcases hmo with ⟨z0, z1, z2⟩ | ⟨z0, z1, z2⟩ | ⟨z0, z3, z1, z2⟩
              · have hl := h2.2.2 hxe.2
                have hs : ¬ gspk (gk g (I b')) f := fun h => sp_lt h hl
                have a1 := evr_n hs her
                have a2 := evr_n hs h3
                omega
              · omega
              · have hl := h2.2.2 hxe.2
                have hs : ¬ gspk (gk g (I b')) f := fun h => sp_lt h hl
                have a1 := evr_n hs her
                have a2 := evr_n hs h3
                omega
        · rw [nset_ne _ _ hbb] at x3
          exact Or.inl ⟨b', hb', x1, x2, x3⟩
    · unfold grm_; rw [nset_at]; omega
    · intro b' hbb; unfold grm_; rw [nset_ne _ _ hbb]
  · -- next command
    have hEe := h2 E0 hE0
    have he4 := hek.1
    have eu : ∀ y z : Int32, upd (upd ev b y) b z = upd ev b z := by
      intro y z; funext j; unfold upd; split <;> rfl
    refine ⟨an1, nu1, ca1, ba1, nc1, ne1, no1, ha1, io1, no1', upd at_ b (qn (I b + 1)), upd ev b (qn 0), w1, nset I b (I b + 1), nset E b 0, nset E' b 0, sM, ?_, hw1, hh1, ha81, hn81, ?_, ?_, ?_, ?_⟩
    · intro k
      simp (disch := omega) only [↓reduceIte, q0, q1, q2, q3, q4, q5, q6, q7, q8, q14, q15, q16, q20, q31, q44, q50, q70, q1000, qn_le_t, qn_le_f, qn_lt_t, qn_lt_f, qn_eq_t, qn_eq_f, qn_add, qn_inb, qn_ix, qn_dec, qn_m1, ck_tt, bd_ss, ix, isB0, isB1, Nat.reduceAdd, Nat.reduceSub, Nat.reduceMul, Nat.zero_add, f_R_go_L152, hat, hev, sR, hevs, upd_at, eu]
    · intro b' hb'
      by_cases hbb : b' = b
      · subst hbb
        refine ⟨?_, ?_, ?_, ?_, ?_, ?_, fun h => ?_, fun h => ?_⟩
        · rw [nset_at]; exact hnc1'
        · rw [upd_at, nset_at]
        · rw [hne1, upd_at, nset_at]
        · rw [upd_at, nset_at]
        · rw [nset_at]; omega
        · rw [nset_at]; omega
        · rw [nset_at, nset_at]
          refine ⟨⟨by omega, fun h => by omega, fun h => by omega⟩, ?_, fun h => by omega⟩
          rw [nset_at]
          by_cases hs : gspk (gk g (I b' + 1)) f
          · exact Or.inl ⟨hs, rfl⟩
          · exact Or.inr ⟨hs, rfl⟩
        · rw [nset_at]
      · obtain ⟨y1, y2, y3, y4, y5, y6, y7, y8⟩ := hbi b' hb'
        refine ⟨?_, ?_, ?_, ?_, ?_, ?_, fun h => ?_, ?_⟩
        · rw [nset_ne _ _ hbb]; exact (hnc1o b' hbb).trans y1
        · rw [upd_ne _ _ _ _ hbb, nset_ne _ _ hbb]; exact y2
        · rw [hne1, upd_ne _ _ _ _ hbb, nset_ne _ _ hbb]; exact y3
        · rw [upd_ne _ _ _ _ hbb, nset_ne _ _ hbb]; exact y4
        · rw [nset_ne _ _ hbb]; exact y5
        · rw [nset_ne _ _ hbb]; exact y6
        · rw [nset_ne _ _ hbb] at h
          rw [nset_ne _ _ hbb, nset_ne _ _ hbb, nset_ne _ _ hbb, hno1 b' hbb]
          rcases hother b' hb' hbb with h7 | h7
          · rw [hno1' _ h7]; exact y7 h
          · exact absurd h h7
        · rw [nset_ne _ _ hbb, nset_ne _ _ hbb]; exact y8
    · refine hmi1 (nset I b (I b + 1)) (nset E b 0) ?_ ?_
      · rintro x ⟨b', hb', x1, x2, x3⟩
        by_cases hbb : b' = b
        · subst hbb
          rw [nset_at, nset_at] at x3
          refine Or.inl ⟨b', hb', x1, x2, ?_⟩
          by_cases hx : x < I b'
          · exact Or.inl hx
          · exact Or.inr ⟨by omega, by omega⟩
        · rw [nset_ne _ _ hbb, nset_ne _ _ hbb] at x3
          exact Or.inl ⟨b', hb', x1, x2, x3⟩
      · rintro x ⟨b', hb', x1, x2, x3⟩
        by_cases hbb : b' = b
        · subst hbb
          rw [nset_at, nset_at] at x3
          by_cases hx : x < I b'
          · exact Or.inl ⟨b', hb', x1, x2, Or.inl hx⟩
          · have hxe : x = I b' := by omega
            by_cases h0 : E b' = 3
            · exact Or.inr ⟨h0, hxe⟩
            · exact Or.inl ⟨b', hb', x1, x2, Or.inr ⟨hxe, by omega⟩⟩
        · rw [nset_ne _ _ hbb, nset_ne _ _ hbb] at x3
          exact Or.inl ⟨b', hb', x1, x2, x3⟩
    · unfold grm_; rw [nset_at, nset_at]; omega
    · intro b' hbb; unfold grm_; rw [nset_ne _ _ hbb, nset_ne _ _ hbb]
