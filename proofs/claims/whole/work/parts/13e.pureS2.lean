def a8 (an : Nat → Int32) : Prop := ∀ i, i < 14 → ∃ x, x < 8 ∧ an i = qn x
theorem a8.u {an : Nat → Int32} (h : a8 an) {i x : Nat} (hx : x < 8) : a8 (upd an i (qn x)) := by
  intro j hj
  by_cases h1 : j = i
  · subst h1; exact ⟨x, hx, upd_at _ _ _⟩
  · rw [upd_ne _ _ _ _ h1]; exact h j hj
theorem a8.ux {an : Nat → Int32} (h : a8 an) {i : Nat} {y : Int32} (hx : ∃ x, x < 8 ∧ y = qn x) : a8 (upd an i y) := by
  obtain ⟨x, h1, h2⟩ := hx
  rw [h2]; exact h.u h1
def evk (k f e : Nat) : Prop := e ≤ 4 ∧ (e = 1 → gspk k f) ∧ (e = 4 → gltk k f)
def evr (k f e e' : Nat) : Prop := gspk k f ∧ e' = e ∨ ¬ gspk k f ∧ e' = e - 1
def evn (k f E : Nat) : Prop := gspk k f ∧ E = 4 ∨ ¬ gspk k f ∧ gltk k f ∧ E = 4 ∨ ¬ gspk k f ∧ ¬ gltk k f ∧ E = 3
theorem dans8 {w : Nat → Nat} {k c v n : Nat} (h : n < 8) : dans w k c v n < 8 := by
  unfold dans
  repeat' split
  all_goals omega
theorem sp_lt {k f : Nat} (h : gspk k f) : ¬ gltk k f := by unfold gltk; unfold gspk at h; omega
theorem evn_s {k f E : Nat} (hs : gspk k f) (h : evn k f E) : E = 4 := by
  rcases h with h | h | h
  · exact h.2
  · exact absurd hs h.1
  · exact absurd hs h.1
theorem evn_l {k f E : Nat} (hl : gltk k f) (h : evn k f E) : E = 4 := by
  rcases h with h | h | h
  · exact h.2
  · exact h.2.2
  · exact absurd hl h.2.1
theorem evn_n {k f E : Nat} (hs : ¬ gspk k f) (hl : ¬ gltk k f) (h : evn k f E) : E = 3 := by
  rcases h with h | h | h
  · exact absurd h.1 hs
  · exact absurd h.2.1 hl
  · exact h.2.2
theorem evn_g {k f E : Nat} (h : evn k f E) : 3 ≤ E ∧ E ≤ 4 := by
  rcases h with h | h | h
  · have := h.2; omega
  · have := h.2.2; omega
  · have := h.2.2; omega
theorem evr_s {k f e e' : Nat} (hs : gspk k f) (h : evr k f e e') : e' = e := by
  rcases h with h | h
  · exact h.2
  · exact absurd hs h.1
theorem evr_n {k f e e' : Nat} (hs : ¬ gspk k f) (h : evr k f e e') : e' = e - 1 := by
  rcases h with h | h
  · exact absurd h.1 hs
  · exact h.2
theorem jstep {fu f : Nat} {an nu ca ba nc ne no : Nat → Int32} {P : S_P} {w : Nat → Nat} {mo : Int32} {th ra ex : Int32} {sz kd ce ar ks kp ho op ha io no' at_ ev : Nat → Int32} {gg : Int64} {r : S_R22} {g : pg} (hP : pgr P g) (hR : pgr (sz, kd, ce, ar) g) (hg : gok g) (hf : f < 16) (hw : w16 w) (hh : hvr ha io w) (ha8 : a8 an) (hn8 : a8 nu) {b i e e' : Nat} (hb : b < 3) (hi : i < gn g) (hnc : nc b = qn i) (hne : ne b = qn e) (hek : evk (gk g i) f e) (her : evr (gk g i) f e e') (hno : e = 2 → gspk (gk g i) f → ∃ n, n < 8 ∧ no b = qn n ∧ no' i = qn n) :
    ∃ (an1 nu1 ca1 ba1 nc1 ne1 no1 ha1 io1 no1' : Nat → Int32) (w1 : Nat → Nat) (i1 e1 : Nat), f_M_step fu (an, nu, ca, ba, pz w, nc, ne, no, qn f) P (qn b) mo = some (an1, nu1, ca1, ba1, pz w1, nc1, ne1, no1, qn f) ∧ f_R_happens fu (th, sz, kd, ce, ar, ks, kp, qn f, gg, ho, op, ha, io, ra, ex, an, nu, ca, ba, no', at_, ev, r) (qn i) (qn e') mo = some (th, sz, kd, ce, ar, ks, kp, qn f, gg, ho, op, ha1, io1, ra, ex, an1, nu1, ca1, ba1, no1', at_, ev, r) ∧ w16 w1 ∧ hvr ha1 io1 w1 ∧ a8 an1 ∧ a8 nu1 ∧ (nc1 = upd nc b (qn i1) ∨ nc1 = nc ∧ i1 = i) ∧ ne1 = upd ne b (qn e1) ∧ (∀ b', b' ≠ b → no1 b' = no b') ∧ (∀ j, j ≠ i → no1' j = no' j) ∧ ((i1 = i ∧ e < e1 ∧ evk (gk g i) f e1 ∧ evr (gk g i) f e1 (e' + 1) ∧ (∀ E, evn (gk g i) f E → e' + 1 < E) ∧ (e1 = 2 → gspk (gk g i) f → ∃ n, n < 8 ∧ no1 b = qn n ∧ no1' i = qn n)) ∨ (i1 = i + 1 ∧ e1 = 0 ∧ 3 ≤ e ∧ ∀ E, evn (gk g i) f E → e' + 1 = E)) ∧ ((e = 0 ∧ ca1 = upd ca i mo ∧ ba1 = ba) ∨ (e = 3 ∧ ca1 = ca ∧ ba1 = upd ba i mo) ∨ (e ≠ 0 ∧ e ≠ 3 ∧ ca1 = ca ∧ ba1 = ba)) := by
  have h14 := hg.n14
  have p := hP.2.2.2 i hi
  have q := hR.2.2.2 i hi
  dsimp only at q
  have gi := hg.2.2.2 i hi
  have hk := gi.1
  have hc : gc g i < 3 := by have := gi.2.1; omega
  have hv22 := hg.v22 hi
  have hi14 : i < 14 := by omega
  obtain ⟨v, v8, hv⟩ := hn8 i hi14
  generalize hkk : gk g i = k at *
  generalize gc g i = c at *
  obtain ⟨h4, hk1, hk4⟩ := hek
  have : e = 0 ∨ e = 1 ∨ e = 2 ∨ e = 3 ∨ e = 4 := by omega
  rcases this with rfl | rfl | rfl | rfl | rfl
  · -- call
    have hx : ∃ x, (gv g i < 8 ∧ x = qn (gv g i) ∨ 8 ≤ gv g i ∧ gv g i < 22 ∧ x = an (gv g i - 8)) ∧ ∃ y, y < 8 ∧ x = qn y := by
      by_cases h8 : gv g i < 8
      · exact ⟨_, Or.inl ⟨h8, rfl⟩, _, h8, rfl⟩
      · exact ⟨_, Or.inr ⟨by omega, hv22, rfl⟩, ha8 _ (by omega)⟩
    obtain ⟨x, hx1, hx2⟩ := hx
    have s1 := stp_call (fu := fu) (f := f) (an := an) (nu := nu) (ca := ca) (ba := ba) (no := no) (w := w) (mo := mo) hb hi14 hnc hne p.1 p.2.2 hk hf hx1
    have s2 := hap_call (fu := fu) (f := f) (th := th) (ra := ra) (ex := ex) (sz := sz) (ce := ce) (ks := ks) (kp := kp) (ho := ho) (op := op) (ha := ha) (io := io) (an := an) (nu := nu) (ca := ca) (ba := ba) (no := no') (at_ := at_) (ev := ev) (gg := gg) (r := r) (mo := mo) hi14 q.1 hk hf q.2.2 hx1
    have he0 : e' = 0 := by
      rcases her with ⟨_, h⟩ | ⟨_, h⟩
      · exact h
      · omega
    subst he0
    by_cases hs : gspk k f
    · refine ⟨an, upd nu i x, upd ca i mo, ba, nc, upd ne b (qn 1), no, ha, io, no', w, i, 1, s1.1 hs, s2, hw, hh, ha8, hn8.ux hx2, Or.inr ⟨rfl, rfl⟩, rfl, fun _ _ => rfl, fun _ _ => rfl, Or.inl ⟨rfl, by omega, ⟨by omega, fun _ => hs, fun h => by omega⟩, Or.inl ⟨hs, rfl⟩, ?_, fun h => by omega⟩, Or.inl ⟨rfl, rfl, rfl⟩⟩
      intro E hE; have := evn_s hs hE; omega
    · refine ⟨an, upd nu i x, upd ca i mo, ba, nc, upd ne b (qn 2), no, ha, io, no', w, i, 2, s1.2 hs, s2, hw, hh, ha8, hn8.ux hx2, Or.inr ⟨rfl, rfl⟩, rfl, fun _ _ => rfl, fun _ _ => rfl, Or.inl ⟨rfl, by omega, ⟨by omega, fun h => by omega, fun h => by omega⟩, Or.inr ⟨hs, rfl⟩, ?_, fun _ h => absurd h hs⟩, Or.inl ⟨rfl, rfl, rfl⟩⟩
      intro E hE; have := evn_g hE; omega
  · -- note
    have hs := hk1 rfl
    have he1 : e' = 1 := by
      rcases her with ⟨_, h⟩ | ⟨h1, _⟩
      · exact h
      · exact absurd hs h1
    subst he1
    have s1 := stp_note (fu := fu) (f := f) (an := an) (nu := nu) (ca := ca) (ba := ba) (no := no) (w := w) (mo := mo) hb hi14 hnc hne p.1 p.2.1 hk hc hw
    have s2 := hap_note (fu := fu) (f := f) (th := th) (ra := ra) (ex := ex) (sz := sz) (ar := ar) (ks := ks) (kp := kp) (ho := ho) (op := op) (an := an) (nu := nu) (ca := ca) (ba := ba) (no := no') (at_ := at_) (ev := ev) (gg := gg) (r := r) (mo := mo) hi14 q.1 q.2.1 hk hc hf hs hh
    have h8 : w (if k = 6 then (c + 1) % 3 else c) % 8 < 8 := Nat.mod_lt _ (by omega)
    generalize w (if k = 6 then (c + 1) % 3 else c) % 8 = n at *
    refine ⟨an, nu, ca, ba, nc, upd ne b (qn 2), upd no b (qn n), ha, io, upd no' i (qn n), w, i, 2, s1, s2, hw, hh, ha8, hn8, Or.inr ⟨rfl, rfl⟩, rfl, fun b' h => upd_ne _ _ _ _ h, fun j h => upd_ne _ _ _ _ h, Or.inl ⟨rfl, by omega, ⟨by omega, fun h => by omega, fun h => by omega⟩, Or.inl ⟨hs, rfl⟩, ?_, fun _ _ => ⟨n, h8, upd_at _ _ _, upd_at _ _ _⟩⟩, Or.inr (Or.inr ⟨by omega, by omega, rfl, rfl⟩)⟩
    intro E hE; have := evn_s hs hE; omega
  · -- act
    by_cases hs : gspk k f
    · have he2 : e' = 2 := by
        rcases her with ⟨_, h⟩ | ⟨h1, _⟩
        · exact h
        · exact absurd hs h1
      subst he2
      obtain ⟨n, n8, hn1, hn2⟩ := hno rfl hs
      have s1 := stp_acts (fu := fu) (f := f) (an := an) (nu := nu) (ca := ca) (ba := ba) (no := no) (w := w) (mo := mo) hb hi14 hnc hne p.1 p.2.1 hk hc hf hs hw hv v8 hn1 n8
      obtain ⟨ha1, io1, s2, s3⟩ := hap_acts (fu := fu) (f := f) (th := th) (ra := ra) (ex := ex) (sz := sz) (ar := ar) (ks := ks) (kp := kp) (ho := ho) (op := op) (an := an) (nu := nu) (ca := ca) (ba := ba) (no := no') (at_ := at_) (ev := ev) (gg := gg) (r := r) (mo := mo) hi14 q.1 q.2.1 hk hc hf hs hw hh hv hn2 v8 n8
      refine ⟨_, nu, ca, ba, nc, upd ne b (qn 3), no, ha1, io1, no', _, i, 3, s1.1, s2, s1.2, s3, ha8.u (dans8 n8), hn8, Or.inr ⟨rfl, rfl⟩, rfl, fun _ _ => rfl, fun _ _ => rfl, Or.inl ⟨rfl, by omega, ⟨by omega, fun h => by omega, fun h => by omega⟩, Or.inl ⟨hs, rfl⟩, ?_, fun h => by omega⟩, Or.inr (Or.inr ⟨by omega, by omega, rfl, rfl⟩)⟩
      intro E hE; have := evn_s hs hE; omega
    · have he2 : e' = 1 := by
        rcases her with ⟨h1, _⟩ | ⟨_, h⟩
        · exact absurd h1 hs
        · omega
      subst he2
      have hl : ∃ l, gltk k f ∧ l = 1 ∨ ¬ gltk k f ∧ l = 0 := by
        by_cases h : gltk k f
        · exact ⟨1, Or.inl ⟨h, rfl⟩⟩
        · exact ⟨0, Or.inr ⟨h, rfl⟩⟩
      obtain ⟨l, hl⟩ := hl
      have s1 := stp_act (fu := fu) (f := f) (an := an) (nu := nu) (ca := ca) (ba := ba) (no := no) (w := w) (mo := mo) hb hi14 hnc hne p.1 p.2.1 hk hc hf hs hw hv v8 l hl
      obtain ⟨ha1, io1, no1, s2, s3, s4⟩ := hap_act (fu := fu) (f := f) (th := th) (ra := ra) (ex := ex) (sz := sz) (ar := ar) (ks := ks) (kp := kp) (ho := ho) (op := op) (an := an) (nu := nu) (ca := ca) (ba := ba) (no := no') (at_ := at_) (ev := ev) (gg := gg) (r := r) (mo := mo) hi14 q.1 q.2.1 hk hc hf hs hw hh hv v8 l hl
      have h8 : w (if k = 6 then (c + 1) % 3 else c) % 8 < 8 := Nat.mod_lt _ (by omega)
      refine ⟨_, nu, ca, ba, nc, upd ne b (qn 3), no, ha1, io1, no1, _, i, 3, s1.1, s2, s1.2, s3, ha8.u (dans8 h8), hn8, Or.inr ⟨rfl, rfl⟩, rfl, fun _ _ => rfl, s4, Or.inl ⟨rfl, by omega, ⟨by omega, fun h => by omega, fun h => by omega⟩, Or.inr ⟨hs, rfl⟩, ?_, fun h => by omega⟩, Or.inr (Or.inr ⟨by omega, by omega, rfl, rfl⟩)⟩
      intro E hE; have := evn_g hE; omega
  · -- return
    have s1 := stp_ret (fu := fu) (f := f) (an := an) (nu := nu) (ca := ca) (ba := ba) (no := no) (w := w) (mo := mo) hb hi14 hnc hne p.1 hk hf
    have s2 := hap_ret (fu := fu) (f := f) (th := th) (ra := ra) (ex := ex) (sz := sz) (ce := ce) (ar := ar) (ks := ks) (kp := kp) (ho := ho) (op := op) (ha := ha) (io := io) (an := an) (nu := nu) (ca := ca) (ba := ba) (no := no') (at_ := at_) (ev := ev) (gg := gg) (r := r) (mo := mo) hi14 q.1 hk hf e' her
    by_cases hl : gltk k f
    · have hs : ¬ gspk k f := fun h => sp_lt h hl
      refine ⟨an, nu, ca, upd ba i mo, upd nc b (qn i), upd ne b (qn 4), no, ha, io, no', w, i, 4, s1.1 hl, s2, hw, hh, ha8, hn8, Or.inl rfl, rfl, fun _ _ => rfl, fun _ _ => rfl, Or.inl ⟨rfl, by omega, ⟨by omega, fun h => by omega, fun _ => hl⟩, Or.inr ⟨hs, ?_⟩, ?_, fun h => by omega⟩, Or.inr (Or.inl ⟨rfl, rfl, rfl⟩)⟩
      · have := evr_n hs her; omega
      · intro E hE; have := evn_l hl hE; have := evr_n hs her; omega
    · refine ⟨an, nu, ca, upd ba i mo, upd nc b (qn (i + 1)), upd ne b (qn 0), no, ha, io, no', w, i + 1, 0, s1.2 hl, s2, hw, hh, ha8, hn8, Or.inl rfl, rfl, fun _ _ => rfl, fun _ _ => rfl, Or.inr ⟨rfl, rfl, by omega, ?_⟩, Or.inr (Or.inl ⟨rfl, rfl, rfl⟩)⟩
      intro E hE
      by_cases hs : gspk k f
      · have := evn_s hs hE; have := evr_s hs her; omega
      · have := evn_n hs hl hE; have := evr_n hs her; omega
  · -- late
    have hl := hk4 rfl
    have hs : ¬ gspk k f := fun h => sp_lt h hl
    have he3 : e' = 3 := evr_n hs her
    subst he3
    have s1 := stp_late (fu := fu) (f := f) (an := an) (nu := nu) (ca := ca) (ba := ba) (no := no) (w := w) (mo := mo) hb hi14 hnc hne p.1 p.2.1 hl.1 hc hw hv v8
    obtain ⟨ha1, s2, s3⟩ := hap_late (fu := fu) (f := f) (th := th) (ra := ra) (ex := ex) (sz := sz) (ar := ar) (ks := ks) (kp := kp) (ho := ho) (op := op) (an := an) (nu := nu) (ca := ca) (ba := ba) (no := no') (at_ := at_) (ev := ev) (gg := gg) (r := r) (mo := mo) hi14 q.1 q.2.1 hk hc hf hs hw hh hv v8
    refine ⟨an, nu, ca, ba, upd nc b (qn (i + 1)), upd ne b (qn 0), no, ha1, io, no', _, i + 1, 0, s1.1, s2, s1.2, s3, ha8, hn8, Or.inl rfl, rfl, fun _ _ => rfl, fun _ _ => rfl, Or.inr ⟨rfl, rfl, by omega, ?_⟩, Or.inr (Or.inr ⟨by omega, by omega, rfl, rfl⟩)⟩
    intro E hE; have := evn_l hl hE; omega
