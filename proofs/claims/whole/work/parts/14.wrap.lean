/-! methods with a table of their own (the law's), and calls across lists of words -/
def ev_Zn (ns : List (String × String)) (U : State) : Prop := ∀ q ∈ ns, va_Nc q.1 q.2 U
theorem ev_Zn.moved {ns : List (String × String)} {s U : State} (hvm : s.vm.Alike U.vm) (h : ev_Zn ns s) : ev_Zn ns U := fun q hq => va_Nc.moved hvm (h q hq)
def ev_PY (D : va_G) (γ : ev_ga) (δ : ev_de) (ns : List (String × String)) (ρ : ev_R) (hp : ev_H) (sz : Nat) (U : State) : Prop := ev_PX D γ δ ρ hp sz U ∧ ev_Zn ns U
theorem ev_Zs.pass {δ : ev_de} {A B : Nat → Prop} {s U : State} {H : Heap} {locs : List Loc} (h : ev_Zs δ A s s.heap) (hS : va_S A s.heap H locs) (hB : ∀ q, B q → A q) (hW : s.WarmedH U.vm) (hU : U.heap = H) : ev_Zs δ B U U.heap := by
  obtain ⟨a, b, c, d, e⟩ := ev_Zs.moved hW h
  rw [hU]
  exact ⟨(a.kept hS.2.1).narrow hB, (b.kept hS.2.1).narrow hB, c, d, e⟩
theorem ev_blindX {D : va_G} {γ : ev_ga} {δ : ev_de} {ρ : ev_R} {hp : ev_H} {sz : Nat} {av : List Value} : FrameBlind (va_Pc av (ev_PX D γ δ ρ hp sz)) := by
  intro a U g mk q
  obtain ⟨q0, q1, q2⟩ := q
  have h := ev_blind (av := av) a U g mk ⟨q0, q1⟩
  exact ⟨h.1, h.2, ev_Zs.moved (U := U.calling g mk a) (State.WarmedH.refl U) q2⟩
theorem ev_blindY {D : va_G} {γ : ev_ga} {δ : ev_de} {ns : List (String × String)} {ρ : ev_R} {hp : ev_H} {sz : Nat} {av : List Value} : FrameBlind (va_Pc av (ev_PY D γ δ ns ρ hp sz)) := by
  intro a U g mk q
  obtain ⟨q0, q1, q2⟩ := q
  have h := ev_blindX (av := av) a U g mk ⟨q0, q1⟩
  exact ⟨h.1, h.2, ev_Zn.moved (U := U.calling g mk a) (Vm.Alike.refl U.vm) q2⟩
def ev_MW {α : Type} (l : Launch) (D : va_G) (γ : ev_ga) (δ : ev_de) (ns : List (String × String)) (μ : ev_mu) (hh : List (Nat × Nat × Nat × Nat)) (as : List Value) (hp : ev_H) (y : Option α) (w : α → ev_O) : Prop :=
  ∀ (q : α), y = some q → ∀ (ρ : ev_R) (sz : Nat), Met l μ.2.2.2.1 (Jvm.Cond.codeWith μ.2.2.2.1 μ.1 μ.2.1 μ.2.2.1 hh :: γ.2.2) μ.2.2.2.2.1 (va_Pc (as.map (ev_v ρ)) (ev_PY D γ δ ns ρ hp sz)) (ev_Q D γ ρ hp (w q) sz) μ.2.2.2.2.2.1 μ.2.2.2.2.2.2 (va_A (ev_w ρ hp) sz)
/-- what the body of such a method knows beside ev_X -/
def ev_TW (δ : ev_de) (ns : List (String × String)) (hh : List (Nat × Nat × Nat × Nat)) (κ : ev_ka) : Prop := match κ with
  | (p, e, s, m, args, below, meth, c, Q, A, ρ0, n0, Ex) => ev_Zs δ A s s.heap ∧ ev_Zn ns s ∧ c.exceptionTable.toList = tableOf hh
/-- the handler that takes an exception of the class E thrown at pc -/
def ev_ct (γ : ev_ga) (δ : ev_de) (ns : List (String × String)) (hh : List (Nat × Nat × Nat × Nat)) (own : String) (pc : Nat) (E : String) (h : Nat) : Prop :=
  ∃ (pre : List ExceptionTableEntry) (x : ExceptionTableEntry) (suf : List ExceptionTableEntry), tableOf hh = pre ++ x :: suf ∧ (∀ z ∈ pre, covers z pc = false ∨ (z.catchType ≠ 0 ∧ ∃ nm : String, Jvm.Cond.classLink own z.catchType nm ∈ γ.2.2 ∧ (E, nm) ∈ ns)) ∧ covers x pc = true ∧ x.catchType ≠ 0 ∧ Jvm.Cond.classLink own x.catchType E ∈ γ.2.2 ∧ E ∈ δ.2.1 ∧ x.handlerPc = h
section EVW
variable {β : Type} {l : Launch} {D : va_G} {γ γ' : ev_ga} {μ : ev_mu} {κ : ev_ka} {pc n ce sl : Nat} {lo : ev_L} {st : List Value} {hp : ev_H} {y : Option β} {w : β → ev_O} {δ : ev_de} {ns : List (String × String)} {hh : List (Nat × Nat × Nat × Nat)}
theorem js_astoreX {i x : Nat} {lo' : ev_L} (X : ev_X l D γ μ κ) (hd : decode μ.1 pc = .ok (.astore i, 2)) (hn : pc + 2 = n) (hi : i < μ.2.1) (hlo : ev_st lo i (.retAddr x) = lo') (hk : ev_J l D γ μ κ n ce sl lo' (st) hp y w) : ev_J l D γ μ κ pc ce sl lo (.retAddr x :: st) hp (y) w := by
  obtain ⟨p, e, s, m, args, below, meth, c, Q, A, ρ0, n0, Ex⟩ := κ
  subst hn
  intro q hy E ρ ls H locs hl hw
  subst hlo
  exact lv_astore X.1 X.2.1 hd hl.has hi rfl (fun ls' h => hk q hy E ρ ls' H locs (ev_lo.store (v := .retAddr x) (ls := ls) h) hw)
theorem js_astoreX_n {i x : Nat} {j : Fin 4} {lo' : ev_L} (X : ev_X l D γ μ κ) (hd : decode μ.1 pc = .ok (.astore_n j, 1)) (hn : pc + 1 = n) (hj : (j : Nat) = i) (hi : i < μ.2.1) (hlo : ev_st lo i (.retAddr x) = lo') (hk : ev_J l D γ μ κ n ce sl lo' (st) hp y w) : ev_J l D γ μ κ pc ce sl lo (.retAddr x :: st) hp (y) w := by
  obtain ⟨p, e, s, m, args, below, meth, c, Q, A, ρ0, n0, Ex⟩ := κ
  subst hn
  intro q hy E ρ ls H locs hl hw
  subst hlo
  exact lv_astore_n X.1 X.2.1 hd hj hl.has hi rfl (fun ls' h => hk q hy E ρ ls' H locs (ev_lo.store (v := .retAddr x) (ls := ls) h) hw)
set_option maxHeartbeats 4000000 in
theorem js_callX {α : Type} {na idx ci b : Nat} {C : String} {μ' : ev_mu} {tl : u_T × Nat} {as' st' fs : List Value} {y1 : Option α} {w1 : α → ev_O} {k : α → Option β} (X : ev_X l D γ μ κ) (TW : ev_TW δ ns hh κ) (hd : decode μ.1 pc = .ok (.invokevirtual idx, 3)) (hn : pc + 3 = n) (hγ : γ'.1 = γ.1 ∧ γ'.2.1 = γ.2.1) (hM : ev_MX l D γ' δ μ' (.ref b :: as') hp y1 w1) (hg : GoodIn γ.2.2 (wsV μ.2.2.2.1.cls idx C μ'.2.2.2.1 (Jvm.Cond.code μ'.2.2.2.1 μ'.1 μ'.2.1 μ'.2.2.1 :: γ'.2.2))) (hrc : μ'.2.2.2.2.1.cells = μ'.2.2.2.2.2.1) (hrs : μ'.2.2.2.2.1.slots = μ'.2.2.2.2.2.2)
    (hyy : μ'.2.2.2.1.cls = C ∧ μ'.2.2.2.1.cls ≠ "java/lang/invoke/MethodHandle" ∧ μ'.2.2.2.1.cls ≠ "java/lang/invoke/VarHandle" ∧ (parseMethodDescriptor μ'.2.2.2.1.desc).map (fun d => d.parameters.length) = some na) (hR : μ'.2.2.2.2.1.frames + 1 ≤ μ.2.2.2.2.1.frames ∧ 8 + (μ'.2.1 + 11) + μ'.2.2.2.2.1.locals ≤ μ.2.2.2.2.1.locals) (hc : γ.1[ci]? = some (C, tl)) (hf : ce + μ'.2.2.2.2.2.1 ≤ μ.2.2.2.2.1.cells ∧ sl + μ'.2.2.2.2.2.2 ≤ μ.2.2.2.2.1.slots) (hpop : ev_pop (na + 1) st [] = some (.ref b :: as', st')) (hb : ev_n hp b = some (.inr (ci, fs))) (o2 : ev_okl hp.length lo = true) (o3 : ev_oks hp.length st' = true) (o4 : Nat.ble (ev_cs st') 8 = true)
    (hno : ∀ q1 hp1, w1 q1 ≠ (none, hp1)) (hk : ∀ q1 r hp1, w1 q1 = (some (.int r), hp1) → ev_J l D γ μ κ n (ce + μ'.2.2.2.2.2.1) (sl + μ'.2.2.2.2.2.2) lo (.int r :: st') hp1 (k q1) w)
    (hx : ∀ q1 n9 hp1, w1 q1 = (some (.float n9), hp1) → k q1 = none ∨ ∃ h, ev_ct γ δ ns hh μ.2.2.2.1.cls pc (ev_exn n9) h ∧ ∀ q9, ev_J l D γ μ κ h (ce + μ'.2.2.2.2.2.1) (sl + μ'.2.2.2.2.2.2) lo [.retAddr q9] hp1 (k q1) w) : ev_J l D γ μ κ pc ce sl lo st hp (bd y1 k) w := by
  obtain ⟨g1, g2, g3⟩ := γ
  obtain ⟨g1', g2', g3'⟩ := γ'
  obtain ⟨p, e, s, m, args, below, meth, c, Q, A, ρ0, n0, Ex⟩ := κ
  dsimp only at hγ
  obtain ⟨rfl, rfl⟩ := hγ
  subst hn
  intro q hy E ρ ls H locs hl hw
  obtain ⟨q1, hy1, hy⟩ := bd_t hy
  obtain ⟨hst, hlen⟩ := ev_pop_eq hpop
  have hst' : st.map (ev_v ρ) = (as'.map (ev_v ρ)).reverse ++ .ref (ρ b).1 :: st'.map (ev_v ρ) := by
    rw [show st = _ from hst.symm]
    simp [ev_v]
  have hlen' : (as'.map (ev_v ρ)).length = na := by
    simp only [List.length_cons, List.length_nil] at hlen
    rw [List.length_map]
    omega
  have hroom : ((st'.map (ev_v ρ)).map fun v => v.category).sum ≤ 8 := by
    rw [ev_v_cats, ev_cs_eq]
    exact Nat.le_of_ble_eq_true o4
  have hwd := hw
  obtain ⟨hP, hD, hS, hT, hn0, hag⟩ := hw
  have hFc : ∀ q, va_A (ev_w ρ hp) H.size q → A q := by
    intro q h
    rcases h with ⟨j, x, hj⟩ | h
    · exact hD.2 j _ hj
    · exact X.2.2.2.2.2.2.1 q (Nat.le_trans hS.1 h)
  have hpre := ev_pre (as := .ref b :: as') X.2.2.2.2.2.1 X.2.2.2.2.2.2.2.1 hwd
  have hpreX : ∀ U : State, U.heap = H → s.WarmedH U.vm → va_Pc ((Value.ref b :: as').map (ev_v ρ)) (ev_PX D (g1', g2', g3') δ ρ hp H.size) ((Value.ref b :: as').map (ev_v ρ)).toArray U := fun U hU hW => ⟨rfl, (hpre.2 U hU hW).2, TW.1.pass hS hFc hW hU⟩
  have hrun := vx_runV (As := as'.map (ev_v ρ)) (rest := st'.map (ev_v ρ)) (b := (ρ b).1) (locs := locs) (cells := ce) (slots := sl) (below := below) (meth := meth) (e := e) (R := μ.2.2.2.2.1) (g := F0 m pc ls (st.map (ev_v ρ))) ⟨X.1, X.2.1, X.2.2.1, X.2.2.2.1, X.2.2.2.2.1⟩ (hM q1 hy1 ρ H.size) (cwV na X.2.2.2.2.1 hg rfl hrc hrs hyy hR) ⟨ev_blindX, va_recv X.2.2.2.2.2.1 hP hc (ev_w_at hb), hpreX⟩ rfl hlen' hl.1 hst' (lv_room hroom) hd hf
  have fin : ∀ (hp1 : ev_H) (ρ' : ev_R) (t : State) (H1 : Heap) (locs1 : List Loc), t.heap = H1 → s.vm.Alike t.vm → ev_ag ρ hp hp1 ρ' → ev_Bq D (g1', g2', g3') ρ hp hp1 H.size ρ' t → va_S A s.heap H1 locs1 → ev_lo ρ' ls μ.2.1 lo ∧ st'.map (ev_v ρ') = st'.map (ev_v ρ) ∧ ev_wd D g1' A s ρ0 n0 ρ' hp1 H1 locs1 := by
    intro hp1 ρ' t H1 locs1 ht hvm hg hB hS1
    obtain ⟨b1, b2, b3⟩ := hB
    rw [ht] at b1
    exact ⟨hl.grow hg.1 o2, ev_oks_eq hg.1 o3, b1, b3.weaken (fun _ _ _ h => hFc _ h), hS1, ev_T.moved hvm.symm b2, Nat.le_trans hn0 hg.2, fun j hj => by rw [hg.1 j (by omega)]; exact hag j hj⟩
  have hkk := hk q1
  have hxx := hx q1
  have hnn := hno q1
  generalize w1 q1 = o1 at hrun hkk hxx hnn
  obtain ⟨v, hp1⟩ := o1
  intro T hTh XS
  rcases hrun T hTh XS with ⟨v9, st₀, t, T', L, h0, X', hL, e1, e2, hq, st9⟩ | ⟨q9, st₀, t, T', L, E9, ce9, h0, X', hL, e1, e2, hq, hce, hcv, hcl, st9⟩
  · match v, hq, hkk, hnn with
    | none, hq, hkk, hnn => exact absurd rfl (hnn hp1)
    | some (.int r), hq, hkk, hnn =>
      obtain ⟨⟨r', ρ', hv, ⟨rfl, hg9⟩, hb9⟩, hF⟩ := hq
      cases hv
      obtain ⟨k1, k2, k3⟩ := vx_keep h0 e1 hS (fun q _ h => hFc q h) hFc hL hF
      obtain ⟨f1, f2, f3⟩ := fin hp1 ρ' t T'.heap (locs ++ L) e1.symm (by rw [← e2]; exact X'.warmed.alike) hg9 hb9 k3
      have h9 := hkk r' hp1 rfl q hy E ρ' ls T'.heap (locs ++ L) f1 f3
      rw [List.map_cons, f2] at h9
      obtain ⟨t2, a1, b1⟩ := h9 T' rfl X'
      exact ⟨t2, st9 t2 a1, b1⟩
  · match v, hq, hxx with
    | some (.float n9), hq, hxx =>
      obtain ⟨ρ', hg9, ⟨rfl, hb9⟩, hF⟩ := hq
      obtain ⟨k1, k2, k3⟩ := vx_keep h0 e1 hS (fun q _ h => hFc q h) hFc hL hF
      obtain ⟨f1, f2, f3⟩ := fin hp1 ρ' t T'.heap (locs ++ L) e1.symm (by rw [← e2]; exact X'.warmed.alike) hg9 hb9 k3
      rcases hxx n9 hp1 rfl with hnone | ⟨h, ⟨pre, x, suf, c1, c2, c3, c4, c5, c6, c7⟩, hj⟩
      · rw [hnone] at hy; cases hy
      subst c7
      have h9 := hj q9 q hy E ρ' ls T'.heap (locs ++ L) f1 f3
      have h10 := vx_catch (rest := st'.map (ev_v ρ)) (own := μ.2.2.2.1.cls) (name := ev_exn n9) (E := ev_exn n9) (ce := ce9) (q := q9) X.2.2.2.1 pre x suf (TW.2.2.trans c1) (fun z hz => by
        rcases c2 z hz with h | ⟨h1, nm, h2, h3⟩
        · exact Or.inl h
        · exact Or.inr ⟨h1, nm, X.2.2.2.2.1 _ h2, TW.2.1 _ h3⟩) c3 c4 (X.2.2.2.2.1 _ c5) (va_Nw.use rfl (TW.1.2.2.2.1 _ c6)) (by rw [e1]; exact hce) hcv hcl h9
      obtain ⟨t2, a1, b1⟩ := h10 T' rfl X'
      exact ⟨t2, st9.trans a1, b1⟩
/-- calls of plain contracts across lists of words -/
theorem js_callVg {α : Type} {na idx ci b : Nat} {C : String} {μ' : ev_mu} {tl : u_T × Nat} {as' st' fs : List Value} {y1 : Option α} {w1 : α → ev_O} {k : α → Option β} (X : ev_X l D γ μ κ) (hd : decode μ.1 pc = .ok (.invokevirtual idx, 3)) (hn : pc + 3 = n) (hγ : γ'.1 = γ.1 ∧ γ'.2.1 = γ.2.1) (hM : ev_M l D γ' μ' (.ref b :: as') hp y1 w1) (hg : GoodIn γ.2.2 (wsV μ.2.2.2.1.cls idx C μ'.2.2.2.1 (Jvm.Cond.code μ'.2.2.2.1 μ'.1 μ'.2.1 μ'.2.2.1 :: γ'.2.2))) (hrc : μ'.2.2.2.2.1.cells = μ'.2.2.2.2.2.1) (hrs : μ'.2.2.2.2.1.slots = μ'.2.2.2.2.2.2)
    (hyy : μ'.2.2.2.1.cls = C ∧ μ'.2.2.2.1.cls ≠ "java/lang/invoke/MethodHandle" ∧ μ'.2.2.2.1.cls ≠ "java/lang/invoke/VarHandle" ∧ (parseMethodDescriptor μ'.2.2.2.1.desc).map (fun d => d.parameters.length) = some na) (hR : μ'.2.2.2.2.1.frames + 1 ≤ μ.2.2.2.2.1.frames ∧ 8 + (μ'.2.1 + 11) + μ'.2.2.2.2.1.locals ≤ μ.2.2.2.2.1.locals) (hc : γ.1[ci]? = some (C, tl)) (hf : ce + μ'.2.2.2.2.2.1 ≤ μ.2.2.2.2.1.cells ∧ sl + μ'.2.2.2.2.2.2 ≤ μ.2.2.2.2.1.slots) (hpop : ev_pop (na + 1) st [] = some (.ref b :: as', st')) (hb : ev_n hp b = some (.inr (ci, fs))) (o2 : ev_okl hp.length lo = true) (o3 : ev_oks hp.length st' = true) (o4 : Nat.ble (ev_cs st') 8 = true) (hk : ∀ q1, ev_J l D γ μ κ n (ce + μ'.2.2.2.2.2.1) (sl + μ'.2.2.2.2.2.2) lo (ev_push (w1 q1).1 st') (w1 q1).2 (k q1) w) : ev_J l D γ μ κ pc ce sl lo st hp (bd y1 k) w := by
  obtain ⟨g1, g2, g3⟩ := γ
  obtain ⟨g1', g2', g3'⟩ := γ'
  obtain ⟨p, e, s, m, args, below, meth, c, Q, A, ρ0, n0, Ex⟩ := κ
  dsimp only at hγ
  obtain ⟨rfl, rfl⟩ := hγ
  subst hn
  intro q hy E ρ ls H locs hl hw
  obtain ⟨q1, hy1, hy⟩ := bd_t hy
  obtain ⟨hst, hlen⟩ := ev_pop_eq hpop
  have hst' : st.map (ev_v ρ) = (as'.map (ev_v ρ)).reverse ++ .ref (ρ b).1 :: st'.map (ev_v ρ) := by
    rw [show st = _ from hst.symm]
    simp [ev_v]
  have hlen' : (as'.map (ev_v ρ)).length = na := by
    simp only [List.length_cons, List.length_nil] at hlen
    rw [List.length_map]
    omega
  have hroom : ((st'.map (ev_v ρ)).map fun v => v.category).sum ≤ 8 := by
    rw [ev_v_cats, ev_cs_eq]
    exact Nat.le_of_ble_eq_true o4
  have hpre := ev_pre (as := .ref b :: as') X.2.2.2.2.2.1 X.2.2.2.2.2.2.2.1 hw
  exact ev_after (γ := (g1', g2', g3')) X.2.2.2.2.2.2.1 hl hw o2 o3 (va_runV (As := as'.map (ev_v ρ)) (rest := st'.map (ev_v ρ)) (b := (ρ b).1) ⟨X.1, X.2.1, X.2.2.1, X.2.2.2.1, X.2.2.2.2.1⟩ (hM q1 hy1 ρ H.size) (cwV na X.2.2.2.2.1 hg rfl hrc hrs hyy hR) ⟨hpre.1, va_recv X.2.2.2.2.2.1 hw.1 hc (ev_w_at hb), hpre.2⟩ rfl hlen' hl.1 hst' (lv_room hroom) hd hf) (fun ρ' H1 locs1 a1 a2 => hk q1 q hy E ρ' ls H1 locs1 a1 a2)
theorem js_callIg {α : Type} {na idx b : Nat} {μ' : ev_mu} {as' st' : List Value} {y1 : Option α} {w1 : α → ev_O} {k : α → Option β} (X : ev_X l D γ μ κ) (hd : decode μ.1 pc = .ok (.invokespecial idx, 3)) (hn : pc + 3 = n) (hγ : γ'.1 = γ.1 ∧ γ'.2.1 = γ.2.1) (hM : ev_M l D γ' μ' (.ref b :: as') hp y1 w1) (hg : GoodIn γ.2.2 (Jvm.Cond.code μ'.2.2.2.1 μ'.1 μ'.2.1 μ'.2.2.1 :: γ'.2.2)) (hrc : μ'.2.2.2.2.1.cells = μ'.2.2.2.2.2.1) (hrs : μ'.2.2.2.2.1.slots = μ'.2.2.2.2.2.2) (hret : μ'.2.2.1 = none) (hini : Jvm.Cond.initialized μ'.2.2.2.1.cls ∈ γ.2.2) (hml : Jvm.Cond.methodLink μ.2.2.2.1.cls idx μ'.2.2.2.1 ∈ γ.2.2) (him : Jvm.Cond.instanceMethod μ'.2.2.2.1 ∈ γ.2.2) (hyn : μ'.2.2.2.1.name = "<init>")
    (hyy : μ'.2.2.2.1.cls ≠ "java/lang/invoke/MethodHandle" ∧ μ'.2.2.2.1.cls ≠ "java/lang/invoke/VarHandle" ∧ (parseMethodDescriptor μ'.2.2.2.1.desc).map (fun d => d.parameters.length) = some na) (hR : μ'.2.2.2.2.1.frames + 1 ≤ μ.2.2.2.2.1.frames ∧ 8 + (μ'.2.1 + 11) + μ'.2.2.2.2.1.locals ≤ μ.2.2.2.2.1.locals) (hf : ce + μ'.2.2.2.2.2.1 ≤ μ.2.2.2.2.1.cells ∧ sl + μ'.2.2.2.2.2.2 ≤ μ.2.2.2.2.1.slots) (hpop : ev_pop (na + 1) st [] = some (.ref b :: as', st')) (o2 : ev_okl hp.length lo = true) (o3 : ev_oks hp.length st' = true) (o4 : Nat.ble (ev_cs st') 8 = true) (hk : ∀ q1, ev_J l D γ μ κ n (ce + μ'.2.2.2.2.2.1) (sl + μ'.2.2.2.2.2.2) lo (ev_push (w1 q1).1 st') (w1 q1).2 (k q1) w) : ev_J l D γ μ κ pc ce sl lo st hp (bd y1 k) w := by
  obtain ⟨g1, g2, g3⟩ := γ
  obtain ⟨g1', g2', g3'⟩ := γ'
  obtain ⟨p, e, s, m, args, below, meth, c, Q, A, ρ0, n0, Ex⟩ := κ
  dsimp only at hγ
  obtain ⟨rfl, rfl⟩ := hγ
  subst hn
  intro q hy E ρ ls H locs hl hw
  obtain ⟨q1, hy1, hy⟩ := bd_t hy
  obtain ⟨hst, hlen⟩ := ev_pop_eq hpop
  have hst' : st.map (ev_v ρ) = (as'.map (ev_v ρ)).reverse ++ .ref (ρ b).1 :: st'.map (ev_v ρ) := by
    rw [show st = _ from hst.symm]
    simp [ev_v]
  have hlen' : (as'.map (ev_v ρ)).length = na := by
    simp only [List.length_cons, List.length_nil] at hlen
    rw [List.length_map]
    omega
  have hroom : ((st'.map (ev_v ρ)).map fun v => v.category).sum ≤ 8 := by
    rw [ev_v_cats, ev_cs_eq]
    exact Nat.le_of_ble_eq_true o4
  have hpre := ev_pre (as := .ref b :: as') X.2.2.2.2.2.1 X.2.2.2.2.2.2.2.1 hw
  have hM1 := hM q1 hy1 ρ H.size
  rw [hret] at hg hM1
  exact ev_after (γ := (g1', g2', g3')) X.2.2.2.2.2.2.1 hl hw o2 o3 (va_runI (As := as'.map (ev_v ρ)) (rest := st'.map (ev_v ρ)) (b := (ρ b).1) ⟨X.1, X.2.1, X.2.2.1, X.2.2.2.1, X.2.2.2.2.1⟩ hM1 (cwI na X.2.2.2.2.1 hg rfl hrc hrs (X.2.2.2.2.1 _ hini) (X.2.2.2.2.1 _ hml) (X.2.2.2.2.1 _ him) hyn hyy hR) hpre rfl hlen' hl.1 hst' (lv_room hroom) hd hf) (fun ρ' H1 locs1 a1 a2 => hk q1 q hy E ρ' ls H1 locs1 a1 a2)
/-- a static call of a method with a table -/
theorem js_callSW {α : Type} {na idx : Nat} {μ' : ev_mu} {hh' : List (Nat × Nat × Nat × Nat)} {as st' : List Value} {y1 : Option α} {w1 : α → ev_O} {k : α → Option β} (X : ev_X l D γ μ κ) (TW : ev_TW δ ns hh κ) (hd : decode μ.1 pc = .ok (.invokestatic idx, 3)) (hn : pc + 3 = n) (hM : ev_MW l D γ δ ns μ' hh' as hp y1 w1) (hg : GoodIn γ.2.2 (va_wsS μ.2.2.2.1.cls idx μ'.2.2.2.1 (Jvm.Cond.codeWith μ'.2.2.2.1 μ'.1 μ'.2.1 μ'.2.2.1 hh' :: γ.2.2))) (hrc : μ'.2.2.2.2.1.cells = μ'.2.2.2.2.2.1) (hrs : μ'.2.2.2.2.1.slots = μ'.2.2.2.2.2.2)
    (hyy : μ'.2.2.2.1.cls ≠ "java/lang/invoke/MethodHandle" ∧ μ'.2.2.2.1.cls ≠ "java/lang/invoke/VarHandle" ∧ (parseMethodDescriptor μ'.2.2.2.1.desc).map (fun d => d.parameters.length) = some na) (hR : μ'.2.2.2.2.1.frames + 1 ≤ μ.2.2.2.2.1.frames ∧ 8 + (μ'.2.1 + 11) + μ'.2.2.2.2.1.locals ≤ μ.2.2.2.2.1.locals) (hf : ce + μ'.2.2.2.2.2.1 ≤ μ.2.2.2.2.1.cells ∧ sl + μ'.2.2.2.2.2.2 ≤ μ.2.2.2.2.1.slots) (hpop : ev_pop na st [] = some (as, st')) (o2 : ev_okl hp.length lo = true) (o3 : ev_oks hp.length st' = true) (o4 : Nat.ble (ev_cs st') 8 = true) (hk : ∀ q1, ev_J l D γ μ κ n (ce + μ'.2.2.2.2.2.1) (sl + μ'.2.2.2.2.2.2) lo (ev_push (w1 q1).1 st') (w1 q1).2 (k q1) w) : ev_J l D γ μ κ pc ce sl lo st hp (bd y1 k) w := by
  obtain ⟨p, e, s, m, args, below, meth, c, Q, A, ρ0, n0, Ex⟩ := κ
  subst hn
  intro q hy E ρ ls H locs hl hw
  obtain ⟨q1, hy1, hy⟩ := bd_t hy
  obtain ⟨hst, hlen⟩ := ev_pop_eq hpop
  have hst' : st.map (ev_v ρ) = (as.map (ev_v ρ)).reverse ++ st'.map (ev_v ρ) := by
    rw [show st = _ from hst.symm]
    simp
  have hlen' : (as.map (ev_v ρ)).length = na := by
    simp only [List.length_nil] at hlen
    rw [List.length_map]
    omega
  have hroom : ((st'.map (ev_v ρ)).map fun v => v.category).sum ≤ 8 := by
    rw [ev_v_cats, ev_cs_eq]
    exact Nat.le_of_ble_eq_true o4
  have hwd := hw
  obtain ⟨hP, hD, hS, hT, hn0, hag⟩ := hw
  have hFc : ∀ q, va_A (ev_w ρ hp) H.size q → A q := by
    intro q h
    rcases h with ⟨j, x, hj⟩ | h
    · exact hD.2 j _ hj
    · exact X.2.2.2.2.2.2.1 q (Nat.le_trans hS.1 h)
  have hpre := ev_pre (as := as) X.2.2.2.2.2.1 X.2.2.2.2.2.2.2.1 hwd
  have hpreY : PreS s H (va_Pc (as.map (ev_v ρ)) (ev_PY D γ δ ns ρ hp H.size)) (as.map (ev_v ρ)) := ⟨ev_blindY, fun U hU hW => ⟨rfl, ⟨(hpre.2 U hU hW).2, TW.1.pass hS hFc hW hU⟩, TW.2.1.moved hW.alike⟩⟩
  exact ev_after X.2.2.2.2.2.2.1 hl hwd o2 o3 (vx_runSW (As := as.map (ev_v ρ)) (rest := st'.map (ev_v ρ)) ⟨X.1, X.2.1, X.2.2.1, X.2.2.2.1, X.2.2.2.2.1⟩ (hM q1 hy1 ρ H.size) (vx_cwSW na X.2.2.2.2.1 hg rfl hrc hrs hyy hR) hpreY rfl hlen' hl.1 hst' (lv_room hroom) hd hf) (fun ρ' H1 locs1 a1 a2 => hk q1 q hy E ρ' ls H1 locs1 a1 a2)
end EVW
set_option maxHeartbeats 4000000 in
theorem ev_metW {α : Type} {l : Launch} {D : va_G} {γ : ev_ga} {δ : ev_de} {ns : List (String × String)} {μ : ev_mu} {hh : List (Nat × Nat × Nat × Nat)} {as : List Value} {hp : ev_H} {y : Option α} {w : α → ev_O} (hpl : plainName μ.2.2.2.1.cls = true) (hlen : Nat.ble (ev_cs as) μ.2.1 = true) {lo0 : ev_L} (hlo : ev_ent μ.2.1 as = lo0)
    (hJ : ∀ κ : ev_ka, ev_X l D γ μ κ → ev_TW δ ns hh κ → ev_J l D γ μ κ 0 0 0 lo0 [] hp y w) : ev_MW l D γ δ ns μ hh as hp y w := by
  subst hlo
  intro q hy ρ sz
  have hlen := Nat.le_of_ble_eq_true hlen
  refine va_MetW (cc := μ.1) (maxL := μ.2.1) (ret := μ.2.2.1) (hh := hh) hpl rfl ?_
  intro p e s m args below meth c s₁ B hml hv
  obtain ⟨rfl, ⟨⟨hsz, hP, hK, hT, hD0, hN⟩, hZ⟩, hZn⟩ := hv
  have hts0 := atoms_spec (ws := Jvm.Cond.codeWith μ.2.2.2.1 μ.1 μ.2.1 μ.2.2.1 hh :: γ.2.2) B.pre
  have hts : ∀ w ∈ γ.2.2, w.before (as.map (ev_v ρ)).toArray s = true := fun w h => hts0 w (List.mem_cons_of_mem _ h)
  have htab := vx_table (x := μ.2.2.2.1) B (hts0 _ List.mem_cons_self)
  have hown : s.vm.findClass μ.2.2.2.1.cls = some m.cls := findClass_of_methodNamed B.named
  have hlocks := B.notSynchronized
  have hin : meth.name = μ.2.2.2.1.name := (name_of_methodNamed B.named B.method).1
  subst hsz
  have hD := hD0.self (sz := s.heap.size)
  have hA : ∀ q : Nat, s.heap.size ≤ q → va_A (ev_w ρ hp) s.heap.size q := fun q h => Or.inr h
  have hl := lv_entry (as.map (ev_v ρ)) (n := μ.2.1) (by rw [ev_sl_len, ev_cs_v]; exact hlen)
  rw [lg_entry_eq]
  generalize (lg_sl (as.map (ev_v ρ)) ++ List.replicate (μ.2.1 - (lg_sl (as.map (ev_v ρ))).length) Slot.unset).toArray = ls at hl ⊢
  have HJ := hJ (p, e, s, m, (as.map (ev_v ρ)).toArray, below, meth, c, MQ below (ev_Q D γ ρ hp (w q) s.heap.size) (as.map (ev_v ρ)).toArray s μ.2.2.2.2.2.1 μ.2.2.2.2.2.2 (va_A (ev_w ρ hp) s.heap.size), va_A (ev_w ρ hp) s.heap.size, ρ, hp.length, ev_Ex l D γ μ p e s m (as.map (ev_v ρ)).toArray below meth c (MQ below (ev_Q D γ ρ hp (w q) s.heap.size) (as.map (ev_v ρ)).toArray s μ.2.2.2.2.2.1 μ.2.2.2.2.2.2 (va_A (ev_w ρ hp) s.heap.size)) (va_A (ev_w ρ hp) s.heap.size) ρ hp.length) ⟨B.exec, B.bytes, hml, hown, hts, hK, hA, hN, hin, fun _ h => h⟩ ⟨hZ, hZn, htab⟩
  refine HJ q hy ?_ ρ ls s.heap [] (ev_ent_lo hl) ⟨hP, hD, va_S.rf, hT, Nat.le_refl _, fun _ _ => rfl⟩
  intro pc ρ' ls' H locs hrd hw
  obtain ⟨hP1, hD1, hS1, hT1, hn1, hag1⟩ := hw
  have hB : ∀ t : State, t.heap = H → s.WarmedH t.vm → ev_Bq D γ ρ hp (w q).2 s.heap.size ρ' t := fun t ht hW => ⟨by rw [ht]; exact hP1, ev_T.moved hW.alike hT1, hD1⟩
  have hr := B.returns
  generalize w q = o at hrd hn1 hB ⊢
  obtain ⟨v, hp'⟩ := o
  match v, hrd with
  | none, ⟨e1, hd⟩ =>
    rw [e1] at hr
    exact W.vret B.exec B.bytes hr (fun t ht hW => ⟨⟨ρ', rfl, ⟨hag1, hn1⟩, hB t ht hW⟩, hS1.F ht⟩) hS1.2.2 hd hlocks
  | some (.int x), ⟨hd, hret⟩ =>
    rcases hret with e1 | ⟨e1, hb⟩
    · rw [e1] at hr
      exact W.iret B.exec B.bytes hr (fun t ht hW => ⟨⟨x, ρ', rfl, ⟨rfl, hag1, hn1⟩, hB t ht hW⟩, hS1.F ht⟩) hS1.2.2 hd hlocks
    · rw [e1] at hr
      exact W.zret B.exec B.bytes hr (by rcases isB_or hb with rfl | rfl <;> rfl) (fun t ht hW => ⟨⟨x, ρ', rfl, ⟨rfl, hag1, hn1⟩, hB t ht hW⟩, hS1.F ht⟩) hS1.2.2 hd hlocks
