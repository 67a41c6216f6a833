def ev_Pw (D : va_G) (γ : ev_ga) (ρ : ev_R) (hp : ev_H) (sz : Nat) (U : State) : Prop :=
  U.heap.size = sz ∧ va_P D γ.1 (ev_w ρ hp) U.heap ∧ va_K D γ.1 [] U ∧ ev_T ρ hp U ∧ va_D (fun _ => True) (ev_w ρ hp) ∧ ∀ q ∈ γ.2.1, va_Nw (.methodLinkNest q.1 q.2.1 q.2.2.1 q.2.2.2) U
def ev_Bq (D : va_G) (γ : ev_ga) (ρ : ev_R) (hp hp' : ev_H) (sz : Nat) (ρ' : ev_R) (t : State) : Prop :=
  va_P D γ.1 (ev_w ρ' hp') t.heap ∧ ev_T ρ' hp' t ∧ va_D (va_A (ev_w ρ hp) sz) (ev_w ρ' hp')
def ev_ag (ρ : ev_R) (hp hp' : ev_H) (ρ' : ev_R) : Prop := (∀ k, k < hp.length → ρ' k = ρ k) ∧ hp.length ≤ hp'.length
def ev_Q (D : va_G) (γ : ev_ga) (ρ : ev_R) (hp : ev_H) (o : ev_O) (sz : Nat) : Array Value → State → Outcome → State → Prop := match o with
  | (none, hp') => va_Qv (ev_ag ρ hp hp') (ev_Bq D γ ρ hp hp' sz) (va_A (ev_w ρ hp) sz)
  | (some (.int r), hp') => va_Qi (fun r' ρ' => r' = r ∧ ev_ag ρ hp hp' ρ') (ev_Bq D γ ρ hp hp' sz) (va_A (ev_w ρ hp) sz)
  | _ => fun _ _ _ _ => False
/-- a method's contract at the values as over the world hp: what the pure side says, it does -/
def ev_M {α : Type} (l : Launch) (D : va_G) (γ : ev_ga) (μ : ev_mu) (as : List Value) (hp : ev_H) (y : Option α) (w : α → ev_O) : Prop :=
  ∀ (q : α), y = some q → ∀ (ρ : ev_R) (sz : Nat), Met l μ.2.2.2.1 (Jvm.Cond.code μ.2.2.2.1 μ.1 μ.2.1 μ.2.2.1 :: γ.2.2) μ.2.2.2.2.1 (va_Pc (as.map (ev_v ρ)) (ev_Pw D γ ρ hp sz)) (ev_Q D γ ρ hp (w q) sz) μ.2.2.2.2.2.1 μ.2.2.2.2.2.2 (va_A (ev_w ρ hp) sz)
theorem ev_blind {D : va_G} {γ : ev_ga} {ρ : ev_R} {hp : ev_H} {sz : Nat} {av : List Value} : FrameBlind (va_Pc av (ev_Pw D γ ρ hp sz)) := by
  intro a U g mk q
  obtain ⟨q0, q1, qP, qK, qT, qD, qN⟩ := q
  exact ⟨q0, q1, qP, va_K.moved (u := U) (U := U.calling g mk a) (Vm.Alike.refl U.vm) qK, ev_T.moved (u := U) (U := U.calling g mk a) (Vm.Alike.refl U.vm) qT, qD, fun z hz => va_Nw.same rfl (u := U) (U := U.calling g mk a) rfl (qN z hz)⟩
def ev_pop : Nat → List Value → List Value → Option (List Value × List Value)
  | 0, st, acc => some (acc, st)
  | _ + 1, [], _ => none
  | n + 1, v :: st, acc => ev_pop n st (v :: acc)
theorem ev_pop_eq : ∀ {n : Nat} {st acc as st' : List Value}, ev_pop n st acc = some (as, st') → as.reverse ++ st' = acc.reverse ++ st ∧ as.length = acc.length + n
  | 0, st, acc, as, st', h => by
    simp only [ev_pop, Option.some.injEq, Prod.mk.injEq] at h
    obtain ⟨rfl, rfl⟩ := h
    exact ⟨rfl, rfl⟩
  | n + 1, [], acc, as, st', h => by simp [ev_pop] at h
  | n + 1, v :: st, acc, as, st', h => by
    obtain ⟨h1, h2⟩ := ev_pop_eq (n := n) (st := st) (acc := v :: acc) h
    refine ⟨h1.trans (by simp), h2.trans ?_⟩
    rw [List.length_cons]
    omega
def ev_cs : List Value → Nat
  | [] => 0
  | .long _ :: st => ev_cs st + 2
  | .double _ :: st => ev_cs st + 2
  | _ :: st => ev_cs st + 1
theorem ev_cs_eq : ∀ (st : List Value), (st.map fun v => v.category).sum = ev_cs st
  | [] => rfl
  | v :: st => by
    rw [List.map_cons, List.sum_cons, ev_cs_eq st]
    cases v <;> simp [ev_cs, Value.category] <;> omega
def ev_push (v : Option Value) (st : List Value) : List Value := match v with
  | some v => v :: st
  | none => st
section EVM
variable {β : Type} {l : Launch} {D : va_G} {γ : ev_ga} {μ : ev_mu} {κ : ev_ka} {pc n ce sl : Nat} {lo : ev_L} {st : List Value} {hp : ev_H} {y : Option β} {w : β → ev_O}
theorem ev_after {p : Program} {e : Env} {R : Room} {s : State} {m : MethodId} {args : Array Value} {below : List Frame} {meth : Method} {c : Code} {Q : State → Prop} {A : Nat → Prop} {ρ0 ρ : ev_R} {n0 nL : Nat} {st' st0 : List Value} {ls : Array Slot} {H : Heap} {locs : List Loc} {o1 : ev_O} {a : Array Value} {mc' ms' : Nat} (hA : ∀ q, s.heap.size ≤ q → A q) (hl : ev_lo ρ ls nL lo) (hw : ev_wd D γ.1 A s ρ0 n0 ρ hp H locs) (o2 : ev_okl hp.length lo = true) (o3 : ev_oks hp.length st' = true)
    (hrun : va_Run p l e R s m args below meth c H locs ce sl mc' ms' (F0 m pc ls st0) (st'.map (ev_v ρ)) (ev_Q D γ ρ hp o1 H.size a) (va_A (ev_w ρ hp) H.size))
    (hk : ∀ (ρ' : ev_R) (H1 : Heap) (locs1 : List Loc), ev_lo ρ' ls nL lo → ev_wd D γ.1 A s ρ0 n0 ρ' o1.2 H1 locs1 → W p l e R s m args below meth c H1 locs1 (ce + mc') (sl + ms') Q (F0 m (pc + 3) ls ((ev_push o1.1 st').map (ev_v ρ')))) : W p l e R s m args below meth c H locs ce sl Q (F0 m pc ls st0) := by
  obtain ⟨hP, hD, hS, hT, hn0, hag⟩ := hw
  have hFc : ∀ q, va_A (ev_w ρ hp) H.size q → A q := by
    intro q h
    rcases h with ⟨j, x, hj⟩ | h
    · exact hD.2 j _ hj
    · exact hA q (Nat.le_trans hS.1 h)
  have fin : ∀ (ρ' : ev_R) (t : State) (H1 : Heap) (locs1 : List Loc), t.heap = H1 → s.vm.Alike t.vm → ev_ag ρ hp o1.2 ρ' → ev_Bq D γ ρ hp o1.2 H.size ρ' t → va_S A s.heap H1 locs1 → ev_lo ρ' ls nL lo ∧ st'.map (ev_v ρ') = st'.map (ev_v ρ) ∧ ev_wd D γ.1 A s ρ0 n0 ρ' o1.2 H1 locs1 := by
    intro ρ' t H1 locs1 ht hvm hg hB hS1
    obtain ⟨b1, b2, b3⟩ := hB
    rw [ht] at b1
    exact ⟨hl.grow hg.1 o2, ev_oks_eq hg.1 o3, b1, b3.weaken (fun _ _ _ h => hFc _ h), hS1, ev_T.moved hvm.symm b2, Nat.le_trans hn0 hg.2, fun j hj => by rw [hg.1 j (by omega)]; exact hag j hj⟩
  obtain ⟨v, hp'⟩ := o1
  have bad : (∀ T : State, T.heap = H → Stand p l e R s m args below meth c T locs ce sl → False) → W p l e R s m args below meth c H locs ce sl Q (F0 m pc ls st0) := fun h T hT' XS => (h T hT' XS).elim
  match v, hrun, hk, fin with
  | none, hrun, hk, fin =>
    refine va_callv (a := a) hrun hS (fun q _ h => hFc q h) hFc (fun ρ' t H1 locs1 ht hvm hg hB _ _ hS1 => ?_)
    obtain ⟨f1, f2, f3⟩ := fin ρ' t H1 locs1 ht hvm hg hB hS1
    rw [← f2]
    exact hk ρ' H1 locs1 f1 f3
  | some (.int r), hrun, hk, fin =>
    refine va_calli (a := a) hrun hS (fun q _ h => hFc q h) hFc (fun r' ρ' t H1 locs1 ht hvm hg hB _ _ hS1 => ?_)
    obtain ⟨rfl, hg⟩ := hg
    obtain ⟨f1, f2, f3⟩ := fin ρ' t H1 locs1 ht hvm hg hB hS1
    rw [← f2]
    exact hk ρ' H1 locs1 f1 f3
  | some (.long r), hrun, hk, fin => exact bad fun T hT' XS => by obtain ⟨_, _, _, _, _, _, _, _, _, _, hf, _⟩ := hrun T hT' XS; exact hf
  | some (.float r), hrun, hk, fin => exact bad fun T hT' XS => by obtain ⟨_, _, _, _, _, _, _, _, _, _, hf, _⟩ := hrun T hT' XS; exact hf
  | some (.double r), hrun, hk, fin => exact bad fun T hT' XS => by obtain ⟨_, _, _, _, _, _, _, _, _, _, hf, _⟩ := hrun T hT' XS; exact hf
  | some (.ref r), hrun, hk, fin => exact bad fun T hT' XS => by obtain ⟨_, _, _, _, _, _, _, _, _, _, hf, _⟩ := hrun T hT' XS; exact hf
  | some (.retAddr r), hrun, hk, fin => exact bad fun T hT' XS => by obtain ⟨_, _, _, _, _, _, _, _, _, _, hf, _⟩ := hrun T hT' XS; exact hf
  | some .null, hrun, hk, fin => exact bad fun T hT' XS => by obtain ⟨_, _, _, _, _, _, _, _, _, _, hf, _⟩ := hrun T hT' XS; exact hf
theorem ev_pre {s : State} {A : Nat → Prop} {ρ0 ρ : ev_R} {n0 : Nat} {H : Heap} {locs : List Loc} {as : List Value} (hK : va_K D γ.1 [] s) (hN : ∀ q ∈ γ.2.1, va_Nw (.methodLinkNest q.1 q.2.1 q.2.2.1 q.2.2.2) s) (hw : ev_wd D γ.1 A s ρ0 n0 ρ hp H locs) : PreS s H (va_Pc (as.map (ev_v ρ)) (ev_Pw D γ ρ hp H.size)) (as.map (ev_v ρ)) := by
  obtain ⟨hP, hD, hS, hT, hn0, hag⟩ := hw
  exact ⟨ev_blind, fun U hU hW => ⟨rfl, by rw [hU], by rw [hU]; exact hP, va_K.moved hW.alike hK, ev_T.moved hW.alike hT, hD.weaken (fun _ _ _ _ => trivial), fun q hq => va_Nw.warmM hW (hN q hq)⟩⟩
theorem js_callV {α : Type} {na idx ci b : Nat} {C : String} {μ' : ev_mu} {tl : u_T × Nat} {as' st' fs : List Value} {y1 : Option α} {w1 : α → ev_O} {k : α → Option β} (X : ev_X l D γ μ κ) (hd : decode μ.1 pc = .ok (.invokevirtual idx, 3)) (hn : pc + 3 = n) (hM : ev_M l D γ μ' (.ref b :: as') hp y1 w1) (hg : GoodIn γ.2.2 (wsV μ.2.2.2.1.cls idx C μ'.2.2.2.1 (Jvm.Cond.code μ'.2.2.2.1 μ'.1 μ'.2.1 μ'.2.2.1 :: γ.2.2))) (hrc : μ'.2.2.2.2.1.cells = μ'.2.2.2.2.2.1) (hrs : μ'.2.2.2.2.1.slots = μ'.2.2.2.2.2.2)
    (hyy : μ'.2.2.2.1.cls = C ∧ μ'.2.2.2.1.cls ≠ "java/lang/invoke/MethodHandle" ∧ μ'.2.2.2.1.cls ≠ "java/lang/invoke/VarHandle" ∧ (parseMethodDescriptor μ'.2.2.2.1.desc).map (fun d => d.parameters.length) = some na) (hR : μ'.2.2.2.2.1.frames + 1 ≤ μ.2.2.2.2.1.frames ∧ 8 + (μ'.2.1 + 11) + μ'.2.2.2.2.1.locals ≤ μ.2.2.2.2.1.locals) (hc : γ.1[ci]? = some (C, tl)) (hf : ce + μ'.2.2.2.2.2.1 ≤ μ.2.2.2.2.1.cells ∧ sl + μ'.2.2.2.2.2.2 ≤ μ.2.2.2.2.1.slots) (hpop : ev_pop (na + 1) st [] = some (.ref b :: as', st')) (hb : ev_n hp b = some (.inr (ci, fs))) (o2 : ev_okl hp.length lo = true) (o3 : ev_oks hp.length st' = true) (o4 : Nat.ble (ev_cs st') 8 = true) (hk : ∀ q1, ev_J l D γ μ κ n (ce + μ'.2.2.2.2.2.1) (sl + μ'.2.2.2.2.2.2) lo (ev_push (w1 q1).1 st') (w1 q1).2 (k q1) w) : ev_J l D γ μ κ pc ce sl lo st hp (bd y1 k) w := by
  obtain ⟨p, e, s, m, args, below, meth, c, Q, A, ρ0, n0, Ex⟩ := κ
  subst hn
  intro q hy E ρ ls H locs hl hw
  obtain ⟨q1, hy1, hy⟩ := bd_t hy
  obtain ⟨hst, hlen⟩ := ev_pop_eq hpop
  have hst' : st.map (ev_v ρ) = (as'.map (ev_v ρ)).reverse ++ .ref (ρ b).1 :: st'.map (ev_v ρ) := by
    rw [show st = _ from hst.symm]
    simp [ev_v]
  have hlen' : (as'.map (ev_v ρ)).length = na := by
    simp only [List.length_cons, List.length_nil] at hlen
    rw [List.length_map]
    omega
  have hroom : ((st'.map (ev_v ρ)).map fun v => v.category).sum ≤ 8 := by
    rw [ev_v_cats, ev_cs_eq]
    exact Nat.le_of_ble_eq_true o4
  have hpre := ev_pre (as := .ref b :: as') X.2.2.2.2.2.1 X.2.2.2.2.2.2.2.1 hw
  exact ev_after X.2.2.2.2.2.2.1 hl hw o2 o3 (va_runV (As := as'.map (ev_v ρ)) (rest := st'.map (ev_v ρ)) (b := (ρ b).1) ⟨X.1, X.2.1, X.2.2.1, X.2.2.2.1, X.2.2.2.2.1⟩ (hM q1 hy1 ρ H.size) (cwV na X.2.2.2.2.1 hg rfl hrc hrs hyy hR) ⟨hpre.1, va_recv X.2.2.2.2.2.1 hw.1 hc (ev_w_at hb), hpre.2⟩ rfl hlen' hl.1 hst' (lv_room hroom) hd hf) (fun ρ' H1 locs1 a1 a2 => hk q1 q hy E ρ' ls H1 locs1 a1 a2)
theorem js_callS {α : Type} {na idx : Nat} {μ' : ev_mu} {as st' : List Value} {y1 : Option α} {w1 : α → ev_O} {k : α → Option β} (X : ev_X l D γ μ κ) (hd : decode μ.1 pc = .ok (.invokestatic idx, 3)) (hn : pc + 3 = n) (hM : ev_M l D γ μ' as hp y1 w1) (hg : GoodIn γ.2.2 (va_wsS μ.2.2.2.1.cls idx μ'.2.2.2.1 (Jvm.Cond.code μ'.2.2.2.1 μ'.1 μ'.2.1 μ'.2.2.1 :: γ.2.2))) (hrc : μ'.2.2.2.2.1.cells = μ'.2.2.2.2.2.1) (hrs : μ'.2.2.2.2.1.slots = μ'.2.2.2.2.2.2)
    (hyy : μ'.2.2.2.1.cls ≠ "java/lang/invoke/MethodHandle" ∧ μ'.2.2.2.1.cls ≠ "java/lang/invoke/VarHandle" ∧ (parseMethodDescriptor μ'.2.2.2.1.desc).map (fun d => d.parameters.length) = some na) (hR : μ'.2.2.2.2.1.frames + 1 ≤ μ.2.2.2.2.1.frames ∧ 8 + (μ'.2.1 + 11) + μ'.2.2.2.2.1.locals ≤ μ.2.2.2.2.1.locals) (hf : ce + μ'.2.2.2.2.2.1 ≤ μ.2.2.2.2.1.cells ∧ sl + μ'.2.2.2.2.2.2 ≤ μ.2.2.2.2.1.slots) (hpop : ev_pop na st [] = some (as, st')) (o2 : ev_okl hp.length lo = true) (o3 : ev_oks hp.length st' = true) (o4 : Nat.ble (ev_cs st') 8 = true) (hk : ∀ q1, ev_J l D γ μ κ n (ce + μ'.2.2.2.2.2.1) (sl + μ'.2.2.2.2.2.2) lo (ev_push (w1 q1).1 st') (w1 q1).2 (k q1) w) : ev_J l D γ μ κ pc ce sl lo st hp (bd y1 k) w := by
  obtain ⟨p, e, s, m, args, below, meth, c, Q, A, ρ0, n0, Ex⟩ := κ
  subst hn
  intro q hy E ρ ls H locs hl hw
  obtain ⟨q1, hy1, hy⟩ := bd_t hy
  obtain ⟨hst, hlen⟩ := ev_pop_eq hpop
  have hst' : st.map (ev_v ρ) = (as.map (ev_v ρ)).reverse ++ st'.map (ev_v ρ) := by
    rw [show st = _ from hst.symm]
    simp
  have hlen' : (as.map (ev_v ρ)).length = na := by
    simp only [List.length_nil] at hlen
    rw [List.length_map]
    omega
  have hroom : ((st'.map (ev_v ρ)).map fun v => v.category).sum ≤ 8 := by
    rw [ev_v_cats, ev_cs_eq]
    exact Nat.le_of_ble_eq_true o4
  exact ev_after X.2.2.2.2.2.2.1 hl hw o2 o3 (va_runS (As := as.map (ev_v ρ)) (rest := st'.map (ev_v ρ)) ⟨X.1, X.2.1, X.2.2.1, X.2.2.2.1, X.2.2.2.2.1⟩ (hM q1 hy1 ρ H.size) (va_cwS na X.2.2.2.2.1 hg rfl hrc hrs hyy hR) (ev_pre X.2.2.2.2.2.1 X.2.2.2.2.2.2.2.1 hw) rfl hlen' hl.1 hst' (lv_room hroom) hd hf) (fun ρ' H1 locs1 a1 a2 => hk q1 q hy E ρ' ls H1 locs1 a1 a2)
theorem js_callI {α : Type} {na idx b : Nat} {μ' : ev_mu} {as' st' : List Value} {y1 : Option α} {w1 : α → ev_O} {k : α → Option β} (X : ev_X l D γ μ κ) (hd : decode μ.1 pc = .ok (.invokespecial idx, 3)) (hn : pc + 3 = n) (hM : ev_M l D γ μ' (.ref b :: as') hp y1 w1) (hg : GoodIn γ.2.2 (Jvm.Cond.code μ'.2.2.2.1 μ'.1 μ'.2.1 μ'.2.2.1 :: γ.2.2)) (hrc : μ'.2.2.2.2.1.cells = μ'.2.2.2.2.2.1) (hrs : μ'.2.2.2.2.1.slots = μ'.2.2.2.2.2.2) (hret : μ'.2.2.1 = none) (hini : Jvm.Cond.initialized μ'.2.2.2.1.cls ∈ γ.2.2) (hml : (Jvm.Cond.methodLink μ.2.2.2.1.cls idx μ'.2.2.2.1 ∈ γ.2.2) ∨ ∃ host, (μ.2.2.2.1.cls, idx, μ'.2.2.2.1, host) ∈ γ.2.1) (him : Jvm.Cond.instanceMethod μ'.2.2.2.1 ∈ γ.2.2) (hyn : μ'.2.2.2.1.name = "<init>")
    (hyy : μ'.2.2.2.1.cls ≠ "java/lang/invoke/MethodHandle" ∧ μ'.2.2.2.1.cls ≠ "java/lang/invoke/VarHandle" ∧ (parseMethodDescriptor μ'.2.2.2.1.desc).map (fun d => d.parameters.length) = some na) (hR : μ'.2.2.2.2.1.frames + 1 ≤ μ.2.2.2.2.1.frames ∧ 8 + (μ'.2.1 + 11) + μ'.2.2.2.2.1.locals ≤ μ.2.2.2.2.1.locals) (hf : ce + μ'.2.2.2.2.2.1 ≤ μ.2.2.2.2.1.cells ∧ sl + μ'.2.2.2.2.2.2 ≤ μ.2.2.2.2.1.slots) (hpop : ev_pop (na + 1) st [] = some (.ref b :: as', st')) (o2 : ev_okl hp.length lo = true) (o3 : ev_oks hp.length st' = true) (o4 : Nat.ble (ev_cs st') 8 = true) (hk : ∀ q1, ev_J l D γ μ κ n (ce + μ'.2.2.2.2.2.1) (sl + μ'.2.2.2.2.2.2) lo (ev_push (w1 q1).1 st') (w1 q1).2 (k q1) w) : ev_J l D γ μ κ pc ce sl lo st hp (bd y1 k) w := by
  obtain ⟨p, e, s, m, args, below, meth, c, Q, A, ρ0, n0, Ex⟩ := κ
  subst hn
  intro q hy E ρ ls H locs hl hw
  obtain ⟨q1, hy1, hy⟩ := bd_t hy
  obtain ⟨hst, hlen⟩ := ev_pop_eq hpop
  have hst' : st.map (ev_v ρ) = (as'.map (ev_v ρ)).reverse ++ .ref (ρ b).1 :: st'.map (ev_v ρ) := by
    rw [show st = _ from hst.symm]
    simp [ev_v]
  have hlen' : (as'.map (ev_v ρ)).length = na := by
    simp only [List.length_cons, List.length_nil] at hlen
    rw [List.length_map]
    omega
  have hroom : ((st'.map (ev_v ρ)).map fun v => v.category).sum ≤ 8 := by
    rw [ev_v_cats, ev_cs_eq]
    exact Nat.le_of_ble_eq_true o4
  have hpre := ev_pre (as := .ref b :: as') X.2.2.2.2.2.1 X.2.2.2.2.2.2.2.1 hw
  have hM1 := hM q1 hy1 ρ H.size
  rw [hret] at hg hM1
  rcases hml with hml | ⟨host, hml⟩
  · exact ev_after X.2.2.2.2.2.2.1 hl hw o2 o3 (va_runI (As := as'.map (ev_v ρ)) (rest := st'.map (ev_v ρ)) (b := (ρ b).1) ⟨X.1, X.2.1, X.2.2.1, X.2.2.2.1, X.2.2.2.2.1⟩ hM1 (cwI na X.2.2.2.2.1 hg rfl hrc hrs (X.2.2.2.2.1 _ hini) (X.2.2.2.2.1 _ hml) (X.2.2.2.2.1 _ him) hyn hyy hR) hpre rfl hlen' hl.1 hst' (lv_room hroom) hd hf) (fun ρ' H1 locs1 a1 a2 => hk q1 q hy E ρ' ls H1 locs1 a1 a2)
  · exact ev_after X.2.2.2.2.2.2.1 hl hw o2 o3 (va_runIN (As := as'.map (ev_v ρ)) (rest := st'.map (ev_v ρ)) (b := (ρ b).1) ⟨X.1, X.2.1, X.2.2.1, X.2.2.2.1, X.2.2.2.2.1⟩ hM1 ⟨va_cnB na X.2.2.2.2.1 hg rfl hrc hrs (X.2.2.2.2.2.2.2.1 _ hml) (X.2.2.2.2.1 _ hini) hyy hR, hyn, X.2.2.2.2.1 _ him⟩ hpre rfl hlen' hl.1 hst' (lv_room hroom) hd hf) (fun ρ' H1 locs1 a1 a2 => hk q1 q hy E ρ' ls H1 locs1 a1 a2)
/-! returns -/
theorem js_retI {x : Int32} {q : β} (X : ev_X l D γ μ κ) (hd : decode μ.1 pc = .ok (.ireturn, 1)) (hret : μ.2.2.1 = some .int) (h1 : ce ≤ μ.2.2.2.2.2.1) (h2 : sl ≤ μ.2.2.2.2.2.2) (hq : w q = (some (.int x), hp)) : ev_J l D γ μ κ pc ce sl lo [.int x] hp (some q) w := by
  obtain ⟨p, e, s, m, args, below, meth, c, Q, A, ρ0, n0, Ex⟩ := κ
  intro q' hy E ρ ls H locs hl hw
  cases hy
  rw [hq] at E
  have E := X.2.2.2.2.2.2.2.2.2 _ E
  exact W.widen h1 h2 (E pc ρ ls H locs ⟨hd, Or.inl hret⟩ hw)
theorem js_retZ {x : Int32} {q : β} (X : ev_X l D γ μ κ) (hd : decode μ.1 pc = .ok (.ireturn, 1)) (hret : μ.2.2.1 = some .boolean) (h1 : ce ≤ μ.2.2.2.2.2.1) (h2 : sl ≤ μ.2.2.2.2.2.2) (hq : w q = (some (.int x), hp)) : ev_J l D γ μ κ pc ce sl lo [.int x] hp (ck (isB x) (some q)) w := by
  obtain ⟨p, e, s, m, args, below, meth, c, Q, A, ρ0, n0, Ex⟩ := κ
  intro q' hy E ρ ls H locs hl hw
  obtain ⟨hb, hy⟩ := ck_t hy
  cases hy
  rw [hq] at E
  have E := X.2.2.2.2.2.2.2.2.2 _ E
  exact W.widen h1 h2 (E pc ρ ls H locs ⟨hd, Or.inr ⟨hret, hb⟩⟩ hw)
theorem js_retV {q : β} (X : ev_X l D γ μ κ) (hd : decode μ.1 pc = .ok (.return_, 1)) (hret : μ.2.2.1 = none) (h1 : ce ≤ μ.2.2.2.2.2.1) (h2 : sl ≤ μ.2.2.2.2.2.2) (hq : w q = (none, hp)) : ev_J l D γ μ κ pc ce sl lo [] hp (some q) w := by
  obtain ⟨p, e, s, m, args, below, meth, c, Q, A, ρ0, n0, Ex⟩ := κ
  intro q' hy E ρ ls H locs hl hw
  cases hy
  rw [hq] at E
  have E := X.2.2.2.2.2.2.2.2.2 _ E
  exact W.widen h1 h2 (E pc ρ ls H locs ⟨hret, hd⟩ hw)
end EVM
theorem ev_sl_len : ∀ (vs : List Value), (lg_sl vs).length = ev_cs vs
  | [] => rfl
  | v :: vs => by
    have h : lg_sl (v :: vs) = (if v.category = 2 then [.val v, .second] else [.val v]) ++ lg_sl vs := by simp [lg_sl]
    rw [h, List.length_append, ev_sl_len vs]
    cases v <;> simp [ev_cs, Value.category] <;> omega
theorem ev_cs_v (ρ : ev_R) (vs : List Value) : ev_cs (vs.map (ev_v ρ)) = ev_cs vs := by rw [← ev_cs_eq, ← ev_cs_eq, ev_v_cats]
set_option maxHeartbeats 4000000 in
theorem ev_met {α : Type} {l : Launch} {D : va_G} {γ : ev_ga} {μ : ev_mu} {as : List Value} {hp : ev_H} {y : Option α} {w : α → ev_O} (hpl : plainName μ.2.2.2.1.cls = true) (hlen : Nat.ble (ev_cs as) μ.2.1 = true) {lo0 : ev_L} (hlo : ev_ent μ.2.1 as = lo0)
    (hJ : ∀ κ : ev_ka, ev_X l D γ μ κ → ev_J l D γ μ κ 0 0 0 lo0 [] hp y w) : ev_M l D γ μ as hp y w := by
  subst hlo
  intro q hy ρ sz
  have hlen := Nat.le_of_ble_eq_true hlen
  refine Met.ofW (cc := μ.1) (maxL := μ.2.1) (ret := μ.2.2.1) hpl rfl ?_
  intro p e s m args below meth c s₁ B hml hv
  obtain ⟨rfl, hsz, hP, hK, hT, hD0, hN⟩ := hv
  have hts0 := atoms_spec (ws := Jvm.Cond.code μ.2.2.2.1 μ.1 μ.2.1 μ.2.2.1 :: γ.2.2) B.pre
  have hts : ∀ w ∈ γ.2.2, w.before (as.map (ev_v ρ)).toArray s = true := fun w h => hts0 w (List.mem_cons_of_mem _ h)
  have hown : s.vm.findClass μ.2.2.2.1.cls = some m.cls := findClass_of_methodNamed B.named
  have hlocks := B.notSynchronized
  have hin : meth.name = μ.2.2.2.1.name := (name_of_methodNamed B.named B.method).1
  subst hsz
  have hD := hD0.self (sz := s.heap.size)
  have hA : ∀ q : Nat, s.heap.size ≤ q → va_A (ev_w ρ hp) s.heap.size q := fun q h => Or.inr h
  have hl := lv_entry (as.map (ev_v ρ)) (n := μ.2.1) (by rw [ev_sl_len, ev_cs_v]; exact hlen)
  rw [lg_entry_eq]
  generalize (lg_sl (as.map (ev_v ρ)) ++ List.replicate (μ.2.1 - (lg_sl (as.map (ev_v ρ))).length) Slot.unset).toArray = ls at hl ⊢
  have HJ := hJ (p, e, s, m, (as.map (ev_v ρ)).toArray, below, meth, c, MQ below (ev_Q D γ ρ hp (w q) s.heap.size) (as.map (ev_v ρ)).toArray s μ.2.2.2.2.2.1 μ.2.2.2.2.2.2 (va_A (ev_w ρ hp) s.heap.size), va_A (ev_w ρ hp) s.heap.size, ρ, hp.length, ev_Ex l D γ μ p e s m (as.map (ev_v ρ)).toArray below meth c (MQ below (ev_Q D γ ρ hp (w q) s.heap.size) (as.map (ev_v ρ)).toArray s μ.2.2.2.2.2.1 μ.2.2.2.2.2.2 (va_A (ev_w ρ hp) s.heap.size)) (va_A (ev_w ρ hp) s.heap.size) ρ hp.length) ⟨B.exec, B.bytes, hml, hown, hts, hK, hA, hN, hin, fun _ h => h⟩
  refine HJ q hy ?_ ρ ls s.heap [] (ev_ent_lo hl) ⟨hP, hD, va_S.rf, hT, Nat.le_refl _, fun _ _ => rfl⟩
  intro pc ρ' ls' H locs hrd hw
  obtain ⟨hP1, hD1, hS1, hT1, hn1, hag1⟩ := hw
  have hB : ∀ t : State, t.heap = H → s.WarmedH t.vm → ev_Bq D γ ρ hp (w q).2 s.heap.size ρ' t := fun t ht hW => ⟨by rw [ht]; exact hP1, ev_T.moved hW.alike hT1, hD1⟩
  have hr := B.returns
  generalize w q = o at hrd hn1 hB ⊢
  obtain ⟨v, hp'⟩ := o
  match v, hrd with
  | none, ⟨e1, hd⟩ =>
    rw [e1] at hr
    exact W.vret B.exec B.bytes hr (fun t ht hW => ⟨⟨ρ', rfl, ⟨hag1, hn1⟩, hB t ht hW⟩, hS1.F ht⟩) hS1.2.2 hd hlocks
  | some (.int x), ⟨hd, hret⟩ =>
    rcases hret with e1 | ⟨e1, hb⟩
    · rw [e1] at hr
      exact W.iret B.exec B.bytes hr (fun t ht hW => ⟨⟨x, ρ', rfl, ⟨rfl, hag1, hn1⟩, hB t ht hW⟩, hS1.F ht⟩) hS1.2.2 hd hlocks
    · rw [e1] at hr
      exact W.zret B.exec B.bytes hr (by rcases isB_or hb with rfl | rfl <;> rfl) (fun t ht hW => ⟨⟨x, ρ', rfl, ⟨rfl, hag1, hn1⟩, hB t ht hW⟩, hS1.F ht⟩) hS1.2.2 hd hlocks
def dq (b : ByteArray) (q : Nat × Instr × Nat) : Bool := decide (decode b q.1 = .ok q.2)
theorem dq_t {b : ByteArray} {q : Nat × Instr × Nat} (h : dq b q = true) : decode b q.1 = .ok q.2 := by
  unfold dq at h
  exact of_decide_eq_true h
theorem dg {b : ByteArray} {L : List (Nat × Instr × Nat)} (h : L.all (dq b) = true) (i : Nat) {pc len : Nat} {ins : Instr} (hi : L[i]? = some (pc, ins, len)) : decode b pc = .ok (ins, len) := by
  have h1 := dq_t (List.all_eq_true.mp h _ (List.mem_of_getElem? hi))
  exact h1