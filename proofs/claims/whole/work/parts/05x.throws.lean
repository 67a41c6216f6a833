/-! exceptions by their numbers; a thrown one is the answer (some (.float n), world) -/
def ev_exn (n : UInt32) : String := if n = 1 then "java/lang/IllegalArgumentException" else if n = 2 then "java/lang/IllegalStateException" else if n = 3 then "java/lang/UnsupportedOperationException" else if n = 4 then "java/lang/IndexOutOfBoundsException" else "java/util/NoSuchElementException"
def ev_sv (v : Int32 ⊕ UInt32) : Option Value := match v with
  | .inl x => some (.int x)
  | .inr n => some (.float n)
/-- texts by (owner, place in the pool, text); names with castable X X; methods that are declared -/
abbrev ev_de : Type := List (String × Nat × String) × List String × List MethodName
def ev_Zs (δ : ev_de) (A : Nat → Prop) (U : State) (H : Heap) : Prop :=
  vx_Zq Bundle.tN "UNASSIGNED_STACK" Bundle.steD A U H ∧ vx_Zq Bundle.tN "SUPPRESSED_SENTINEL" Bundle.listD A U H ∧ (∀ q ∈ δ.1, ∃ a, vk_R q.1 q.2.1 q.2.2 a U) ∧ (∀ X ∈ δ.2.1, va_Nw (.castable X X) U) ∧ ∀ y ∈ δ.2.2, va_Nw (.declares y) U
def ev_XC (D : va_G) (γ : ev_ga) (ρ : ev_R) (hp : ev_H) (o : ev_O) (sz : Nat) : String → State → State → Prop := match o with
  | (some (.float n), hp') => vx_X (ev_ag ρ hp hp') (fun E ρ' t => E = ev_exn n ∧ ev_Bq D γ ρ hp hp' sz ρ' t) (va_A (ev_w ρ hp) sz)
  | _ => fun _ _ _ => False
def ev_PX (D : va_G) (γ : ev_ga) (δ : ev_de) (ρ : ev_R) (hp : ev_H) (sz : Nat) (U : State) : Prop := ev_Pw D γ ρ hp sz U ∧ ev_Zs δ (va_A (ev_w ρ hp) sz) U U.heap
def ev_MX {α : Type} (l : Launch) (D : va_G) (γ : ev_ga) (δ : ev_de) (μ : ev_mu) (as : List Value) (hp : ev_H) (y : Option α) (w : α → ev_O) : Prop :=
  ∀ (q : α), y = some q → ∀ (ρ : ev_R) (sz : Nat), vx_Met l μ.2.2.2.1 (Jvm.Cond.code μ.2.2.2.1 μ.1 μ.2.1 μ.2.2.1 :: γ.2.2) μ.2.2.2.2.1 (va_Pc (as.map (ev_v ρ)) (ev_PX D γ δ ρ hp sz)) (ev_Q D γ ρ hp (w q) sz) (ev_XC D γ ρ hp (w q) sz) μ.2.2.2.2.2.1 μ.2.2.2.2.2.2 (va_A (ev_w ρ hp) sz)
/-- what a throwing method's body knows beside ev_X -/
def ev_TX (l : Launch) (D : va_G) (γ : ev_ga) (δ : ev_de) (μ : ev_mu) (κ : ev_ka) : Prop := match κ with
  | (p, e, s, m, args, below, meth, c, Q, A, ρ0, n0, Ex) => l.stackTraces = false ∧ ev_Zs δ A s s.heap ∧ meth.locks = false ∧ (∀ x ∈ c.exceptionTable.toList, False) ∧ ∃ (Qc : Array Value → State → Outcome → State → Prop) (XC : String → State → State → Prop), Q = vx_MQ below Qc XC args s μ.2.2.2.2.2.1 μ.2.2.2.2.2.2 A ∧
    ∀ (n : UInt32) (hp' : ev_H), Ex (some (.float n), hp') → ∀ (ρ : ev_R) (H : Heap) (locs : List Loc), ev_wd D γ.1 A s ρ0 n0 ρ hp' H locs → ∀ t : State, s.vm.Alike t.vm → H.size ≤ t.heap.size → (∀ q : Nat, q < H.size → t.heap[q]? = H[q]?) → XC (ev_exn n) s t
section EVT
variable {β : Type} {l : Launch} {D : va_G} {γ : ev_ga} {μ : ev_mu} {κ : ev_ka} {pc n ce sl : Nat} {lo : ev_L} {st : List Value} {hp : ev_H} {y : Option β} {w : β → ev_O}
theorem js_throwS {δ : ev_de} {n9 : UInt32} {q : β} {cls text : String} {names : List String} {ik is ic : Nat} (X : ev_X l D γ μ κ) (T : ev_TX l D γ δ μ κ) (hcls : ev_exn n9 = cls) (hfit : Bundle.fit cls = true) (hnm : ∀ z ∈ names, Bundle.fit z = true)
    (w1 : Jvm.Cond.classLink μ.2.2.2.1.cls ik cls ∈ γ.2.2) (w2 : Jvm.Cond.initialized cls ∈ γ.2.2) (hstr : (μ.2.2.2.1.cls, is, text) ∈ δ.1)
    (hat : ∀ z ∈ vx_atS μ.2.2.2.1.cls ic cls names, z ∈ γ.2.2 ∨ (∃ E, E ∈ δ.2.1 ∧ z = .castable E E) ∨ ∃ y ∈ δ.2.2, z = .declares y) (hgood : ∀ z ∈ Jvm.Cond.classLink μ.2.2.2.1.cls ik cls :: Jvm.Cond.initialized cls :: vx_atS μ.2.2.2.1.cls ic cls names, vx_ot z = true)
    (d0 : decode μ.1 pc = .ok (.new ik, 3)) (d3 : decode μ.1 (pc + 3) = .ok (.dup, 1)) (d4 : decode μ.1 (pc + 4) = .ok (.ldc is, 2)) (d6 : decode μ.1 (pc + 6) = .ok (.invokespecial ic, 3)) (d9 : decode μ.1 (pc + 9) = .ok (.athrow, 1))
    (hRf : names.length + 3 < μ.2.2.2.2.1.frames) (hRl : 13 * (names.length + 1) + 43 ≤ μ.2.2.2.2.1.locals) (hRc : ce + 1 ≤ μ.2.2.2.2.1.cells) (hRs : sl + 6 ≤ μ.2.2.2.2.1.slots) (hc : ce + 1 ≤ μ.2.2.2.2.2.1) (hs : sl + 6 ≤ μ.2.2.2.2.2.2)
    (hq : w q = (some (.float n9), hp)) : ev_J l D γ μ κ pc ce sl lo [] hp (some q) w := by
  obtain ⟨p, e, s, m, args, below, meth, c, Q, A, ρ0, n0, Ex⟩ := κ
  intro q' hy E ρ ls H locs hl hw
  cases hy
  rw [hq] at E
  obtain ⟨t1, ⟨zU, zN, zR, zC, zD⟩, t3, t4, Qc, XC, rfl, t5⟩ := T
  obtain ⟨sa, hsa⟩ := zR _ hstr
  subst hcls
  refine vx_throwS (rest := []) X.1 X.2.1 t1 X.2.2.2.1 hfit hnm (X.2.2.2.2.1 _ w1) (X.2.2.2.2.1 _ w2) hsa (fun z hz => ?_) hgood zU zN hw.2.2.1 (hl.1.trans X.2.2.1.symm) d0 d3 d4 d6 d9 (fun x hx => (t4 x hx).elim) hRf (by simpa using hRl) hRc hRs t3 (fun t a1 a2 a3 => t5 n9 hp E ρ H locs hw t a1 a2 a3) hw.2.2.1.2.2 hc hs
  rcases hat z hz with h | ⟨E9, h, rfl⟩ | ⟨y9, h, rfl⟩
  · exact X.2.2.2.2.1 _ h
  · exact va_Nw.use rfl (zC _ h)
  · exact va_Nw.use rfl (zD _ h)
end EVT
theorem ev_Zs.moved {δ : ev_de} {A : Nat → Prop} {s U : State} {H : Heap} (hW : s.WarmedH U.vm) (h : ev_Zs δ A s H) : ev_Zs δ A U H :=
  ⟨h.1.moved hW.alike, h.2.1.moved hW.alike, fun q hq => (h.2.2.1 q hq).imp fun _ z => vk_R.warm hW z, fun X hX => va_Nw.warmC hW (h.2.2.2.1 X hX), fun y hy => va_Nw.warmD hW (h.2.2.2.2 y hy)⟩
set_option maxHeartbeats 4000000 in
theorem ev_metX {α : Type} {l : Launch} {D : va_G} {γ : ev_ga} {δ : ev_de} {μ : ev_mu} {as : List Value} {hp : ev_H} {y : Option α} {w : α → ev_O} (hst : l.stackTraces = false) (hpl : plainName μ.2.2.2.1.cls = true) (hlen : Nat.ble (ev_cs as) μ.2.1 = true) {lo0 : ev_L} (hlo : ev_ent μ.2.1 as = lo0)
    (hJ : ∀ κ : ev_ka, ev_X l D γ μ κ → ev_TX l D γ δ μ κ → ev_J l D γ μ κ 0 0 0 lo0 [] hp y w) : ev_MX l D γ δ μ as hp y w := by
  subst hlo
  intro q hy ρ sz
  have hlen := Nat.le_of_ble_eq_true hlen
  refine vx_ofW (cc := μ.1) (maxL := μ.2.1) (ret := μ.2.2.1) hpl rfl ?_
  intro p e s m args below meth c s₁ B hml hex hv
  obtain ⟨rfl, ⟨hsz, hP, hK, hT, hD0, hN⟩, hZ⟩ := hv
  have hts0 := atoms_spec (ws := Jvm.Cond.code μ.2.2.2.1 μ.1 μ.2.1 μ.2.2.1 :: γ.2.2) B.pre
  have hts : ∀ w ∈ γ.2.2, w.before (as.map (ev_v ρ)).toArray s = true := fun w h => hts0 w (List.mem_cons_of_mem _ h)
  have hown : s.vm.findClass μ.2.2.2.1.cls = some m.cls := findClass_of_methodNamed B.named
  have hlocks := B.notSynchronized
  have hin : meth.name = μ.2.2.2.1.name := (name_of_methodNamed B.named B.method).1
  subst hsz
  have hD := hD0.self (sz := s.heap.size)
  have hA : ∀ q : Nat, s.heap.size ≤ q → va_A (ev_w ρ hp) s.heap.size q := fun q h => Or.inr h
  have hl := lv_entry (as.map (ev_v ρ)) (n := μ.2.1) (by rw [ev_sl_len, ev_cs_v]; exact hlen)
  rw [lg_entry_eq]
  generalize (lg_sl (as.map (ev_v ρ)) ++ List.replicate (μ.2.1 - (lg_sl (as.map (ev_v ρ))).length) Slot.unset).toArray = ls at hl ⊢
  have hr := B.returns
  have HE : ∀ o, o = w q → ev_Ex l D γ μ p e s m (as.map (ev_v ρ)).toArray below meth c (vx_MQ below (ev_Q D γ ρ hp (w q) s.heap.size) (ev_XC D γ ρ hp (w q) s.heap.size) (as.map (ev_v ρ)).toArray s μ.2.2.2.2.2.1 μ.2.2.2.2.2.2 (va_A (ev_w ρ hp) s.heap.size)) (va_A (ev_w ρ hp) s.heap.size) ρ hp.length o := by
    intro o ho pc ρ' ls' H locs hrd hw
    rw [← ho]
    refine vx_ret ?_
    obtain ⟨hP1, hD1, hS1, hT1, hn1, hag1⟩ := hw
    have hB : ∀ t : State, t.heap = H → s.WarmedH t.vm → ev_Bq D γ ρ hp o.2 s.heap.size ρ' t := fun t ht hW => ⟨by rw [ht]; exact hP1, ev_T.moved hW.alike hT1, hD1⟩
    clear ho
    obtain ⟨v, hp'⟩ := o
    match v, hrd with
    | none, ⟨e1, hd⟩ =>
      rw [e1] at hr
      exact W.vret B.exec B.bytes hr (fun t ht hW => ⟨⟨ρ', rfl, ⟨hag1, hn1⟩, hB t ht hW⟩, hS1.F ht⟩) hS1.2.2 hd hlocks
    | some (.int x), ⟨hd, hret⟩ =>
      rcases hret with e1 | ⟨e1, hb⟩
      · rw [e1] at hr
        exact W.iret B.exec B.bytes hr (fun t ht hW => ⟨⟨x, ρ', rfl, ⟨rfl, hag1, hn1⟩, hB t ht hW⟩, hS1.F ht⟩) hS1.2.2 hd hlocks
      · rw [e1] at hr
        exact W.zret B.exec B.bytes hr (by rcases isB_or hb with rfl | rfl <;> rfl) (fun t ht hW => ⟨⟨x, ρ', rfl, ⟨rfl, hag1, hn1⟩, hB t ht hW⟩, hS1.F ht⟩) hS1.2.2 hd hlocks
  have HT : ∀ (n : UInt32) (hp' : ev_H), (some (.float n), hp') = w q → ∀ (ρ' : ev_R) (H : Heap) (locs : List Loc), ev_wd D γ.1 (va_A (ev_w ρ hp) s.heap.size) s ρ hp.length ρ' hp' H locs → ∀ t : State, s.vm.Alike t.vm → H.size ≤ t.heap.size → (∀ q : Nat, q < H.size → t.heap[q]? = H[q]?) → ev_XC D γ ρ hp (w q) s.heap.size (ev_exn n) s t := by
    intro n hp' ho ρ' H locs hw t a1 a2 a3
    rw [← ho]
    obtain ⟨hP1, hD1, hS1, hT1, hn1, hag1⟩ := hw
    refine ⟨ρ', ⟨hag1, hn1⟩, ⟨rfl, hP1.kept fun k z hk => a3 _ (hP1 k z hk).lt, ev_T.moved a1 hT1, hD1⟩, Nat.le_trans hS1.1 a2, fun q h1 h2 => (a3 q (Nat.lt_of_lt_of_le h1 hS1.1)).trans (hS1.2.1 q h1 h2)⟩
  have HJ := hJ (p, e, s, m, (as.map (ev_v ρ)).toArray, below, meth, c, vx_MQ below (ev_Q D γ ρ hp (w q) s.heap.size) (ev_XC D γ ρ hp (w q) s.heap.size) (as.map (ev_v ρ)).toArray s μ.2.2.2.2.2.1 μ.2.2.2.2.2.2 (va_A (ev_w ρ hp) s.heap.size), va_A (ev_w ρ hp) s.heap.size, ρ, hp.length, fun o => o = w q) ⟨B.exec, B.bytes, hml, hown, hts, hK, hA, hN, hin, HE⟩ ⟨hst, hZ, hlocks, hex, _, _, rfl, HT⟩
  exact HJ q hy rfl ρ ls s.heap [] (ev_ent_lo hl) ⟨hP, hD, va_S.rf, hT, Nat.le_refl _, fun _ _ => rfl⟩