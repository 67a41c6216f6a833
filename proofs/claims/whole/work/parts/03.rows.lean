/-! kinds, nest words and words of the tables; code, size of locals, answer's type, name, room, cells, slots; the machine's own state -/
abbrev ev_ga : Type := List vw_C × ev_N × List Jvm.Cond
abbrev ev_mu : Type := ByteArray × Nat × Option FieldType × MethodName × Room × Nat × Nat
abbrev ev_ka : Type := Program × Env × State × MethodId × Array Value × List Frame × Method × Code × (State → Prop) × (Nat → Prop) × ev_R × Nat × (ev_O → Prop)
def isB (x : Int32) : Bool := decide (x = 0 ∨ x = 1)
theorem isB_or {x : Int32} (h : isB x = true) : x = 0 ∨ x = 1 := of_decide_eq_true h
def ev_rd (cc : ByteArray) (ret : Option FieldType) (pc : Nat) (v : Option Value) : Prop := match v with
  | none => ret = none ∧ decode cc pc = .ok (.return_, 1)
  | some (.int x) => decode cc pc = .ok (.ireturn, 1) ∧ (ret = some .int ∨ (ret = some .boolean ∧ isB x = true))
  | _ => False
def ev_Ex (l : Launch) (D : va_G) (γ : ev_ga) (μ : ev_mu) (p : Program) (e : Env) (s : State) (m : MethodId) (args : Array Value) (below : List Frame) (meth : Method) (c : Code) (Q : State → Prop) (A : Nat → Prop) (ρ0 : ev_R) (n0 : Nat) (o : ev_O) : Prop :=
  ∀ (pc : Nat) (ρ : ev_R) (ls : Array Slot) (H : Heap) (locs : List Loc), ev_rd μ.1 μ.2.2.1 pc o.1 → ev_wd D γ.1 A s ρ0 n0 ρ o.2 H locs → W p l e μ.2.2.2.2.1 s m args below meth c H locs μ.2.2.2.2.2.1 μ.2.2.2.2.2.2 Q (F0 m pc ls (o.1.toList.map (ev_v ρ)))
def ev_X (l : Launch) (D : va_G) (γ : ev_ga) (μ : ev_mu) (κ : ev_ka) : Prop := match κ with
  | (p, e, s, m, args, below, meth, c, Q, A, ρ0, n0, Ex) => p.tables.exec = Jvm.exec ∧ c.code = μ.1 ∧ c.maxLocals = μ.2.1 ∧ s.vm.findClass μ.2.2.2.1.cls = some m.cls ∧ (∀ w ∈ γ.2.2, w.before args s = true) ∧ va_K D γ.1 [] s ∧ (∀ q, s.heap.size ≤ q → A q) ∧ (∀ q ∈ γ.2.1, va_Nw (.methodLinkNest q.1 q.2.1 q.2.2.1 q.2.2.2) s) ∧ meth.name = μ.2.2.2.1.name ∧ ∀ o, Ex o → ev_Ex l D γ μ p e s m args below meth c Q A ρ0 n0 o
def ev_J {β : Type} (l : Launch) (D : va_G) (γ : ev_ga) (μ : ev_mu) (κ : ev_ka) (pc ce sl : Nat) (lo : ev_L) (st : List Value) (hp : ev_H) (y : Option β) (w : β → ev_O) : Prop := match κ with
  | (p, e, s, m, args, below, meth, c, Q, A, ρ0, n0, Ex) => ∀ (q : β), y = some q → Ex (w q) → ∀ (ρ : ev_R) (ls : Array Slot) (H : Heap) (locs : List Loc), ev_lo ρ ls μ.2.1 lo → ev_wd D γ.1 A s ρ0 n0 ρ hp H locs → W p l e μ.2.2.2.2.1 s m args below meth c H locs ce sl Q (F0 m pc ls (st.map (ev_v ρ)))
abbrev ix (i : Int32) : Nat := i.toNatClampNeg
def inb (i : Int32) (n : Nat) : Bool := decide (¬ (i < 0 ∨ n ≤ i.toNatClampNeg))
def nz (x : Int32) : Bool := decide (¬ x = 0)
def nzL (x : Int64) : Bool := decide (¬ x = 0)
theorem inb_in {i : Int32} {n : Nat} (h : inb i n = true) : vp_in i n := by
  have h1 : ¬ (i < 0 ∨ n ≤ i.toNatClampNeg) := of_decide_eq_true h
  exact h1
theorem nz_ne {x : Int32} (h : nz x = true) : ¬ x = 0 := of_decide_eq_true h
theorem nzL_ne {x : Int64} (h : nzL x = true) : ¬ x = 0 := of_decide_eq_true h
def ck {α : Type} (b : Bool) (k : Option α) : Option α := match b with
  | true => k
  | false => none
theorem ck_t {α : Type} {b : Bool} {k : Option α} {x : α} (h : ck b k = some x) : b = true ∧ k = some x := by
  cases b with
  | true => exact ⟨rfl, h⟩
  | false => cases h
def bd {α β : Type} (x : Option α) (k : α → Option β) : Option β := match x with
  | some a => k a
  | none => none
theorem bd_t {α β : Type} {x : Option α} {k : α → Option β} {z : β} (h : bd x k = some z) : ∃ a, x = some a ∧ k a = some z := by
  cases x with
  | some a => exact ⟨a, rfl, h⟩
  | none => cases h
section EVR
variable {β : Type} {l : Launch} {D : va_G} {γ : ev_ga} {μ : ev_mu} {κ : ev_ka} {pc n ce sl : Nat} {lo : ev_L} {st : List Value} {hp : ev_H} {y : Option β} {w : β → ev_O}
theorem js_iconst {i : Int} (v : Int32) (X : ev_X l D γ μ κ) (hd : decode μ.1 pc = .ok (.iconst i, 1)) (hn : pc + 1 = n) (hv : Int32.ofInt i = v) (hk : ev_J l D γ μ κ n ce sl lo (.int v :: st) hp y w) : ev_J l D γ μ κ pc ce sl lo (st) hp (y) w := by
  obtain ⟨p, e, s, m, args, below, meth, c, Q, A, ρ0, n0, Ex⟩ := κ
  subst hn
  intro q hy E ρ ls H locs hl hw
  exact lv_iconst X.1 X.2.1 hd hv (hk q hy E ρ ls H locs hl hw)
theorem js_bipush {i : Int} (v : Int32) (X : ev_X l D γ μ κ) (hd : decode μ.1 pc = .ok (.bipush i, 2)) (hn : pc + 2 = n) (hv : (Int8.ofInt i).toInt32 = v) (hk : ev_J l D γ μ κ n ce sl lo (.int v :: st) hp y w) : ev_J l D γ μ κ pc ce sl lo (st) hp (y) w := by
  obtain ⟨p, e, s, m, args, below, meth, c, Q, A, ρ0, n0, Ex⟩ := κ
  subst hn
  intro q hy E ρ ls H locs hl hw
  exact lv_bipush X.1 X.2.1 hd hv (hk q hy E ρ ls H locs hl hw)
theorem js_sipush {i : Int} (v : Int32) (X : ev_X l D γ μ κ) (hd : decode μ.1 pc = .ok (.sipush i, 3)) (hn : pc + 3 = n) (hv : (Int16.ofInt i).toInt32 = v) (hk : ev_J l D γ μ κ n ce sl lo (.int v :: st) hp y w) : ev_J l D γ μ κ pc ce sl lo (st) hp (y) w := by
  obtain ⟨p, e, s, m, args, below, meth, c, Q, A, ρ0, n0, Ex⟩ := κ
  subst hn
  intro q hy E ρ ls H locs hl hw
  exact lv_sipush X.1 X.2.1 hd hv (hk q hy E ρ ls H locs hl hw)
theorem js_lconst {i : Fin 2} (v : Int64) (X : ev_X l D γ μ κ) (hd : decode μ.1 pc = .ok (.lconst i, 1)) (hn : pc + 1 = n) (hv : Int64.ofNat (i : Nat) = v) (hk : ev_J l D γ μ κ n ce sl lo (.long v :: st) hp y w) : ev_J l D γ μ κ pc ce sl lo (st) hp (y) w := by
  obtain ⟨p, e, s, m, args, below, meth, c, Q, A, ρ0, n0, Ex⟩ := κ
  subst hn
  intro q hy E ρ ls H locs hl hw
  exact lv_lconst X.1 X.2.1 hd hv (hk q hy E ρ ls H locs hl hw)
theorem js_ldc {i : Nat} {v : Int32} (X : ev_X l D γ μ κ) (hd : decode μ.1 pc = .ok (.ldc i, 2)) (hn : pc + 2 = n) (hv : Jvm.Cond.constant μ.2.2.2.1.cls i v ∈ γ.2.2) (hk : ev_J l D γ μ κ n ce sl lo (.int v :: st) hp y w) : ev_J l D γ μ κ pc ce sl lo (st) hp (y) w := by
  obtain ⟨p, e, s, m, args, below, meth, c, Q, A, ρ0, n0, Ex⟩ := κ
  subst hn
  intro q hy E ρ ls H locs hl hw
  exact lv_ldc X.1 X.2.1 X.2.2.2.1 (X.2.2.2.2.1 _ hv) hd (hk q hy E ρ ls H locs hl hw)
theorem js_ldcw {i : Nat} {v : Int32} (X : ev_X l D γ μ κ) (hd : decode μ.1 pc = .ok (.ldc_w i, 3)) (hn : pc + 3 = n) (hv : Jvm.Cond.constant μ.2.2.2.1.cls i v ∈ γ.2.2) (hk : ev_J l D γ μ κ n ce sl lo (.int v :: st) hp y w) : ev_J l D γ μ κ pc ce sl lo (st) hp (y) w := by
  obtain ⟨p, e, s, m, args, below, meth, c, Q, A, ρ0, n0, Ex⟩ := κ
  subst hn
  intro q hy E ρ ls H locs hl hw
  exact lv_ldcw X.1 X.2.1 X.2.2.2.1 (X.2.2.2.2.1 _ hv) hd (hk q hy E ρ ls H locs hl hw)
theorem js_ldc2 {i : Nat} {v : Int64} (X : ev_X l D γ μ κ) (hd : decode μ.1 pc = .ok (.ldc2_w i, 3)) (hn : pc + 3 = n) (hv : Jvm.Cond.constantLong μ.2.2.2.1.cls i v ∈ γ.2.2) (hk : ev_J l D γ μ κ n ce sl lo (.long v :: st) hp y w) : ev_J l D γ μ κ pc ce sl lo (st) hp (y) w := by
  obtain ⟨p, e, s, m, args, below, meth, c, Q, A, ρ0, n0, Ex⟩ := κ
  subst hn
  intro q hy E ρ ls H locs hl hw
  exact lv_ldc2 X.1 X.2.1 X.2.2.2.1 (X.2.2.2.2.1 _ hv) hd (hk q hy E ρ ls H locs hl hw)
theorem js_iload {i : Nat} {x : Int32} (X : ev_X l D γ μ κ) (hd : decode μ.1 pc = .ok (.iload i, 2)) (hn : pc + 2 = n) (hx : ev_n lo i = some (some (.int x))) (hk : ev_J l D γ μ κ n ce sl lo (.int x :: st) hp y w) : ev_J l D γ μ κ pc ce sl lo (st) hp (y) w := by
  obtain ⟨p, e, s, m, args, below, meth, c, Q, A, ρ0, n0, Ex⟩ := κ
  subst hn
  intro q hy E ρ ls H locs hl hw
  exact lv_iload X.1 X.2.1 hd (hl.2.2 i _ hx) (hk q hy E ρ ls H locs hl hw)
theorem js_iload_n {i : Nat} {j : Fin 4} {x : Int32} (X : ev_X l D γ μ κ) (hd : decode μ.1 pc = .ok (.iload_n j, 1)) (hn : pc + 1 = n) (hj : (j : Nat) = i) (hx : ev_n lo i = some (some (.int x))) (hk : ev_J l D γ μ κ n ce sl lo (.int x :: st) hp y w) : ev_J l D γ μ κ pc ce sl lo (st) hp (y) w := by
  obtain ⟨p, e, s, m, args, below, meth, c, Q, A, ρ0, n0, Ex⟩ := κ
  subst hn
  intro q hy E ρ ls H locs hl hw
  exact lv_iload_n X.1 X.2.1 hd hj (hl.2.2 i _ hx) (hk q hy E ρ ls H locs hl hw)
theorem js_lload {i : Nat} {x : Int64} (X : ev_X l D γ μ κ) (hd : decode μ.1 pc = .ok (.lload i, 2)) (hn : pc + 2 = n) (hx : ev_n lo i = some (some (.long x))) (hk : ev_J l D γ μ κ n ce sl lo (.long x :: st) hp y w) : ev_J l D γ μ κ pc ce sl lo (st) hp (y) w := by
  obtain ⟨p, e, s, m, args, below, meth, c, Q, A, ρ0, n0, Ex⟩ := κ
  subst hn
  intro q hy E ρ ls H locs hl hw
  exact lv_lload X.1 X.2.1 hd (hl.2.2 i _ hx) (hk q hy E ρ ls H locs hl hw)
theorem js_lload_n {i : Nat} {j : Fin 4} {x : Int64} (X : ev_X l D γ μ κ) (hd : decode μ.1 pc = .ok (.lload_n j, 1)) (hn : pc + 1 = n) (hj : (j : Nat) = i) (hx : ev_n lo i = some (some (.long x))) (hk : ev_J l D γ μ κ n ce sl lo (.long x :: st) hp y w) : ev_J l D γ μ κ pc ce sl lo (st) hp (y) w := by
  obtain ⟨p, e, s, m, args, below, meth, c, Q, A, ρ0, n0, Ex⟩ := κ
  subst hn
  intro q hy E ρ ls H locs hl hw
  exact lv_lload_n X.1 X.2.1 hd hj (hl.2.2 i _ hx) (hk q hy E ρ ls H locs hl hw)
theorem js_aload {i : Nat} {x : Nat} (X : ev_X l D γ μ κ) (hd : decode μ.1 pc = .ok (.aload i, 2)) (hn : pc + 2 = n) (hx : ev_n lo i = some (some (.ref x))) (hk : ev_J l D γ μ κ n ce sl lo (.ref x :: st) hp y w) : ev_J l D γ μ κ pc ce sl lo (st) hp (y) w := by
  obtain ⟨p, e, s, m, args, below, meth, c, Q, A, ρ0, n0, Ex⟩ := κ
  subst hn
  intro q hy E ρ ls H locs hl hw
  exact lv_aload X.1 X.2.1 hd (hl.2.2 i _ hx) (hk q hy E ρ ls H locs hl hw)
theorem js_aload_n {i : Nat} {j : Fin 4} {x : Nat} (X : ev_X l D γ μ κ) (hd : decode μ.1 pc = .ok (.aload_n j, 1)) (hn : pc + 1 = n) (hj : (j : Nat) = i) (hx : ev_n lo i = some (some (.ref x))) (hk : ev_J l D γ μ κ n ce sl lo (.ref x :: st) hp y w) : ev_J l D γ μ κ pc ce sl lo (st) hp (y) w := by
  obtain ⟨p, e, s, m, args, below, meth, c, Q, A, ρ0, n0, Ex⟩ := κ
  subst hn
  intro q hy E ρ ls H locs hl hw
  exact lv_aload_n X.1 X.2.1 hd hj (hl.2.2 i _ hx) (hk q hy E ρ ls H locs hl hw)
theorem js_sload {i : Nat} {x : Nat} (X : ev_X l D γ μ κ) (hd : decode μ.1 pc = .ok (.aload i, 2)) (hn : pc + 2 = n) (hx : ev_n lo i = some (some (.retAddr x))) (hk : ev_J l D γ μ κ n ce sl lo (.retAddr x :: st) hp y w) : ev_J l D γ μ κ pc ce sl lo (st) hp (y) w := by
  obtain ⟨p, e, s, m, args, below, meth, c, Q, A, ρ0, n0, Ex⟩ := κ
  subst hn
  intro q hy E ρ ls H locs hl hw
  exact lv_aload X.1 X.2.1 hd (hl.2.2 i _ hx) (hk q hy E ρ ls H locs hl hw)
theorem js_sload_n {i : Nat} {j : Fin 4} {x : Nat} (X : ev_X l D γ μ κ) (hd : decode μ.1 pc = .ok (.aload_n j, 1)) (hn : pc + 1 = n) (hj : (j : Nat) = i) (hx : ev_n lo i = some (some (.retAddr x))) (hk : ev_J l D γ μ κ n ce sl lo (.retAddr x :: st) hp y w) : ev_J l D γ μ κ pc ce sl lo (st) hp (y) w := by
  obtain ⟨p, e, s, m, args, below, meth, c, Q, A, ρ0, n0, Ex⟩ := κ
  subst hn
  intro q hy E ρ ls H locs hl hw
  exact lv_aload_n X.1 X.2.1 hd hj (hl.2.2 i _ hx) (hk q hy E ρ ls H locs hl hw)
theorem js_istore {i : Nat} {x : Int32} {lo' : ev_L} (X : ev_X l D γ μ κ) (hd : decode μ.1 pc = .ok (.istore i, 2)) (hn : pc + 2 = n) (hi : i < μ.2.1) (hlo : ev_st lo i (.int x) = lo') (hk : ev_J l D γ μ κ n ce sl lo' (st) hp y w) : ev_J l D γ μ κ pc ce sl lo (.int x :: st) hp (y) w := by
  obtain ⟨p, e, s, m, args, below, meth, c, Q, A, ρ0, n0, Ex⟩ := κ
  subst hn
  intro q hy E ρ ls H locs hl hw
  subst hlo
  exact lv_istore X.1 X.2.1 hd hl.has hi rfl (fun ls' h => hk q hy E ρ ls' H locs (ev_lo.store (v := .int x) (ls := ls) h) hw)
theorem js_istore_n {i : Nat} {j : Fin 4} {x : Int32} {lo' : ev_L} (X : ev_X l D γ μ κ) (hd : decode μ.1 pc = .ok (.istore_n j, 1)) (hn : pc + 1 = n) (hj : (j : Nat) = i) (hi : i < μ.2.1) (hlo : ev_st lo i (.int x) = lo') (hk : ev_J l D γ μ κ n ce sl lo' (st) hp y w) : ev_J l D γ μ κ pc ce sl lo (.int x :: st) hp (y) w := by
  obtain ⟨p, e, s, m, args, below, meth, c, Q, A, ρ0, n0, Ex⟩ := κ
  subst hn
  intro q hy E ρ ls H locs hl hw
  subst hlo
  exact lv_istore_n X.1 X.2.1 hd hj hl.has hi rfl (fun ls' h => hk q hy E ρ ls' H locs (ev_lo.store (v := .int x) (ls := ls) h) hw)
theorem js_astore {i : Nat} {x : Nat} {lo' : ev_L} (X : ev_X l D γ μ κ) (hd : decode μ.1 pc = .ok (.astore i, 2)) (hn : pc + 2 = n) (hi : i < μ.2.1) (hlo : ev_st lo i (.ref x) = lo') (hk : ev_J l D γ μ κ n ce sl lo' (st) hp y w) : ev_J l D γ μ κ pc ce sl lo (.ref x :: st) hp (y) w := by
  obtain ⟨p, e, s, m, args, below, meth, c, Q, A, ρ0, n0, Ex⟩ := κ
  subst hn
  intro q hy E ρ ls H locs hl hw
  subst hlo
  exact lv_astore X.1 X.2.1 hd hl.has hi rfl (fun ls' h => hk q hy E ρ ls' H locs (ev_lo.store (v := .ref x) (ls := ls) h) hw)
theorem js_astore_n {i : Nat} {j : Fin 4} {x : Nat} {lo' : ev_L} (X : ev_X l D γ μ κ) (hd : decode μ.1 pc = .ok (.astore_n j, 1)) (hn : pc + 1 = n) (hj : (j : Nat) = i) (hi : i < μ.2.1) (hlo : ev_st lo i (.ref x) = lo') (hk : ev_J l D γ μ κ n ce sl lo' (st) hp y w) : ev_J l D γ μ κ pc ce sl lo (.ref x :: st) hp (y) w := by
  obtain ⟨p, e, s, m, args, below, meth, c, Q, A, ρ0, n0, Ex⟩ := κ
  subst hn
  intro q hy E ρ ls H locs hl hw
  subst hlo
  exact lv_astore_n X.1 X.2.1 hd hj hl.has hi rfl (fun ls' h => hk q hy E ρ ls' H locs (ev_lo.store (v := .ref x) (ls := ls) h) hw)
theorem js_iinc {i : Nat} {d : Int} (v : Int32) {x : Int32} {lo' : ev_L} (X : ev_X l D γ μ κ) (hd : decode μ.1 pc = .ok (.iinc i d, 3)) (hn : pc + 3 = n) (hv : Int32.ofInt d = v) (hi : i < μ.2.1) (hx : ev_n lo i = some (some (.int x))) (hlo : ev_st lo i (.int (x + v)) = lo') (hk : ev_J l D γ μ κ n ce sl lo' (st) hp y w) : ev_J l D γ μ κ pc ce sl lo (st) hp (y) w := by
  obtain ⟨p, e, s, m, args, below, meth, c, Q, A, ρ0, n0, Ex⟩ := κ
  subst hn
  intro q hy E ρ ls H locs hl hw
  subst hlo
  obtain ⟨j, hj⟩ := List.getElem?_of_mem (ev_as_mem (ρ := ρ) hx)
  exact lv_iinc X.1 X.2.1 hd hl.has (k := j) hj (by rw [hv]) hi rfl (fun ls' h => hk q hy E ρ ls' H locs (ev_lo.store (v := .int (x + v)) (ls := ls) h) hw)
theorem js_iadd {x z : Int32} (X : ev_X l D γ μ κ) (hd : decode μ.1 pc = .ok (.iadd, 1)) (hn : pc + 1 = n) (hk : ev_J l D γ μ κ n ce sl lo (.int (x + z) :: st) hp y w) : ev_J l D γ μ κ pc ce sl lo (.int z :: .int x :: st) hp (y) w := by
  obtain ⟨p, e, s, m, args, below, meth, c, Q, A, ρ0, n0, Ex⟩ := κ
  subst hn
  intro q hy E ρ ls H locs hl hw
  exact lv_iadd X.1 X.2.1 hd (hk q hy E ρ ls H locs hl hw)
theorem js_isub {x z : Int32} (X : ev_X l D γ μ κ) (hd : decode μ.1 pc = .ok (.isub, 1)) (hn : pc + 1 = n) (hk : ev_J l D γ μ κ n ce sl lo (.int (x - z) :: st) hp y w) : ev_J l D γ μ κ pc ce sl lo (.int z :: .int x :: st) hp (y) w := by
  obtain ⟨p, e, s, m, args, below, meth, c, Q, A, ρ0, n0, Ex⟩ := κ
  subst hn
  intro q hy E ρ ls H locs hl hw
  exact lv_isub X.1 X.2.1 hd (hk q hy E ρ ls H locs hl hw)
theorem js_imul {x z : Int32} (X : ev_X l D γ μ κ) (hd : decode μ.1 pc = .ok (.imul, 1)) (hn : pc + 1 = n) (hk : ev_J l D γ μ κ n ce sl lo (.int (x * z) :: st) hp y w) : ev_J l D γ μ κ pc ce sl lo (.int z :: .int x :: st) hp (y) w := by
  obtain ⟨p, e, s, m, args, below, meth, c, Q, A, ρ0, n0, Ex⟩ := κ
  subst hn
  intro q hy E ρ ls H locs hl hw
  exact lv_imul X.1 X.2.1 hd (hk q hy E ρ ls H locs hl hw)
theorem js_iand {x z : Int32} (X : ev_X l D γ μ κ) (hd : decode μ.1 pc = .ok (.iand, 1)) (hn : pc + 1 = n) (hk : ev_J l D γ μ κ n ce sl lo (.int (x &&& z) :: st) hp y w) : ev_J l D γ μ κ pc ce sl lo (.int z :: .int x :: st) hp (y) w := by
  obtain ⟨p, e, s, m, args, below, meth, c, Q, A, ρ0, n0, Ex⟩ := κ
  subst hn
  intro q hy E ρ ls H locs hl hw
  exact lv_iand X.1 X.2.1 hd (hk q hy E ρ ls H locs hl hw)
theorem js_ior {x z : Int32} (X : ev_X l D γ μ κ) (hd : decode μ.1 pc = .ok (.ior, 1)) (hn : pc + 1 = n) (hk : ev_J l D γ μ κ n ce sl lo (.int (x ||| z) :: st) hp y w) : ev_J l D γ μ κ pc ce sl lo (.int z :: .int x :: st) hp (y) w := by
  obtain ⟨p, e, s, m, args, below, meth, c, Q, A, ρ0, n0, Ex⟩ := κ
  subst hn
  intro q hy E ρ ls H locs hl hw
  exact lv_ior X.1 X.2.1 hd (hk q hy E ρ ls H locs hl hw)
theorem js_ixor {x z : Int32} (X : ev_X l D γ μ κ) (hd : decode μ.1 pc = .ok (.ixor, 1)) (hn : pc + 1 = n) (hk : ev_J l D γ μ κ n ce sl lo (.int (x ^^^ z) :: st) hp y w) : ev_J l D γ μ κ pc ce sl lo (.int z :: .int x :: st) hp (y) w := by
  obtain ⟨p, e, s, m, args, below, meth, c, Q, A, ρ0, n0, Ex⟩ := κ
  subst hn
  intro q hy E ρ ls H locs hl hw
  exact lv_ixor X.1 X.2.1 hd (hk q hy E ρ ls H locs hl hw)
theorem js_ishl {x z : Int32} (X : ev_X l D γ μ κ) (hd : decode μ.1 pc = .ok (.ishl, 1)) (hn : pc + 1 = n) (hk : ev_J l D γ μ κ n ce sl lo (.int (x <<< (z &&& 31)) :: st) hp y w) : ev_J l D γ μ κ pc ce sl lo (.int z :: .int x :: st) hp (y) w := by
  obtain ⟨p, e, s, m, args, below, meth, c, Q, A, ρ0, n0, Ex⟩ := κ
  subst hn
  intro q hy E ρ ls H locs hl hw
  exact lv_ishl X.1 X.2.1 hd (hk q hy E ρ ls H locs hl hw)
theorem js_ishr {x z : Int32} (X : ev_X l D γ μ κ) (hd : decode μ.1 pc = .ok (.ishr, 1)) (hn : pc + 1 = n) (hk : ev_J l D γ μ κ n ce sl lo (.int (x >>> (z &&& 31)) :: st) hp y w) : ev_J l D γ μ κ pc ce sl lo (.int z :: .int x :: st) hp (y) w := by
  obtain ⟨p, e, s, m, args, below, meth, c, Q, A, ρ0, n0, Ex⟩ := κ
  subst hn
  intro q hy E ρ ls H locs hl hw
  exact lv_ishr X.1 X.2.1 hd (hk q hy E ρ ls H locs hl hw)
theorem js_ineg {x : Int32} (X : ev_X l D γ μ κ) (hd : decode μ.1 pc = .ok (.ineg, 1)) (hn : pc + 1 = n) (hk : ev_J l D γ μ κ n ce sl lo (.int (-x) :: st) hp y w) : ev_J l D γ μ κ pc ce sl lo (.int x :: st) hp (y) w := by
  obtain ⟨p, e, s, m, args, below, meth, c, Q, A, ρ0, n0, Ex⟩ := κ
  subst hn
  intro q hy E ρ ls H locs hl hw
  exact lv_ineg X.1 X.2.1 hd (hk q hy E ρ ls H locs hl hw)
theorem js_idiv {x z : Int32} (X : ev_X l D γ μ κ) (hd : decode μ.1 pc = .ok (.idiv, 1)) (hn : pc + 1 = n) (hk : ev_J l D γ μ κ n ce sl lo (.int (x / z) :: st) hp y w) : ev_J l D γ μ κ pc ce sl lo (.int z :: .int x :: st) hp (ck (nz z) y) w := by
  obtain ⟨p, e, s, m, args, below, meth, c, Q, A, ρ0, n0, Ex⟩ := κ
  subst hn
  intro q hy E ρ ls H locs hl hw
  obtain ⟨h1, hy⟩ := ck_t hy
  exact lv_idiv X.1 X.2.1 hd (nz_ne h1) (hk q hy E ρ ls H locs hl hw)
theorem js_irem {x z : Int32} (X : ev_X l D γ μ κ) (hd : decode μ.1 pc = .ok (.irem, 1)) (hn : pc + 1 = n) (hk : ev_J l D γ μ κ n ce sl lo (.int (x - x / z * z) :: st) hp y w) : ev_J l D γ μ κ pc ce sl lo (.int z :: .int x :: st) hp (ck (nz z) y) w := by
  obtain ⟨p, e, s, m, args, below, meth, c, Q, A, ρ0, n0, Ex⟩ := κ
  subst hn
  intro q hy E ρ ls H locs hl hw
  obtain ⟨h1, hy⟩ := ck_t hy
  exact lv_irem X.1 X.2.1 hd (nz_ne h1) (hk q hy E ρ ls H locs hl hw)
theorem js_ladd {x z : Int64} (X : ev_X l D γ μ κ) (hd : decode μ.1 pc = .ok (.ladd, 1)) (hn : pc + 1 = n) (hk : ev_J l D γ μ κ n ce sl lo (.long (x + z) :: st) hp y w) : ev_J l D γ μ κ pc ce sl lo (.long z :: .long x :: st) hp (y) w := by
  obtain ⟨p, e, s, m, args, below, meth, c, Q, A, ρ0, n0, Ex⟩ := κ
  subst hn
  intro q hy E ρ ls H locs hl hw
  exact lv_ladd X.1 X.2.1 hd (hk q hy E ρ ls H locs hl hw)
theorem js_lmul {x z : Int64} (X : ev_X l D γ μ κ) (hd : decode μ.1 pc = .ok (.lmul, 1)) (hn : pc + 1 = n) (hk : ev_J l D γ μ κ n ce sl lo (.long (x * z) :: st) hp y w) : ev_J l D γ μ κ pc ce sl lo (.long z :: .long x :: st) hp (y) w := by
  obtain ⟨p, e, s, m, args, below, meth, c, Q, A, ρ0, n0, Ex⟩ := κ
  subst hn
  intro q hy E ρ ls H locs hl hw
  exact lv_lmul X.1 X.2.1 hd (hk q hy E ρ ls H locs hl hw)
theorem js_land {x z : Int64} (X : ev_X l D γ μ κ) (hd : decode μ.1 pc = .ok (.land, 1)) (hn : pc + 1 = n) (hk : ev_J l D γ μ κ n ce sl lo (.long (x &&& z) :: st) hp y w) : ev_J l D γ μ κ pc ce sl lo (.long z :: .long x :: st) hp (y) w := by
  obtain ⟨p, e, s, m, args, below, meth, c, Q, A, ρ0, n0, Ex⟩ := κ
  subst hn
  intro q hy E ρ ls H locs hl hw
  exact lv_land X.1 X.2.1 hd (hk q hy E ρ ls H locs hl hw)
theorem js_lor {x z : Int64} (X : ev_X l D γ μ κ) (hd : decode μ.1 pc = .ok (.lor, 1)) (hn : pc + 1 = n) (hk : ev_J l D γ μ κ n ce sl lo (.long (x ||| z) :: st) hp y w) : ev_J l D γ μ κ pc ce sl lo (.long z :: .long x :: st) hp (y) w := by
  obtain ⟨p, e, s, m, args, below, meth, c, Q, A, ρ0, n0, Ex⟩ := κ
  subst hn
  intro q hy E ρ ls H locs hl hw
  exact lv_lor X.1 X.2.1 hd (hk q hy E ρ ls H locs hl hw)
theorem js_lrem {x z : Int64} (X : ev_X l D γ μ κ) (hd : decode μ.1 pc = .ok (.lrem, 1)) (hn : pc + 1 = n) (hk : ev_J l D γ μ κ n ce sl lo (.long (x - x / z * z) :: st) hp y w) : ev_J l D γ μ κ pc ce sl lo (.long z :: .long x :: st) hp (ck (nzL z) y) w := by
  obtain ⟨p, e, s, m, args, below, meth, c, Q, A, ρ0, n0, Ex⟩ := κ
  subst hn
  intro q hy E ρ ls H locs hl hw
  obtain ⟨h1, hy⟩ := ck_t hy
  exact lv_lrem X.1 X.2.1 hd (nzL_ne h1) (hk q hy E ρ ls H locs hl hw)
theorem js_lushr {x : Int64} {z : Int32} (X : ev_X l D γ μ κ) (hd : decode μ.1 pc = .ok (.lushr, 1)) (hn : pc + 1 = n) (hk : ev_J l D γ μ κ n ce sl lo (.long ((x.toUInt64 >>> (z.toInt64.toUInt64 &&& Int64.toUInt64 63)).toInt64) :: st) hp y w) : ev_J l D γ μ κ pc ce sl lo (.int z :: .long x :: st) hp (y) w := by
  obtain ⟨p, e, s, m, args, below, meth, c, Q, A, ρ0, n0, Ex⟩ := κ
  subst hn
  intro q hy E ρ ls H locs hl hw
  exact lv_lushr X.1 X.2.1 hd rfl (hk q hy E ρ ls H locs hl hw)
theorem js_lshl {x : Int64} {z : Int32} (X : ev_X l D γ μ κ) (hd : decode μ.1 pc = .ok (.lshl, 1)) (hn : pc + 1 = n) (hk : ev_J l D γ μ κ n ce sl lo (.long (x <<< (z.toInt64 &&& 63)) :: st) hp y w) : ev_J l D γ μ κ pc ce sl lo (.int z :: .long x :: st) hp (y) w := by
  obtain ⟨p, e, s, m, args, below, meth, c, Q, A, ρ0, n0, Ex⟩ := κ
  subst hn
  intro q hy E ρ ls H locs hl hw
  exact lv_lshl X.1 X.2.1 hd rfl (hk q hy E ρ ls H locs hl hw)
theorem js_lshr {x : Int64} {z : Int32} (X : ev_X l D γ μ κ) (hd : decode μ.1 pc = .ok (.lshr, 1)) (hn : pc + 1 = n) (hk : ev_J l D γ μ κ n ce sl lo (.long (x >>> (z.toInt64 &&& 63)) :: st) hp y w) : ev_J l D γ μ κ pc ce sl lo (.int z :: .long x :: st) hp (y) w := by
  obtain ⟨p, e, s, m, args, below, meth, c, Q, A, ρ0, n0, Ex⟩ := κ
  subst hn
  intro q hy E ρ ls H locs hl hw
  exact lv_lshr X.1 X.2.1 hd rfl (hk q hy E ρ ls H locs hl hw)
theorem js_lcmp {x z : Int64} (X : ev_X l D γ μ κ) (hd : decode μ.1 pc = .ok (.lcmp, 1)) (hn : pc + 1 = n) (hk : ev_J l D γ μ κ n ce sl lo (.int (lg_cmp x z) :: st) hp y w) : ev_J l D γ μ κ pc ce sl lo (.long z :: .long x :: st) hp (y) w := by
  obtain ⟨p, e, s, m, args, below, meth, c, Q, A, ρ0, n0, Ex⟩ := κ
  subst hn
  intro q hy E ρ ls H locs hl hw
  exact W.lcmp X.1 X.2.1 hd (hk q hy E ρ ls H locs hl hw)
theorem js_i2l {x : Int32} (X : ev_X l D γ μ κ) (hd : decode μ.1 pc = .ok (.i2l, 1)) (hn : pc + 1 = n) (hk : ev_J l D γ μ κ n ce sl lo (.long x.toInt64 :: st) hp y w) : ev_J l D γ μ κ pc ce sl lo (.int x :: st) hp (y) w := by
  obtain ⟨p, e, s, m, args, below, meth, c, Q, A, ρ0, n0, Ex⟩ := κ
  subst hn
  intro q hy E ρ ls H locs hl hw
  exact lv_i2l X.1 X.2.1 hd rfl (hk q hy E ρ ls H locs hl hw)
theorem js_l2i {x : Int64} (X : ev_X l D γ μ κ) (hd : decode μ.1 pc = .ok (.l2i, 1)) (hn : pc + 1 = n) (hk : ev_J l D γ μ κ n ce sl lo (.int x.toInt32 :: st) hp y w) : ev_J l D γ μ κ pc ce sl lo (.long x :: st) hp (y) w := by
  obtain ⟨p, e, s, m, args, below, meth, c, Q, A, ρ0, n0, Ex⟩ := κ
  subst hn
  intro q hy E ρ ls H locs hl hw
  exact lv_l2i X.1 X.2.1 hd rfl (hk q hy E ρ ls H locs hl hw)
theorem js_dup {a : Value} (X : ev_X l D γ μ κ) (hd : decode μ.1 pc = .ok (.dup, 1)) (hn : pc + 1 = n) (ha : a.category = 1) (hk : ev_J l D γ μ κ n ce sl lo (a :: a :: st) hp y w) : ev_J l D γ μ κ pc ce sl lo (a :: st) hp (y) w := by
  obtain ⟨p, e, s, m, args, below, meth, c, Q, A, ρ0, n0, Ex⟩ := κ
  subst hn
  intro q hy E ρ ls H locs hl hw
  exact lv_dup X.1 X.2.1 hd (by rw [ev_v_cat]; exact ha) (hk q hy E ρ ls H locs hl hw)
theorem js_dup2 {a b : Value} (X : ev_X l D γ μ κ) (hd : decode μ.1 pc = .ok (.dup2, 1)) (hn : pc + 1 = n) (ha : a.category = 1) (hb : b.category = 1) (hk : ev_J l D γ μ κ n ce sl lo (a :: b :: a :: b :: st) hp y w) : ev_J l D γ μ κ pc ce sl lo (a :: b :: st) hp (y) w := by
  obtain ⟨p, e, s, m, args, below, meth, c, Q, A, ρ0, n0, Ex⟩ := κ
  subst hn
  intro q hy E ρ ls H locs hl hw
  exact lv_dup2_11 X.1 X.2.1 hd (by rw [ev_v_cat]; exact ha) (by rw [ev_v_cat]; exact hb) (hk q hy E ρ ls H locs hl hw)
theorem js_dup22 {a : Value} (X : ev_X l D γ μ κ) (hd : decode μ.1 pc = .ok (.dup2, 1)) (hn : pc + 1 = n) (ha : a.category = 2) (hk : ev_J l D γ μ κ n ce sl lo (a :: a :: st) hp y w) : ev_J l D γ μ κ pc ce sl lo (a :: st) hp (y) w := by
  obtain ⟨p, e, s, m, args, below, meth, c, Q, A, ρ0, n0, Ex⟩ := κ
  subst hn
  intro q hy E ρ ls H locs hl hw
  exact lv_dup2_2 X.1 X.2.1 hd (by rw [ev_v_cat]; exact ha) (hk q hy E ρ ls H locs hl hw)
theorem js_dup_x1 {a b : Value} (X : ev_X l D γ μ κ) (hd : decode μ.1 pc = .ok (.dup_x1, 1)) (hn : pc + 1 = n) (ha : a.category = 1) (hb : b.category = 1) (hk : ev_J l D γ μ κ n ce sl lo (a :: b :: a :: st) hp y w) : ev_J l D γ μ κ pc ce sl lo (a :: b :: st) hp (y) w := by
  obtain ⟨p, e, s, m, args, below, meth, c, Q, A, ρ0, n0, Ex⟩ := κ
  subst hn
  intro q hy E ρ ls H locs hl hw
  exact lv_dup_x1 X.1 X.2.1 hd (by rw [ev_v_cat]; exact ha) (by rw [ev_v_cat]; exact hb) (hk q hy E ρ ls H locs hl hw)
theorem js_pop {a : Value} (X : ev_X l D γ μ κ) (hd : decode μ.1 pc = .ok (.pop, 1)) (hn : pc + 1 = n) (ha : a.category = 1) (hk : ev_J l D γ μ κ n ce sl lo (st) hp y w) : ev_J l D γ μ κ pc ce sl lo (a :: st) hp (y) w := by
  obtain ⟨p, e, s, m, args, below, meth, c, Q, A, ρ0, n0, Ex⟩ := κ
  subst hn
  intro q hy E ρ ls H locs hl hw
  exact lv_pop (va := ev_v ρ a) X.1 X.2.1 hd (by rw [ev_v_cat]; exact ha) (hk q hy E ρ ls H locs hl hw)
theorem js_if_eq {x : Int32} {yt yf : Option β} {t : Nat} {off : Int} (X : ev_X l D γ μ κ) (hd : decode μ.1 pc = .ok (.ifCond .eq off, 3)) (ht : (pc : Int) + off = (t : Int)) (hn : pc + 3 = n) (hkt : ev_J l D γ μ κ t ce sl lo st hp yt w) (hkf : ev_J l D γ μ κ n ce sl lo st hp yf w) : ev_J l D γ μ κ pc ce sl lo (.int x :: st) hp (if x = 0 then yt else yf) w := by
  obtain ⟨p, e, s, m, args, below, meth, c, Q, A, ρ0, n0, Ex⟩ := κ
  subst hn
  intro q hy E ρ ls H locs hl hw
  exact lv_if_eq X.1 X.2.1 hd ht (fun h => hkt q (by rw [if_pos h] at hy; exact hy) E ρ ls H locs hl hw) (fun h => hkf q (by rw [if_neg h] at hy; exact hy) E ρ ls H locs hl hw)
theorem js_if_eq_t {x : Int32} {t : Nat} {off : Int} (X : ev_X l D γ μ κ) (hd : decode μ.1 pc = .ok (.ifCond .eq off, 3)) (ht : (pc : Int) + off = (t : Int)) (hc : x = 0) (hkt : ev_J l D γ μ κ t ce sl lo st hp y w) : ev_J l D γ μ κ pc ce sl lo (.int x :: st) hp y w := by
  obtain ⟨p, e, s, m, args, below, meth, c, Q, A, ρ0, n0, Ex⟩ := κ
  intro q hy E ρ ls H locs hl hw
  exact lv_if_eq X.1 X.2.1 hd ht (fun _ => hkt q hy E ρ ls H locs hl hw) (fun h => absurd hc h)
theorem js_if_eq_f {x : Int32} {t : Nat} {off : Int} (X : ev_X l D γ μ κ) (hd : decode μ.1 pc = .ok (.ifCond .eq off, 3)) (ht : (pc : Int) + off = (t : Int)) (hn : pc + 3 = n) (hc : ¬ x = 0) (hkf : ev_J l D γ μ κ n ce sl lo st hp y w) : ev_J l D γ μ κ pc ce sl lo (.int x :: st) hp y w := by
  obtain ⟨p, e, s, m, args, below, meth, c, Q, A, ρ0, n0, Ex⟩ := κ
  subst hn
  intro q hy E ρ ls H locs hl hw
  exact lv_if_eq X.1 X.2.1 hd ht (fun h => absurd h hc) (fun _ => hkf q hy E ρ ls H locs hl hw)
theorem js_if_ne {x : Int32} {yt yf : Option β} {t : Nat} {off : Int} (X : ev_X l D γ μ κ) (hd : decode μ.1 pc = .ok (.ifCond .ne off, 3)) (ht : (pc : Int) + off = (t : Int)) (hn : pc + 3 = n) (hkt : ev_J l D γ μ κ t ce sl lo st hp yt w) (hkf : ev_J l D γ μ κ n ce sl lo st hp yf w) : ev_J l D γ μ κ pc ce sl lo (.int x :: st) hp (if x = 0 then yf else yt) w := by
  obtain ⟨p, e, s, m, args, below, meth, c, Q, A, ρ0, n0, Ex⟩ := κ
  subst hn
  intro q hy E ρ ls H locs hl hw
  exact lv_if_ne X.1 X.2.1 hd ht (fun h => hkt q (by rw [if_neg h] at hy; exact hy) E ρ ls H locs hl hw) (fun h => hkf q (by rw [if_pos h] at hy; exact hy) E ρ ls H locs hl hw)
theorem js_if_ne_t {x : Int32} {t : Nat} {off : Int} (X : ev_X l D γ μ κ) (hd : decode μ.1 pc = .ok (.ifCond .ne off, 3)) (ht : (pc : Int) + off = (t : Int)) (hc : ¬ x = 0) (hkt : ev_J l D γ μ κ t ce sl lo st hp y w) : ev_J l D γ μ κ pc ce sl lo (.int x :: st) hp y w := by
  obtain ⟨p, e, s, m, args, below, meth, c, Q, A, ρ0, n0, Ex⟩ := κ
  intro q hy E ρ ls H locs hl hw
  exact lv_if_ne X.1 X.2.1 hd ht (fun _ => hkt q hy E ρ ls H locs hl hw) (fun h => absurd h hc)
theorem js_if_ne_f {x : Int32} {t : Nat} {off : Int} (X : ev_X l D γ μ κ) (hd : decode μ.1 pc = .ok (.ifCond .ne off, 3)) (ht : (pc : Int) + off = (t : Int)) (hn : pc + 3 = n) (hc : x = 0) (hkf : ev_J l D γ μ κ n ce sl lo st hp y w) : ev_J l D γ μ κ pc ce sl lo (.int x :: st) hp y w := by
  obtain ⟨p, e, s, m, args, below, meth, c, Q, A, ρ0, n0, Ex⟩ := κ
  subst hn
  intro q hy E ρ ls H locs hl hw
  exact lv_if_ne X.1 X.2.1 hd ht (fun h => absurd hc h) (fun _ => hkf q hy E ρ ls H locs hl hw)
theorem js_if_lt {x : Int32} {yt yf : Option β} {t : Nat} {off : Int} (X : ev_X l D γ μ κ) (hd : decode μ.1 pc = .ok (.ifCond .lt off, 3)) (ht : (pc : Int) + off = (t : Int)) (hn : pc + 3 = n) (hkt : ev_J l D γ μ κ t ce sl lo st hp yt w) (hkf : ev_J l D γ μ κ n ce sl lo st hp yf w) : ev_J l D γ μ κ pc ce sl lo (.int x :: st) hp (if x < 0 then yt else yf) w := by
  obtain ⟨p, e, s, m, args, below, meth, c, Q, A, ρ0, n0, Ex⟩ := κ
  subst hn
  intro q hy E ρ ls H locs hl hw
  exact lv_if_lt X.1 X.2.1 hd ht (fun h => hkt q (by rw [if_pos h] at hy; exact hy) E ρ ls H locs hl hw) (fun h => hkf q (by rw [if_neg h] at hy; exact hy) E ρ ls H locs hl hw)
theorem js_if_lt_t {x : Int32} {t : Nat} {off : Int} (X : ev_X l D γ μ κ) (hd : decode μ.1 pc = .ok (.ifCond .lt off, 3)) (ht : (pc : Int) + off = (t : Int)) (hc : x < 0) (hkt : ev_J l D γ μ κ t ce sl lo st hp y w) : ev_J l D γ μ κ pc ce sl lo (.int x :: st) hp y w := by
  obtain ⟨p, e, s, m, args, below, meth, c, Q, A, ρ0, n0, Ex⟩ := κ
  intro q hy E ρ ls H locs hl hw
  exact lv_if_lt X.1 X.2.1 hd ht (fun _ => hkt q hy E ρ ls H locs hl hw) (fun h => absurd hc h)
theorem js_if_lt_f {x : Int32} {t : Nat} {off : Int} (X : ev_X l D γ μ κ) (hd : decode μ.1 pc = .ok (.ifCond .lt off, 3)) (ht : (pc : Int) + off = (t : Int)) (hn : pc + 3 = n) (hc : ¬ x < 0) (hkf : ev_J l D γ μ κ n ce sl lo st hp y w) : ev_J l D γ μ κ pc ce sl lo (.int x :: st) hp y w := by
  obtain ⟨p, e, s, m, args, below, meth, c, Q, A, ρ0, n0, Ex⟩ := κ
  subst hn
  intro q hy E ρ ls H locs hl hw
  exact lv_if_lt X.1 X.2.1 hd ht (fun h => absurd h hc) (fun _ => hkf q hy E ρ ls H locs hl hw)
theorem js_if_ge {x : Int32} {yt yf : Option β} {t : Nat} {off : Int} (X : ev_X l D γ μ κ) (hd : decode μ.1 pc = .ok (.ifCond .ge off, 3)) (ht : (pc : Int) + off = (t : Int)) (hn : pc + 3 = n) (hkt : ev_J l D γ μ κ t ce sl lo st hp yt w) (hkf : ev_J l D γ μ κ n ce sl lo st hp yf w) : ev_J l D γ μ κ pc ce sl lo (.int x :: st) hp (if 0 ≤ x then yt else yf) w := by
  obtain ⟨p, e, s, m, args, below, meth, c, Q, A, ρ0, n0, Ex⟩ := κ
  subst hn
  intro q hy E ρ ls H locs hl hw
  exact lv_if_ge X.1 X.2.1 hd ht (fun h => hkt q (by rw [if_pos h] at hy; exact hy) E ρ ls H locs hl hw) (fun h => hkf q (by rw [if_neg h] at hy; exact hy) E ρ ls H locs hl hw)
theorem js_if_ge_t {x : Int32} {t : Nat} {off : Int} (X : ev_X l D γ μ κ) (hd : decode μ.1 pc = .ok (.ifCond .ge off, 3)) (ht : (pc : Int) + off = (t : Int)) (hc : 0 ≤ x) (hkt : ev_J l D γ μ κ t ce sl lo st hp y w) : ev_J l D γ μ κ pc ce sl lo (.int x :: st) hp y w := by
  obtain ⟨p, e, s, m, args, below, meth, c, Q, A, ρ0, n0, Ex⟩ := κ
  intro q hy E ρ ls H locs hl hw
  exact lv_if_ge X.1 X.2.1 hd ht (fun _ => hkt q hy E ρ ls H locs hl hw) (fun h => absurd hc h)
theorem js_if_ge_f {x : Int32} {t : Nat} {off : Int} (X : ev_X l D γ μ κ) (hd : decode μ.1 pc = .ok (.ifCond .ge off, 3)) (ht : (pc : Int) + off = (t : Int)) (hn : pc + 3 = n) (hc : ¬ 0 ≤ x) (hkf : ev_J l D γ μ κ n ce sl lo st hp y w) : ev_J l D γ μ κ pc ce sl lo (.int x :: st) hp y w := by
  obtain ⟨p, e, s, m, args, below, meth, c, Q, A, ρ0, n0, Ex⟩ := κ
  subst hn
  intro q hy E ρ ls H locs hl hw
  exact lv_if_ge X.1 X.2.1 hd ht (fun h => absurd h hc) (fun _ => hkf q hy E ρ ls H locs hl hw)
theorem js_if_gt {x : Int32} {yt yf : Option β} {t : Nat} {off : Int} (X : ev_X l D γ μ κ) (hd : decode μ.1 pc = .ok (.ifCond .gt off, 3)) (ht : (pc : Int) + off = (t : Int)) (hn : pc + 3 = n) (hkt : ev_J l D γ μ κ t ce sl lo st hp yt w) (hkf : ev_J l D γ μ κ n ce sl lo st hp yf w) : ev_J l D γ μ κ pc ce sl lo (.int x :: st) hp (if 0 < x then yt else yf) w := by
  obtain ⟨p, e, s, m, args, below, meth, c, Q, A, ρ0, n0, Ex⟩ := κ
  subst hn
  intro q hy E ρ ls H locs hl hw
  exact lv_if_gt X.1 X.2.1 hd ht (fun h => hkt q (by rw [if_pos h] at hy; exact hy) E ρ ls H locs hl hw) (fun h => hkf q (by rw [if_neg h] at hy; exact hy) E ρ ls H locs hl hw)
theorem js_if_gt_t {x : Int32} {t : Nat} {off : Int} (X : ev_X l D γ μ κ) (hd : decode μ.1 pc = .ok (.ifCond .gt off, 3)) (ht : (pc : Int) + off = (t : Int)) (hc : 0 < x) (hkt : ev_J l D γ μ κ t ce sl lo st hp y w) : ev_J l D γ μ κ pc ce sl lo (.int x :: st) hp y w := by
  obtain ⟨p, e, s, m, args, below, meth, c, Q, A, ρ0, n0, Ex⟩ := κ
  intro q hy E ρ ls H locs hl hw
  exact lv_if_gt X.1 X.2.1 hd ht (fun _ => hkt q hy E ρ ls H locs hl hw) (fun h => absurd hc h)
theorem js_if_gt_f {x : Int32} {t : Nat} {off : Int} (X : ev_X l D γ μ κ) (hd : decode μ.1 pc = .ok (.ifCond .gt off, 3)) (ht : (pc : Int) + off = (t : Int)) (hn : pc + 3 = n) (hc : ¬ 0 < x) (hkf : ev_J l D γ μ κ n ce sl lo st hp y w) : ev_J l D γ μ κ pc ce sl lo (.int x :: st) hp y w := by
  obtain ⟨p, e, s, m, args, below, meth, c, Q, A, ρ0, n0, Ex⟩ := κ
  subst hn
  intro q hy E ρ ls H locs hl hw
  exact lv_if_gt X.1 X.2.1 hd ht (fun h => absurd h hc) (fun _ => hkf q hy E ρ ls H locs hl hw)
theorem js_if_le {x : Int32} {yt yf : Option β} {t : Nat} {off : Int} (X : ev_X l D γ μ κ) (hd : decode μ.1 pc = .ok (.ifCond .le off, 3)) (ht : (pc : Int) + off = (t : Int)) (hn : pc + 3 = n) (hkt : ev_J l D γ μ κ t ce sl lo st hp yt w) (hkf : ev_J l D γ μ κ n ce sl lo st hp yf w) : ev_J l D γ μ κ pc ce sl lo (.int x :: st) hp (if x ≤ 0 then yt else yf) w := by
  obtain ⟨p, e, s, m, args, below, meth, c, Q, A, ρ0, n0, Ex⟩ := κ
  subst hn
  intro q hy E ρ ls H locs hl hw
  exact lv_if_le X.1 X.2.1 hd ht (fun h => hkt q (by rw [if_pos h] at hy; exact hy) E ρ ls H locs hl hw) (fun h => hkf q (by rw [if_neg h] at hy; exact hy) E ρ ls H locs hl hw)
theorem js_if_le_t {x : Int32} {t : Nat} {off : Int} (X : ev_X l D γ μ κ) (hd : decode μ.1 pc = .ok (.ifCond .le off, 3)) (ht : (pc : Int) + off = (t : Int)) (hc : x ≤ 0) (hkt : ev_J l D γ μ κ t ce sl lo st hp y w) : ev_J l D γ μ κ pc ce sl lo (.int x :: st) hp y w := by
  obtain ⟨p, e, s, m, args, below, meth, c, Q, A, ρ0, n0, Ex⟩ := κ
  intro q hy E ρ ls H locs hl hw
  exact lv_if_le X.1 X.2.1 hd ht (fun _ => hkt q hy E ρ ls H locs hl hw) (fun h => absurd hc h)
theorem js_if_le_f {x : Int32} {t : Nat} {off : Int} (X : ev_X l D γ μ κ) (hd : decode μ.1 pc = .ok (.ifCond .le off, 3)) (ht : (pc : Int) + off = (t : Int)) (hn : pc + 3 = n) (hc : ¬ x ≤ 0) (hkf : ev_J l D γ μ κ n ce sl lo st hp y w) : ev_J l D γ μ κ pc ce sl lo (.int x :: st) hp y w := by
  obtain ⟨p, e, s, m, args, below, meth, c, Q, A, ρ0, n0, Ex⟩ := κ
  subst hn
  intro q hy E ρ ls H locs hl hw
  exact lv_if_le X.1 X.2.1 hd ht (fun h => absurd h hc) (fun _ => hkf q hy E ρ ls H locs hl hw)
theorem js_icmp_eq {x z : Int32} {yt yf : Option β} {t : Nat} {off : Int} (X : ev_X l D γ μ κ) (hd : decode μ.1 pc = .ok (.if_icmp .eq off, 3)) (ht : (pc : Int) + off = (t : Int)) (hn : pc + 3 = n) (hkt : ev_J l D γ μ κ t ce sl lo st hp yt w) (hkf : ev_J l D γ μ κ n ce sl lo st hp yf w) : ev_J l D γ μ κ pc ce sl lo (.int z :: .int x :: st) hp (if x = z then yt else yf) w := by
  obtain ⟨p, e, s, m, args, below, meth, c, Q, A, ρ0, n0, Ex⟩ := κ
  subst hn
  intro q hy E ρ ls H locs hl hw
  exact lv_icmp_eq X.1 X.2.1 hd ht (fun h => hkt q (by rw [if_pos h] at hy; exact hy) E ρ ls H locs hl hw) (fun h => hkf q (by rw [if_neg h] at hy; exact hy) E ρ ls H locs hl hw)
theorem js_icmp_eq_t {x z : Int32} {t : Nat} {off : Int} (X : ev_X l D γ μ κ) (hd : decode μ.1 pc = .ok (.if_icmp .eq off, 3)) (ht : (pc : Int) + off = (t : Int)) (hc : x = z) (hkt : ev_J l D γ μ κ t ce sl lo st hp y w) : ev_J l D γ μ κ pc ce sl lo (.int z :: .int x :: st) hp y w := by
  obtain ⟨p, e, s, m, args, below, meth, c, Q, A, ρ0, n0, Ex⟩ := κ
  intro q hy E ρ ls H locs hl hw
  exact lv_icmp_eq X.1 X.2.1 hd ht (fun _ => hkt q hy E ρ ls H locs hl hw) (fun h => absurd hc h)
theorem js_icmp_eq_f {x z : Int32} {t : Nat} {off : Int} (X : ev_X l D γ μ κ) (hd : decode μ.1 pc = .ok (.if_icmp .eq off, 3)) (ht : (pc : Int) + off = (t : Int)) (hn : pc + 3 = n) (hc : ¬ x = z) (hkf : ev_J l D γ μ κ n ce sl lo st hp y w) : ev_J l D γ μ κ pc ce sl lo (.int z :: .int x :: st) hp y w := by
  obtain ⟨p, e, s, m, args, below, meth, c, Q, A, ρ0, n0, Ex⟩ := κ
  subst hn
  intro q hy E ρ ls H locs hl hw
  exact lv_icmp_eq X.1 X.2.1 hd ht (fun h => absurd h hc) (fun _ => hkf q hy E ρ ls H locs hl hw)
theorem js_icmp_ne {x z : Int32} {yt yf : Option β} {t : Nat} {off : Int} (X : ev_X l D γ μ κ) (hd : decode μ.1 pc = .ok (.if_icmp .ne off, 3)) (ht : (pc : Int) + off = (t : Int)) (hn : pc + 3 = n) (hkt : ev_J l D γ μ κ t ce sl lo st hp yt w) (hkf : ev_J l D γ μ κ n ce sl lo st hp yf w) : ev_J l D γ μ κ pc ce sl lo (.int z :: .int x :: st) hp (if x = z then yf else yt) w := by
  obtain ⟨p, e, s, m, args, below, meth, c, Q, A, ρ0, n0, Ex⟩ := κ
  subst hn
  intro q hy E ρ ls H locs hl hw
  exact lv_icmp_ne X.1 X.2.1 hd ht (fun h => hkt q (by rw [if_neg h] at hy; exact hy) E ρ ls H locs hl hw) (fun h => hkf q (by rw [if_pos h] at hy; exact hy) E ρ ls H locs hl hw)
theorem js_icmp_ne_t {x z : Int32} {t : Nat} {off : Int} (X : ev_X l D γ μ κ) (hd : decode μ.1 pc = .ok (.if_icmp .ne off, 3)) (ht : (pc : Int) + off = (t : Int)) (hc : ¬ x = z) (hkt : ev_J l D γ μ κ t ce sl lo st hp y w) : ev_J l D γ μ κ pc ce sl lo (.int z :: .int x :: st) hp y w := by
  obtain ⟨p, e, s, m, args, below, meth, c, Q, A, ρ0, n0, Ex⟩ := κ
  intro q hy E ρ ls H locs hl hw
  exact lv_icmp_ne X.1 X.2.1 hd ht (fun _ => hkt q hy E ρ ls H locs hl hw) (fun h => absurd h hc)
theorem js_icmp_ne_f {x z : Int32} {t : Nat} {off : Int} (X : ev_X l D γ μ κ) (hd : decode μ.1 pc = .ok (.if_icmp .ne off, 3)) (ht : (pc : Int) + off = (t : Int)) (hn : pc + 3 = n) (hc : x = z) (hkf : ev_J l D γ μ κ n ce sl lo st hp y w) : ev_J l D γ μ κ pc ce sl lo (.int z :: .int x :: st) hp y w := by
  obtain ⟨p, e, s, m, args, below, meth, c, Q, A, ρ0, n0, Ex⟩ := κ
  subst hn
  intro q hy E ρ ls H locs hl hw
  exact lv_icmp_ne X.1 X.2.1 hd ht (fun h => absurd hc h) (fun _ => hkf q hy E ρ ls H locs hl hw)
theorem js_icmp_lt {x z : Int32} {yt yf : Option β} {t : Nat} {off : Int} (X : ev_X l D γ μ κ) (hd : decode μ.1 pc = .ok (.if_icmp .lt off, 3)) (ht : (pc : Int) + off = (t : Int)) (hn : pc + 3 = n) (hkt : ev_J l D γ μ κ t ce sl lo st hp yt w) (hkf : ev_J l D γ μ κ n ce sl lo st hp yf w) : ev_J l D γ μ κ pc ce sl lo (.int z :: .int x :: st) hp (if x < z then yt else yf) w := by
  obtain ⟨p, e, s, m, args, below, meth, c, Q, A, ρ0, n0, Ex⟩ := κ
  subst hn
  intro q hy E ρ ls H locs hl hw
  exact lv_icmp_lt X.1 X.2.1 hd ht (fun h => hkt q (by rw [if_pos h] at hy; exact hy) E ρ ls H locs hl hw) (fun h => hkf q (by rw [if_neg h] at hy; exact hy) E ρ ls H locs hl hw)
theorem js_icmp_lt_t {x z : Int32} {t : Nat} {off : Int} (X : ev_X l D γ μ κ) (hd : decode μ.1 pc = .ok (.if_icmp .lt off, 3)) (ht : (pc : Int) + off = (t : Int)) (hc : x < z) (hkt : ev_J l D γ μ κ t ce sl lo st hp y w) : ev_J l D γ μ κ pc ce sl lo (.int z :: .int x :: st) hp y w := by
  obtain ⟨p, e, s, m, args, below, meth, c, Q, A, ρ0, n0, Ex⟩ := κ
  intro q hy E ρ ls H locs hl hw
  exact lv_icmp_lt X.1 X.2.1 hd ht (fun _ => hkt q hy E ρ ls H locs hl hw) (fun h => absurd hc h)
theorem js_icmp_lt_f {x z : Int32} {t : Nat} {off : Int} (X : ev_X l D γ μ κ) (hd : decode μ.1 pc = .ok (.if_icmp .lt off, 3)) (ht : (pc : Int) + off = (t : Int)) (hn : pc + 3 = n) (hc : ¬ x < z) (hkf : ev_J l D γ μ κ n ce sl lo st hp y w) : ev_J l D γ μ κ pc ce sl lo (.int z :: .int x :: st) hp y w := by
  obtain ⟨p, e, s, m, args, below, meth, c, Q, A, ρ0, n0, Ex⟩ := κ
  subst hn
  intro q hy E ρ ls H locs hl hw
  exact lv_icmp_lt X.1 X.2.1 hd ht (fun h => absurd h hc) (fun _ => hkf q hy E ρ ls H locs hl hw)
theorem js_icmp_ge {x z : Int32} {yt yf : Option β} {t : Nat} {off : Int} (X : ev_X l D γ μ κ) (hd : decode μ.1 pc = .ok (.if_icmp .ge off, 3)) (ht : (pc : Int) + off = (t : Int)) (hn : pc + 3 = n) (hkt : ev_J l D γ μ κ t ce sl lo st hp yt w) (hkf : ev_J l D γ μ κ n ce sl lo st hp yf w) : ev_J l D γ μ κ pc ce sl lo (.int z :: .int x :: st) hp (if z ≤ x then yt else yf) w := by
  obtain ⟨p, e, s, m, args, below, meth, c, Q, A, ρ0, n0, Ex⟩ := κ
  subst hn
  intro q hy E ρ ls H locs hl hw
  exact lv_icmp_ge X.1 X.2.1 hd ht (fun h => hkt q (by rw [if_pos h] at hy; exact hy) E ρ ls H locs hl hw) (fun h => hkf q (by rw [if_neg h] at hy; exact hy) E ρ ls H locs hl hw)
theorem js_icmp_ge_t {x z : Int32} {t : Nat} {off : Int} (X : ev_X l D γ μ κ) (hd : decode μ.1 pc = .ok (.if_icmp .ge off, 3)) (ht : (pc : Int) + off = (t : Int)) (hc : z ≤ x) (hkt : ev_J l D γ μ κ t ce sl lo st hp y w) : ev_J l D γ μ κ pc ce sl lo (.int z :: .int x :: st) hp y w := by
  obtain ⟨p, e, s, m, args, below, meth, c, Q, A, ρ0, n0, Ex⟩ := κ
  intro q hy E ρ ls H locs hl hw
  exact lv_icmp_ge X.1 X.2.1 hd ht (fun _ => hkt q hy E ρ ls H locs hl hw) (fun h => absurd hc h)
theorem js_icmp_ge_f {x z : Int32} {t : Nat} {off : Int} (X : ev_X l D γ μ κ) (hd : decode μ.1 pc = .ok (.if_icmp .ge off, 3)) (ht : (pc : Int) + off = (t : Int)) (hn : pc + 3 = n) (hc : ¬ z ≤ x) (hkf : ev_J l D γ μ κ n ce sl lo st hp y w) : ev_J l D γ μ κ pc ce sl lo (.int z :: .int x :: st) hp y w := by
  obtain ⟨p, e, s, m, args, below, meth, c, Q, A, ρ0, n0, Ex⟩ := κ
  subst hn
  intro q hy E ρ ls H locs hl hw
  exact lv_icmp_ge X.1 X.2.1 hd ht (fun h => absurd h hc) (fun _ => hkf q hy E ρ ls H locs hl hw)
theorem js_icmp_gt {x z : Int32} {yt yf : Option β} {t : Nat} {off : Int} (X : ev_X l D γ μ κ) (hd : decode μ.1 pc = .ok (.if_icmp .gt off, 3)) (ht : (pc : Int) + off = (t : Int)) (hn : pc + 3 = n) (hkt : ev_J l D γ μ κ t ce sl lo st hp yt w) (hkf : ev_J l D γ μ κ n ce sl lo st hp yf w) : ev_J l D γ μ κ pc ce sl lo (.int z :: .int x :: st) hp (if z < x then yt else yf) w := by
  obtain ⟨p, e, s, m, args, below, meth, c, Q, A, ρ0, n0, Ex⟩ := κ
  subst hn
  intro q hy E ρ ls H locs hl hw
  exact lv_icmp_gt X.1 X.2.1 hd ht (fun h => hkt q (by rw [if_pos h] at hy; exact hy) E ρ ls H locs hl hw) (fun h => hkf q (by rw [if_neg h] at hy; exact hy) E ρ ls H locs hl hw)
theorem js_icmp_gt_t {x z : Int32} {t : Nat} {off : Int} (X : ev_X l D γ μ κ) (hd : decode μ.1 pc = .ok (.if_icmp .gt off, 3)) (ht : (pc : Int) + off = (t : Int)) (hc : z < x) (hkt : ev_J l D γ μ κ t ce sl lo st hp y w) : ev_J l D γ μ κ pc ce sl lo (.int z :: .int x :: st) hp y w := by
  obtain ⟨p, e, s, m, args, below, meth, c, Q, A, ρ0, n0, Ex⟩ := κ
  intro q hy E ρ ls H locs hl hw
  exact lv_icmp_gt X.1 X.2.1 hd ht (fun _ => hkt q hy E ρ ls H locs hl hw) (fun h => absurd hc h)
theorem js_icmp_gt_f {x z : Int32} {t : Nat} {off : Int} (X : ev_X l D γ μ κ) (hd : decode μ.1 pc = .ok (.if_icmp .gt off, 3)) (ht : (pc : Int) + off = (t : Int)) (hn : pc + 3 = n) (hc : ¬ z < x) (hkf : ev_J l D γ μ κ n ce sl lo st hp y w) : ev_J l D γ μ κ pc ce sl lo (.int z :: .int x :: st) hp y w := by
  obtain ⟨p, e, s, m, args, below, meth, c, Q, A, ρ0, n0, Ex⟩ := κ
  subst hn
  intro q hy E ρ ls H locs hl hw
  exact lv_icmp_gt X.1 X.2.1 hd ht (fun h => absurd h hc) (fun _ => hkf q hy E ρ ls H locs hl hw)
theorem js_icmp_le {x z : Int32} {yt yf : Option β} {t : Nat} {off : Int} (X : ev_X l D γ μ κ) (hd : decode μ.1 pc = .ok (.if_icmp .le off, 3)) (ht : (pc : Int) + off = (t : Int)) (hn : pc + 3 = n) (hkt : ev_J l D γ μ κ t ce sl lo st hp yt w) (hkf : ev_J l D γ μ κ n ce sl lo st hp yf w) : ev_J l D γ μ κ pc ce sl lo (.int z :: .int x :: st) hp (if x ≤ z then yt else yf) w := by
  obtain ⟨p, e, s, m, args, below, meth, c, Q, A, ρ0, n0, Ex⟩ := κ
  subst hn
  intro q hy E ρ ls H locs hl hw
  exact lv_icmp_le X.1 X.2.1 hd ht (fun h => hkt q (by rw [if_pos h] at hy; exact hy) E ρ ls H locs hl hw) (fun h => hkf q (by rw [if_neg h] at hy; exact hy) E ρ ls H locs hl hw)
theorem js_icmp_le_t {x z : Int32} {t : Nat} {off : Int} (X : ev_X l D γ μ κ) (hd : decode μ.1 pc = .ok (.if_icmp .le off, 3)) (ht : (pc : Int) + off = (t : Int)) (hc : x ≤ z) (hkt : ev_J l D γ μ κ t ce sl lo st hp y w) : ev_J l D γ μ κ pc ce sl lo (.int z :: .int x :: st) hp y w := by
  obtain ⟨p, e, s, m, args, below, meth, c, Q, A, ρ0, n0, Ex⟩ := κ
  intro q hy E ρ ls H locs hl hw
  exact lv_icmp_le X.1 X.2.1 hd ht (fun _ => hkt q hy E ρ ls H locs hl hw) (fun h => absurd hc h)
theorem js_icmp_le_f {x z : Int32} {t : Nat} {off : Int} (X : ev_X l D γ μ κ) (hd : decode μ.1 pc = .ok (.if_icmp .le off, 3)) (ht : (pc : Int) + off = (t : Int)) (hn : pc + 3 = n) (hc : ¬ x ≤ z) (hkf : ev_J l D γ μ κ n ce sl lo st hp y w) : ev_J l D γ μ κ pc ce sl lo (.int z :: .int x :: st) hp y w := by
  obtain ⟨p, e, s, m, args, below, meth, c, Q, A, ρ0, n0, Ex⟩ := κ
  subst hn
  intro q hy E ρ ls H locs hl hw
  exact lv_icmp_le X.1 X.2.1 hd ht (fun h => absurd h hc) (fun _ => hkf q hy E ρ ls H locs hl hw)
theorem js_goto {t : Nat} {off : Int} (X : ev_X l D γ μ κ) (hd : decode μ.1 pc = .ok (.goto off, 3)) (ht : (pc : Int) + off = (t : Int)) (hk : ev_J l D γ μ κ t ce sl lo st hp y w) : ev_J l D γ μ κ pc ce sl lo st hp y w := by
  obtain ⟨p, e, s, m, args, below, meth, c, Q, A, ρ0, n0, Ex⟩ := κ
  intro q hy E ρ ls H locs hl hw
  exact lv_goto X.1 X.2.1 hd ht (hk q hy E ρ ls H locs hl hw)
theorem js_keep (b : List Bool) (hk : ev_J l D γ μ κ pc ce sl (ev_keep b lo) st hp y w) : ev_J l D γ μ κ pc ce sl lo st hp y w := by
  obtain ⟨p, e, s, m, args, below, meth, c, Q, A, ρ0, n0, Ex⟩ := κ
  intro q hy E ρ ls H locs hl hw
  exact hk q hy E ρ ls H locs (hl.keep b) hw
theorem js_none : ev_J l D γ μ κ pc ce sl lo st hp (none : Option β) w := by
  obtain ⟨p, e, s, m, args, below, meth, c, Q, A, ρ0, n0, Ex⟩ := κ
  intro q hy
  cases hy
theorem js_widen {ce' sl' : Nat} (h1 : ce ≤ ce') (h2 : sl ≤ sl') (hk : ev_J l D γ μ κ pc ce' sl' lo st hp y w) : ev_J l D γ μ κ pc ce sl lo st hp y w := by
  obtain ⟨p, e, s, m, args, below, meth, c, Q, A, ρ0, n0, Ex⟩ := κ
  intro q hy E ρ ls H locs hl hw
  exact W.widen h1 h2 (hk q hy E ρ ls H locs hl hw)
/-- a switch, one key after the other: ps are the keys that are left, with their targets -/
def ev_sj (l : Launch) (D : va_G) (γ : ev_ga) (μ : ev_mu) (κ : ev_ka) (pc ce sl : Nat) (lo : ev_L) (x : Int32) (st : List Value) (hp : ev_H) (ps : List (Int × Int)) (dflt : Int) (y : Option β) (w : β → ev_O) : Prop :=
  ∃ (off : Int) (t : Nat), Op.lookupswitch.offset ps dflt x.toInt = off ∧ (pc : Int) + off = (t : Int) ∧ ev_J l D γ μ κ t ce sl lo st hp y w
theorem js_sw0 {x : Int32} {dflt : Int} (t : Nat) (ht : (pc : Int) + dflt = (t : Int)) (hk : ev_J l D γ μ κ t ce sl lo st hp y w) : ev_sj l D γ μ κ pc ce sl lo x st hp [] dflt y w := ⟨dflt, t, rfl, ht, hk⟩
theorem js_sw1 {x v : Int32} {dflt k off : Int} {ps : List (Int × Int)} {y1 y2 : Option β} (t : Nat) (hv : v.toInt = k) (ht : (pc : Int) + off = (t : Int)) (hk : ev_J l D γ μ κ t ce sl lo st hp y1 w) (hr : ev_sj l D γ μ κ pc ce sl lo x st hp ps dflt y2 w) : ev_sj l D γ μ κ pc ce sl lo x st hp ((k, off) :: ps) dflt (if x = v then y1 else y2) w := by
  by_cases h : x = v
  · refine ⟨off, t, ?_, ht, ?_⟩
    · rw [Op.lookupswitch.offset_cons, if_pos (by rw [h]; exact hv.symm)]
    · rw [if_pos h]
      exact hk
  · obtain ⟨o1, t1, a, b, d⟩ := hr
    refine ⟨o1, t1, ?_, b, ?_⟩
    · rw [Op.lookupswitch.offset_cons, if_neg (fun z => h (Int32.toInt_inj.mp (z.symm.trans hv.symm)))]
      exact a
    · rw [if_neg h]
      exact d
theorem js_lsw {x : Int32} {len : Nat} {dflt : Int} {ps : Array (Int × Int)} (X : ev_X l D γ μ κ) (hd : decode μ.1 pc = .ok (.lookupswitch dflt ps, len)) (hsort : (ps.toList.zip (ps.toList.drop 1)).all (fun (a, next) => a.1 < next.1) = true) (hk : ev_sj l D γ μ κ pc ce sl lo x st hp ps.toList dflt y w) : ev_J l D γ μ κ pc ce sl lo (.int x :: st) hp y w := by
  obtain ⟨off, t, a, b, hk⟩ := hk
  obtain ⟨p, e, s, m, args, below, meth, c, Q, A, ρ0, n0, Ex⟩ := κ
  intro q hy E ρ ls H locs hl hw
  exact lv_lookup X.1 X.2.1 hd hsort a b (hk q hy E ρ ls H locs hl hw)
theorem ev_tab {lo1 dflt x : Int} : ∀ (offs : List Int) (i : Nat), (x < lo1 + i ∨ lo1 + i + offs.length ≤ x → Op.lookupswitch.offset ((offs.zipIdx i).map fun q => (lo1 + (q.2 : Int), q.1)) dflt x = dflt) ∧ ∀ (j : Nat) (o : Int), offs[j]? = some o → x = lo1 + (i + j : Nat) → Op.lookupswitch.offset ((offs.zipIdx i).map fun q => (lo1 + (q.2 : Int), q.1)) dflt x = o
  | [], i => ⟨fun _ => rfl, fun j o h => by simp at h⟩
  | a :: r, i => by
    obtain ⟨h1, h2⟩ := ev_tab (lo1 := lo1) (dflt := dflt) (x := x) r (i + 1)
    have e : (((a :: r).zipIdx i).map fun q => (lo1 + (q.2 : Int), q.1)) = (lo1 + (i : Int), a) :: ((r.zipIdx (i + 1)).map fun q => (lo1 + (q.2 : Int), q.1)) := by simp [List.zipIdx_cons]
    rw [e, Op.lookupswitch.offset_cons]
    refine ⟨fun h => ?_, fun j o hj hx => ?_⟩
    · rw [List.length_cons] at h
      rw [if_neg (by omega)]
      exact h1 (by omega)
    · cases j with
      | zero =>
        rw [if_pos (by omega)]
        simpa using hj
      | succ j =>
        rw [if_neg (by omega)]
        rw [List.getElem?_cons_succ] at hj
        exact h2 j o hj (by omega)
theorem js_tsw {x : Int32} {len : Nat} {dflt lo1 hi1 : Int} {offs : Array Int} (X : ev_X l D γ μ κ) (hd : decode μ.1 pc = .ok (.tableswitch dflt lo1 hi1 offs, len)) (hh : hi1 = lo1 + (offs.toList.length : Int) - 1) (hk : ev_sj l D γ μ κ pc ce sl lo x st hp ((offs.toList.zipIdx 0).map fun q => (lo1 + (q.2 : Int), q.1)) dflt y w) : ev_J l D γ μ κ pc ce sl lo (.int x :: st) hp y w := by
  obtain ⟨off, t, a, b, hk⟩ := hk
  obtain ⟨p, e, s, m, args, below, meth, c, Q, A, ρ0, n0, Ex⟩ := κ
  intro q hy E ρ ls H locs hl hw
  obtain ⟨h1, h2⟩ := ev_tab (lo1 := lo1) (dflt := dflt) (x := x.toInt) offs.toList 0
  by_cases hin : x.toInt < lo1 ∨ hi1 < x.toInt
  · have e1 := h1 (by omega)
    rw [e1] at a
    subst a
    exact lv_tableOut X.1 X.2.1 hd hin b (hk q hy E ρ ls H locs hl hw)
  · have n1 : ¬ x.toInt < lo1 := fun z => hin (Or.inl z)
    have n2 : ¬ hi1 < x.toInt := fun z => hin (Or.inr z)
    have hil : (x.toInt - lo1).toNat < offs.toList.length := by omega
    have hi : offs.toList[(x.toInt - lo1).toNat]? = some offs.toList[(x.toInt - lo1).toNat] := List.getElem?_eq_getElem hil
    have e2 := h2 _ _ hi (by omega)
    rw [e2] at a
    subst a
    exact lv_tableIn X.1 X.2.1 hd n1 n2 (by rw [← Array.getElem?_toList]; exact hi) b (hk q hy E ρ ls H locs hl hw)
end EVR