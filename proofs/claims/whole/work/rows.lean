section
/-! ===== BEGIN words of one list among another's, by their places ===== -/
theorem goodIn_r {big : List Cond} (ws : List Cond) (ps : List Nat) (hp : ws = ps.filterMap (fun i => big[i]?)) (h : ws.all goodWord = true) : GoodIn big ws := by
  intro w hw
  have h1 := List.all_eq_true.mp h w hw
  rw [hp] at hw
  obtain ⟨i, -, hi⟩ := List.mem_filterMap.mp hw
  have hm : w ∈ big := by first | exact List.mem_of_getElem? hi | exact List.getElem?_mem hi
  exact ⟨hm, good_of_word h1⟩
theorem goodIn_app {big a b : List Cond} (ha : GoodIn big a) (hb : GoodIn big b) : GoodIn big (a ++ b) := fun w h => (List.mem_append.mp h).elim (ha w) (hb w)
theorem goodIn_ca {big a b : List Cond} {c : Cond} (ha : GoodIn big (c :: a)) (hb : GoodIn big b) : GoodIn big (c :: (a ++ b)) := fun w h => (List.mem_cons.mp h).elim (fun e => ha w (List.mem_cons.mpr (Or.inl e))) (fun h => (List.mem_append.mp h).elim (fun h => ha w (List.mem_cons.mpr (Or.inr h))) (hb w))
theorem goodIn_sub {big ws : List Cond} (hm : ∀ w ∈ ws, w ∈ big) (h : ws.all goodWord = true) : GoodIn big ws := fun w hw => ⟨hm w hw, good_of_word (List.all_eq_true.mp h w hw)⟩
/-! ===== END ===== -/

/-! ===== BEGIN exceptions that leave a method, and their catching by the caller (launches without stack traces) ===== -/
section VXA
/-! The laws vx_back, vx_callV, vx_callS, vx_callSW, vx_throw0, vx_throwS follow proofs of the library, with one case more: JvmDerived/Free/Laws.lean (Back.of_free), Shelf42/LK1.lean (callV, callS), Shelf/KitTraced.lean (throwNew0V, throwNewS). -/
/-- where a method has thrown q: the class by its name, the cell, what was written, the world -/
def vx_T (XC : String → State → State → Prop) (st : State) (q : Addr) (t : State) (mc ms : Nat) (free : Addr → Prop) : Prop :=
  ∃ (E : String) (ce : Cell) (L : List Loc), XC E st t ∧ t.heap[q]? = some ce ∧ ce.vm = .none ∧ st.vm.findClass E = some ce.cls ∧ st.WarmedH t.vm ∧ st.sameButNew ({ t with vm := st.vm } : State) L mc ms ∧ ∀ z ∈ L, free z.base
def vx_Q (Qc : Array Value → State → Outcome → State → Prop) (XC : String → State → State → Prop) (mc ms : Nat) (free : Addr → Prop) : Array Value → State → Outcome → State → Prop := fun a st o t =>
  (Qc a st o t ∧ ∃ L, FrameEnd st o t L mc ms ∧ ∀ q ∈ L, free q.base) ∨ ∃ q, o = .threw q ∧ vx_T XC st q t mc ms free
/-- a callee that returns or throws -/
def vx_Met (l : Launch) (y : MethodName) (ws : List Cond) (rm : Room) (Pc : Array Value → State → Prop) (Qc : Array Value → State → Outcome → State → Prop) (XC : String → State → State → Prop) (mc ms : Nat) (free : Addr → Prop) : Prop :=
  MetFree l y (headSpec ws rm) Pc (fun _ _ _ _ _ => True) (vx_Q Qc XC mc ms free)
def vx_Post (XC : String → State → State → Prop) (mc ms : Nat) (free : Addr → Prop) : Pt → Array Value → Addr → Pt → Prop := fun A a q B =>
  ∃ (g : JFrame) (mk : MethodId) (t : State) (L : List Loc) (E : String) (ce : Cell), B.U.heap = t.heap ∧ B.U.vm = t.vm ∧ XC E (A.U.calling g mk a) t ∧ t.heap[q]? = some ce ∧ ce.vm = .none ∧ A.U.vm.findClass E = some ce.cls ∧ B.locs = A.locs ++ L ∧ (∀ z ∈ L, free z.base) ∧ B.cells = A.cells + mc ∧ B.slots = A.slots + ms
def vx_Back (l : Launch) (R : Room) (p : Program) (e : Env) (below : List Frame) (s : State) (sargs : Array Value) (y : MethodName) (len W9 : Nat)
    (Pre : Pt → Array Value → Prop) (Post : Pt → Array Value → Option Value → Pt → Prop) (PostX : Pt → Array Value → Addr → Pt → Prop) : Prop :=
  ∀ (m : MethodId) (meth : Method) (c : Code) (A : Pt) (g : JFrame) (ig : Instr) (mk : MethodId) (a : Array Value),
    Stand p l e R s m sargs below meth c A.U A.locs A.cells A.slots → g.method = m → g.locals.size = c.maxLocals → decode c.code g.pc = .ok (ig, len) →
    2 * g.monitorRoom + (g.stack.map fun v => v.category).sum ≤ W9 → A.U.methodNamed? y = some mk → Pre A a →
    (∃ (v : Option Value) (B : Pt), Stand p l e R s m sargs below meth c B.U B.locs B.cells B.slots ∧ Post A a v B ∧
      Steps p.tables e below (doInvoke e (A.U.setTop g) [] mk a).1 (B.U.setTop { g with pc := g.pc + len, stack := v.toList ++ g.stack })) ∨
    (∃ (q : Addr) (B : Pt), Stand p l e R s m sargs below meth c B.U B.locs B.cells B.slots ∧ PostX A a q B ∧
      Steps p.tables e below (doInvoke e (A.U.setTop g) [] mk a).1 ((B.U.setTop g).pushFrame (.throwing q)))
section Payer
variable {l : Launch} {R : Room} {p : Program} {e : Env} {below : List Frame} {s : State} {sargs : Array Value} {y : MethodName} {len W9 : Nat}
theorem vx_back {ws : List Cond} {rm : Room} {Pc : Array Value → State → Prop} {Qc : Array Value → State → Outcome → State → Prop} {XC : String → State → State → Prop} {mc ms : Nat} {free : Addr → Prop} {bytes : ByteArray} {maxL : Nat} {ret : Option FieldType}
    (hM : vx_Met l y ws rm Pc Qc XC mc ms free) (hblind : FrameBlind Pc) (hrc : rm.cells = mc) (hrs : rm.slots = ms)
    (hframes : rm.frames + 1 ≤ R.frames) (hlocals : W9 + (maxL + 11) + rm.locals ≤ R.locals)
    (hws : ∀ w ∈ ws, ∀ a' U, s.WarmedH U.vm → w.before a' U = true) (hcode : Cond.code y bytes maxL ret ∈ ws) (hinit : ∀ a' U, s.WarmedH U.vm → (Cond.initialized y.cls).before a' U = true) :
    vx_Back l R p e below s sargs y len W9 (PreOf R mc ms Pc) (PostOf Qc mc ms free) (vx_Post XC mc ms free) := by
  intro m meth c A g ig mk a X hg hsize hdg hW hn hp
  have h1 : (headSpec ws rm).pre.before a A.U = true := atoms_intro fun w hw => hws w hw _ _ X.warmed
  have h2 : (Cond.code y bytes maxL ret).before a A.U = true := hws _ hcode _ _ X.warmed
  have h3 : (Cond.initialized y.cls).before a A.U = true := hinit _ _ X.warmed
  have h4 : A.cells + (headSpec ws rm).room.cells ≤ R.cells := by rw [show (headSpec ws rm).room.cells = mc from hrc]; exact hp.1
  have h5 : A.slots + (headSpec ws rm).room.slots ≤ R.slots := by rw [show (headSpec ws rm).room.slots = ms from hrs]; exact hp.2.1
  have hPc : Pc a (A.U.calling g mk a) := hblind _ _ _ _ hp.2.2
  obtain ⟨U, Ls, c0, s0⟩ := A
  dsimp only [Pt.U, Pt.locs, Pt.cells, Pt.slots] at h1 h2 h3 h4 h5 X hn hPc ⊢
  obtain ⟨methY, cY, hmY, hcY, -, hlY, -, -, -, -⟩ := Cond.code_spec hn h2
  obtain ⟨kY, hkY, -⟩ := className_of_methodNamed hn
  have hinitY : kY.init = .initialized := Cond.initialized_spec (findClass_of_methodNamed hn) hkY h3
  have h : At U g.method c below := by rw [hg]; exact X.here
  have hlocals9 : W9 + (maxL + 11) + (headSpec ws rm).room.locals ≤ R.locals := hlocals
  have happ : (headSpec ws rm).appliesLoose y e.platform (U.calling g mk a) = true :=
    Spec.appliesLoose_calling (g := g) h hdg hn hkY hinitY
      (X.room_calling (g := g) (R' := (headSpec ws rm).room) hsize hmY hcY hframes (by rw [hlY]; omega) h4 h5) h1
  obtain ⟨mid, hmid⟩ := h.above
  have hfr : (U.setTop g).frames = (.java g :: mid) ++ below := by rw [State.frames_setTop' g h.top, hmid]; rfl
  obtain ⟨o, s₂, hsteps, -, hend, hq⟩ := Steps.callFree hM p X.admits X.cas X.clock (acts := []) hfr happ hPc trivial
  have hq' : vx_Q Qc XC mc ms free a (U.calling g mk a) o s₂ := hq
  rw [State.frames_setTop' g h.top] at hend
  obtain ⟨g₀, hg0⟩ := Option.isSome_iff_exists.mp h.top
  obtain ⟨r, hr⟩ := State.topJava?_eq_some.mp hg0
  have hr' : (({ U with heap := s₂.heap, slotsUsed := s₂.slotsUsed } : State).setVm s₂.vm).frames = .java g₀ :: r := hr
  rcases hq' with ⟨hqc, L, hfe, hL⟩ | ⟨q, rfl, E, ce, L, hx, hce, hcv, hcl, hW₂, hsm, hL⟩
  · obtain ⟨⟨v, rfl⟩, hW₂, e2, q2, q3, q4, q5, q6⟩ := id hfe
    have e3 : s₂ = ({ (U.calling g mk a).setFrames s₂.frames with heap := s₂.heap, slotsUsed := s₂.slotsUsed } : State).setVm s₂.vm := by
      have : s₂ = ({ s₂ with vm := (U.calling g mk a).vm } : State).setVm s₂.vm := rfl
      rw [e2] at this
      exact this
    obtain ⟨c₂, i₂, len₂, hc₂, hd₂, hf₂⟩ := hend
    have hW' : U.WarmedH s₂.vm := hW₂
    have hcc : c₂ = c := by
      have h1 : s₂.code? g.method = U.code? g.method := by
        rw [State.code?_eq, State.code?_eq, hW'.alike.method?]
      exact Option.some.inj (hc₂.symm.trans (h1.trans h.code))
    subst hcc
    have hlen : len₂ = len := by rw [hdg] at hd₂; cases hd₂; rfl
    subst hlen
    have hs₂ : s₂ = (({ U with heap := s₂.heap, slotsUsed := s₂.slotsUsed } : State).setVm s₂.vm).setTop { g with pc := g.pc + len₂, stack := v.toList ++ g.stack } := by
      refine e3.trans ?_
      rw [hf₂, State.calling_eq h.top, State.setFrames_setFrames, State.setTop_of_frames _ hr', hr]
      rfl
    have hsame : U.sameButNew ({ U with heap := s₂.heap, slotsUsed := s₂.slotsUsed } : State) L mc ms := by
      refine ⟨?_, q2, q3, q4, q5, q6⟩
      obtain ⟨t, ht, -⟩ := State.frames_cons hr
      show ({ U with heap := s₂.heap, slotsUsed := s₂.slotsUsed } : State) = { U.setFrames U.frames with heap := s₂.heap, slotsUsed := s₂.slotsUsed }
      rw [State.setFrames_self ht]
    subst hg
    refine Or.inl ⟨v, ⟨(({ U with heap := s₂.heap, slotsUsed := s₂.slotsUsed } : State).setVm s₂.vm), Ls ++ L, c0 + mc, s0 + ms⟩,
      ⟨X.admits, X.cas, X.clock, X.frames, X.room, X.hears, X.method, X.code, (X.here.setHeapUsed s₂.heap s₂.slotsUsed).setVm hW'.alike, X.tail, State.WarmedH.trans X.warmed hW', X.limits, X.bytes, X.same.trans (hsame.setVm s.vm)⟩,
      ⟨g, mk, s₂, L, rfl, rfl, hqc, rfl, hL, rfl, rfl⟩, ?_⟩
    show Steps p.tables e below _ ((({ U with heap := s₂.heap, slotsUsed := s₂.slotsUsed } : State).setVm s₂.vm).setTop { g with pc := g.pc + len₂, stack := v.toList ++ g.stack })
    rw [← hs₂]
    exact hsteps
  · obtain ⟨e2, q2, q3, q4, q5, q6⟩ := id hsm
    have e3 : s₂ = ({ (U.calling g mk a).setFrames s₂.frames with heap := s₂.heap, slotsUsed := s₂.slotsUsed } : State).setVm s₂.vm := by
      have : s₂ = ({ s₂ with vm := (U.calling g mk a).vm } : State).setVm s₂.vm := rfl
      rw [e2] at this
      exact this
    have hf₂ : s₂.frames = .throwing q :: .java g :: U.frames.tail := hend
    have hW' : U.WarmedH s₂.vm := hW₂
    have hs₂ : s₂ = ((({ U with heap := s₂.heap, slotsUsed := s₂.slotsUsed } : State).setVm s₂.vm).setTop g).pushFrame (.throwing q) := by
      refine e3.trans ?_
      rw [hf₂, State.calling_eq h.top, State.setFrames_setFrames, State.pushFrame, State.frames_setTop _ hr', State.setTop_of_frames _ hr', State.setFrames_setFrames, hr]
      rfl
    have hsame : U.sameButNew ({ U with heap := s₂.heap, slotsUsed := s₂.slotsUsed } : State) L mc ms := by
      refine ⟨?_, q2, q3, q4, q5, q6⟩
      obtain ⟨t, ht, -⟩ := State.frames_cons hr
      show ({ U with heap := s₂.heap, slotsUsed := s₂.slotsUsed } : State) = { U.setFrames U.frames with heap := s₂.heap, slotsUsed := s₂.slotsUsed }
      rw [State.setFrames_self ht]
    subst hg
    refine Or.inr ⟨q, ⟨(({ U with heap := s₂.heap, slotsUsed := s₂.slotsUsed } : State).setVm s₂.vm), Ls ++ L, c0 + mc, s0 + ms⟩,
      ⟨X.admits, X.cas, X.clock, X.frames, X.room, X.hears, X.method, X.code, (X.here.setHeapUsed s₂.heap s₂.slotsUsed).setVm hW'.alike, X.tail, State.WarmedH.trans X.warmed hW', X.limits, X.bytes, X.same.trans (hsame.setVm s.vm)⟩,
      ⟨g, mk, s₂, L, E, ce, rfl, rfl, hx, hce, hcv, hcl, rfl, hL, rfl, rfl⟩, ?_⟩
    show Steps p.tables e below _ (((({ U with heap := s₂.heap, slotsUsed := s₂.slotsUsed } : State).setVm s₂.vm).setTop g).pushFrame (.throwing q))
    rw [← hs₂]
    exact hsteps
end Payer
section Calls
variable {p : Program} {l : Launch} {e : Env} {R : Room} {s : State} {m : MethodId} {args : Array Value} {below : List Frame} {meth : Method} {c : Code} {T : State} {locs : List Loc} {cells slots : Nat}
theorem vx_callV (X : Stand p l e R s m args below meth c T locs cells slots) (hexec : p.tables.exec = Jvm.exec) {own C : String} {index : Nat} {y : MethodName} {bytes : ByteArray} {maxL : Nat} {ret : Option FieldType}
    (hown : s.vm.findClass own = some m.cls) (hlink : (Cond.methodLink own index y).before args s = true) (hinst : (Cond.instanceMethod y).before args s = true) (hsel : (Cond.selects C y y).before args s = true)
    (hcode : (Cond.code y bytes maxL ret).before args s = true) (hy : y.cls ≠ "java/lang/invoke/MethodHandle" ∧ y.cls ≠ "java/lang/invoke/VarHandle")
    {W9 : Nat} {Pre : Pt → Array Value → Prop} {Post : Pt → Array Value → Option Value → Pt → Prop} {PostX : Pt → Array Value → Addr → Pt → Prop} (hK : vx_Back l R p e below s args y 3 W9 Pre Post PostX)
    {b : Addr} {cellB : Cell} (hcell : T.heap[b]? = some cellB) (hobj : cellB.vm.isStatics = false) (hcls : s.vm.findClass C = some cellB.cls)
    {g : JFrame} (hg : g.method = m) (hsize : g.locals.size = c.maxLocals) {argsL rest : List Value} (hlen : ∀ sig, parseMethodDescriptor y.desc = some sig → argsL.length = sig.parameters.length)
    (hstack : g.stack = argsL.reverse ++ .ref b :: rest) (hW : 2 * g.monitorRoom + (rest.map fun v => v.category).sum ≤ W9) (hdg : decode c.code g.pc = .ok (.invokevirtual index, 3))
    (hpre : ∀ vm₁, s.WarmedH vm₁ → Pre ⟨T.setVm vm₁, locs, cells, slots⟩ (Value.ref b :: argsL).toArray) :
    (∃ (v : Option Value) (vm₁ : Vm) (B : Pt), s.WarmedH vm₁ ∧ Stand p l e R s m args below meth c B.U B.locs B.cells B.slots ∧ Post ⟨T.setVm vm₁, locs, cells, slots⟩ (Value.ref b :: argsL).toArray v B ∧
      ∀ target, Steps p.tables e below (B.U.setTop { g with pc := g.pc + 3, stack := v.toList ++ rest }) target → Steps p.tables e below (T.setTop g) target) ∨
    (∃ (q : Addr) (vm₁ : Vm) (B : Pt), s.WarmedH vm₁ ∧ Stand p l e R s m args below meth c B.U B.locs B.cells B.slots ∧ PostX ⟨T.setVm vm₁, locs, cells, slots⟩ (Value.ref b :: argsL).toArray q B ∧
      Steps p.tables e below (T.setTop g) ((B.U.setTop { g with stack := rest }).pushFrame (.throwing q))) := by
  obtain ⟨mk, methM, hnamed, hmethM, hstM, habM⟩ := Cond.instanceMethod_spec hinst
  obtain ⟨methM', cM, hmethM', -, -, -, -, -, -, hsigM⟩ := Cond.code_spec hnamed hcode
  cases hmethM.symm.trans hmethM'
  obtain ⟨c2, r2, m2, q1, q2, q3, q4, kP, hkP, hkPi⟩ := Cond.selects_spec hsel
  cases hcls.symm.trans q1
  cases (State.methodFound?_of_named hnamed hy).symm.trans q2
  cases hnamed.symm.trans q3
  have hselP : selectMethod e.platform s.vm cellB.cls mk = .method mk := by rw [Launch.admits_selectMethod X.admits]; exact q4
  obtain ⟨vm₁, X₁, hstep₁⟩ := X.invokevirtual hexec hown hlink hnamed hmethM hstM hkP hkPi hy (a := b) (cell := cellB) hcell
    (fun z h => by rw [h] at hobj; cases hobj) hselP hmethM habM hkP hkPi (g := g) hg (argsL := argsL) (rest := rest) (hlen _ hsigM) hstack hdg
  rcases hK m meth c ⟨T.setVm vm₁, locs, cells, slots⟩ { g with stack := rest } (.invokevirtual index) mk (Value.ref b :: argsL).toArray X₁ hg hsize hdg hW (X₁.named hnamed) (hpre vm₁ X₁.warmed) with ⟨v, B, X', hpost, hsteps⟩ | ⟨q, B, X', hpost, hsteps⟩
  · exact Or.inl ⟨v, vm₁, B, X₁.warmed, X', hpost, fun target h => hstep₁ _ fun acts => by rw [doInvoke_state]; exact hsteps.trans h⟩
  · exact Or.inr ⟨q, vm₁, B, X₁.warmed, X', hpost, hstep₁ _ fun acts => by rw [doInvoke_state]; exact hsteps⟩
theorem vx_callS (X : Stand p l e R s m args below meth c T locs cells slots) (hexec : p.tables.exec = Jvm.exec) {own : String} {index : Nat} {y : MethodName} {bytes : ByteArray} {maxL : Nat} {ret : Option FieldType}
    (hown : s.vm.findClass own = some m.cls) (hlink : (Cond.methodLink own index y).before args s = true) (hstat : (Cond.static y).before args s = true) (hinit : (Cond.initialized y.cls).before args s = true)
    (hcode : (Cond.code y bytes maxL ret).before args s = true) (hy : y.cls ≠ "java/lang/invoke/MethodHandle" ∧ y.cls ≠ "java/lang/invoke/VarHandle")
    {W9 : Nat} {Pre : Pt → Array Value → Prop} {Post : Pt → Array Value → Option Value → Pt → Prop} {PostX : Pt → Array Value → Addr → Pt → Prop} (hK : vx_Back l R p e below s args y 3 W9 Pre Post PostX)
    {g : JFrame} (hg : g.method = m) (hsize : g.locals.size = c.maxLocals) {argsL rest : List Value} (hlen : ∀ sig, parseMethodDescriptor y.desc = some sig → argsL.length = sig.parameters.length)
    (hstack : g.stack = argsL.reverse ++ rest) (hW : 2 * g.monitorRoom + (rest.map fun v => v.category).sum ≤ W9) (hdg : decode c.code g.pc = .ok (.invokestatic index, 3))
    (hpre : ∀ vm₁, s.WarmedH vm₁ → Pre ⟨T.setVm vm₁, locs, cells, slots⟩ argsL.toArray) :
    (∃ (v : Option Value) (vm₁ : Vm) (B : Pt), s.WarmedH vm₁ ∧ Stand p l e R s m args below meth c B.U B.locs B.cells B.slots ∧ Post ⟨T.setVm vm₁, locs, cells, slots⟩ argsL.toArray v B ∧
      ∀ target, Steps p.tables e below (B.U.setTop { g with pc := g.pc + 3, stack := v.toList ++ rest }) target → Steps p.tables e below (T.setTop g) target) ∨
    (∃ (q : Addr) (vm₁ : Vm) (B : Pt), s.WarmedH vm₁ ∧ Stand p l e R s m args below meth c B.U B.locs B.cells B.slots ∧ PostX ⟨T.setVm vm₁, locs, cells, slots⟩ argsL.toArray q B ∧
      Steps p.tables e below (T.setTop g) ((B.U.setTop { g with stack := rest }).pushFrame (.throwing q))) := by
  obtain ⟨mk, hnamed⟩ := Cond.code_named hcode
  obtain ⟨methM, cM, hmethM, -, -, -, -, -, -, hsigM⟩ := Cond.code_spec hnamed hcode
  have hstatic : methM.isStatic = true := Cond.static_spec hnamed hmethM hstat
  obtain ⟨kP, hkP, -⟩ := className_of_methodNamed hnamed
  have hinitP : kP.init = .initialized := Cond.initialized_spec (findClass_of_methodNamed hnamed) hkP hinit
  obtain ⟨vm₁, X₁, hstep₁⟩ := X.invokestatic hexec hown hlink hnamed hmethM hstatic hkP hinitP hy (g := g) hg (argsL := argsL) (rest := rest) (hlen _ hsigM) hstack hdg
  rcases hK m meth c ⟨T.setVm vm₁, locs, cells, slots⟩ { g with stack := rest } (.invokestatic index) mk argsL.toArray X₁ hg hsize hdg hW (X₁.named hnamed) (hpre vm₁ X₁.warmed) with ⟨v, B, X', hpost, hsteps⟩ | ⟨q, B, X', hpost, hsteps⟩
  · exact Or.inl ⟨v, vm₁, B, X₁.warmed, X', hpost, fun target h => hstep₁ _ fun acts => by rw [doInvoke_state]; exact hsteps.trans h⟩
  · exact Or.inr ⟨q, vm₁, B, X₁.warmed, X', hpost, hstep₁ _ fun acts => by rw [doInvoke_state]; exact hsteps⟩
end Calls
theorem vx_cls {s : State} {T : State} {vm₁ : Vm} {E : String} {k : ClassId} (hW : s.WarmedH vm₁) (h : (T.setVm vm₁).vm.findClass E = some k) : s.vm.findClass E = some k := by
  have h1 : vm₁.findClass E = some k := h
  rw [hW.alike.findClass] at h1
  exact h1
/-- the method's frame g, with q thrown over it -/
def vx_W (p : Program) (l : Launch) (e : Env) (R : Room) (s : State) (m : MethodId) (args : Array Value) (below : List Frame) (meth : Method) (c : Code) (H : Heap) (locs : List Loc) (cells slots : Nat) (Q : State → Prop) (g : JFrame) (q : Addr) : Prop :=
  ∀ T : State, T.heap = H → Stand p l e R s m args below meth c T locs cells slots → ∃ t, Steps p.tables e below ((T.setTop g).pushFrame (.throwing q)) t ∧ Q t
def vx_Run (p : Program) (l : Launch) (e : Env) (R : Room) (s : State) (m : MethodId) (args : Array Value) (below : List Frame) (meth : Method) (c : Code) (H : Heap) (locs : List Loc) (cells slots mc ms : Nat) (g : JFrame) (rest : List Value) (Qa : State → Outcome → State → Prop) (XC : String → State → State → Prop) (free : Addr → Prop) : Prop :=
  ∀ T : State, T.heap = H → Stand p l e R s m args below meth c T locs cells slots →
    (∃ (v : Option Value) (st₀ t T' : State) (L : List Loc), st₀.heap = H ∧ Stand p l e R s m args below meth c T' (locs ++ L) (cells + mc) (slots + ms) ∧ (∀ q ∈ L, free q.base) ∧ T'.heap = t.heap ∧ T'.vm = t.vm ∧ Qa st₀ (.returned v) t ∧
      Goes p e below T g T' { g with pc := g.pc + 3, stack := v.toList ++ rest }) ∨
    (∃ (q : Addr) (st₀ t T' : State) (L : List Loc) (E : String) (ce : Cell), st₀.heap = H ∧ Stand p l e R s m args below meth c T' (locs ++ L) (cells + mc) (slots + ms) ∧ (∀ z ∈ L, free z.base) ∧ T'.heap = t.heap ∧ T'.vm = t.vm ∧ XC E st₀ t ∧ t.heap[q]? = some ce ∧ ce.vm = .none ∧ s.vm.findClass E = some ce.cls ∧
      Steps p.tables e below (T.setTop g) ((T'.setTop { g with stack := rest }).pushFrame (.throwing q)))
def vx_X {S : Type} (px : S → Prop) (B : String → S → State → Prop) (A : Nat → Prop) : String → State → State → Prop := fun E st t => ∃ u : S, px u ∧ B E u t ∧ va_F A st t
section Runs
variable {p : Program} {l : Launch} {e : Env} {R : Room} {s : State} {m : MethodId} {args : Array Value} {below : List Frame} {meth : Method} {c : Code} {H : Heap} {locs : List Loc} {cells slots : Nat}
variable {y : MethodName} {bytes cc : ByteArray} {maxL nL mc ms n index : Nat} {ret : Option FieldType} {ws : List Cond} {rm : Room} {Pc : Array Value → State → Prop} {Qc : Array Value → State → Outcome → State → Prop} {XC : String → State → State → Prop} {free : Addr → Prop} {Ts : List Cond} {own C : String} {b : Addr} {As rest : List Value} {g : JFrame}
theorem vx_callBack (cb : CallB R s args own index y bytes maxL ret ws rm mc ms n) (hM : vx_Met l y ws rm Pc Qc XC mc ms free) (hbl : FrameBlind Pc) : vx_Back l R p e below s args y 3 8 (PreOf R mc ms Pc) (PostOf Qc mc ms free) (vx_Post XC mc ms free) := by
  obtain ⟨hrc, hrs, hfr, hlo, hws, hcw, -, hini, -⟩ := cb
  exact vx_back (bytes := bytes) (maxL := maxL) (ret := ret) hM hbl hrc hrs hfr hlo hws hcw (fun a' U hW => word_at hW (Or.inl (by first | rfl | simp [Cond.onTables, Cond.keeps, Cond.steady])) hini)
theorem vx_runV (S : CallFix p m c cc nL s args Ts own) (hM : vx_Met l y ws rm Pc Qc XC mc ms free) (cw : CallW R s args own C index y bytes maxL ret ws rm mc ms n) (hp : PreV s H C b Pc As)
    (hg : g.method = m) (hn : As.length = n) (hsize : g.locals.size = nL) (hstack : g.stack = As.reverse ++ .ref b :: rest) (hW : 2 * g.monitorRoom + (rest.map fun v => v.category).sum ≤ 8) (hdg : decode cc g.pc = .ok (.invokevirtual index, 3)) (hf : cells + mc ≤ R.cells ∧ slots + ms ≤ R.slots) :
    vx_Run p l e R s m args below meth c H locs cells slots mc ms g rest (Qc (Value.ref b :: As).toArray) XC free := by
  have hK : vx_Back l R p e below s args y 3 8 (PreOf R mc ms Pc) (PostOf Qc mc ms free) (vx_Post XC mc ms free) := vx_callBack cw.1 hM hp.1
  obtain ⟨⟨-, -, -, -, -, -, hcode, -, hy, hlen, hl⟩, hin, hse⟩ := cw
  obtain ⟨hx, hb, hml, ho, -⟩ := S
  obtain ⟨-, ⟨cellB, hcB, hoB, hclB⟩, hPc⟩ := hp
  intro T hT X
  rcases vx_callV X hx (C := C) (bytes := bytes) (maxL := maxL) (ret := ret) ho hl hin hse hcode hy hK (by rw [hT]; exact hcB) hoB hclB hg (hsize.trans hml.symm) (argsL := As) (rest := rest) (fun sig h => hn.trans (hlen sig h)) hstack hW (by rw [hb]; exact hdg)
    (fun vm₁ hW₁ => ⟨hf.1, hf.2, hPc (T.setVm vm₁) hT hW₁⟩) with ⟨v, vm₁, ⟨U', l2, c2, s2⟩, hW₁, X', ⟨g', mk, t, L, e1, e2, hq, h1, hL, h2, h3⟩, st⟩ | ⟨q, vm₁, ⟨U', l2, c2, s2⟩, hW₁, X', ⟨g', mk, t, L, E, ce, e1, e2, hq, hce, hcv, hcl, h1, hL, h2, h3⟩, st⟩
  · dsimp only [Pt.U, Pt.locs, Pt.cells, Pt.slots] at X' e1 e2 h1 h2 h3 st
    subst h1; subst h2; subst h3
    exact Or.inl ⟨v, (T.setVm vm₁).calling g' mk (Value.ref b :: As).toArray, t, U', L, hT, X', hL, e1, e2, hq, st⟩
  · dsimp only [Pt.U, Pt.locs, Pt.cells, Pt.slots] at X' e1 e2 h1 h2 h3 st hcl
    subst h1; subst h2; subst h3
    exact Or.inr ⟨q, (T.setVm vm₁).calling g' mk (Value.ref b :: As).toArray, t, U', L, E, ce, hT, X', hL, e1, e2, hq, hce, hcv, vx_cls hW₁ hcl, st⟩
theorem vx_runS (S : CallFix p m c cc nL s args Ts own) (hM : vx_Met l y ws rm Pc Qc XC mc ms free) (cw : CallB R s args own index y bytes maxL ret ws rm mc ms n ∧ (Cond.static y).before args s = true) (hp : PreS s H Pc As)
    (hg : g.method = m) (hn : As.length = n) (hsize : g.locals.size = nL) (hstack : g.stack = As.reverse ++ rest) (hW : 2 * g.monitorRoom + (rest.map fun v => v.category).sum ≤ 8) (hdg : decode cc g.pc = .ok (.invokestatic index, 3)) (hf : cells + mc ≤ R.cells ∧ slots + ms ≤ R.slots) :
    vx_Run p l e R s m args below meth c H locs cells slots mc ms g rest (Qc As.toArray) XC free := by
  have hK : vx_Back l R p e below s args y 3 8 (PreOf R mc ms Pc) (PostOf Qc mc ms free) (vx_Post XC mc ms free) := vx_callBack cw.1 hM hp.1
  obtain ⟨⟨-, -, -, -, -, -, hcode, hini, hy, hlen, hl⟩, hstt⟩ := cw
  obtain ⟨hx, hb, hml, ho, -⟩ := S
  intro T hT X
  rcases vx_callS X hx (bytes := bytes) (maxL := maxL) (ret := ret) ho hl hstt hini hcode hy hK hg (hsize.trans hml.symm) (argsL := As) (rest := rest) (fun sig h => hn.trans (hlen sig h)) hstack hW (by rw [hb]; exact hdg)
    (fun vm₁ hW₁ => ⟨hf.1, hf.2, hp.2 (T.setVm vm₁) hT hW₁⟩) with ⟨v, vm₁, ⟨U', l2, c2, s2⟩, hW₁, X', ⟨g', mk, t, L, e1, e2, hq, h1, hL, h2, h3⟩, st⟩ | ⟨q, vm₁, ⟨U', l2, c2, s2⟩, hW₁, X', ⟨g', mk, t, L, E, ce, e1, e2, hq, hce, hcv, hcl, h1, hL, h2, h3⟩, st⟩
  · dsimp only [Pt.U, Pt.locs, Pt.cells, Pt.slots] at X' e1 e2 h1 h2 h3 st
    subst h1; subst h2; subst h3
    exact Or.inl ⟨v, (T.setVm vm₁).calling g' mk As.toArray, t, U', L, hT, X', hL, e1, e2, hq, st⟩
  · dsimp only [Pt.U, Pt.locs, Pt.cells, Pt.slots] at X' e1 e2 h1 h2 h3 st hcl
    subst h1; subst h2; subst h3
    exact Or.inr ⟨q, (T.setVm vm₁).calling g' mk As.toArray, t, U', L, E, ce, hT, X', hL, e1, e2, hq, hce, hcv, vx_cls hW₁ hcl, st⟩
end Runs
section Rows
variable {p : Program} {l : Launch} {e : Env} {R : Room} {s : State} {m : MethodId} {args : Array Value} {below : List Frame} {meth : Method} {c : Code} {H : Heap} {locs : List Loc} {cells slots : Nat} {Q : State → Prop}
variable {mc ms : Nat} {free : Addr → Prop} {A0 A1 : Nat → Prop} {H0 : Heap} {a : Array Value} {pc : Nat} {ls : Array Slot} {st0 rest : List Value}
theorem vx_keep {st₀ t T' : State} {L : List Loc} (h0 : st₀.heap = H) (e1 : T'.heap = t.heap) (hS : va_S A0 H0 H locs) (hA : ∀ q, q < H.size → A1 q → A0 q) (hf : ∀ q, free q → A0 q) (hL : ∀ q ∈ L, free q.base) (hF : va_F A1 st₀ t) :
    H.size ≤ T'.heap.size ∧ (∀ q : Nat, q < H.size → ¬ A1 q → T'.heap[q]? = H[q]?) ∧ va_S A0 H0 T'.heap (locs ++ L) := by
  obtain ⟨hz, hk⟩ := hF
  rw [h0] at hz hk
  exact ⟨by rw [e1]; exact hz, fun q h1 h2 => by rw [e1]; exact hk q h1 h2,
    ⟨Nat.le_trans hS.1 (by rw [e1]; exact hz), fun q h1 h2 => by rw [e1, hk q (Nat.lt_of_lt_of_le h1 hS.1) (fun z => h2 (hA q (Nat.lt_of_lt_of_le h1 hS.1) z))]; exact hS.2.1 q h1 h2, fun q hq => by
      rcases List.mem_append.mp hq with h | h
      · exact hS.2.2 q h
      · exact hf _ (hL q h)⟩⟩
theorem vx_calli {S SX : Type} {post : Int32 → S → Prop} {px : SX → Prop} {B : S → State → Prop} {BX : String → SX → State → Prop} {AX : Nat → Prop} (hr : vx_Run p l e R s m args below meth c H locs cells slots mc ms (F0 m pc ls st0) rest (va_Qi post B A1 a) (vx_X px BX AX) free) (hS : va_S A0 H0 H locs) (hA : ∀ q, q < H.size → A1 q → A0 q) (hf : ∀ q, free q → A0 q) (hAX : ∀ q, q < H.size → AX q → A0 q)
    (kx : ∀ (E : String) (ce : Cell) (q9 : Addr) (u : SX) (t : State) (H1 : Heap) (locs1 : List Loc), t.heap = H1 → s.vm.Alike t.vm → px u → BX E u t → H.size ≤ H1.size → (∀ q : Nat, q < H.size → ¬ AX q → H1[q]? = H[q]?) → va_S A0 H0 H1 locs1 → H1[q9]? = some ce → ce.vm = .none → s.vm.findClass E = some ce.cls → vx_W p l e R s m args below meth c H1 locs1 (cells + mc) (slots + ms) Q (F0 m pc ls rest) q9)
    (kk : ∀ (r : Int32) (u : S) (t : State) (H1 : Heap) (locs1 : List Loc), t.heap = H1 → s.vm.Alike t.vm → post r u → B u t → H.size ≤ H1.size → (∀ q : Nat, q < H.size → ¬ A1 q → H1[q]? = H[q]?) → va_S A0 H0 H1 locs1 → W p l e R s m args below meth c H1 locs1 (cells + mc) (slots + ms) Q (F0 m (pc + 3) ls (.int r :: rest))) : W p l e R s m args below meth c H locs cells slots Q (F0 m pc ls st0) := by
  intro T hT X
  rcases hr T hT X with ⟨v, st₀, t, T', L, h0, X', hL, e1, e2, ⟨⟨r, u, hv, hp, hb⟩, hF⟩, st⟩ | ⟨q, st₀, t, T', L, E, ce, h0, X', hL, e1, e2, ⟨u, hp, hb, hF⟩, hce, hcv, hcl, st⟩
  · cases hv
    obtain ⟨k1, k2, k3⟩ := vx_keep h0 e1 hS hA hf hL hF
    obtain ⟨t2, a1, b1⟩ := kk r u t T'.heap (locs ++ L) e1.symm (by rw [← e2]; exact X'.warmed.alike) hp hb k1 k2 k3 T' rfl X'
    exact ⟨t2, st t2 a1, b1⟩
  · obtain ⟨k1, k2, k3⟩ := vx_keep h0 e1 hS hAX hf hL hF
    obtain ⟨t2, a1, b1⟩ := kx E ce q u t T'.heap (locs ++ L) e1.symm (by rw [← e2]; exact X'.warmed.alike) hp hb k1 k2 k3 (by rw [e1]; exact hce) hcv hcl T' rfl X'
    exact ⟨t2, st.trans a1, b1⟩
theorem vx_calll {S SX : Type} {post : Int64 → S → Prop} {px : SX → Prop} {B : S → State → Prop} {BX : String → SX → State → Prop} {AX : Nat → Prop} (hr : vx_Run p l e R s m args below meth c H locs cells slots mc ms (F0 m pc ls st0) rest (va_Ql post B A1 a) (vx_X px BX AX) free) (hS : va_S A0 H0 H locs) (hA : ∀ q, q < H.size → A1 q → A0 q) (hf : ∀ q, free q → A0 q) (hAX : ∀ q, q < H.size → AX q → A0 q)
    (kx : ∀ (E : String) (ce : Cell) (q9 : Addr) (u : SX) (t : State) (H1 : Heap) (locs1 : List Loc), t.heap = H1 → s.vm.Alike t.vm → px u → BX E u t → H.size ≤ H1.size → (∀ q : Nat, q < H.size → ¬ AX q → H1[q]? = H[q]?) → va_S A0 H0 H1 locs1 → H1[q9]? = some ce → ce.vm = .none → s.vm.findClass E = some ce.cls → vx_W p l e R s m args below meth c H1 locs1 (cells + mc) (slots + ms) Q (F0 m pc ls rest) q9)
    (kk : ∀ (r : Int64) (u : S) (t : State) (H1 : Heap) (locs1 : List Loc), t.heap = H1 → s.vm.Alike t.vm → post r u → B u t → H.size ≤ H1.size → (∀ q : Nat, q < H.size → ¬ A1 q → H1[q]? = H[q]?) → va_S A0 H0 H1 locs1 → W p l e R s m args below meth c H1 locs1 (cells + mc) (slots + ms) Q (F0 m (pc + 3) ls (.long r :: rest))) : W p l e R s m args below meth c H locs cells slots Q (F0 m pc ls st0) := by
  intro T hT X
  rcases hr T hT X with ⟨v, st₀, t, T', L, h0, X', hL, e1, e2, ⟨⟨r, u, hv, hp, hb⟩, hF⟩, st⟩ | ⟨q, st₀, t, T', L, E, ce, h0, X', hL, e1, e2, ⟨u, hp, hb, hF⟩, hce, hcv, hcl, st⟩
  · cases hv
    obtain ⟨k1, k2, k3⟩ := vx_keep h0 e1 hS hA hf hL hF
    obtain ⟨t2, a1, b1⟩ := kk r u t T'.heap (locs ++ L) e1.symm (by rw [← e2]; exact X'.warmed.alike) hp hb k1 k2 k3 T' rfl X'
    exact ⟨t2, st t2 a1, b1⟩
  · obtain ⟨k1, k2, k3⟩ := vx_keep h0 e1 hS hAX hf hL hF
    obtain ⟨t2, a1, b1⟩ := kx E ce q u t T'.heap (locs ++ L) e1.symm (by rw [← e2]; exact X'.warmed.alike) hp hb k1 k2 k3 (by rw [e1]; exact hce) hcv hcl T' rfl X'
    exact ⟨t2, st.trans a1, b1⟩
theorem vx_callf {S SX : Type} {post : UInt32 → S → Prop} {px : SX → Prop} {B : S → State → Prop} {BX : String → SX → State → Prop} {AX : Nat → Prop} (hr : vx_Run p l e R s m args below meth c H locs cells slots mc ms (F0 m pc ls st0) rest (va_Qf post B A1 a) (vx_X px BX AX) free) (hS : va_S A0 H0 H locs) (hA : ∀ q, q < H.size → A1 q → A0 q) (hf : ∀ q, free q → A0 q) (hAX : ∀ q, q < H.size → AX q → A0 q)
    (kx : ∀ (E : String) (ce : Cell) (q9 : Addr) (u : SX) (t : State) (H1 : Heap) (locs1 : List Loc), t.heap = H1 → s.vm.Alike t.vm → px u → BX E u t → H.size ≤ H1.size → (∀ q : Nat, q < H.size → ¬ AX q → H1[q]? = H[q]?) → va_S A0 H0 H1 locs1 → H1[q9]? = some ce → ce.vm = .none → s.vm.findClass E = some ce.cls → vx_W p l e R s m args below meth c H1 locs1 (cells + mc) (slots + ms) Q (F0 m pc ls rest) q9)
    (kk : ∀ (r : UInt32) (u : S) (t : State) (H1 : Heap) (locs1 : List Loc), t.heap = H1 → s.vm.Alike t.vm → post r u → B u t → H.size ≤ H1.size → (∀ q : Nat, q < H.size → ¬ A1 q → H1[q]? = H[q]?) → va_S A0 H0 H1 locs1 → W p l e R s m args below meth c H1 locs1 (cells + mc) (slots + ms) Q (F0 m (pc + 3) ls (.float r :: rest))) : W p l e R s m args below meth c H locs cells slots Q (F0 m pc ls st0) := by
  intro T hT X
  rcases hr T hT X with ⟨v, st₀, t, T', L, h0, X', hL, e1, e2, ⟨⟨r, u, hv, hp, hb⟩, hF⟩, st⟩ | ⟨q, st₀, t, T', L, E, ce, h0, X', hL, e1, e2, ⟨u, hp, hb, hF⟩, hce, hcv, hcl, st⟩
  · cases hv
    obtain ⟨k1, k2, k3⟩ := vx_keep h0 e1 hS hA hf hL hF
    obtain ⟨t2, a1, b1⟩ := kk r u t T'.heap (locs ++ L) e1.symm (by rw [← e2]; exact X'.warmed.alike) hp hb k1 k2 k3 T' rfl X'
    exact ⟨t2, st t2 a1, b1⟩
  · obtain ⟨k1, k2, k3⟩ := vx_keep h0 e1 hS hAX hf hL hF
    obtain ⟨t2, a1, b1⟩ := kx E ce q u t T'.heap (locs ++ L) e1.symm (by rw [← e2]; exact X'.warmed.alike) hp hb k1 k2 k3 (by rw [e1]; exact hce) hcv hcl T' rfl X'
    exact ⟨t2, st.trans a1, b1⟩
theorem vx_calld {S SX : Type} {post : UInt64 → S → Prop} {px : SX → Prop} {B : S → State → Prop} {BX : String → SX → State → Prop} {AX : Nat → Prop} (hr : vx_Run p l e R s m args below meth c H locs cells slots mc ms (F0 m pc ls st0) rest (va_Qd post B A1 a) (vx_X px BX AX) free) (hS : va_S A0 H0 H locs) (hA : ∀ q, q < H.size → A1 q → A0 q) (hf : ∀ q, free q → A0 q) (hAX : ∀ q, q < H.size → AX q → A0 q)
    (kx : ∀ (E : String) (ce : Cell) (q9 : Addr) (u : SX) (t : State) (H1 : Heap) (locs1 : List Loc), t.heap = H1 → s.vm.Alike t.vm → px u → BX E u t → H.size ≤ H1.size → (∀ q : Nat, q < H.size → ¬ AX q → H1[q]? = H[q]?) → va_S A0 H0 H1 locs1 → H1[q9]? = some ce → ce.vm = .none → s.vm.findClass E = some ce.cls → vx_W p l e R s m args below meth c H1 locs1 (cells + mc) (slots + ms) Q (F0 m pc ls rest) q9)
    (kk : ∀ (r : UInt64) (u : S) (t : State) (H1 : Heap) (locs1 : List Loc), t.heap = H1 → s.vm.Alike t.vm → post r u → B u t → H.size ≤ H1.size → (∀ q : Nat, q < H.size → ¬ A1 q → H1[q]? = H[q]?) → va_S A0 H0 H1 locs1 → W p l e R s m args below meth c H1 locs1 (cells + mc) (slots + ms) Q (F0 m (pc + 3) ls (.double r :: rest))) : W p l e R s m args below meth c H locs cells slots Q (F0 m pc ls st0) := by
  intro T hT X
  rcases hr T hT X with ⟨v, st₀, t, T', L, h0, X', hL, e1, e2, ⟨⟨r, u, hv, hp, hb⟩, hF⟩, st⟩ | ⟨q, st₀, t, T', L, E, ce, h0, X', hL, e1, e2, ⟨u, hp, hb, hF⟩, hce, hcv, hcl, st⟩
  · cases hv
    obtain ⟨k1, k2, k3⟩ := vx_keep h0 e1 hS hA hf hL hF
    obtain ⟨t2, a1, b1⟩ := kk r u t T'.heap (locs ++ L) e1.symm (by rw [← e2]; exact X'.warmed.alike) hp hb k1 k2 k3 T' rfl X'
    exact ⟨t2, st t2 a1, b1⟩
  · obtain ⟨k1, k2, k3⟩ := vx_keep h0 e1 hS hAX hf hL hF
    obtain ⟨t2, a1, b1⟩ := kx E ce q u t T'.heap (locs ++ L) e1.symm (by rw [← e2]; exact X'.warmed.alike) hp hb k1 k2 k3 (by rw [e1]; exact hce) hcv hcl T' rfl X'
    exact ⟨t2, st.trans a1, b1⟩
theorem vx_callv {S SX : Type} {post : S → Prop} {px : SX → Prop} {B : S → State → Prop} {BX : String → SX → State → Prop} {AX : Nat → Prop} (hr : vx_Run p l e R s m args below meth c H locs cells slots mc ms (F0 m pc ls st0) rest (va_Qv post B A1 a) (vx_X px BX AX) free) (hS : va_S A0 H0 H locs) (hA : ∀ q, q < H.size → A1 q → A0 q) (hf : ∀ q, free q → A0 q) (hAX : ∀ q, q < H.size → AX q → A0 q)
    (kx : ∀ (E : String) (ce : Cell) (q9 : Addr) (u : SX) (t : State) (H1 : Heap) (locs1 : List Loc), t.heap = H1 → s.vm.Alike t.vm → px u → BX E u t → H.size ≤ H1.size → (∀ q : Nat, q < H.size → ¬ AX q → H1[q]? = H[q]?) → va_S A0 H0 H1 locs1 → H1[q9]? = some ce → ce.vm = .none → s.vm.findClass E = some ce.cls → vx_W p l e R s m args below meth c H1 locs1 (cells + mc) (slots + ms) Q (F0 m pc ls rest) q9)
    (kk : ∀ (u : S) (t : State) (H1 : Heap) (locs1 : List Loc), t.heap = H1 → s.vm.Alike t.vm → post u → B u t → H.size ≤ H1.size → (∀ q : Nat, q < H.size → ¬ A1 q → H1[q]? = H[q]?) → va_S A0 H0 H1 locs1 → W p l e R s m args below meth c H1 locs1 (cells + mc) (slots + ms) Q (F0 m (pc + 3) ls (rest))) : W p l e R s m args below meth c H locs cells slots Q (F0 m pc ls st0) := by
  intro T hT X
  rcases hr T hT X with ⟨v, st₀, t, T', L, h0, X', hL, e1, e2, ⟨⟨u, hv, hp, hb⟩, hF⟩, st⟩ | ⟨q, st₀, t, T', L, E, ce, h0, X', hL, e1, e2, ⟨u, hp, hb, hF⟩, hce, hcv, hcl, st⟩
  · cases hv
    obtain ⟨k1, k2, k3⟩ := vx_keep h0 e1 hS hA hf hL hF
    obtain ⟨t2, a1, b1⟩ := kk u t T'.heap (locs ++ L) e1.symm (by rw [← e2]; exact X'.warmed.alike) hp hb k1 k2 k3 T' rfl X'
    exact ⟨t2, st t2 a1, b1⟩
  · obtain ⟨k1, k2, k3⟩ := vx_keep h0 e1 hS hAX hf hL hF
    obtain ⟨t2, a1, b1⟩ := kx E ce q u t T'.heap (locs ++ L) e1.symm (by rw [← e2]; exact X'.warmed.alike) hp hb k1 k2 k3 (by rw [e1]; exact hce) hcv hcl T' rfl X'
    exact ⟨t2, st.trans a1, b1⟩
/-- caught by the row x of this method's table; the rows ahead don't take it -/
theorem vx_catch {own name : String} {E : String} {ce : Cell} {q : Addr} (hown : s.vm.findClass own = some m.cls) (pre : List ExceptionTableEntry) (x : ExceptionTableEntry) (suf : List ExceptionTableEntry) (hsplit : c.exceptionTable.toList = pre ++ x :: suf)
    (hpass : ∀ z ∈ pre, covers z pc = false ∨ (z.catchType ≠ 0 ∧ ∃ nm : String, (Cond.classLink own z.catchType nm).before args s = true ∧ va_Nc E nm s)) (hx : covers x pc = true) (h0 : x.catchType ≠ 0)
    (hlink : (Cond.classLink own x.catchType name).before args s = true) (hcast : (Cond.castable E name).before args s = true) (hcell : H[q]? = some ce) (hv : ce.vm = .none) (hcl : s.vm.findClass E = some ce.cls)
    (kk : W p l e R s m args below meth c H locs cells slots Q (F0 m x.handlerPc ls [.ref q])) : vx_W p l e R s m args below meth c H locs cells slots Q (F0 m pc ls rest) q := by
  intro T hT X
  have hpl : e.platform.magicAccessors = ({} : Platform).magicAccessors := by rw [X.admits.platform]
  obtain ⟨c3, c4, hc3, hc4, hasg⟩ := Cond.castable_spec hcast
  cases Option.some.inj (hc3.symm.trans hcl)
  obtain ⟨c5, hc5, hcl5⟩ := Cond.classLink_spec hown hlink e.platform hpl
  cases Option.some.inj (hc4.symm.trans hc5)
  obtain ⟨vm', X', st⟩ := X.thenCaughtThrough q (g := F0 m pc ls rest) rfl (Steps.refl _) (by rw [hT]; exact hcell) (by rw [hv]; rfl) (by obtain ⟨k9, h9, -⟩ := Vm.findClass_spec hcl; exact ⟨k9, h9⟩) pre x suf hsplit
    (fun z hz => by
      rcases hpass z hz with h | ⟨hz0, nm, hl1, hn1⟩
      · exact Or.inl h
      · obtain ⟨c6, hc6, hcl6⟩ := Cond.classLink_spec hown hl1 e.platform hpl
        obtain ⟨a8, b8, h1, h2, h3⟩ := hn1
        cases Option.some.inj (h1.symm.trans hcl)
        cases Option.some.inj (h2.symm.trans hc6)
        exact Or.inr ⟨hz0, _, hcl6, h3⟩) hx (Or.inr ⟨h0, c4, hcl5, hasg⟩)
  obtain ⟨t, a1, b1⟩ := kk (T.setVm vm') hT X'
  exact ⟨t, st.trans a1, b1⟩
end Rows
section Ends
variable {p : Program} {l : Launch} {e : Env} {R : Room} {s : State} {m : MethodId} {args : Array Value} {below : List Frame} {meth : Method} {c : Code} {H : Heap} {locs : List Loc} {cells slots : Nat} {Q : State → Prop}
variable {mc ms : Nat} {free : Addr → Prop} {A0 A1 : Nat → Prop} {H0 : Heap} {a : Array Value} {ls : Array Slot} {st0 rest : List Value}
variable {Qc : Array Value → State → Outcome → State → Prop} {XC : String → State → State → Prop}
/-- what a body that may throw owes at its end -/
def vx_MQ (below : List Frame) (Qc : Array Value → State → Outcome → State → Prop) (XC : String → State → State → Prop) (a : Array Value) (s : State) (mc ms : Nat) (free : Addr → Prop) : State → Prop := fun t =>
  ∃ o, t.status = .running ∧ Ended t below o ∧ vx_Q Qc XC mc ms free a s o t
theorem vx_ret {g : JFrame} {mc ms : Nat} (k : W p l e R s m args below meth c H locs cells slots (MQ below Qc args s mc ms free) g) : W p l e R s m args below meth c H locs cells slots (vx_MQ below Qc XC args s mc ms free) g := by
  intro T hT X
  obtain ⟨t, a1, o, b1, b2, b3, b4⟩ := k T hT X
  exact ⟨t, a1, o, b1, b2, Or.inl ⟨b3, b4⟩⟩
/-- not caught here: it goes on to the caller -/
theorem vx_widen {g : JFrame} {q : Addr} {k n : Nat} (h1 : cells ≤ k) (h2 : slots ≤ n) (kk : vx_W p l e R s m args below meth c H locs k n Q g q) : vx_W p l e R s m args below meth c H locs cells slots Q g q := fun T hT X => kk T hT (stand_widen X h1 h2)
theorem vx_out {pc : Nat} {E : String} {ce : Cell} {q : Addr} {mc ms : Nat} (hout : ∀ x ∈ c.exceptionTable.toList, covers x pc = false) (hlocks : meth.locks = false) (hcell : H[q]? = some ce) (hv : ce.vm = .none) (hcl : s.vm.findClass E = some ce.cls)
    (hx : ∀ t : State, t.heap = H → s.vm.Alike t.vm → XC E s t) (hf : ∀ z ∈ locs, free z.base) (hc : cells ≤ mc) (hs : slots ≤ ms) :
    vx_W p l e R s m args below meth c H locs cells slots (vx_MQ below Qc XC args s mc ms free) (F0 m pc ls rest) q := by
  intro T hT X
  obtain ⟨st1, hrun, hend, hW, hsm⟩ := X.leaveThrown q (g := F0 m pc ls rest) rfl rfl rfl hout hlocks
  have hcell9 : (T.setFrames (.throwing q :: below)).heap[q]? = some ce := by
    show T.heap[q]? = some ce
    rw [hT]; exact hcell
  exact ⟨_, st1, .threw q, hrun, hend, Or.inr ⟨q, rfl, E, ce, locs, hx _ hT hW.alike, hcell9, hv, hcl, hW, hsm.mono hc hs, hf⟩⟩
theorem vx_frame {U : State} {k n : Nat} (h : s.sameButNew ({ U with vm := s.vm } : State) locs k n) : s.heap.size ≤ U.heap.size ∧ ∀ q : Nat, q < s.heap.size → (∀ z ∈ locs, z.base ≠ q) → U.heap[q]? = s.heap[q]? := by
  obtain ⟨-, h2, -, -, -, h6⟩ := h
  refine ⟨h2, fun q hq hz => ?_⟩
  obtain ⟨c9, e1, e2, e3, e4⟩ := h6 q _ (Array.getElem?_eq_getElem hq)
  have hs : c9.slots = (s.heap[q]).slots := Array.ext_getElem? fun i => e4 i fun hm => hz _ hm rfl
  have h9 : c9 = s.heap[q] := by
    rw [hs] at e2
    exact e2
  have e5 : U.heap[q]? = some c9 := e1
  rw [e5, h9, Array.getElem?_eq_getElem hq]
/-- the words of a throw but the four that speak of the heap -/
def vx_no (w : Cond) : Bool := decide (w ≠ .isRef (.static Bundle.tN "UNASSIGNED_STACK" Bundle.steD)) && decide (w ≠ .isRef (.static Bundle.tN "SUPPRESSED_SENTINEL" Bundle.listD)) && decide (w ≠ .laysStatic Bundle.tN "UNASSIGNED_STACK" Bundle.steD) && decide (w ≠ .laysStatic Bundle.tN "SUPPRESSED_SENTINEL" Bundle.listD)
def vx_at0 (own : String) (ic : Nat) (X : String) (names : List String) : List Cond := (Bundle.ownAtoms0 own ic X names).filter vx_no
def vx_atS (own : String) (ic : Nat) (X : String) (names : List String) : List Cond := (Bundle.ownAtoms own ic X names).filter vx_no
/-- a word that the tables alone decide, or a good one -/
def vx_ot (w : Cond) : Bool := w.onTables || goodWord w
theorem vx_ot_at {args a' : Array Value} {s U : State} {w : Cond} (hW : s.WarmedH U.vm) (hvm : s.vm = U.vm) (hg : vx_ot w = true) (h : w.before args s = true) : w.before a' U = true := by
  simp only [vx_ot, Bool.or_eq_true] at hg
  rcases hg with hg | hg
  · exact va_tabs hg hvm h
  · exact word_at hW (good_of_word hg) h
/-- a list's words: the good ones out of the method's own list, the others by premises of their own -/
theorem vx_hat {args : Array Value} {s : State} {L B : List Cond} (h1 : ∀ w ∈ L.filter goodWord, w.before args s = true) (h2 : ∀ w ∈ L.filter (fun w => !goodWord w), w ∈ B) (h3 : ∀ w ∈ B, w.before args s = true) : ∀ w ∈ L, w.before args s = true := by
  intro w hw
  by_cases g : goodWord w = true
  · exact h1 w (List.mem_filter.mpr ⟨hw, g⟩)
  · refine h3 w (h2 w (List.mem_filter.mpr ⟨hw, ?_⟩))
    show (!goodWord w) = true
    cases hgw : goodWord w
    · rfl
    · exact absurd hgw g
theorem vx_c {args : Array Value} {s : State} {w : Cond} {B : List Cond} (h : w.before args s = true) (t : ∀ w ∈ B, w.before args s = true) : ∀ w' ∈ w :: B, w'.before args s = true := fun w' h' => (List.mem_cons.mp h').elim (fun e => by rw [e]; exact h) (t w')
theorem vx_n {args : Array Value} {s : State} : ∀ w ∈ ([] : List Cond), w.before args s = true := fun _ h => nomatch h
theorem vx_own {args : Array Value} {s : State} {L : List Cond} (h1 : ∀ w ∈ L.filter vx_no, w.before args s = true)
    (hU : (Cond.isRef (.static Bundle.tN "UNASSIGNED_STACK" Bundle.steD)).before args s = true) (hN : (Cond.isRef (.static Bundle.tN "SUPPRESSED_SENTINEL" Bundle.listD)).before args s = true)
    (lU : (Cond.laysStatic Bundle.tN "UNASSIGNED_STACK" Bundle.steD).before args s = true) (lN : (Cond.laysStatic Bundle.tN "SUPPRESSED_SENTINEL" Bundle.listD).before args s = true) : ∀ w ∈ L, w.before args s = true := by
  intro w hw
  by_cases e1 : w = .isRef (.static Bundle.tN "UNASSIGNED_STACK" Bundle.steD)
  · rw [e1]; exact hU
  · by_cases e2 : w = .isRef (.static Bundle.tN "SUPPRESSED_SENTINEL" Bundle.listD)
    · rw [e2]; exact hN
    · by_cases e3 : w = .laysStatic Bundle.tN "UNASSIGNED_STACK" Bundle.steD
      · rw [e3]; exact lU
      · by_cases e4 : w = .laysStatic Bundle.tN "SUPPRESSED_SENTINEL" Bundle.listD
        · rw [e4]; exact lN
        · exact h1 w (List.mem_filter.mpr ⟨hw, by unfold vx_no; rw [decide_eq_true e1, decide_eq_true e2, decide_eq_true e3, decide_eq_true e4]; rfl⟩)
/-- where a static field lies, its class's statics cell in H -/
def vx_L (C n d : String) (A : Nat → Prop) (U : State) (H : Heap) : Prop := ∃ (c : ClassId) (k : Class) (i : Nat) (f : Field) (a : Nat) (cell : Cell), U.vm.findClass C = some c ∧ U.fieldFound? C n d = some (c, k, i, f) ∧ f.isStatic = true ∧ k.statics = some a ∧ H[a]? = some cell ∧ cell.vm.isStatics = true ∧ cell.cls = c ∧ f.slot < cell.slots.size ∧ k.staticTypes[f.slot]? = some f.type ∧ ¬ A a
theorem vx_L.moved {C n d : String} {A : Nat → Prop} {u U : State} {H : Heap} (hvm : u.vm.Alike U.vm) (h : vx_L C n d A u H) : vx_L C n d A U H := by
  obtain ⟨c, k, i, f, a, cell, h1, h2, h3, h4, h5, h6, h7, h8, h9, h10⟩ := h
  obtain ⟨k', hi', he⟩ := State.fieldFound?_setVm hvm h2
  exact ⟨c, k', i, f, a, cell, by rw [hvm.findClass]; exact h1, hi', h3, by rw [he]; exact h4, h5, h6, h7, h8, by rw [he]; exact h9, h10⟩
theorem vx_L.kept {C n d : String} {A : Nat → Prop} {U : State} {H H1 : Heap} (h : vx_L C n d A U H) (hq : ∀ a : Nat, a < H.size → ¬ A a → H1[a]? = H[a]?) : vx_L C n d A U H1 := by
  obtain ⟨c, k, i, f, a, cell, h1, h2, h3, h4, h5, h6, h7, h8, h9, h10⟩ := h
  exact ⟨c, k, i, f, a, cell, h1, h2, h3, h4, by rw [hq a (Array.getElem?_eq_some_iff.mp h5).1 h10]; exact h5, h6, h7, h8, h9, h10⟩
theorem vx_L.narrow {C n d : String} {A B : Nat → Prop} {U : State} {H : Heap} (h : vx_L C n d A U H) (hAB : ∀ q, B q → A q) : vx_L C n d B U H := by
  obtain ⟨c, k, i, f, a, cell, h1, h2, h3, h4, h5, h6, h7, h8, h9, h10⟩ := h
  exact ⟨c, k, i, f, a, cell, h1, h2, h3, h4, h5, h6, h7, h8, h9, fun z => h10 (hAB _ z)⟩
theorem vx_L.word {C n d : String} {A : Nat → Prop} {s : State} {args : Array Value} (h : vx_L C n d A s s.heap) : (Cond.laysStatic C n d).before args s = true := by
  obtain ⟨c, k, i, f, a, cell, h1, h2, h3, h4, h5, h6, h7, h8, h9, -⟩ := h
  show (Cond.laysStatic C n d).holds args s none s [] = true
  exact Cond.laysStatic_of h1 h2 h3 h4 h5 h6 h7 h8 h9
/-- .. and what it holds: null or some reference -/
def vx_Zq (C n d : String) (A : Nat → Prop) (U : State) (H : Heap) : Prop := va_Zq C n d A U H ∧ vx_L C n d A U H
theorem vx_Zq.moved {C n d : String} {A : Nat → Prop} {u U : State} {H : Heap} (hvm : u.vm.Alike U.vm) (h : vx_Zq C n d A u H) : vx_Zq C n d A U H := ⟨va_Zq.moved hvm h.1, vx_L.moved hvm h.2⟩
theorem vx_Zq.kept {C n d : String} {A : Nat → Prop} {U : State} {H H1 : Heap} (h : vx_Zq C n d A U H) (hq : ∀ a : Nat, a < H.size → ¬ A a → H1[a]? = H[a]?) : vx_Zq C n d A U H1 := ⟨va_Zq.kept h.1 hq, vx_L.kept h.2 hq⟩
theorem vx_Zq.narrow {C n d : String} {A B : Nat → Prop} {U : State} {H : Heap} (h : vx_Zq C n d A U H) (hAB : ∀ q, B q → A q) : vx_Zq C n d B U H := ⟨va_Zq.narrow h.1 hAB, vx_L.narrow h.2 hAB⟩
theorem vx_Zqof {args : Array Value} {s : State} {C n d : String} {A : Nat → Prop} (hl : (Cond.laysStatic C n d).before args s = true) (hini : (Cond.initialized C).before args s = true) (h : (Cond.isRef (.static C n d)).before args s = true) (hA : ∀ a : Nat, a < s.heap.size → ¬ A a) : vx_Zq C n d A s s.heap := by
  refine ⟨va_Zqof hl hini h hA, ?_⟩
  obtain ⟨c, k, i, f, a, cell, h1, h2, h3, h4, h5, h6, h7, h8, h9⟩ := Cond.laysStatic_spec hl
  exact ⟨c, k, i, f, a, cell, h1, h2, h3, h4, h5, h6, h7, h8, h9, hA a (Array.getElem?_eq_some_iff.mp h5).1⟩
theorem vx_isRef {C n d : String} {v : Value} {A : Nat → Prop} {s : State} {args : Array Value} (h : va_Z C n d v A s s.heap) (hv : v.isRef = true) : (Cond.isRef (.static C n d)).before args s = true := by
  obtain ⟨cf, kf, fi, f, a, cell, h1, h2, h3, h4, h5, h6, h7, -⟩ := h
  have he : (Term.static C n d).eval args s none [] s = some v := by
    simp [Term.eval, State.fieldNamed?, h1, h2, h4, h5, h6, h7]
  simp only [Cond.before, Cond.holds, Cond.value, he]
  cases v <;> simp_all [Value.isRef]
theorem vx_isRefq {C n d : String} {A : Nat → Prop} {s : State} {args : Array Value} (h : va_Zq C n d A s s.heap) : (Cond.isRef (.static C n d)).before args s = true := by
  rcases h with h | ⟨t, h⟩
  · exact vx_isRef h rfl
  · exact vx_isRef h rfl
/-- the same frame, seen from here: as if the method were called anew in this heap -/
theorem vx_rebase {T : State} (X : Stand p l e R s m args below meth c T locs cells slots) {R' : Room} (hf : R'.frames ≤ R.frames) (hl : R'.locals ≤ R.locals) (hc : cells + R'.cells ≤ R.cells) (hs : slots + R'.slots ≤ R.slots) :
    Stand p l e R' ((T.setVm s.vm).setFrames (.invoking m args :: below)) m args below meth c T [] 0 0 := by
  have htop : (T.setVm s.vm).topJava?.isSome := X.here.top
  have hF : ((T.setVm s.vm).setFrames (.invoking m args :: below)).frames = .invoking m args :: below := State.frames_setFrames _ (State.cur_lt_of_top htop)
  obtain ⟨g₀, hg0⟩ := Option.isSome_iff_exists.mp htop
  obtain ⟨r, hr⟩ := State.topJava?_eq_some.mp hg0
  have hl9 : e.platform.stackLimits (T.setVm s.vm).me = e.platform.stackLimits s.me := X.limits
  have hb9 : (T.setVm s.vm).me.stackBytes = s.me.stackBytes := X.bytes
  refine ⟨X.admits, X.cas, X.clock, hF, ?_, X.hears, X.method, X.code, X.here, X.tail, X.warmed, ?_, ?_, ?_⟩
  · have h := X.room
    have hU : ((T.setVm s.vm).setFrames (.invoking m args :: below)).localsInUse = s.localsInUse := by
      rw [State.localsInUse_invoking hF (meth := meth) (c := c) X.method X.code, State.localsInUse_invoking X.frames X.method X.code]
    simp only [State.hasRoom, Bool.and_eq_true, decide_eq_true_eq] at h ⊢
    obtain ⟨⟨⟨⟨h1, h2, h3, h4, h5, h6⟩, h7⟩, h8⟩, h9⟩ := h
    rw [X.frames, List.length_cons] at h2 h3
    have q1 := X.heapSize
    have q2 := X.used
    simp only [hF, hU, List.length_cons, State.stackLimits_setFrames, State.stackBytes_setFrames, hl9, hb9]
    refine ⟨⟨⟨⟨by omega, by omega, by omega, by omega, by omega, h6⟩, ?_⟩, ?_⟩, X.book⟩
    · show T.heap.size + R'.cells ≤ e.platform.maxCells
      omega
    · show T.slotsUsed + R'.slots ≤ e.platform.maxSlots
      omega
  · rw [State.stackLimits_setFrames]; rfl
  · rw [State.stackBytes_setFrames]; rfl
  · refine ⟨?_, Nat.le_refl _, Nat.le_refl _, ?_, ?_, fun a c9 h9 => ⟨c9, h9, rfl, rfl, fun _ _ => rfl⟩⟩
    · obtain ⟨t, ht, -⟩ := State.frames_cons hr
      show T.setVm s.vm = { ((T.setVm s.vm).setFrames (.invoking m args :: below)).setFrames (T.setVm s.vm).frames with heap := T.heap, slotsUsed := T.slotsUsed }
      rw [State.setFrames_setFrames, State.setFrames_self ht]
      rfl
    · show T.slotsUsed = T.slotsUsed + ((T.heap.toList.drop T.heap.size).map (·.slots.size)).sum
      rw [List.drop_eq_nil_of_le (Nat.le_of_eq Array.length_toList)]
      rfl
    · show ((T.heap.toList.drop T.heap.size).map (·.slots.size)).sum ≤ 0
      rw [List.drop_eq_nil_of_le (Nat.le_of_eq Array.length_toList)]
      exact Nat.le_refl _
/-- 'throw new E()': new; dup; invokespecial; athrow -/
theorem vx_throw0 {cc : ByteArray} {pc : Nat} (hexec : p.tables.exec = Jvm.exec) (hb : c.code = cc) (hl : l.stackTraces = false) {own cls : String} {names : List String} {ik ic mc ms : Nat} {A : Nat → Prop}
    (hown : s.vm.findClass own = some m.cls) (hcls : Bundle.fit cls = true) (hnames : ∀ n ∈ names, Bundle.fit n = true)
    (hk : (Cond.classLink own ik cls).before args s = true) (hini : (Cond.initialized cls).before args s = true) (hat : ∀ w ∈ vx_at0 own ic cls names, w.before args s = true)
    (hgood : ∀ w ∈ Cond.classLink own ik cls :: Cond.initialized cls :: vx_at0 own ic cls names, vx_ot w = true)
    (hU : vx_Zq Bundle.tN "UNASSIGNED_STACK" Bundle.steD A s s.heap) (hN : vx_Zq Bundle.tN "SUPPRESSED_SENTINEL" Bundle.listD A s s.heap) (hS : va_S A s.heap H locs) (hsize : ls.size = c.maxLocals)
    (d0 : decode cc pc = .ok (.new ik, 3)) (d3 : decode cc (pc + 3) = .ok (.dup, 1)) (d4 : decode cc (pc + 4) = .ok (.invokespecial ic, 3)) (d7 : decode cc (pc + 7) = .ok (.athrow, 1))
    (hout : ∀ x ∈ c.exceptionTable.toList, covers x (pc + 7) = false)
    (hRframes : names.length + 3 < R.frames) (hRlocals : (rest.map fun v => v.category).sum + (13 * (names.length + 1) + 42) ≤ R.locals) (hRcells : cells + 1 ≤ R.cells) (hRslots : slots + 6 ≤ R.slots) (hlocks : meth.locks = false)
    (hx : ∀ t : State, s.vm.Alike t.vm → H.size ≤ t.heap.size → (∀ q : Nat, q < H.size → t.heap[q]? = H[q]?) → XC cls s t)
    (hf : ∀ z ∈ locs, free z.base) (hc : cells + 1 ≤ mc) (hs : slots + 6 ≤ ms) :
    W p l e R s m args below meth c H locs cells slots (vx_MQ below Qc XC args s mc ms free) (F0 m pc ls rest) := by
  intro T hT X
  have htr : e.platform.stackTraces = false := (show e.platform.stackTraces = l.stackTraces by rw [X.admits.platform]).trans hl
  have Y := vx_rebase X (R' := { frames := R.frames, locals := R.locals, cells := 1, slots := 6 }) (Nat.le_refl _) (Nat.le_refl _) hRcells hRslots
  obtain ⟨s', hA⟩ : ∃ z, z = (T.setVm s.vm).setFrames (.invoking m args :: below) := ⟨_, rfl⟩
  rw [← hA] at Y
  have hvm : s'.vm = s.vm := by rw [hA]; rfl
  have hhp : s'.heap = H := by rw [hA]; exact hT
  have hW0 : s.WarmedH s'.vm := by rw [hvm]; exact State.WarmedH.refl s
  have hat' : ∀ w ∈ vx_at0 own ic cls names, w.before args s' = true := fun w hw => vx_ot_at hW0 hvm.symm (hgood w (List.mem_cons_of_mem _ (List.mem_cons_of_mem _ hw))) (hat w hw)
  have hk' : (Cond.classLink own ik cls).before args s' = true := vx_ot_at hW0 hvm.symm (hgood _ List.mem_cons_self) hk
  have hini' : (Cond.initialized cls).before args s' = true := vx_ot_at hW0 hvm.symm (hgood _ (List.mem_cons_of_mem _ List.mem_cons_self)) hini
  have hU' : vx_Zq Bundle.tN "UNASSIGNED_STACK" Bundle.steD A s' s'.heap := by rw [hhp]; exact vx_Zq.moved hW0.alike (hU.kept hS.2.1)
  have hN' : vx_Zq Bundle.tN "SUPPRESSED_SENTINEL" Bundle.listD A s' s'.heap := by rw [hhp]; exact vx_Zq.moved hW0.alike (hN.kept hS.2.1)
  have h : ∀ w ∈ Bundle.ownAtoms0 own ic cls names, w.before args s' = true := vx_own hat' (vx_isRefq hU'.1) (vx_isRefq hN'.1) hU'.2.word hN'.2.word
  have hown' : s'.vm.findClass own = some m.cls := by rw [hvm]; exact hown
  have hins : (Cond.instantiable cls 6).before args s' = true := h _ (by simp [Bundle.ownAtoms0])
  obtain ⟨vm₁, cX, kX, hfX, hkX, -, -, X₁, st1⟩ := Y.newCold hexec (own := own) (C := cls) (index := ik) (n := 6) hown' hk' hins hini'
    (g := F0 m pc ls rest) rfl (by rw [hb]; exact d0) (Nat.le_refl _) (Nat.le_refl _)
  generalize hT1 : (T.setVm vm₁).pushCell { cls := cX, slots := kX.instanceTypes.map defaultValue, vm := .none } = T1 at X₁ st1
  have hcat : (Value.ref T.heap.size).category = 1 := rfl
  have hcellA : T1.heap[T.heap.size]? = some (freshCell cX kX) := by rw [← hT1]; exact State.heap_pushCell_size _ _
  have d3' : decode c.code (pc + 3) = .ok (.dup, 1) := by rw [hb]; exact d3
  obtain ⟨U, hsteps, hrun, hend, hW, hsame, ce, hce, hO⟩ := X₁.ctorThrow0 hexec htr (own := own) (cls := cls) (names := names) (ic := ic) hown' hcls hnames h (fun x hx => nomatch hx) hfX hkX hcellA (by rw [hhp, hT]; exact Nat.le_refl _)
    (g := { method := m, pc := pc + 4, locals := ls, stack := .ref T.heap.size :: .ref T.heap.size :: rest, locked := none }) rfl hsize rfl rfl (rest := rest) rfl
    (by rw [hb]; exact d4) (by rw [hb]; exact d7) hout hRframes (by simp only [List.map_cons, List.sum_cons, hcat]; omega) hlocks
  obtain ⟨f1, f2⟩ := vx_frame hsame
  rw [hhp] at f1 f2
  have hWs : s.WarmedH U.vm := State.WarmedH.trans hW0 hW
  have hcl : s.vm.findClass cls = some ce.cls := by
    have h9 := hO.cls
    rw [hvm] at h9
    exact h9
  have hall : s.sameButNew ({ U with vm := s.vm } : State) locs mc ms := by
    subst hA
    obtain ⟨e1, e2⟩ := hsame
    rw [State.setFrames_setFrames] at e1
    have h2 : (T.setVm s.vm).sameButNew ({ U with vm := s.vm } : State) [] (0 + 1) (0 + 6) := ⟨e1, e2⟩
    have h3 := X.same.trans h2
    rw [List.append_nil] at h3
    exact h3.mono hc hs
  refine ⟨U, ?_, .threw T.heap.size, hrun, hend, Or.inr ⟨T.heap.size, rfl, cls, ce, locs, hx U hWs.alike f1 (fun q hq => f2 q hq (fun z hz => nomatch hz)), hce, hO.vm, hcl, hWs, hall, hf⟩⟩
  refine st1 _ ?_
  show Steps p.tables e below (T1.setTop { method := m, pc := pc + 3, locals := ls, stack := .ref T.heap.size :: rest, locked := none }) _
  jvm_step X₁.here [X₁.here.top, hexec, d3', Value.category]
  exact hsteps
/-- 'throw new E("text")': new; dup; ldc; invokespecial; athrow -/
theorem vx_throwS {cc : ByteArray} {pc : Nat} (hexec : p.tables.exec = Jvm.exec) (hb : c.code = cc) (hl : l.stackTraces = false) {own cls text : String} {names : List String} {ik is ic mc ms sa : Nat} {A : Nat → Prop}
    (hown : s.vm.findClass own = some m.cls) (hcls : Bundle.fit cls = true) (hnames : ∀ n ∈ names, Bundle.fit n = true)
    (hk : (Cond.classLink own ik cls).before args s = true) (hini : (Cond.initialized cls).before args s = true) (hstr : vk_R own is text sa s) (hat : ∀ w ∈ vx_atS own ic cls names, w.before args s = true)
    (hgood : ∀ w ∈ Cond.classLink own ik cls :: Cond.initialized cls :: vx_atS own ic cls names, vx_ot w = true)
    (hU : vx_Zq Bundle.tN "UNASSIGNED_STACK" Bundle.steD A s s.heap) (hN : vx_Zq Bundle.tN "SUPPRESSED_SENTINEL" Bundle.listD A s s.heap) (hS : va_S A s.heap H locs) (hsize : ls.size = c.maxLocals)
    (d0 : decode cc pc = .ok (.new ik, 3)) (d3 : decode cc (pc + 3) = .ok (.dup, 1)) (d4 : decode cc (pc + 4) = .ok (.ldc is, 2)) (d6 : decode cc (pc + 6) = .ok (.invokespecial ic, 3)) (d9 : decode cc (pc + 9) = .ok (.athrow, 1))
    (hout : ∀ x ∈ c.exceptionTable.toList, covers x (pc + 9) = false)
    (hRframes : names.length + 3 < R.frames) (hRlocals : (rest.map fun v => v.category).sum + (13 * (names.length + 1) + 43) ≤ R.locals) (hRcells : cells + 1 ≤ R.cells) (hRslots : slots + 6 ≤ R.slots) (hlocks : meth.locks = false)
    (hx : ∀ t : State, s.vm.Alike t.vm → H.size ≤ t.heap.size → (∀ q : Nat, q < H.size → t.heap[q]? = H[q]?) → XC cls s t)
    (hf : ∀ z ∈ locs, free z.base) (hc : cells + 1 ≤ mc) (hs : slots + 6 ≤ ms) :
    W p l e R s m args below meth c H locs cells slots (vx_MQ below Qc XC args s mc ms free) (F0 m pc ls rest) := by
  intro T hT X
  have htr : e.platform.stackTraces = false := (show e.platform.stackTraces = l.stackTraces by rw [X.admits.platform]).trans hl
  have Y := vx_rebase X (R' := { frames := R.frames, locals := R.locals, cells := 1, slots := 6 }) (Nat.le_refl _) (Nat.le_refl _) hRcells hRslots
  obtain ⟨s', hA⟩ : ∃ z, z = (T.setVm s.vm).setFrames (.invoking m args :: below) := ⟨_, rfl⟩
  rw [← hA] at Y
  have hvm : s'.vm = s.vm := by rw [hA]; rfl
  have hhp : s'.heap = H := by rw [hA]; exact hT
  have hW0 : s.WarmedH s'.vm := by rw [hvm]; exact State.WarmedH.refl s
  have hat' : ∀ w ∈ vx_atS own ic cls names, w.before args s' = true := fun w hw => vx_ot_at hW0 hvm.symm (hgood w (List.mem_cons_of_mem _ (List.mem_cons_of_mem _ hw))) (hat w hw)
  have hk' : (Cond.classLink own ik cls).before args s' = true := vx_ot_at hW0 hvm.symm (hgood _ List.mem_cons_self) hk
  have hini' : (Cond.initialized cls).before args s' = true := vx_ot_at hW0 hvm.symm (hgood _ (List.mem_cons_of_mem _ List.mem_cons_self)) hini
  have hU' : vx_Zq Bundle.tN "UNASSIGNED_STACK" Bundle.steD A s' s'.heap := by rw [hhp]; exact vx_Zq.moved hW0.alike (hU.kept hS.2.1)
  have hN' : vx_Zq Bundle.tN "SUPPRESSED_SENTINEL" Bundle.listD A s' s'.heap := by rw [hhp]; exact vx_Zq.moved hW0.alike (hN.kept hS.2.1)
  have h : ∀ w ∈ Bundle.ownAtoms own ic cls names, w.before args s' = true := vx_own hat' (vx_isRefq hU'.1) (vx_isRefq hN'.1) hU'.2.word hN'.2.word
  have hown' : s'.vm.findClass own = some m.cls := by rw [hvm]; exact hown
  have hins : (Cond.instantiable cls 6).before args s' = true := h _ (by simp [Bundle.ownAtoms])
  obtain ⟨vm₁, cX, kX, hfX, hkX, -, -, X₁, st1⟩ := Y.newCold hexec (own := own) (C := cls) (index := ik) (n := 6) hown' hk' hins hini'
    (g := F0 m pc ls rest) rfl (by rw [hb]; exact d0) (Nat.le_refl _) (Nat.le_refl _)
  generalize hT1 : (T.setVm vm₁).pushCell { cls := cX, slots := kX.instanceTypes.map defaultValue, vm := .none } = T1 at X₁ st1
  have hcat : (Value.ref T.heap.size).category = 1 := rfl
  have hcellA : T1.heap[T.heap.size]? = some (freshCell cX kX) := by rw [← hT1]; exact State.heap_pushCell_size _ _
  have d3' : decode c.code (pc + 3) = .ok (.dup, 1) := by rw [hb]; exact d3
  have d4' : decode c.code (pc + 4) = .ok (.ldc is, 2) := by rw [hb]; exact d4
  have hstr' : vk_R own is text sa s' := vk_R.warm hW0 hstr
  obtain ⟨U, hsteps, hrun, hend, hW, hsame, ce, hce, hO⟩ := X₁.ctorThrowS hexec htr (own := own) (cls := cls) (names := names) (ic := ic) hown' hcls hnames h (fun x hx => nomatch hx) hfX hkX hcellA (by rw [hhp, hT]; exact Nat.le_refl _) (msg := .ref sa) rfl
    (g := { method := m, pc := pc + 6, locals := ls, stack := .ref sa :: .ref T.heap.size :: .ref T.heap.size :: rest, locked := none }) rfl hsize rfl rfl (rest := rest) rfl
    (by rw [hb]; exact d6) (by rw [hb]; exact d9) hout hRframes (by simp only [List.map_cons, List.sum_cons, hcat]; omega) hlocks
  obtain ⟨f1, f2⟩ := vx_frame hsame
  rw [hhp] at f1 f2
  have hWs : s.WarmedH U.vm := State.WarmedH.trans hW0 hW
  have hcl : s.vm.findClass cls = some ce.cls := by
    have h9 := hO.cls
    rw [hvm] at h9
    exact h9
  have hall : s.sameButNew ({ U with vm := s.vm } : State) locs mc ms := by
    subst hA
    obtain ⟨e1, e2⟩ := hsame
    rw [State.setFrames_setFrames] at e1
    have h2 : (T.setVm s.vm).sameButNew ({ U with vm := s.vm } : State) [] (0 + 1) (0 + 6) := ⟨e1, e2⟩
    have h3 := X.same.trans h2
    rw [List.append_nil] at h3
    exact h3.mono hc hs
  refine ⟨U, ?_, .threw T.heap.size, hrun, hend, Or.inr ⟨T.heap.size, rfl, cls, ce, locs, hx U hWs.alike f1 (fun q hq => f2 q hq (fun z hz => nomatch hz)), hce, hO.vm, hcl, hWs, hall, hf⟩⟩
  refine st1 _ ?_
  show Steps p.tables e below (T1.setTop { method := m, pc := pc + 3, locals := ls, stack := .ref T.heap.size :: rest, locked := none }) _
  jvm_step X₁.here [X₁.here.top, hexec, d3', Value.category]
  exact X₁.ldcString hexec (own := own) (text := text) (index := is) (a := sa) hown' hstr'.1 hstr'.2
    (g := { method := m, pc := pc + 4, locals := ls, stack := .ref T.heap.size :: .ref T.heap.size :: rest, locked := none }) rfl d4' _ hsteps
/-- 'throw new E("text")', the text by a wide index -/
theorem vx_throwSW {cc : ByteArray} {pc : Nat} (hexec : p.tables.exec = Jvm.exec) (hb : c.code = cc) (hl : l.stackTraces = false) {own cls text : String} {names : List String} {ik is ic mc ms sa : Nat} {A : Nat → Prop}
    (hown : s.vm.findClass own = some m.cls) (hcls : Bundle.fit cls = true) (hnames : ∀ n ∈ names, Bundle.fit n = true)
    (hk : (Cond.classLink own ik cls).before args s = true) (hini : (Cond.initialized cls).before args s = true) (hstr : vk_R own is text sa s) (hat : ∀ w ∈ vx_atS own ic cls names, w.before args s = true)
    (hgood : ∀ w ∈ Cond.classLink own ik cls :: Cond.initialized cls :: vx_atS own ic cls names, vx_ot w = true)
    (hU : vx_Zq Bundle.tN "UNASSIGNED_STACK" Bundle.steD A s s.heap) (hN : vx_Zq Bundle.tN "SUPPRESSED_SENTINEL" Bundle.listD A s s.heap) (hS : va_S A s.heap H locs) (hsize : ls.size = c.maxLocals)
    (d0 : decode cc pc = .ok (.new ik, 3)) (d3 : decode cc (pc + 3) = .ok (.dup, 1)) (d4 : decode cc (pc + 4) = .ok (.ldc_w is, 3)) (d7 : decode cc (pc + 7) = .ok (.invokespecial ic, 3)) (d10 : decode cc (pc + 10) = .ok (.athrow, 1))
    (hout : ∀ x ∈ c.exceptionTable.toList, covers x (pc + 10) = false)
    (hRframes : names.length + 3 < R.frames) (hRlocals : (rest.map fun v => v.category).sum + (13 * (names.length + 1) + 43) ≤ R.locals) (hRcells : cells + 1 ≤ R.cells) (hRslots : slots + 6 ≤ R.slots) (hlocks : meth.locks = false)
    (hx : ∀ t : State, s.vm.Alike t.vm → H.size ≤ t.heap.size → (∀ q : Nat, q < H.size → t.heap[q]? = H[q]?) → XC cls s t)
    (hf : ∀ z ∈ locs, free z.base) (hc : cells + 1 ≤ mc) (hs : slots + 6 ≤ ms) :
    W p l e R s m args below meth c H locs cells slots (vx_MQ below Qc XC args s mc ms free) (F0 m pc ls rest) := by
  intro T hT X
  have htr : e.platform.stackTraces = false := (show e.platform.stackTraces = l.stackTraces by rw [X.admits.platform]).trans hl
  have Y := vx_rebase X (R' := { frames := R.frames, locals := R.locals, cells := 1, slots := 6 }) (Nat.le_refl _) (Nat.le_refl _) hRcells hRslots
  obtain ⟨s', hA⟩ : ∃ z, z = (T.setVm s.vm).setFrames (.invoking m args :: below) := ⟨_, rfl⟩
  rw [← hA] at Y
  have hvm : s'.vm = s.vm := by rw [hA]; rfl
  have hhp : s'.heap = H := by rw [hA]; exact hT
  have hW0 : s.WarmedH s'.vm := by rw [hvm]; exact State.WarmedH.refl s
  have hat' : ∀ w ∈ vx_atS own ic cls names, w.before args s' = true := fun w hw => vx_ot_at hW0 hvm.symm (hgood w (List.mem_cons_of_mem _ (List.mem_cons_of_mem _ hw))) (hat w hw)
  have hk' : (Cond.classLink own ik cls).before args s' = true := vx_ot_at hW0 hvm.symm (hgood _ List.mem_cons_self) hk
  have hini' : (Cond.initialized cls).before args s' = true := vx_ot_at hW0 hvm.symm (hgood _ (List.mem_cons_of_mem _ List.mem_cons_self)) hini
  have hU' : vx_Zq Bundle.tN "UNASSIGNED_STACK" Bundle.steD A s' s'.heap := by rw [hhp]; exact vx_Zq.moved hW0.alike (hU.kept hS.2.1)
  have hN' : vx_Zq Bundle.tN "SUPPRESSED_SENTINEL" Bundle.listD A s' s'.heap := by rw [hhp]; exact vx_Zq.moved hW0.alike (hN.kept hS.2.1)
  have h : ∀ w ∈ Bundle.ownAtoms own ic cls names, w.before args s' = true := vx_own hat' (vx_isRefq hU'.1) (vx_isRefq hN'.1) hU'.2.word hN'.2.word
  have hown' : s'.vm.findClass own = some m.cls := by rw [hvm]; exact hown
  have hins : (Cond.instantiable cls 6).before args s' = true := h _ (by simp [Bundle.ownAtoms])
  obtain ⟨vm₁, cX, kX, hfX, hkX, -, -, X₁, st1⟩ := Y.newCold hexec (own := own) (C := cls) (index := ik) (n := 6) hown' hk' hins hini'
    (g := F0 m pc ls rest) rfl (by rw [hb]; exact d0) (Nat.le_refl _) (Nat.le_refl _)
  generalize hT1 : (T.setVm vm₁).pushCell { cls := cX, slots := kX.instanceTypes.map defaultValue, vm := .none } = T1 at X₁ st1
  have hcat : (Value.ref T.heap.size).category = 1 := rfl
  have hcellA : T1.heap[T.heap.size]? = some (freshCell cX kX) := by rw [← hT1]; exact State.heap_pushCell_size _ _
  have d3' : decode c.code (pc + 3) = .ok (.dup, 1) := by rw [hb]; exact d3
  have d4' : decode c.code (pc + 4) = .ok (.ldc_w is, 3) := by rw [hb]; exact d4
  have hstr' : vk_R own is text sa s' := vk_R.warm hW0 hstr
  obtain ⟨U, hsteps, hrun, hend, hW, hsame, ce, hce, hO⟩ := X₁.ctorThrowS hexec htr (own := own) (cls := cls) (names := names) (ic := ic) hown' hcls hnames h (fun x hx => nomatch hx) hfX hkX hcellA (by rw [hhp, hT]; exact Nat.le_refl _) (msg := .ref sa) rfl
    (g := { method := m, pc := pc + 7, locals := ls, stack := .ref sa :: .ref T.heap.size :: .ref T.heap.size :: rest, locked := none }) rfl hsize rfl rfl (rest := rest) rfl
    (by rw [hb]; exact d7) (by rw [hb]; exact d10) hout hRframes (by simp only [List.map_cons, List.sum_cons, hcat]; omega) hlocks
  obtain ⟨f1, f2⟩ := vx_frame hsame
  rw [hhp] at f1 f2
  have hWs : s.WarmedH U.vm := State.WarmedH.trans hW0 hW
  have hcl : s.vm.findClass cls = some ce.cls := by
    have h9 := hO.cls
    rw [hvm] at h9
    exact h9
  have hall : s.sameButNew ({ U with vm := s.vm } : State) locs mc ms := by
    subst hA
    obtain ⟨e1, e2⟩ := hsame
    rw [State.setFrames_setFrames] at e1
    have h2 : (T.setVm s.vm).sameButNew ({ U with vm := s.vm } : State) [] (0 + 1) (0 + 6) := ⟨e1, e2⟩
    have h3 := X.same.trans h2
    rw [List.append_nil] at h3
    exact h3.mono hc hs
  refine ⟨U, ?_, .threw T.heap.size, hrun, hend, Or.inr ⟨T.heap.size, rfl, cls, ce, locs, hx U hWs.alike f1 (fun q hq => f2 q hq (fun z hz => nomatch hz)), hce, hO.vm, hcl, hWs, hall, hf⟩⟩
  refine st1 _ ?_
  show Steps p.tables e below (T1.setTop { method := m, pc := pc + 3, locals := ls, stack := .ref T.heap.size :: rest, locked := none }) _
  jvm_step X₁.here [X₁.here.top, hexec, d3', Value.category]
  exact X₁.ldcStringW hexec (own := own) (text := text) (index := is) (a := sa) hown' hstr'.1 hstr'.2
    (g := { method := m, pc := pc + 4, locals := ls, stack := .ref T.heap.size :: .ref T.heap.size :: rest, locked := none }) rfl d4' _ hsteps
end Ends
section Bodies
variable {l : Launch}
theorem vx_ofW {y : MethodName} {ws ws' : List Cond} {rm : Room} {Pc : Array Value → State → Prop} {Qc : Array Value → State → Outcome → State → Prop} {XC : String → State → State → Prop} {mc ms : Nat} {free : Addr → Prop} {cc : ByteArray} {maxL : Nat} {ret : Option FieldType}
    (hy : plainName y.cls = true) (hw : ws = Cond.code y cc maxL ret :: ws')
    (body : ∀ p e s m args below meth c s₁, BodyLoose p l y (headSpec ws rm) cc maxL ret e s m args below meth c s₁ → c.maxLocals = maxL → (∀ x ∈ c.exceptionTable.toList, False) → Pc args s →
      W p l e (headSpec ws rm).room s m args below meth c s.heap [] 0 0 (vx_MQ below Qc XC args s mc ms free) (entryFrame m args maxL)) : vx_Met l y ws rm Pc Qc XC mc ms free := by
  refine MetFree.of_bodyS (code := cc) (maxLocals := maxL) (ret := ret) hy ?_ ?_
  · intro args s m h hn
    obtain ⟨meth, c, h1, h2, h3, h4, h5, h6, -, -⟩ := Cond.code_spec hn (atoms_spec (ws := ws) h _ (by rw [hw]; exact List.mem_cons_self))
    exact ⟨meth, c, h1, h2, h3, h4, h5, h6⟩
  · intro p e s m args below meth c s₁ B hml hP _
    have hh0 : s₁.heap = s.heap := by rw [B.state]; rfl
    have ht : ∀ x ∈ c.exceptionTable.toList, False := by
      obtain ⟨meth9, c9, h1, h2, -, -, -, -, h7, -⟩ := Cond.code_spec B.named (atoms_spec (ws := ws) B.pre _ (by rw [hw]; exact List.mem_cons_self))
      cases Option.some.inj (h1.symm.trans B.method)
      cases Option.some.inj (h2.symm.trans (Stand.of_body B).code)
      intro x hx
      rw [Array.isEmpty_iff.mp h7] at hx
      cases hx
    obtain ⟨t, a1, o, b1, b2, b3⟩ := body p e s m args below meth c s₁ B hml ht hP s₁ hh0 (Stand.of_body B)
    exact ⟨t, o, a1, b1, b2, b3⟩
/-- the table of a body with handlers -/
theorem vx_table {p : Program} {x y : MethodName} {S : Spec} {cc bytes : ByteArray} {maxL maxL' : Nat} {ret ret' : Option FieldType} {e : Env} {s s₁ : State} {m : MethodId} {args : Array Value} {below : List Frame} {meth : Method} {c : Code} {hh : List (Nat × Nat × Nat × Nat)}
    (B : BodyLoose p l y S cc maxL ret e s m args below meth c s₁) (h : (Cond.codeWith y bytes maxL' ret' hh).before args s = true) : c.exceptionTable.toList = tableOf hh := by
  obtain ⟨m9, meth9, c9, hn9, h1, h2, -, -, h6, -⟩ := Cond.codeWith_spec h
  cases Option.some.inj (hn9.symm.trans B.named)
  cases Option.some.inj (h1.symm.trans B.method)
  cases Option.some.inj (h2.symm.trans (Stand.of_body B).code)
  rw [← h6, table_eq]
end Bodies
end VXA
/-! ===== END ===== -/
/-! ===== BEGIN a static call of a method with an exception table ===== -/
section VXS
variable {p : Program} {l : Launch} {e : Env} {R : Room} {s : State} {m : MethodId} {args : Array Value} {below : List Frame} {meth : Method} {c : Code} {T : State} {H : Heap} {locs : List Loc} {cells slots : Nat}
abbrev vx_CSW (R : Room) (s : State) (args : Array Value) (own : String) (index : Nat) (y : MethodName) (bytes : ByteArray) (maxL : Nat) (ret : Option FieldType) (hh : List (Nat × Nat × Nat × Nat)) (ws : List Cond) (rm : Room) (mc ms n : Nat) : Prop :=
  (rm.cells = mc ∧ rm.slots = ms ∧ rm.frames + 1 ≤ R.frames ∧ 8 + (maxL + 11) + rm.locals ≤ R.locals ∧ (∀ w ∈ ws, ∀ (a' : Array Value) (U : State), s.WarmedH U.vm → w.before a' U = true) ∧ Cond.codeWith y bytes maxL ret hh ∈ ws) ∧
  (Cond.codeWith y bytes maxL ret hh).before args s = true ∧ (Cond.initialized y.cls).before args s = true ∧ (y.cls ≠ "java/lang/invoke/MethodHandle" ∧ y.cls ≠ "java/lang/invoke/VarHandle") ∧
  (∀ sig, parseMethodDescriptor y.desc = some sig → n = sig.parameters.length) ∧ (Cond.methodLink own index y).before args s = true ∧ (Cond.static y).before args s = true
theorem vx_cwSW {own : String} {index maxL mc ms : Nat} {y : MethodName} {bytes : ByteArray} {ret : Option FieldType} {hh : List (Nat × Nat × Nat × Nat)} {Ts ws ws' : List Cond} {rm : Room} (n : Nat) (ht : ∀ w ∈ Ts, w.before args s = true) (hT : GoodIn Ts (va_wsS own index y ws)) (hw : ws = Cond.codeWith y bytes maxL ret hh :: ws') (hrc : rm.cells = mc) (hrs : rm.slots = ms)
    (hd : y.cls ≠ "java/lang/invoke/MethodHandle" ∧ y.cls ≠ "java/lang/invoke/VarHandle" ∧ (parseMethodDescriptor y.desc).map (fun d => d.parameters.length) = some n) (hR : rm.frames + 1 ≤ R.frames ∧ 8 + (maxL + 11) + rm.locals ≤ R.locals) :
    vx_CSW R s args own index y bytes maxL ret hh ws rm mc ms n := by
  have ok : ∀ w ∈ va_wsS own index y ws, w.before args s = true := fun w h => ht w (hT w h).1
  have hG : GoodIn Ts ws := fun w h => hT w (by unfold va_wsS; exact List.mem_append_right _ h)
  have hc : Cond.codeWith y bytes maxL ret hh ∈ ws := by rw [hw]; exact List.mem_cons_self
  refine ⟨⟨hrc, hrs, hR.1, hR.2, pay_in ht hG, hc⟩, ht _ (hG _ hc).1, ok _ (by simp [va_wsS]), ⟨hd.1, hd.2.1⟩, fun sig h => ?_, ok _ (by simp [va_wsS]), ok _ (by simp [va_wsS])⟩
  have h2 := hd.2.2
  rw [h] at h2
  exact (Option.some.inj h2).symm
theorem vx_callSW (X : Stand p l e R s m args below meth c T locs cells slots) (hexec : p.tables.exec = Jvm.exec) {own : String} {index : Nat} {y : MethodName} {bytes : ByteArray} {maxL : Nat} {ret : Option FieldType} {hh : List (Nat × Nat × Nat × Nat)}
    (hown : s.vm.findClass own = some m.cls) (hlink : (Cond.methodLink own index y).before args s = true) (hstat : (Cond.static y).before args s = true) (hinit : (Cond.initialized y.cls).before args s = true)
    (hcode : (Cond.codeWith y bytes maxL ret hh).before args s = true) (hy : y.cls ≠ "java/lang/invoke/MethodHandle" ∧ y.cls ≠ "java/lang/invoke/VarHandle")
    {W9 : Nat} {Pre : Pt → Array Value → Prop} {Post : Pt → Array Value → Option Value → Pt → Prop} (hK : Back l R p e below s args y 3 W9 Pre Post)
    {g : JFrame} (hg : g.method = m) (hsize : g.locals.size = c.maxLocals) {argsL rest : List Value} (hlen : ∀ sig, parseMethodDescriptor y.desc = some sig → argsL.length = sig.parameters.length)
    (hstack : g.stack = argsL.reverse ++ rest) (hW : 2 * g.monitorRoom + (rest.map fun v => v.category).sum ≤ W9) (hdg : decode c.code g.pc = .ok (.invokestatic index, 3))
    (hpre : ∀ vm₁, s.WarmedH vm₁ → Pre ⟨T.setVm vm₁, locs, cells, slots⟩ argsL.toArray) :
    ∃ (v : Option Value) (vm₁ : Vm) (B : Pt), s.WarmedH vm₁ ∧ Stand p l e R s m args below meth c B.U B.locs B.cells B.slots ∧ Post ⟨T.setVm vm₁, locs, cells, slots⟩ argsL.toArray v B ∧
      ∀ target, Steps p.tables e below (B.U.setTop { g with pc := g.pc + 3, stack := v.toList ++ rest }) target → Steps p.tables e below (T.setTop g) target := by
  obtain ⟨mk, methM, cM, hnamed, hmethM, -, -, -, -, -, -, hsigM⟩ := Cond.codeWith_spec hcode
  have hstatic : methM.isStatic = true := Cond.static_spec hnamed hmethM hstat
  obtain ⟨kP, hkP, -⟩ := className_of_methodNamed hnamed
  have hinitP : kP.init = .initialized := Cond.initialized_spec (findClass_of_methodNamed hnamed) hkP hinit
  obtain ⟨vm₁, X₁, hstep₁⟩ := X.invokestatic hexec hown hlink hnamed hmethM hstatic hkP hinitP hy (g := g) hg (argsL := argsL) (rest := rest) (hlen _ hsigM) hstack hdg
  obtain ⟨v, B, X', hpost, hsteps⟩ := hK m meth c ⟨T.setVm vm₁, locs, cells, slots⟩ { g with stack := rest } (.invokestatic index) mk argsL.toArray X₁ hg hsize hdg hW (X₁.named hnamed) (hpre vm₁ X₁.warmed)
  exact ⟨v, vm₁, B, X₁.warmed, X', hpost, fun target h => hstep₁ _ fun acts => by rw [doInvoke_state]; exact hsteps.trans h⟩
theorem vx_runSW {y : MethodName} {bytes cc : ByteArray} {maxL nL mc ms n index : Nat} {ret : Option FieldType} {hh : List (Nat × Nat × Nat × Nat)} {ws : List Cond} {rm : Room} {Pc : Array Value → State → Prop} {Qc : Array Value → State → Outcome → State → Prop} {free : Addr → Prop} {Ts : List Cond} {own : String} {As rest : List Value} {g : JFrame}
    (S : CallFix p m c cc nL s args Ts own) (hM : Met l y ws rm Pc Qc mc ms free) (cw : vx_CSW R s args own index y bytes maxL ret hh ws rm mc ms n) (hp : PreS s H Pc As)
    (hg : g.method = m) (hn : As.length = n) (hsize : g.locals.size = nL) (hstack : g.stack = As.reverse ++ rest) (hW : 2 * g.monitorRoom + (rest.map fun v => v.category).sum ≤ 8) (hdg : decode cc g.pc = .ok (.invokestatic index, 3)) (hf : cells + mc ≤ R.cells ∧ slots + ms ≤ R.slots) :
    va_Run p l e R s m args below meth c H locs cells slots mc ms g rest (Qc As.toArray) (free) := by
  obtain ⟨⟨hrc, hrs, hfr, hlo, hws, hcw⟩, hcode, hini, hy, hlen, hl, hstt⟩ := cw
  have hK : Back l R p e below s args y 3 8 (PreOf R mc ms Pc) (PostOf Qc mc ms free) := va_backW (hh := hh) (bytes := bytes) (maxL := maxL) (ret := ret) hM hp.1 hrc hrs hfr hlo hws hcw (fun a' U hW => word_at hW (Or.inl (by first | rfl | simp [Cond.onTables, Cond.keeps, Cond.steady])) hini)
  obtain ⟨hx, hb, hml, ho, -⟩ := S
  intro T hT X
  obtain ⟨v, vm₁, ⟨U', l2, c2, s2⟩, hW₁, X', ⟨g', mk, t, L, e1, e2, hq, h1, hL, h2, h3⟩, st⟩ := vx_callSW X hx (hh := hh) (bytes := bytes) (maxL := maxL) (ret := ret) ho hl hstt hini hcode hy hK hg (hsize.trans hml.symm) (argsL := As) (rest := rest) (fun sig h => hn.trans (hlen sig h)) hstack hW (by rw [hb]; exact hdg)
    (fun vm₁ hW₁ => ⟨hf.1, hf.2, hp.2 (T.setVm vm₁) hT hW₁⟩)
  dsimp only [Pt.U, Pt.locs, Pt.cells, Pt.slots] at X' e1 e2 h1 h2 h3 st
  subst h1; subst h2; subst h3
  exact ⟨v, (T.setVm vm₁).calling g' mk As.toArray, t, U', L, hT, X', hL, e1, e2, hq, st⟩
/-- not caught here, past rows that name other classes: it goes on to the caller -/
theorem vx_outP {p : Program} {l : Launch} {e : Env} {R : Room} {s : State} {m : MethodId} {args : Array Value} {below : List Frame} {meth : Method} {c : Code} {H : Heap} {locs : List Loc} {cells slots : Nat} {free : Addr → Prop} {ls : Array Slot} {rest : List Value} {Qc : Array Value → State → Outcome → State → Prop} {XC : String → State → State → Prop}
    {pc : Nat} {own E : String} {ce : Cell} {q : Addr} {mc ms : Nat} (hown : s.vm.findClass own = some m.cls) (hlocks : meth.locks = false)
    (hpass : ∀ z ∈ c.exceptionTable.toList, covers z pc = false ∨ (z.catchType ≠ 0 ∧ ∃ nm : String, (Cond.classLink own z.catchType nm).before args s = true ∧ va_Nc E nm s)) (hcell : H[q]? = some ce) (hv : ce.vm = .none) (hcl : s.vm.findClass E = some ce.cls)
    (hx : ∀ t : State, t.heap = H → s.vm.Alike t.vm → XC E s t) (hf : ∀ z ∈ locs, free z.base) (hc : cells ≤ mc) (hs : slots ≤ ms) :
    vx_W p l e R s m args below meth c H locs cells slots (vx_MQ below Qc XC args s mc ms free) (F0 m pc ls rest) q := by
  intro T hT X
  have hpl : e.platform.magicAccessors = ({} : Platform).magicAccessors := by rw [X.admits.platform]
  obtain ⟨vm', hW', X', st⟩ := X.outThrough hlocks q (g := F0 m pc ls rest) rfl rfl rfl (cell := ce) (by rw [hT]; exact hcell) (by rw [hv]; rfl)
    (by obtain ⟨k9, h9, -⟩ := Vm.findClass_spec hcl; exact ⟨k9, h9⟩) (fun z hz => by
      rcases hpass z hz with h | ⟨hz0, nm, hl1, hn1⟩
      · exact Or.inl h
      · obtain ⟨c6, hc6, hcl6⟩ := Cond.classLink_spec hown hl1 e.platform hpl
        obtain ⟨a8, b8, h1, h2, h3⟩ := hn1
        cases Option.some.inj (h1.symm.trans hcl)
        cases Option.some.inj (h2.symm.trans hc6)
        exact Or.inr ⟨hz0, _, hcl6, h3⟩)
  obtain ⟨g₀, hfr⟩ := X'.frames_eq
  have hcell9 : ((T.setVm vm').setFrames (.throwing q :: below)).heap[q]? = some ce := by
    show T.heap[q]? = some ce
    rw [hT]; exact hcell
  have hend : Ended ((T.setVm vm').setFrames (.throwing q :: below)) below (.threw q) := State.frames_setFrames _ (State.cur_lt_of_frames hfr)
  refine ⟨(T.setVm vm').setFrames (.throwing q :: below), ?_, .threw q, X'.here.running, hend, Or.inr ⟨q, rfl, E, ce, locs, hx _ hT (X'.ends _).1.alike, hcell9, hv, hcl, (X'.ends _).1, (X'.ends _).2.mono hc hs, hf⟩⟩
  rw [X.pushThrowing_eq]
  exact st
/-- a thing of a world lies in the heap -/
theorem vx_lt {D : va_G} {cl : List vw_C} {ws : va_W} {H1 : Heap} (h : va_P D cl ws H1) {k : Nat} {q : Nat × va_E} (hk : ws[k]? = some q) : q.1 < H1.size := (h k q hk).lt
end VXS
/-! ===== END ===== -/
/-! ===== BEGIN methods with a table of their own: called by a name, returning or throwing ===== -/
section VXH
/-! vx_backW, vx_callVX, vx_callSX, vx_callVW, vx_runVW, vx_runVX, vx_runSX, vx_ofWH follow the same proofs as their sisters above (Free/Laws.lean, Shelf42/LK1.lean); vx_outP calls Shelf42/NT130.lean (outThrough). -/
section
variable {l : Launch} {R : Room} {p : Program} {e : Env} {below : List Frame} {s : State} {sargs : Array Value} {y : MethodName} {len W9 : Nat}
theorem vx_backW {ws : List Cond} {rm : Room} {Pc : Array Value → State → Prop} {Qc : Array Value → State → Outcome → State → Prop} {XC : String → State → State → Prop} {mc ms : Nat} {free : Addr → Prop} {bytes : ByteArray} {maxL : Nat} {ret : Option FieldType} {hh : List (Nat × Nat × Nat × Nat)}
    (hM : vx_Met l y ws rm Pc Qc XC mc ms free) (hblind : FrameBlind Pc) (hrc : rm.cells = mc) (hrs : rm.slots = ms)
    (hframes : rm.frames + 1 ≤ R.frames) (hlocals : W9 + (maxL + 11) + rm.locals ≤ R.locals)
    (hws : ∀ w ∈ ws, ∀ a' U, s.WarmedH U.vm → w.before a' U = true) (hcode : Cond.codeWith y bytes maxL ret hh ∈ ws) (hinit : ∀ a' U, s.WarmedH U.vm → (Cond.initialized y.cls).before a' U = true) :
    vx_Back l R p e below s sargs y len W9 (PreOf R mc ms Pc) (PostOf Qc mc ms free) (vx_Post XC mc ms free) := by
  intro m meth c A g ig mk a X hg hsize hdg hW hn hp
  have h1 : (headSpec ws rm).pre.before a A.U = true := atoms_intro fun w hw => hws w hw _ _ X.warmed
  have h2 : (Cond.codeWith y bytes maxL ret hh).before a A.U = true := hws _ hcode _ _ X.warmed
  have h3 : (Cond.initialized y.cls).before a A.U = true := hinit _ _ X.warmed
  have h4 : A.cells + (headSpec ws rm).room.cells ≤ R.cells := by rw [show (headSpec ws rm).room.cells = mc from hrc]; exact hp.1
  have h5 : A.slots + (headSpec ws rm).room.slots ≤ R.slots := by rw [show (headSpec ws rm).room.slots = ms from hrs]; exact hp.2.1
  have hPc : Pc a (A.U.calling g mk a) := hblind _ _ _ _ hp.2.2
  obtain ⟨U, Ls, c0, s0⟩ := A
  dsimp only [Pt.U, Pt.locs, Pt.cells, Pt.slots] at h1 h2 h3 h4 h5 X hn hPc ⊢
  obtain ⟨m9, methY, cY, hn9, hmY, hcY, -, hlY, -⟩ := Cond.codeWith_spec h2
  cases Option.some.inj (hn9.symm.trans hn)
  obtain ⟨kY, hkY, -⟩ := className_of_methodNamed hn
  have hinitY : kY.init = .initialized := Cond.initialized_spec (findClass_of_methodNamed hn) hkY h3
  have h : At U g.method c below := by rw [hg]; exact X.here
  have hlocals9 : W9 + (maxL + 11) + (headSpec ws rm).room.locals ≤ R.locals := hlocals
  have happ : (headSpec ws rm).appliesLoose y e.platform (U.calling g mk a) = true :=
    Spec.appliesLoose_calling (g := g) h hdg hn hkY hinitY
      (X.room_calling (g := g) (R' := (headSpec ws rm).room) hsize hmY hcY hframes (by rw [hlY]; omega) h4 h5) h1
  obtain ⟨mid, hmid⟩ := h.above
  have hfr : (U.setTop g).frames = (.java g :: mid) ++ below := by rw [State.frames_setTop' g h.top, hmid]; rfl
  obtain ⟨o, s₂, hsteps, -, hend, hq⟩ := Steps.callFree hM p X.admits X.cas X.clock (acts := []) hfr happ hPc trivial
  have hq' : vx_Q Qc XC mc ms free a (U.calling g mk a) o s₂ := hq
  rw [State.frames_setTop' g h.top] at hend
  obtain ⟨g₀, hg0⟩ := Option.isSome_iff_exists.mp h.top
  obtain ⟨r, hr⟩ := State.topJava?_eq_some.mp hg0
  have hr' : (({ U with heap := s₂.heap, slotsUsed := s₂.slotsUsed } : State).setVm s₂.vm).frames = .java g₀ :: r := hr
  rcases hq' with ⟨hqc, L, hfe, hL⟩ | ⟨q, rfl, E, ce, L, hx, hce, hcv, hcl, hW₂, hsm, hL⟩
  · obtain ⟨⟨v, rfl⟩, hW₂, e2, q2, q3, q4, q5, q6⟩ := id hfe
    have e3 : s₂ = ({ (U.calling g mk a).setFrames s₂.frames with heap := s₂.heap, slotsUsed := s₂.slotsUsed } : State).setVm s₂.vm := by
      have : s₂ = ({ s₂ with vm := (U.calling g mk a).vm } : State).setVm s₂.vm := rfl
      rw [e2] at this
      exact this
    obtain ⟨c₂, i₂, len₂, hc₂, hd₂, hf₂⟩ := hend
    have hW' : U.WarmedH s₂.vm := hW₂
    have hcc : c₂ = c := by
      have h1 : s₂.code? g.method = U.code? g.method := by
        rw [State.code?_eq, State.code?_eq, hW'.alike.method?]
      exact Option.some.inj (hc₂.symm.trans (h1.trans h.code))
    subst hcc
    have hlen : len₂ = len := by rw [hdg] at hd₂; cases hd₂; rfl
    subst hlen
    have hs₂ : s₂ = (({ U with heap := s₂.heap, slotsUsed := s₂.slotsUsed } : State).setVm s₂.vm).setTop { g with pc := g.pc + len₂, stack := v.toList ++ g.stack } := by
      refine e3.trans ?_
      rw [hf₂, State.calling_eq h.top, State.setFrames_setFrames, State.setTop_of_frames _ hr', hr]
      rfl
    have hsame : U.sameButNew ({ U with heap := s₂.heap, slotsUsed := s₂.slotsUsed } : State) L mc ms := by
      refine ⟨?_, q2, q3, q4, q5, q6⟩
      obtain ⟨t, ht, -⟩ := State.frames_cons hr
      show ({ U with heap := s₂.heap, slotsUsed := s₂.slotsUsed } : State) = { U.setFrames U.frames with heap := s₂.heap, slotsUsed := s₂.slotsUsed }
      rw [State.setFrames_self ht]
    subst hg
    refine Or.inl ⟨v, ⟨(({ U with heap := s₂.heap, slotsUsed := s₂.slotsUsed } : State).setVm s₂.vm), Ls ++ L, c0 + mc, s0 + ms⟩,
      ⟨X.admits, X.cas, X.clock, X.frames, X.room, X.hears, X.method, X.code, (X.here.setHeapUsed s₂.heap s₂.slotsUsed).setVm hW'.alike, X.tail, State.WarmedH.trans X.warmed hW', X.limits, X.bytes, X.same.trans (hsame.setVm s.vm)⟩,
      ⟨g, mk, s₂, L, rfl, rfl, hqc, rfl, hL, rfl, rfl⟩, ?_⟩
    show Steps p.tables e below _ ((({ U with heap := s₂.heap, slotsUsed := s₂.slotsUsed } : State).setVm s₂.vm).setTop { g with pc := g.pc + len₂, stack := v.toList ++ g.stack })
    rw [← hs₂]
    exact hsteps
  · obtain ⟨e2, q2, q3, q4, q5, q6⟩ := id hsm
    have e3 : s₂ = ({ (U.calling g mk a).setFrames s₂.frames with heap := s₂.heap, slotsUsed := s₂.slotsUsed } : State).setVm s₂.vm := by
      have : s₂ = ({ s₂ with vm := (U.calling g mk a).vm } : State).setVm s₂.vm := rfl
      rw [e2] at this
      exact this
    have hf₂ : s₂.frames = .throwing q :: .java g :: U.frames.tail := hend
    have hW' : U.WarmedH s₂.vm := hW₂
    have hs₂ : s₂ = ((({ U with heap := s₂.heap, slotsUsed := s₂.slotsUsed } : State).setVm s₂.vm).setTop g).pushFrame (.throwing q) := by
      refine e3.trans ?_
      rw [hf₂, State.calling_eq h.top, State.setFrames_setFrames, State.pushFrame, State.frames_setTop _ hr', State.setTop_of_frames _ hr', State.setFrames_setFrames, hr]
      rfl
    have hsame : U.sameButNew ({ U with heap := s₂.heap, slotsUsed := s₂.slotsUsed } : State) L mc ms := by
      refine ⟨?_, q2, q3, q4, q5, q6⟩
      obtain ⟨t, ht, -⟩ := State.frames_cons hr
      show ({ U with heap := s₂.heap, slotsUsed := s₂.slotsUsed } : State) = { U.setFrames U.frames with heap := s₂.heap, slotsUsed := s₂.slotsUsed }
      rw [State.setFrames_self ht]
    subst hg
    refine Or.inr ⟨q, ⟨(({ U with heap := s₂.heap, slotsUsed := s₂.slotsUsed } : State).setVm s₂.vm), Ls ++ L, c0 + mc, s0 + ms⟩,
      ⟨X.admits, X.cas, X.clock, X.frames, X.room, X.hears, X.method, X.code, (X.here.setHeapUsed s₂.heap s₂.slotsUsed).setVm hW'.alike, X.tail, State.WarmedH.trans X.warmed hW', X.limits, X.bytes, X.same.trans (hsame.setVm s.vm)⟩,
      ⟨g, mk, s₂, L, E, ce, rfl, rfl, hx, hce, hcv, hcl, rfl, hL, rfl, rfl⟩, ?_⟩
    show Steps p.tables e below _ (((({ U with heap := s₂.heap, slotsUsed := s₂.slotsUsed } : State).setVm s₂.vm).setTop g).pushFrame (.throwing q))
    rw [← hs₂]
    exact hsteps
end
variable {p : Program} {l : Launch} {e : Env} {R : Room} {s : State} {m : MethodId} {args : Array Value} {below : List Frame} {meth : Method} {c : Code} {T : State} {H : Heap} {locs : List Loc} {cells slots : Nat}
theorem vx_callVX (X : Stand p l e R s m args below meth c T locs cells slots) (hexec : p.tables.exec = Jvm.exec) {own C : String} {index : Nat} {y : MethodName} {bytes : ByteArray} {maxL : Nat} {ret : Option FieldType} {hh : List (Nat × Nat × Nat × Nat)}
    (hown : s.vm.findClass own = some m.cls) (hlink : (Cond.methodLink own index y).before args s = true) (hinst : (Cond.instanceMethod y).before args s = true) (hsel : (Cond.selects C y y).before args s = true)
    (hcode : (Cond.codeWith y bytes maxL ret hh).before args s = true) (hy : y.cls ≠ "java/lang/invoke/MethodHandle" ∧ y.cls ≠ "java/lang/invoke/VarHandle")
    {W9 : Nat} {Pre : Pt → Array Value → Prop} {Post : Pt → Array Value → Option Value → Pt → Prop} {PostX : Pt → Array Value → Addr → Pt → Prop} (hK : vx_Back l R p e below s args y 3 W9 Pre Post PostX)
    {b : Addr} {cellB : Cell} (hcell : T.heap[b]? = some cellB) (hobj : cellB.vm.isStatics = false) (hcls : s.vm.findClass C = some cellB.cls)
    {g : JFrame} (hg : g.method = m) (hsize : g.locals.size = c.maxLocals) {argsL rest : List Value} (hlen : ∀ sig, parseMethodDescriptor y.desc = some sig → argsL.length = sig.parameters.length)
    (hstack : g.stack = argsL.reverse ++ .ref b :: rest) (hW : 2 * g.monitorRoom + (rest.map fun v => v.category).sum ≤ W9) (hdg : decode c.code g.pc = .ok (.invokevirtual index, 3))
    (hpre : ∀ vm₁, s.WarmedH vm₁ → Pre ⟨T.setVm vm₁, locs, cells, slots⟩ (Value.ref b :: argsL).toArray) :
    (∃ (v : Option Value) (vm₁ : Vm) (B : Pt), s.WarmedH vm₁ ∧ Stand p l e R s m args below meth c B.U B.locs B.cells B.slots ∧ Post ⟨T.setVm vm₁, locs, cells, slots⟩ (Value.ref b :: argsL).toArray v B ∧
      ∀ target, Steps p.tables e below (B.U.setTop { g with pc := g.pc + 3, stack := v.toList ++ rest }) target → Steps p.tables e below (T.setTop g) target) ∨
    (∃ (q : Addr) (vm₁ : Vm) (B : Pt), s.WarmedH vm₁ ∧ Stand p l e R s m args below meth c B.U B.locs B.cells B.slots ∧ PostX ⟨T.setVm vm₁, locs, cells, slots⟩ (Value.ref b :: argsL).toArray q B ∧
      Steps p.tables e below (T.setTop g) ((B.U.setTop { g with stack := rest }).pushFrame (.throwing q))) := by
  obtain ⟨mk, methM, hnamed, hmethM, hstM, habM⟩ := Cond.instanceMethod_spec hinst
  obtain ⟨m8, methM', cM, hn8, hmethM', -, -, -, -, -, -, hsigM⟩ := Cond.codeWith_spec hcode
  cases Option.some.inj (hn8.symm.trans hnamed)
  cases hmethM.symm.trans hmethM'
  obtain ⟨c2, r2, m2, q1, q2, q3, q4, kP, hkP, hkPi⟩ := Cond.selects_spec hsel
  cases hcls.symm.trans q1
  cases (State.methodFound?_of_named hnamed hy).symm.trans q2
  cases hnamed.symm.trans q3
  have hselP : selectMethod e.platform s.vm cellB.cls mk = .method mk := by rw [Launch.admits_selectMethod X.admits]; exact q4
  obtain ⟨vm₁, X₁, hstep₁⟩ := X.invokevirtual hexec hown hlink hnamed hmethM hstM hkP hkPi hy (a := b) (cell := cellB) hcell
    (fun z h => by rw [h] at hobj; cases hobj) hselP hmethM habM hkP hkPi (g := g) hg (argsL := argsL) (rest := rest) (hlen _ hsigM) hstack hdg
  rcases hK m meth c ⟨T.setVm vm₁, locs, cells, slots⟩ { g with stack := rest } (.invokevirtual index) mk (Value.ref b :: argsL).toArray X₁ hg hsize hdg hW (X₁.named hnamed) (hpre vm₁ X₁.warmed) with ⟨v, B, X', hpost, hsteps⟩ | ⟨q, B, X', hpost, hsteps⟩
  · exact Or.inl ⟨v, vm₁, B, X₁.warmed, X', hpost, fun target h => hstep₁ _ fun acts => by rw [doInvoke_state]; exact hsteps.trans h⟩
  · exact Or.inr ⟨q, vm₁, B, X₁.warmed, X', hpost, hstep₁ _ fun acts => by rw [doInvoke_state]; exact hsteps⟩
theorem vx_callSX (X : Stand p l e R s m args below meth c T locs cells slots) (hexec : p.tables.exec = Jvm.exec) {own : String} {index : Nat} {y : MethodName} {bytes : ByteArray} {maxL : Nat} {ret : Option FieldType} {hh : List (Nat × Nat × Nat × Nat)}
    (hown : s.vm.findClass own = some m.cls) (hlink : (Cond.methodLink own index y).before args s = true) (hstat : (Cond.static y).before args s = true) (hinit : (Cond.initialized y.cls).before args s = true)
    (hcode : (Cond.codeWith y bytes maxL ret hh).before args s = true) (hy : y.cls ≠ "java/lang/invoke/MethodHandle" ∧ y.cls ≠ "java/lang/invoke/VarHandle")
    {W9 : Nat} {Pre : Pt → Array Value → Prop} {Post : Pt → Array Value → Option Value → Pt → Prop} {PostX : Pt → Array Value → Addr → Pt → Prop} (hK : vx_Back l R p e below s args y 3 W9 Pre Post PostX)
    {g : JFrame} (hg : g.method = m) (hsize : g.locals.size = c.maxLocals) {argsL rest : List Value} (hlen : ∀ sig, parseMethodDescriptor y.desc = some sig → argsL.length = sig.parameters.length)
    (hstack : g.stack = argsL.reverse ++ rest) (hW : 2 * g.monitorRoom + (rest.map fun v => v.category).sum ≤ W9) (hdg : decode c.code g.pc = .ok (.invokestatic index, 3))
    (hpre : ∀ vm₁, s.WarmedH vm₁ → Pre ⟨T.setVm vm₁, locs, cells, slots⟩ argsL.toArray) :
    (∃ (v : Option Value) (vm₁ : Vm) (B : Pt), s.WarmedH vm₁ ∧ Stand p l e R s m args below meth c B.U B.locs B.cells B.slots ∧ Post ⟨T.setVm vm₁, locs, cells, slots⟩ argsL.toArray v B ∧
      ∀ target, Steps p.tables e below (B.U.setTop { g with pc := g.pc + 3, stack := v.toList ++ rest }) target → Steps p.tables e below (T.setTop g) target) ∨
    (∃ (q : Addr) (vm₁ : Vm) (B : Pt), s.WarmedH vm₁ ∧ Stand p l e R s m args below meth c B.U B.locs B.cells B.slots ∧ PostX ⟨T.setVm vm₁, locs, cells, slots⟩ argsL.toArray q B ∧
      Steps p.tables e below (T.setTop g) ((B.U.setTop { g with stack := rest }).pushFrame (.throwing q))) := by
  obtain ⟨mk, methM, cM, hnamed, hmethM, -, -, -, -, -, -, hsigM⟩ := Cond.codeWith_spec hcode
  have hstatic : methM.isStatic = true := Cond.static_spec hnamed hmethM hstat
  obtain ⟨kP, hkP, -⟩ := className_of_methodNamed hnamed
  have hinitP : kP.init = .initialized := Cond.initialized_spec (findClass_of_methodNamed hnamed) hkP hinit
  obtain ⟨vm₁, X₁, hstep₁⟩ := X.invokestatic hexec hown hlink hnamed hmethM hstatic hkP hinitP hy (g := g) hg (argsL := argsL) (rest := rest) (hlen _ hsigM) hstack hdg
  rcases hK m meth c ⟨T.setVm vm₁, locs, cells, slots⟩ { g with stack := rest } (.invokestatic index) mk argsL.toArray X₁ hg hsize hdg hW (X₁.named hnamed) (hpre vm₁ X₁.warmed) with ⟨v, B, X', hpost, hsteps⟩ | ⟨q, B, X', hpost, hsteps⟩
  · exact Or.inl ⟨v, vm₁, B, X₁.warmed, X', hpost, fun target h => hstep₁ _ fun acts => by rw [doInvoke_state]; exact hsteps.trans h⟩
  · exact Or.inr ⟨q, vm₁, B, X₁.warmed, X', hpost, hstep₁ _ fun acts => by rw [doInvoke_state]; exact hsteps⟩
theorem vx_callVW (X : Stand p l e R s m args below meth c T locs cells slots) (hexec : p.tables.exec = Jvm.exec) {own C : String} {index : Nat} {y : MethodName} {bytes : ByteArray} {maxL : Nat} {ret : Option FieldType} {hh : List (Nat × Nat × Nat × Nat)}
    (hown : s.vm.findClass own = some m.cls) (hlink : (Cond.methodLink own index y).before args s = true) (hinst : (Cond.instanceMethod y).before args s = true) (hsel : (Cond.selects C y y).before args s = true)
    (hcode : (Cond.codeWith y bytes maxL ret hh).before args s = true) (hy : y.cls ≠ "java/lang/invoke/MethodHandle" ∧ y.cls ≠ "java/lang/invoke/VarHandle")
    {W9 : Nat} {Pre : Pt → Array Value → Prop} {Post : Pt → Array Value → Option Value → Pt → Prop} (hK : Back l R p e below s args y 3 W9 Pre Post)
    {b : Addr} {cellB : Cell} (hcell : T.heap[b]? = some cellB) (hobj : cellB.vm.isStatics = false) (hcls : s.vm.findClass C = some cellB.cls)
    {g : JFrame} (hg : g.method = m) (hsize : g.locals.size = c.maxLocals) {argsL rest : List Value} (hlen : ∀ sig, parseMethodDescriptor y.desc = some sig → argsL.length = sig.parameters.length)
    (hstack : g.stack = argsL.reverse ++ .ref b :: rest) (hW : 2 * g.monitorRoom + (rest.map fun v => v.category).sum ≤ W9) (hdg : decode c.code g.pc = .ok (.invokevirtual index, 3))
    (hpre : ∀ vm₁, s.WarmedH vm₁ → Pre ⟨T.setVm vm₁, locs, cells, slots⟩ (Value.ref b :: argsL).toArray) :
    ∃ (v : Option Value) (vm₁ : Vm) (B : Pt), s.WarmedH vm₁ ∧ Stand p l e R s m args below meth c B.U B.locs B.cells B.slots ∧ Post ⟨T.setVm vm₁, locs, cells, slots⟩ (Value.ref b :: argsL).toArray v B ∧
      ∀ target, Steps p.tables e below (B.U.setTop { g with pc := g.pc + 3, stack := v.toList ++ rest }) target → Steps p.tables e below (T.setTop g) target := by
  obtain ⟨mk, methM, hnamed, hmethM, hstM, habM⟩ := Cond.instanceMethod_spec hinst
  obtain ⟨m8, methM', cM, hn8, hmethM', -, -, -, -, -, -, hsigM⟩ := Cond.codeWith_spec hcode
  cases Option.some.inj (hn8.symm.trans hnamed)
  cases hmethM.symm.trans hmethM'
  obtain ⟨c2, r2, m2, q1, q2, q3, q4, kP, hkP, hkPi⟩ := Cond.selects_spec hsel
  cases hcls.symm.trans q1
  cases (State.methodFound?_of_named hnamed hy).symm.trans q2
  cases hnamed.symm.trans q3
  have hselP : selectMethod e.platform s.vm cellB.cls mk = .method mk := by rw [Launch.admits_selectMethod X.admits]; exact q4
  obtain ⟨vm₁, X₁, hstep₁⟩ := X.invokevirtual hexec hown hlink hnamed hmethM hstM hkP hkPi hy (a := b) (cell := cellB) hcell
    (fun z h => by rw [h] at hobj; cases hobj) hselP hmethM habM hkP hkPi (g := g) hg (argsL := argsL) (rest := rest) (hlen _ hsigM) hstack hdg
  obtain ⟨v, B, X', hpost, hsteps⟩ := hK m meth c ⟨T.setVm vm₁, locs, cells, slots⟩ { g with stack := rest } (.invokevirtual index) mk (Value.ref b :: argsL).toArray X₁ hg hsize hdg hW (X₁.named hnamed) (hpre vm₁ X₁.warmed)
  exact ⟨v, vm₁, B, X₁.warmed, X', hpost, fun target h => hstep₁ _ fun acts => by rw [doInvoke_state]; exact hsteps.trans h⟩
abbrev vx_CVW (R : Room) (s : State) (args : Array Value) (own C : String) (index : Nat) (y : MethodName) (bytes : ByteArray) (maxL : Nat) (ret : Option FieldType) (hh : List (Nat × Nat × Nat × Nat)) (ws : List Cond) (rm : Room) (mc ms n : Nat) : Prop :=
  (rm.cells = mc ∧ rm.slots = ms ∧ rm.frames + 1 ≤ R.frames ∧ 8 + (maxL + 11) + rm.locals ≤ R.locals ∧ (∀ w ∈ ws, ∀ (a' : Array Value) (U : State), s.WarmedH U.vm → w.before a' U = true) ∧ Cond.codeWith y bytes maxL ret hh ∈ ws) ∧
  (Cond.codeWith y bytes maxL ret hh).before args s = true ∧ (Cond.initialized y.cls).before args s = true ∧ (y.cls ≠ "java/lang/invoke/MethodHandle" ∧ y.cls ≠ "java/lang/invoke/VarHandle") ∧
  (∀ sig, parseMethodDescriptor y.desc = some sig → n = sig.parameters.length) ∧ (Cond.methodLink own index y).before args s = true ∧ (Cond.instanceMethod y).before args s = true ∧ (Cond.selects C y y).before args s = true
theorem vx_cwVW {own C : String} {index maxL mc ms : Nat} {y : MethodName} {bytes : ByteArray} {ret : Option FieldType} {hh : List (Nat × Nat × Nat × Nat)} {Ts ws ws' : List Cond} {rm : Room} (n : Nat) (ht : ∀ w ∈ Ts, w.before args s = true) (hT : GoodIn Ts (wsV own index C y ws)) (hw : ws = Cond.codeWith y bytes maxL ret hh :: ws') (hrc : rm.cells = mc) (hrs : rm.slots = ms)
    (hd : y.cls = C ∧ y.cls ≠ "java/lang/invoke/MethodHandle" ∧ y.cls ≠ "java/lang/invoke/VarHandle" ∧ (parseMethodDescriptor y.desc).map (fun d => d.parameters.length) = some n) (hR : rm.frames + 1 ≤ R.frames ∧ 8 + (maxL + 11) + rm.locals ≤ R.locals) :
    vx_CVW R s args own C index y bytes maxL ret hh ws rm mc ms n := by
  obtain ⟨hC, hd⟩ := hd
  subst hC
  have ok : ∀ w ∈ wsV own index y.cls y ws, w.before args s = true := fun w h => ht w (hT w h).1
  have hG : GoodIn Ts ws := fun w h => hT w (by unfold wsV; exact List.mem_append_right _ h)
  have hc : Cond.codeWith y bytes maxL ret hh ∈ ws := by rw [hw]; exact List.mem_cons_self
  refine ⟨⟨hrc, hrs, hR.1, hR.2, pay_in ht hG, hc⟩, ht _ (hG _ hc).1, ok _ (by simp [wsV]), ⟨hd.1, hd.2.1⟩, fun sig h => ?_, ok _ (by simp [wsV]), ok _ (by simp [wsV]), ok _ (by simp [wsV])⟩
  have h2 := hd.2.2
  rw [h] at h2
  exact (Option.some.inj h2).symm
theorem vx_runVW {y : MethodName} {bytes cc : ByteArray} {maxL nL mc ms n index : Nat} {ret : Option FieldType} {hh : List (Nat × Nat × Nat × Nat)} {ws : List Cond} {rm : Room} {Pc : Array Value → State → Prop} {Qc : Array Value → State → Outcome → State → Prop} {free : Addr → Prop} {Ts : List Cond} {own C : String} {b : Addr} {As rest : List Value} {g : JFrame}
    (S : CallFix p m c cc nL s args Ts own) (hM : Met l y ws rm Pc Qc mc ms free) (cw : vx_CVW R s args own C index y bytes maxL ret hh ws rm mc ms n) (hp : PreV s H C b Pc As)
    (hg : g.method = m) (hn : As.length = n) (hsize : g.locals.size = nL) (hstack : g.stack = As.reverse ++ .ref b :: rest) (hW : 2 * g.monitorRoom + (rest.map fun v => v.category).sum ≤ 8) (hdg : decode cc g.pc = .ok (.invokevirtual index, 3)) (hf : cells + mc ≤ R.cells ∧ slots + ms ≤ R.slots) :
    va_Run p l e R s m args below meth c H locs cells slots mc ms g rest (Qc (Value.ref b :: As).toArray) free := by
  obtain ⟨⟨hrc, hrs, hfr, hlo, hws, hcw⟩, hcode, hini, hy, hlen, hl, hin, hse⟩ := cw
  have hK : Back l R p e below s args y 3 8 (PreOf R mc ms Pc) (PostOf Qc mc ms free) := va_backW (hh := hh) (bytes := bytes) (maxL := maxL) (ret := ret) hM hp.1 hrc hrs hfr hlo hws hcw (fun a' U hW => word_at hW (Or.inl (by first | rfl | simp [Cond.onTables, Cond.keeps, Cond.steady])) hini)
  obtain ⟨hx, hb, hml, ho, -⟩ := S
  obtain ⟨-, ⟨cellB, hcB, hoB, hclB⟩, hPc⟩ := hp
  intro T hT X
  obtain ⟨v, vm₁, ⟨U', l2, c2, s2⟩, hW₁, X', ⟨g', mk, t, L, e1, e2, hq, h1, hL, h2, h3⟩, st⟩ := vx_callVW X hx (C := C) (hh := hh) (bytes := bytes) (maxL := maxL) (ret := ret) ho hl hin hse hcode hy hK (by rw [hT]; exact hcB) hoB hclB hg (hsize.trans hml.symm) (argsL := As) (rest := rest) (fun sig h => hn.trans (hlen sig h)) hstack hW (by rw [hb]; exact hdg)
    (fun vm₁ hW₁ => ⟨hf.1, hf.2, hPc (T.setVm vm₁) hT hW₁⟩)
  dsimp only [Pt.U, Pt.locs, Pt.cells, Pt.slots] at X' e1 e2 h1 h2 h3 st
  subst h1; subst h2; subst h3
  exact ⟨v, (T.setVm vm₁).calling g' mk (Value.ref b :: As).toArray, t, U', L, hT, X', hL, e1, e2, hq, st⟩
section
variable {y : MethodName} {bytes cc : ByteArray} {maxL nL mc ms n index : Nat} {ret : Option FieldType} {ws : List Cond} {rm : Room} {Pc : Array Value → State → Prop} {Qc : Array Value → State → Outcome → State → Prop} {XC : String → State → State → Prop} {free : Addr → Prop} {Ts : List Cond} {own C : String} {b : Addr} {As rest : List Value} {g : JFrame}
theorem vx_runVX {hh : List (Nat × Nat × Nat × Nat)} (S : CallFix p m c cc nL s args Ts own) (hM : vx_Met l y ws rm Pc Qc XC mc ms free) (cw : vx_CVW R s args own C index y bytes maxL ret hh ws rm mc ms n) (hp : PreV s H C b Pc As)
    (hg : g.method = m) (hn : As.length = n) (hsize : g.locals.size = nL) (hstack : g.stack = As.reverse ++ .ref b :: rest) (hW : 2 * g.monitorRoom + (rest.map fun v => v.category).sum ≤ 8) (hdg : decode cc g.pc = .ok (.invokevirtual index, 3)) (hf : cells + mc ≤ R.cells ∧ slots + ms ≤ R.slots) :
    vx_Run p l e R s m args below meth c H locs cells slots mc ms g rest (Qc (Value.ref b :: As).toArray) XC free := by
  obtain ⟨⟨hrc, hrs, hfr, hlo, hws, hcw⟩, hcode, hini, hy, hlen, hl, hin, hse⟩ := cw
  have hK : vx_Back l R p e below s args y 3 8 (PreOf R mc ms Pc) (PostOf Qc mc ms free) (vx_Post XC mc ms free) := vx_backW (hh := hh) (bytes := bytes) (maxL := maxL) (ret := ret) hM hp.1 hrc hrs hfr hlo hws hcw (fun a' U hW => word_at hW (Or.inl (by first | rfl | simp [Cond.onTables, Cond.keeps, Cond.steady])) hini)
  obtain ⟨hx, hb, hml, ho, -⟩ := S
  obtain ⟨-, ⟨cellB, hcB, hoB, hclB⟩, hPc⟩ := hp
  intro T hT X
  rcases vx_callVX X hx (C := C) (hh := hh) (bytes := bytes) (maxL := maxL) (ret := ret) ho hl hin hse hcode hy hK (by rw [hT]; exact hcB) hoB hclB hg (hsize.trans hml.symm) (argsL := As) (rest := rest) (fun sig h => hn.trans (hlen sig h)) hstack hW (by rw [hb]; exact hdg)
    (fun vm₁ hW₁ => ⟨hf.1, hf.2, hPc (T.setVm vm₁) hT hW₁⟩) with ⟨v, vm₁, ⟨U', l2, c2, s2⟩, hW₁, X', ⟨g', mk, t, L, e1, e2, hq, h1, hL, h2, h3⟩, st⟩ | ⟨q, vm₁, ⟨U', l2, c2, s2⟩, hW₁, X', ⟨g', mk, t, L, E, ce, e1, e2, hq, hce, hcv, hcl, h1, hL, h2, h3⟩, st⟩
  · dsimp only [Pt.U, Pt.locs, Pt.cells, Pt.slots] at X' e1 e2 h1 h2 h3 st
    subst h1; subst h2; subst h3
    exact Or.inl ⟨v, (T.setVm vm₁).calling g' mk (Value.ref b :: As).toArray, t, U', L, hT, X', hL, e1, e2, hq, st⟩
  · dsimp only [Pt.U, Pt.locs, Pt.cells, Pt.slots] at X' e1 e2 h1 h2 h3 st hcl
    subst h1; subst h2; subst h3
    exact Or.inr ⟨q, (T.setVm vm₁).calling g' mk (Value.ref b :: As).toArray, t, U', L, E, ce, hT, X', hL, e1, e2, hq, hce, hcv, vx_cls hW₁ hcl, st⟩
theorem vx_runSX {hh : List (Nat × Nat × Nat × Nat)} (S : CallFix p m c cc nL s args Ts own) (hM : vx_Met l y ws rm Pc Qc XC mc ms free) (cw : vx_CSW R s args own index y bytes maxL ret hh ws rm mc ms n) (hp : PreS s H Pc As)
    (hg : g.method = m) (hn : As.length = n) (hsize : g.locals.size = nL) (hstack : g.stack = As.reverse ++ rest) (hW : 2 * g.monitorRoom + (rest.map fun v => v.category).sum ≤ 8) (hdg : decode cc g.pc = .ok (.invokestatic index, 3)) (hf : cells + mc ≤ R.cells ∧ slots + ms ≤ R.slots) :
    vx_Run p l e R s m args below meth c H locs cells slots mc ms g rest (Qc As.toArray) XC free := by
  obtain ⟨⟨hrc, hrs, hfr, hlo, hws, hcw⟩, hcode, hini, hy, hlen, hl, hstt⟩ := cw
  have hK : vx_Back l R p e below s args y 3 8 (PreOf R mc ms Pc) (PostOf Qc mc ms free) (vx_Post XC mc ms free) := vx_backW (hh := hh) (bytes := bytes) (maxL := maxL) (ret := ret) hM hp.1 hrc hrs hfr hlo hws hcw (fun a' U hW => word_at hW (Or.inl (by first | rfl | simp [Cond.onTables, Cond.keeps, Cond.steady])) hini)
  obtain ⟨hx, hb, hml, ho, -⟩ := S
  intro T hT X
  rcases vx_callSX X hx (hh := hh) (bytes := bytes) (maxL := maxL) (ret := ret) ho hl hstt hini hcode hy hK hg (hsize.trans hml.symm) (argsL := As) (rest := rest) (fun sig h => hn.trans (hlen sig h)) hstack hW (by rw [hb]; exact hdg)
    (fun vm₁ hW₁ => ⟨hf.1, hf.2, hp.2 (T.setVm vm₁) hT hW₁⟩) with ⟨v, vm₁, ⟨U', l2, c2, s2⟩, hW₁, X', ⟨g', mk, t, L, e1, e2, hq, h1, hL, h2, h3⟩, st⟩ | ⟨q, vm₁, ⟨U', l2, c2, s2⟩, hW₁, X', ⟨g', mk, t, L, E, ce, e1, e2, hq, hce, hcv, hcl, h1, hL, h2, h3⟩, st⟩
  · dsimp only [Pt.U, Pt.locs, Pt.cells, Pt.slots] at X' e1 e2 h1 h2 h3 st
    subst h1; subst h2; subst h3
    exact Or.inl ⟨v, (T.setVm vm₁).calling g' mk As.toArray, t, U', L, hT, X', hL, e1, e2, hq, st⟩
  · dsimp only [Pt.U, Pt.locs, Pt.cells, Pt.slots] at X' e1 e2 h1 h2 h3 st hcl
    subst h1; subst h2; subst h3
    exact Or.inr ⟨q, (T.setVm vm₁).calling g' mk As.toArray, t, U', L, E, ce, hT, X', hL, e1, e2, hq, hce, hcv, vx_cls hW₁ hcl, st⟩
end
end VXH
theorem vx_ofWH {l : Launch} {y : MethodName} {ws ws' : List Cond} {rm : Room} {Pc : Array Value → State → Prop} {Qc : Array Value → State → Outcome → State → Prop} {XC : String → State → State → Prop} {mc ms : Nat} {free : Addr → Prop} {cc : ByteArray} {maxL : Nat} {ret : Option FieldType} {hh : List (Nat × Nat × Nat × Nat)}
    (hy : plainName y.cls = true) (hw : ws = Cond.codeWith y cc maxL ret hh :: ws')
    (body : ∀ p e s m args below meth c s₁, BodyLoose p l y (headSpec ws rm) cc maxL ret e s m args below meth c s₁ → c.maxLocals = maxL → Pc args s →
      W p l e (headSpec ws rm).room s m args below meth c s.heap [] 0 0 (vx_MQ below Qc XC args s mc ms free) (entryFrame m args maxL)) : vx_Met l y ws rm Pc Qc XC mc ms free := by
  refine MetFree.of_bodyS (code := cc) (maxLocals := maxL) (ret := ret) hy ?_ ?_
  · intro args s m h hn
    obtain ⟨m9, meth, c, hn9, h1, h2, h3, h4, -, h5, h6, -⟩ := Cond.codeWith_spec (atoms_spec (ws := ws) h _ (by rw [hw]; exact List.mem_cons_self))
    cases hn.symm.trans hn9
    exact ⟨meth, c, h1, h2, h3, h4, h5, h6⟩
  · intro p e s m args below meth c s₁ B hml hP _
    have hh0 : s₁.heap = s.heap := by rw [B.state]; rfl
    obtain ⟨t, a1, o, b1, b2, b3⟩ := body p e s m args below meth c s₁ B hml hP s₁ hh0 (Stand.of_body B)
    exact ⟨t, o, a1, b1, b2, b3⟩
/-! ===== END ===== -/
end
section
/-! worlds as lists of cells; a reference is a place in the list -/
abbrev ev_A : Type := FieldType × Nat × ((Nat → Int32) ⊕ (Nat → Int64))
abbrev ev_E : Type := ev_A ⊕ (Nat × List Value)
abbrev ev_H : Type := List ev_E
abbrev ev_R : Type := Nat → Nat × ClassId
abbrev ev_L : Type := List (Option Value)
abbrev ev_O : Type := Option Value × ev_H
abbrev ev_K : Type := ev_L → List Value → ev_H → Option ev_O
abbrev ev_N : Type := List (String × Nat × MethodName × String)
def ev_n {α : Type} : List α → Nat → Option α
  | [], _ => none
  | a :: _, 0 => some a
  | _ :: l, k + 1 => ev_n l k
def ev_s {α : Type} : List α → Nat → α → List α
  | [], _, _ => []
  | _ :: l, 0, x => x :: l
  | a :: l, k + 1, x => a :: ev_s l k x
theorem ev_n_eq {α : Type} : ∀ (l : List α) (k : Nat), ev_n l k = l[k]?
  | [], k => by simp [ev_n]
  | a :: l, 0 => by simp [ev_n]
  | a :: l, k + 1 => by simp [ev_n, ev_n_eq l k]
theorem ev_s_eq {α : Type} : ∀ (l : List α) (k : Nat) (x : α), ev_s l k x = l.set k x
  | [], k, x => by simp [ev_s]
  | a :: l, 0, x => by simp [ev_s]
  | a :: l, k + 1, x => by simp [ev_s, ev_s_eq l k x]
theorem ev_n_s {α : Type} (l : List α) (k j : Nat) (x y : α) (h : ev_n (ev_s l k x) j = some y) : (j = k ∧ y = x) ∨ (j ≠ k ∧ ev_n l j = some y) := by
  rw [ev_n_eq, ev_s_eq, List.getElem?_set] at h
  by_cases hk : k = j
  · subst hk
    rw [if_pos rfl] at h
    split at h
    · cases h
      exact Or.inl ⟨rfl, rfl⟩
    · cases h
  · rw [if_neg hk] at h
    exact Or.inr ⟨fun q => hk q.symm, by rw [ev_n_eq]; exact h⟩
theorem ev_s_len {α : Type} (l : List α) (k : Nat) (x : α) : (ev_s l k x).length = l.length := by rw [ev_s_eq, List.length_set]
/-- a value of the list as a value of the heap: a place's address; 'retAddr b' stands for the address b itself -/
def ev_v (ρ : ev_R) (v : Value) : Value := match v with
  | .ref a => .ref (ρ a).1
  | .retAddr b => .ref b
  | .int x => .int x
  | .long x => .long x
  | .float x => .float x
  | .double x => .double x
  | .null => .null
theorem ev_v_cat (ρ : ev_R) (v : Value) : (ev_v ρ v).category = v.category := by cases v <;> rfl
theorem ev_v_cats (ρ : ev_R) (st : List Value) : ((st.map (ev_v ρ)).map fun v => v.category) = st.map fun v => v.category := by
  rw [List.map_map]
  exact List.map_congr_left fun v _ => ev_v_cat ρ v
def ev_e (ρ : ev_R) (k : Nat) (x : ev_E) : va_E := match x with
  | .inl (_, n, .inl f) => .inl ((ρ k).2, n, .inl f)
  | .inl (_, n, .inr f) => .inl ((ρ k).2, n, .inr (.inl f))
  | .inr (ci, fs) => .inr (ci, fs.map (ev_v ρ))
def ev_w (ρ : ev_R) (A : ev_H) : va_W := A.mapIdx fun k x => ((ρ k).1, ev_e ρ k x)
theorem ev_w_get (ρ : ev_R) (A : ev_H) (k : Nat) : (ev_w ρ A)[k]? = A[k]?.map (fun x => ((ρ k).1, ev_e ρ k x)) := by
  unfold ev_w
  rw [List.getElem?_mapIdx]
theorem ev_w_at {ρ : ev_R} {A : ev_H} {k : Nat} {x : ev_E} (h : ev_n A k = some x) : (ev_w ρ A)[k]? = some ((ρ k).1, ev_e ρ k x) := by
  rw [ev_w_get, ← ev_n_eq, h]
  rfl
theorem ev_w_len (ρ : ev_R) (A : ev_H) : (ev_w ρ A).length = A.length := by unfold ev_w; exact List.length_mapIdx
theorem ev_w_set (ρ : ev_R) (A : ev_H) (k : Nat) (x : ev_E) : ev_w ρ (ev_s A k x) = (ev_w ρ A).set k ((ρ k).1, ev_e ρ k x) := by
  apply List.ext_getElem?
  intro i
  rw [ev_w_get, ev_s_eq, List.getElem?_set, List.getElem?_set, ev_w_len, ev_w_get]
  by_cases h : k = i
  · subst h
    rw [if_pos rfl, if_pos rfl]
    by_cases hl : k < A.length
    · rw [if_pos hl, if_pos hl]
      rfl
    · rw [if_neg hl, if_neg hl]
      rfl
  · rw [if_neg h, if_neg h]
def ev_okv (n : Nat) (v : Value) : Bool := match v with
  | .ref a => Nat.blt a n
  | _ => true
def ev_okl (n : Nat) : ev_L → Bool
  | [] => true
  | none :: l => ev_okl n l
  | some v :: l => ev_okv n v && ev_okl n l
def ev_oks (n : Nat) : List Value → Bool
  | [] => true
  | v :: l => ev_okv n v && ev_oks n l
def ev_okh (n : Nat) : ev_H → Bool
  | [] => true
  | .inl _ :: l => ev_okh n l
  | .inr (_, fs) :: l => ev_oks n fs && ev_okh n l
theorem ev_okv_eq {n : Nat} {ρ ρ' : ev_R} (ha : ∀ k, k < n → ρ' k = ρ k) {v : Value} (h : ev_okv n v = true) : ev_v ρ' v = ev_v ρ v := by
  cases v with
  | ref a =>
    have : a < n := by simpa [ev_okv, Nat.blt_eq] using h
    show Value.ref (ρ' a).1 = Value.ref (ρ a).1
    rw [ha a this]
  | _ => rfl
theorem ev_oks_eq {n : Nat} {ρ ρ' : ev_R} (ha : ∀ k, k < n → ρ' k = ρ k) : ∀ {st : List Value}, ev_oks n st = true → st.map (ev_v ρ') = st.map (ev_v ρ)
  | [], _ => rfl
  | v :: st, h => by
    simp only [ev_oks, Bool.and_eq_true] at h
    rw [List.map_cons, List.map_cons, ev_okv_eq ha h.1, ev_oks_eq ha h.2]
theorem ev_okl_eq {n : Nat} {ρ ρ' : ev_R} (ha : ∀ k, k < n → ρ' k = ρ k) : ∀ {lo : ev_L}, ev_okl n lo = true → ∀ (i : Nat) (v : Value), ev_n lo i = some (some v) → ev_v ρ' v = ev_v ρ v
  | [], _, i, v, hi => by simp [ev_n] at hi
  | none :: lo, h, 0, v, hi => by simp [ev_n] at hi
  | none :: lo, h, i + 1, v, hi => ev_okl_eq ha (lo := lo) h i v hi
  | some u :: lo, h, 0, v, hi => by
    simp only [ev_okl, Bool.and_eq_true] at h
    simp only [ev_n, Option.some.injEq] at hi
    subst hi
    exact ev_okv_eq ha h.1
  | some u :: lo, h, i + 1, v, hi => by
    simp only [ev_okl, Bool.and_eq_true] at h
    exact ev_okl_eq ha (lo := lo) h.2 i v hi
theorem ev_okh_eq {n : Nat} {ρ ρ' : ev_R} (ha : ∀ k, k < n → ρ' k = ρ k) : ∀ {A : ev_H}, ev_okh n A = true → ∀ (i : Nat) (x : ev_E), A[i]? = some x → i < n → ev_e ρ' i x = ev_e ρ i x
  | [], _, i, x, hi, _ => by simp at hi
  | a :: A, h, i, x, hi, hn => by
    have key : ∀ (j : Nat), j < n → ev_okh n [x] = true → ev_e ρ' j x = ev_e ρ j x := by
      intro j hj hx
      rcases x with ⟨ty, N, f | f⟩ | ⟨ci, fs⟩
      · show (Sum.inl ((ρ' j).2, N, Sum.inl f) : va_E) = Sum.inl ((ρ j).2, N, Sum.inl f)
        rw [ha j hj]
      · show (Sum.inl ((ρ' j).2, N, Sum.inr (Sum.inl f)) : va_E) = Sum.inl ((ρ j).2, N, Sum.inr (Sum.inl f))
        rw [ha j hj]
      · simp only [ev_okh, Bool.and_true] at hx
        show (Sum.inr (ci, fs.map (ev_v ρ')) : va_E) = Sum.inr (ci, fs.map (ev_v ρ))
        rw [ev_oks_eq ha hx]
    have mem : ∀ (B : ev_H) (j : Nat), ev_okh n B = true → B[j]? = some x → ev_okh n [x] = true := by
      intro B
      induction B with
      | nil => intro j _ h; simp at h
      | cons b B ih =>
        intro j hb hj
        cases j with
        | zero =>
          simp only [List.getElem?_cons_zero, Option.some.injEq] at hj
          subst hj
          rcases b with b | ⟨ci, fs⟩
          · rfl
          · simp only [ev_okh, Bool.and_eq_true] at hb
            simp only [ev_okh, Bool.and_true]
            exact hb.1
        | succ j =>
          rw [List.getElem?_cons_succ] at hj
          refine ih j ?_ hj
          rcases b with b | ⟨ci, fs⟩
          · exact hb
          · simp only [ev_okh, Bool.and_eq_true] at hb
            exact hb.2
    exact key i hn (mem (a :: A) i h hi)
theorem ev_w_eq {ρ ρ' : ev_R} {A : ev_H} (ha : ∀ k, k < A.length → ρ' k = ρ k) (h : ev_okh A.length A = true) : ev_w ρ' A = ev_w ρ A := by
  apply List.ext_getElem?
  intro i
  rw [ev_w_get, ev_w_get]
  cases hi : A[i]? with
  | none => rfl
  | some x =>
    have hl : i < A.length := (List.getElem?_eq_some_iff.mp hi).1
    show some ((ρ' i).1, ev_e ρ' i x) = some ((ρ i).1, ev_e ρ i x)
    rw [ha i hl, ev_okh_eq ha h i x hi hl]
def ev_up (ρ : ev_R) (n q : Nat) (c : ClassId) : ev_R := fun k => if k = n then (q, c) else ρ k
theorem ev_up_lt {ρ : ev_R} {n q : Nat} {c : ClassId} (k : Nat) (h : k < n) : ev_up ρ n q c k = ρ k := by
  unfold ev_up
  rw [if_neg (by omega)]
theorem ev_up_at {ρ : ev_R} {n q : Nat} {c : ClassId} : ev_up ρ n q c n = (q, c) := by
  unfold ev_up
  rw [if_pos rfl]
theorem ev_w_push {ρ : ev_R} {A : ev_H} {q : Nat} {c : ClassId} {x : ev_E} (h : ev_okh A.length A = true) : ev_w (ev_up ρ A.length q c) (A ++ [x]) = ev_w ρ A ++ [(q, ev_e (ev_up ρ A.length q c) A.length x)] := by
  have h1 : ev_w (ev_up ρ A.length q c) (A ++ [x]) = ev_w (ev_up ρ A.length q c) A ++ [((ev_up ρ A.length q c A.length).1, ev_e (ev_up ρ A.length q c) A.length x)] := by
    unfold ev_w
    rw [List.mapIdx_append]
    simp
  rw [h1, ev_w_eq (ρ' := ev_up ρ A.length q c) (ρ := ρ) (fun k hk => ev_up_lt k hk) h, ev_up_at]
def ev_T (ρ : ev_R) (A : ev_H) (U : State) : Prop := ∀ (k : Nat) (ty : FieldType) (x : Nat × ((Nat → Int32) ⊕ (Nat → Int64))), A[k]? = some (.inl (ty, x)) → ArrOfT U (ρ k).2 ty ∧ va_RA U (ρ k).2 ty
theorem ev_T.moved {ρ : ev_R} {A : ev_H} {u U : State} (hvm : u.vm.Alike U.vm) (h : ev_T ρ A u) : ev_T ρ A U := fun k ty x hk => ⟨arrOfT_moved hvm (h k ty x hk).1, (h k ty x hk).2.moved hvm⟩
theorem ev_T.set {ρ : ev_R} {A : ev_H} {U : State} (h : ev_T ρ A U) {k : Nat} {ty : FieldType} {x y : Nat × ((Nat → Int32) ⊕ (Nat → Int64))} (hk : ev_n A k = some (.inl (ty, x))) : ev_T ρ (ev_s A k (.inl (ty, y))) U := by
  intro j t z hj
  rw [← ev_n_eq] at hj
  rcases ev_n_s _ _ _ _ _ hj with ⟨rfl, e⟩ | ⟨_, e⟩
  · cases e
    exact h j ty x (by rw [← ev_n_eq]; exact hk)
  · exact h j t z (by rw [← ev_n_eq]; exact e)
theorem ev_T.seto {ρ : ev_R} {A : ev_H} {U : State} (h : ev_T ρ A U) {k : Nat} {x : Nat × List Value} : ev_T ρ (ev_s A k (.inr x)) U := by
  intro j t z hj
  rw [← ev_n_eq] at hj
  rcases ev_n_s _ _ _ _ _ hj with ⟨rfl, e⟩ | ⟨_, e⟩
  · cases e
  · exact h j t z (by rw [← ev_n_eq]; exact e)
/-- the array at place k is of type ty -/
theorem ev_T.K {ρ : ev_R} {A : ev_H} {U : State} {D : va_G} {cl : List vw_C} (h : ev_T ρ A U) (hK : va_K D cl [] U) {k : Nat} {ty : FieldType} {x : Nat × ((Nat → Int32) ⊕ (Nat → Int64))} (hk : ev_n A k = some (.inl (ty, x))) : va_K D cl [((ρ k).2, ty)] U := by
  refine ⟨hK.1, fun j q hj => ?_⟩
  cases j with
  | zero =>
    simp only [List.getElem?_cons_zero, Option.some.injEq] at hj
    subst hj
    exact h k ty x (by rw [← ev_n_eq]; exact hk)
  | succ j => simp at hj
def ev_wd (D : va_G) (cl : List vw_C) (A : Nat → Prop) (s : State) (ρ0 : ev_R) (n0 : Nat) (ρ : ev_R) (hp : ev_H) (H : Heap) (locs : List Loc) : Prop :=
  va_P D cl (ev_w ρ hp) H ∧ va_D A (ev_w ρ hp) ∧ va_S A s.heap H locs ∧ ev_T ρ hp s ∧ n0 ≤ hp.length ∧ ∀ k, k < n0 → ρ k = ρ0 k
/-! locals -/
def ev_lo (ρ : ev_R) (ls : Array Slot) (nL : Nat) (lo : ev_L) : Prop := ls.size = nL ∧ lv_wf ls ∧ ∀ (i : Nat) (v : Value), ev_n lo i = some (some v) → ls[i]? = some (.val (ev_v ρ v))
def ev_a1 (ρ : ev_R) (lo : ev_L) (i : Nat) : Option (Nat × Value) := match ev_n lo i with
  | some (some v) => some (i, ev_v ρ v)
  | _ => none
def ev_as (ρ : ev_R) (lo : ev_L) : List (Nat × Value) := (List.range lo.length).filterMap (ev_a1 ρ lo)
theorem ev_lo.has {ρ : ev_R} {ls : Array Slot} {nL : Nat} {lo : ev_L} (h : ev_lo ρ ls nL lo) : lv_has ls nL (ev_as ρ lo) := by
  refine ⟨h.1, h.2.1, fun q hq => ?_⟩
  obtain ⟨i, -, hi⟩ := List.mem_filterMap.mp hq
  unfold ev_a1 at hi
  split at hi
  · rename_i v hv
    cases hi
    exact h.2.2 i v hv
  · cases hi
theorem ev_n_lt {α : Type} {l : List α} {i : Nat} {x : α} (h : ev_n l i = some x) : i < l.length := by
  rw [ev_n_eq] at h
  exact (List.getElem?_eq_some_iff.mp h).1
theorem ev_as_mem {ρ : ev_R} {lo : ev_L} {i : Nat} {v : Value} (h : ev_n lo i = some (some v)) : (i, ev_v ρ v) ∈ ev_as ρ lo := by
  refine List.mem_filterMap.mpr ⟨i, List.mem_range.mpr (ev_n_lt h), ?_⟩
  unfold ev_a1
  rw [h]
def ev_pw (lo : ev_L) (j : Nat) : ev_L := match ev_n lo j with
  | some (some (.long _)) => ev_s lo j none
  | some (some (.double _)) => ev_s lo j none
  | _ => lo
def ev_pv (lo : ev_L) : Nat → ev_L
  | 0 => lo
  | j + 1 => ev_pw lo j
def ev_st (lo : ev_L) (i : Nat) (v : Value) : ev_L := ev_s (ev_pv lo i) i (some v)
theorem ev_st_n {lo : ev_L} {i j : Nat} {v u : Value} (h : ev_n (ev_st lo i v) j = some (some u)) : (j = i ∧ u = v) ∨ (j ≠ i ∧ ev_n lo j = some (some u) ∧ ¬ (j + 1 = i ∧ u.category = 2)) := by
  unfold ev_st at h
  rcases ev_n_s _ _ _ _ _ h with ⟨a, b⟩ | ⟨a, b⟩
  · cases b
    exact Or.inl ⟨a, rfl⟩
  · refine Or.inr ⟨a, ?_⟩
    cases i with
    | zero => exact ⟨b, fun q => by omega⟩
    | succ i =>
      have b2 : ev_n (ev_pw lo i) j = some (some u) := b
      clear b
      unfold ev_pw at b2
      split at b2
      · rename_i x hx
        rcases ev_n_s _ _ _ _ _ b2 with ⟨_, b⟩ | ⟨a1, b⟩
        · cases b
        · exact ⟨b, fun q => a1 (by omega)⟩
      · rename_i x hx
        rcases ev_n_s _ _ _ _ _ b2 with ⟨_, b⟩ | ⟨a1, b⟩
        · cases b
        · exact ⟨b, fun q => a1 (by omega)⟩
      · rename_i h1 h2
        refine ⟨b2, fun q => ?_⟩
        obtain ⟨q1, q2⟩ := q
        have : j = i := by omega
        subst this
        cases u with
        | long z => exact h1 z b2
        | double z => exact h2 z b2
        | _ => simp [Value.category] at q2
theorem ev_lo.store {ρ : ev_R} {ls ls' : Array Slot} {nL i : Nat} {lo : ev_L} {v : Value} (h : lv_has ls' nL ((i, ev_v ρ v) :: (ev_as ρ lo).filter (fun q => !(q.1 == i) && !(q.1 + 1 == i && q.2.category == 2)))) : ev_lo ρ ls' nL (ev_st lo i v) := by
  refine ⟨h.1, h.2.1, fun j u hj => ?_⟩
  rcases ev_st_n hj with ⟨rfl, rfl⟩ | ⟨a, b, d⟩
  · exact h.2.2 _ List.mem_cons_self
  · refine h.2.2 (j, ev_v ρ u) (List.mem_cons_of_mem _ (List.mem_filter.mpr ⟨ev_as_mem b, ?_⟩))
    simp only [Bool.and_eq_true, Bool.not_eq_true', beq_eq_false_iff_ne, ne_eq, Bool.and_eq_false_iff, ev_v_cat]
    refine ⟨a, ?_⟩
    by_cases h1 : j + 1 = i
    · exact Or.inr fun q => d ⟨h1, q⟩
    · exact Or.inl h1
theorem ev_lo.to {ρ ρ' : ev_R} {ls : Array Slot} {nL : Nat} {lo : ev_L} (h : ev_lo ρ ls nL lo) (he : ∀ (i : Nat) (v : Value), ev_n lo i = some (some v) → ev_v ρ' v = ev_v ρ v) : ev_lo ρ' ls nL lo := ⟨h.1, h.2.1, fun i v hi => by rw [he i v hi]; exact h.2.2 i v hi⟩
/-- what is dead is forgotten: only the places of the list ks stay -/
def ev_keep : List Bool → ev_L → ev_L
  | [], _ => []
  | _ :: _, [] => []
  | true :: b, v :: lo => v :: ev_keep b lo
  | false :: b, _ :: lo => none :: ev_keep b lo
theorem ev_keep_n : ∀ {b : List Bool} {lo : ev_L} {i : Nat} {v : Value}, ev_n (ev_keep b lo) i = some (some v) → ev_n lo i = some (some v)
  | [], lo, i, v, h => by simp [ev_keep, ev_n] at h
  | _ :: _, [], i, v, h => by simp [ev_keep, ev_n] at h
  | true :: b, x :: lo, 0, v, h => h
  | false :: b, x :: lo, 0, v, h => by simp [ev_keep, ev_n] at h
  | true :: b, x :: lo, i + 1, v, h => ev_keep_n (b := b) (lo := lo) (i := i) h
  | false :: b, x :: lo, i + 1, v, h => ev_keep_n (b := b) (lo := lo) (i := i) h
theorem ev_lo.keep {ρ : ev_R} {ls : Array Slot} {nL : Nat} {lo : ev_L} (b : List Bool) (h : ev_lo ρ ls nL lo) : ev_lo ρ ls nL (ev_keep b lo) := ⟨h.1, h.2.1, fun i v hi => h.2.2 i v (ev_keep_n hi)⟩
/-- a method's locals at its entry -/
def ev_ent : Nat → List Value → ev_L
  | 0, _ => []
  | n + 1, [] => none :: ev_ent n []
  | n + 1, .long x :: vs => match n with
    | 0 => [some (.long x)]
    | n + 1 => some (.long x) :: none :: ev_ent n vs
  | n + 1, .double x :: vs => match n with
    | 0 => [some (.double x)]
    | n + 1 => some (.double x) :: none :: ev_ent n vs
  | n + 1, v :: vs => some v :: ev_ent n vs
theorem ev_ent_nil : ∀ (n i : Nat) (v : Value), ¬ ev_n (ev_ent n []) i = some (some v)
  | 0, i, v => by simp [ev_ent, ev_n]
  | n + 1, 0, v => by simp [ev_ent, ev_n]
  | n + 1, i + 1, v => by
    intro h
    exact ev_ent_nil n i v (by simpa [ev_ent, ev_n] using h)
theorem ev_ent_n (ρ : ev_R) : ∀ (n : Nat) (vs : List Value) (i j : Nat) (v : Value), ev_n (ev_ent n vs) i = some (some v) → (j + i, ev_v ρ v) ∈ lv_args j (vs.map (ev_v ρ))
  | 0, vs, i, j, v, h => by simp [ev_ent, ev_n] at h
  | n + 1, [], i, j, v, h => absurd h (ev_ent_nil (n + 1) i v)
  | n + 1, u :: vs, i, j, v, h => by
    have one : u.category = 1 → ev_n (some u :: ev_ent n vs) i = some (some v) → (j + i, ev_v ρ v) ∈ lv_args j ((u :: vs).map (ev_v ρ)) := by
      intro hc h
      rw [List.map_cons, lv_args, ev_v_cat, hc, if_neg (by decide)]
      cases i with
      | zero =>
        simp only [ev_n, Option.some.injEq] at h
        subst h
        exact List.mem_cons_self
      | succ i =>
        have := ev_ent_n ρ n vs i (j + 1) v h
        rw [show j + (i + 1) = j + 1 + i by omega]
        exact List.mem_cons_of_mem _ this
    have two : u.category = 2 → ∀ n', ev_n (some u :: none :: ev_ent n' vs) i = some (some v) → n' < n + 1 → (j + i, ev_v ρ v) ∈ lv_args j ((u :: vs).map (ev_v ρ)) := by
      intro hc n' h hn'
      rw [List.map_cons, lv_args, ev_v_cat, hc, if_pos rfl]
      match i, h with
      | 0, h =>
        simp only [ev_n, Option.some.injEq] at h
        subst h
        exact List.mem_cons_self
      | 1, h => simp [ev_n] at h
      | i + 2, h =>
        have := ev_ent_n ρ n' vs i (j + 2) v h
        rw [show j + (i + 2) = j + 2 + i by omega]
        exact List.mem_cons_of_mem _ this
    have two1 : u.category = 2 → ev_n [some u] i = some (some v) → (j + i, ev_v ρ v) ∈ lv_args j ((u :: vs).map (ev_v ρ)) := by
      intro hc h
      rw [List.map_cons, lv_args]
      cases i with
      | zero =>
        simp only [ev_n, Option.some.injEq] at h
        subst h
        exact List.mem_cons_self
      | succ i => simp [ev_n] at h
    cases u with
    | long x =>
      cases n with
      | zero => exact two1 rfl h
      | succ n => exact two rfl n h (by omega)
    | double x =>
      cases n with
      | zero => exact two1 rfl h
      | succ n => exact two rfl n h (by omega)
    | int x => exact one rfl h
    | float x => exact one rfl h
    | null => exact one rfl h
    | ref x => exact one rfl h
    | retAddr x => exact one rfl h
termination_by n => n
theorem ev_ent_lo {ρ : ev_R} {ls : Array Slot} {nL : Nat} {as : List Value} (h : lv_has ls nL (lv_args 0 (as.map (ev_v ρ)))) : ev_lo ρ ls nL (ev_ent nL as) := by
  refine ⟨h.1, h.2.1, fun i v hi => ?_⟩
  have := ev_ent_n ρ nL as i 0 v hi
  rw [Nat.zero_add] at this
  exact h.2.2 _ this
end
section
/-! kinds, nest words and words of the tables; code, size of locals, answer's type, name, room, cells, slots; the machine's own state -/
abbrev ev_ga : Type := List vw_C × ev_N × List Jvm.Cond
abbrev ev_mu : Type := ByteArray × Nat × Option FieldType × MethodName × Room × Nat × Nat
abbrev ev_ka : Type := Program × Env × State × MethodId × Array Value × List Frame × Method × Code × (State → Prop) × (Nat → Prop) × ev_R × Nat × (ev_O → Prop)
def isB (x : Int32) : Bool := decide (x = 0 ∨ x = 1)
theorem isB_or {x : Int32} (h : isB x = true) : x = 0 ∨ x = 1 := of_decide_eq_true h
def ev_rd (cc : ByteArray) (ret : Option FieldType) (pc : Nat) (v : Option Value) : Prop := match v with
  | none => ret = none ∧ decode cc pc = .ok (.return_, 1)
  | some (.int x) => decode cc pc = .ok (.ireturn, 1) ∧ (ret = some .int ∨ (ret = some .boolean ∧ isB x = true))
  | _ => False
def ev_Ex (l : Launch) (D : va_G) (γ : ev_ga) (μ : ev_mu) (p : Program) (e : Env) (s : State) (m : MethodId) (args : Array Value) (below : List Frame) (meth : Method) (c : Code) (Q : State → Prop) (A : Nat → Prop) (ρ0 : ev_R) (n0 : Nat) (o : ev_O) : Prop :=
  ∀ (pc : Nat) (ρ : ev_R) (ls : Array Slot) (H : Heap) (locs : List Loc), ev_rd μ.1 μ.2.2.1 pc o.1 → ev_wd D γ.1 A s ρ0 n0 ρ o.2 H locs → W p l e μ.2.2.2.2.1 s m args below meth c H locs μ.2.2.2.2.2.1 μ.2.2.2.2.2.2 Q (F0 m pc ls (o.1.toList.map (ev_v ρ)))
def ev_X (l : Launch) (D : va_G) (γ : ev_ga) (μ : ev_mu) (κ : ev_ka) : Prop := match κ with
  | (p, e, s, m, args, below, meth, c, Q, A, ρ0, n0, Ex) => p.tables.exec = Jvm.exec ∧ c.code = μ.1 ∧ c.maxLocals = μ.2.1 ∧ s.vm.findClass μ.2.2.2.1.cls = some m.cls ∧ (∀ w ∈ γ.2.2, w.before args s = true) ∧ va_K D γ.1 [] s ∧ (∀ q, s.heap.size ≤ q → A q) ∧ (∀ q ∈ γ.2.1, va_Nw (.methodLinkNest q.1 q.2.1 q.2.2.1 q.2.2.2) s) ∧ meth.name = μ.2.2.2.1.name ∧ ∀ o, Ex o → ev_Ex l D γ μ p e s m args below meth c Q A ρ0 n0 o
def ev_J {β : Type} (l : Launch) (D : va_G) (γ : ev_ga) (μ : ev_mu) (κ : ev_ka) (pc ce sl : Nat) (lo : ev_L) (st : List Value) (hp : ev_H) (y : Option β) (w : β → ev_O) : Prop := match κ with
  | (p, e, s, m, args, below, meth, c, Q, A, ρ0, n0, Ex) => ∀ (q : β), y = some q → Ex (w q) → ∀ (ρ : ev_R) (ls : Array Slot) (H : Heap) (locs : List Loc), ev_lo ρ ls μ.2.1 lo → ev_wd D γ.1 A s ρ0 n0 ρ hp H locs → W p l e μ.2.2.2.2.1 s m args below meth c H locs ce sl Q (F0 m pc ls (st.map (ev_v ρ)))
abbrev ix (i : Int32) : Nat := i.toNatClampNeg
def inb (i : Int32) (n : Nat) : Bool := decide (¬ (i < 0 ∨ n ≤ i.toNatClampNeg))
def nz (x : Int32) : Bool := decide (¬ x = 0)
def nzL (x : Int64) : Bool := decide (¬ x = 0)
theorem inb_in {i : Int32} {n : Nat} (h : inb i n = true) : vp_in i n := by
  have h1 : ¬ (i < 0 ∨ n ≤ i.toNatClampNeg) := of_decide_eq_true h
  exact h1
theorem nz_ne {x : Int32} (h : nz x = true) : ¬ x = 0 := of_decide_eq_true h
theorem nzL_ne {x : Int64} (h : nzL x = true) : ¬ x = 0 := of_decide_eq_true h
def ck {α : Type} (b : Bool) (k : Option α) : Option α := match b with
  | true => k
  | false => none
theorem ck_t {α : Type} {b : Bool} {k : Option α} {x : α} (h : ck b k = some x) : b = true ∧ k = some x := by
  cases b with
  | true => exact ⟨rfl, h⟩
  | false => cases h
def bd {α β : Type} (x : Option α) (k : α → Option β) : Option β := match x with
  | some a => k a
  | none => none
theorem bd_t {α β : Type} {x : Option α} {k : α → Option β} {z : β} (h : bd x k = some z) : ∃ a, x = some a ∧ k a = some z := by
  cases x with
  | some a => exact ⟨a, rfl, h⟩
  | none => cases h
section EVR
variable {β : Type} {l : Launch} {D : va_G} {γ : ev_ga} {μ : ev_mu} {κ : ev_ka} {pc n ce sl : Nat} {lo : ev_L} {st : List Value} {hp : ev_H} {y : Option β} {w : β → ev_O}
theorem js_iconst {i : Int} (v : Int32) (X : ev_X l D γ μ κ) (hd : decode μ.1 pc = .ok (.iconst i, 1)) (hn : pc + 1 = n) (hv : Int32.ofInt i = v) (hk : ev_J l D γ μ κ n ce sl lo (.int v :: st) hp y w) : ev_J l D γ μ κ pc ce sl lo (st) hp (y) w := by
  obtain ⟨p, e, s, m, args, below, meth, c, Q, A, ρ0, n0, Ex⟩ := κ
  subst hn
  intro q hy E ρ ls H locs hl hw
  exact lv_iconst X.1 X.2.1 hd hv (hk q hy E ρ ls H locs hl hw)
theorem js_bipush {i : Int} (v : Int32) (X : ev_X l D γ μ κ) (hd : decode μ.1 pc = .ok (.bipush i, 2)) (hn : pc + 2 = n) (hv : (Int8.ofInt i).toInt32 = v) (hk : ev_J l D γ μ κ n ce sl lo (.int v :: st) hp y w) : ev_J l D γ μ κ pc ce sl lo (st) hp (y) w := by
  obtain ⟨p, e, s, m, args, below, meth, c, Q, A, ρ0, n0, Ex⟩ := κ
  subst hn
  intro q hy E ρ ls H locs hl hw
  exact lv_bipush X.1 X.2.1 hd hv (hk q hy E ρ ls H locs hl hw)
theorem js_sipush {i : Int} (v : Int32) (X : ev_X l D γ μ κ) (hd : decode μ.1 pc = .ok (.sipush i, 3)) (hn : pc + 3 = n) (hv : (Int16.ofInt i).toInt32 = v) (hk : ev_J l D γ μ κ n ce sl lo (.int v :: st) hp y w) : ev_J l D γ μ κ pc ce sl lo (st) hp (y) w := by
  obtain ⟨p, e, s, m, args, below, meth, c, Q, A, ρ0, n0, Ex⟩ := κ
  subst hn
  intro q hy E ρ ls H locs hl hw
  exact lv_sipush X.1 X.2.1 hd hv (hk q hy E ρ ls H locs hl hw)
theorem js_lconst {i : Fin 2} (v : Int64) (X : ev_X l D γ μ κ) (hd : decode μ.1 pc = .ok (.lconst i, 1)) (hn : pc + 1 = n) (hv : Int64.ofNat (i : Nat) = v) (hk : ev_J l D γ μ κ n ce sl lo (.long v :: st) hp y w) : ev_J l D γ μ κ pc ce sl lo (st) hp (y) w := by
  obtain ⟨p, e, s, m, args, below, meth, c, Q, A, ρ0, n0, Ex⟩ := κ
  subst hn
  intro q hy E ρ ls H locs hl hw
  exact lv_lconst X.1 X.2.1 hd hv (hk q hy E ρ ls H locs hl hw)
theorem js_ldc {i : Nat} {v : Int32} (X : ev_X l D γ μ κ) (hd : decode μ.1 pc = .ok (.ldc i, 2)) (hn : pc + 2 = n) (hv : Jvm.Cond.constant μ.2.2.2.1.cls i v ∈ γ.2.2) (hk : ev_J l D γ μ κ n ce sl lo (.int v :: st) hp y w) : ev_J l D γ μ κ pc ce sl lo (st) hp (y) w := by
  obtain ⟨p, e, s, m, args, below, meth, c, Q, A, ρ0, n0, Ex⟩ := κ
  subst hn
  intro q hy E ρ ls H locs hl hw
  exact lv_ldc X.1 X.2.1 X.2.2.2.1 (X.2.2.2.2.1 _ hv) hd (hk q hy E ρ ls H locs hl hw)
theorem js_ldcw {i : Nat} {v : Int32} (X : ev_X l D γ μ κ) (hd : decode μ.1 pc = .ok (.ldc_w i, 3)) (hn : pc + 3 = n) (hv : Jvm.Cond.constant μ.2.2.2.1.cls i v ∈ γ.2.2) (hk : ev_J l D γ μ κ n ce sl lo (.int v :: st) hp y w) : ev_J l D γ μ κ pc ce sl lo (st) hp (y) w := by
  obtain ⟨p, e, s, m, args, below, meth, c, Q, A, ρ0, n0, Ex⟩ := κ
  subst hn
  intro q hy E ρ ls H locs hl hw
  exact lv_ldcw X.1 X.2.1 X.2.2.2.1 (X.2.2.2.2.1 _ hv) hd (hk q hy E ρ ls H locs hl hw)
theorem js_ldc2 {i : Nat} {v : Int64} (X : ev_X l D γ μ κ) (hd : decode μ.1 pc = .ok (.ldc2_w i, 3)) (hn : pc + 3 = n) (hv : Jvm.Cond.constantLong μ.2.2.2.1.cls i v ∈ γ.2.2) (hk : ev_J l D γ μ κ n ce sl lo (.long v :: st) hp y w) : ev_J l D γ μ κ pc ce sl lo (st) hp (y) w := by
  obtain ⟨p, e, s, m, args, below, meth, c, Q, A, ρ0, n0, Ex⟩ := κ
  subst hn
  intro q hy E ρ ls H locs hl hw
  exact lv_ldc2 X.1 X.2.1 X.2.2.2.1 (X.2.2.2.2.1 _ hv) hd (hk q hy E ρ ls H locs hl hw)
theorem js_iload {i : Nat} {x : Int32} (X : ev_X l D γ μ κ) (hd : decode μ.1 pc = .ok (.iload i, 2)) (hn : pc + 2 = n) (hx : ev_n lo i = some (some (.int x))) (hk : ev_J l D γ μ κ n ce sl lo (.int x :: st) hp y w) : ev_J l D γ μ κ pc ce sl lo (st) hp (y) w := by
  obtain ⟨p, e, s, m, args, below, meth, c, Q, A, ρ0, n0, Ex⟩ := κ
  subst hn
  intro q hy E ρ ls H locs hl hw
  exact lv_iload X.1 X.2.1 hd (hl.2.2 i _ hx) (hk q hy E ρ ls H locs hl hw)
theorem js_iload_n {i : Nat} {j : Fin 4} {x : Int32} (X : ev_X l D γ μ κ) (hd : decode μ.1 pc = .ok (.iload_n j, 1)) (hn : pc + 1 = n) (hj : (j : Nat) = i) (hx : ev_n lo i = some (some (.int x))) (hk : ev_J l D γ μ κ n ce sl lo (.int x :: st) hp y w) : ev_J l D γ μ κ pc ce sl lo (st) hp (y) w := by
  obtain ⟨p, e, s, m, args, below, meth, c, Q, A, ρ0, n0, Ex⟩ := κ
  subst hn
  intro q hy E ρ ls H locs hl hw
  exact lv_iload_n X.1 X.2.1 hd hj (hl.2.2 i _ hx) (hk q hy E ρ ls H locs hl hw)
theorem js_lload {i : Nat} {x : Int64} (X : ev_X l D γ μ κ) (hd : decode μ.1 pc = .ok (.lload i, 2)) (hn : pc + 2 = n) (hx : ev_n lo i = some (some (.long x))) (hk : ev_J l D γ μ κ n ce sl lo (.long x :: st) hp y w) : ev_J l D γ μ κ pc ce sl lo (st) hp (y) w := by
  obtain ⟨p, e, s, m, args, below, meth, c, Q, A, ρ0, n0, Ex⟩ := κ
  subst hn
  intro q hy E ρ ls H locs hl hw
  exact lv_lload X.1 X.2.1 hd (hl.2.2 i _ hx) (hk q hy E ρ ls H locs hl hw)
theorem js_lload_n {i : Nat} {j : Fin 4} {x : Int64} (X : ev_X l D γ μ κ) (hd : decode μ.1 pc = .ok (.lload_n j, 1)) (hn : pc + 1 = n) (hj : (j : Nat) = i) (hx : ev_n lo i = some (some (.long x))) (hk : ev_J l D γ μ κ n ce sl lo (.long x :: st) hp y w) : ev_J l D γ μ κ pc ce sl lo (st) hp (y) w := by
  obtain ⟨p, e, s, m, args, below, meth, c, Q, A, ρ0, n0, Ex⟩ := κ
  subst hn
  intro q hy E ρ ls H locs hl hw
  exact lv_lload_n X.1 X.2.1 hd hj (hl.2.2 i _ hx) (hk q hy E ρ ls H locs hl hw)
theorem js_aload {i : Nat} {x : Nat} (X : ev_X l D γ μ κ) (hd : decode μ.1 pc = .ok (.aload i, 2)) (hn : pc + 2 = n) (hx : ev_n lo i = some (some (.ref x))) (hk : ev_J l D γ μ κ n ce sl lo (.ref x :: st) hp y w) : ev_J l D γ μ κ pc ce sl lo (st) hp (y) w := by
  obtain ⟨p, e, s, m, args, below, meth, c, Q, A, ρ0, n0, Ex⟩ := κ
  subst hn
  intro q hy E ρ ls H locs hl hw
  exact lv_aload X.1 X.2.1 hd (hl.2.2 i _ hx) (hk q hy E ρ ls H locs hl hw)
theorem js_aload_n {i : Nat} {j : Fin 4} {x : Nat} (X : ev_X l D γ μ κ) (hd : decode μ.1 pc = .ok (.aload_n j, 1)) (hn : pc + 1 = n) (hj : (j : Nat) = i) (hx : ev_n lo i = some (some (.ref x))) (hk : ev_J l D γ μ κ n ce sl lo (.ref x :: st) hp y w) : ev_J l D γ μ κ pc ce sl lo (st) hp (y) w := by
  obtain ⟨p, e, s, m, args, below, meth, c, Q, A, ρ0, n0, Ex⟩ := κ
  subst hn
  intro q hy E ρ ls H locs hl hw
  exact lv_aload_n X.1 X.2.1 hd hj (hl.2.2 i _ hx) (hk q hy E ρ ls H locs hl hw)
theorem js_sload {i : Nat} {x : Nat} (X : ev_X l D γ μ κ) (hd : decode μ.1 pc = .ok (.aload i, 2)) (hn : pc + 2 = n) (hx : ev_n lo i = some (some (.retAddr x))) (hk : ev_J l D γ μ κ n ce sl lo (.retAddr x :: st) hp y w) : ev_J l D γ μ κ pc ce sl lo (st) hp (y) w := by
  obtain ⟨p, e, s, m, args, below, meth, c, Q, A, ρ0, n0, Ex⟩ := κ
  subst hn
  intro q hy E ρ ls H locs hl hw
  exact lv_aload X.1 X.2.1 hd (hl.2.2 i _ hx) (hk q hy E ρ ls H locs hl hw)
theorem js_sload_n {i : Nat} {j : Fin 4} {x : Nat} (X : ev_X l D γ μ κ) (hd : decode μ.1 pc = .ok (.aload_n j, 1)) (hn : pc + 1 = n) (hj : (j : Nat) = i) (hx : ev_n lo i = some (some (.retAddr x))) (hk : ev_J l D γ μ κ n ce sl lo (.retAddr x :: st) hp y w) : ev_J l D γ μ κ pc ce sl lo (st) hp (y) w := by
  obtain ⟨p, e, s, m, args, below, meth, c, Q, A, ρ0, n0, Ex⟩ := κ
  subst hn
  intro q hy E ρ ls H locs hl hw
  exact lv_aload_n X.1 X.2.1 hd hj (hl.2.2 i _ hx) (hk q hy E ρ ls H locs hl hw)
theorem js_istore {i : Nat} {x : Int32} {lo' : ev_L} (X : ev_X l D γ μ κ) (hd : decode μ.1 pc = .ok (.istore i, 2)) (hn : pc + 2 = n) (hi : i < μ.2.1) (hlo : ev_st lo i (.int x) = lo') (hk : ev_J l D γ μ κ n ce sl lo' (st) hp y w) : ev_J l D γ μ κ pc ce sl lo (.int x :: st) hp (y) w := by
  obtain ⟨p, e, s, m, args, below, meth, c, Q, A, ρ0, n0, Ex⟩ := κ
  subst hn
  intro q hy E ρ ls H locs hl hw
  subst hlo
  exact lv_istore X.1 X.2.1 hd hl.has hi rfl (fun ls' h => hk q hy E ρ ls' H locs (ev_lo.store (v := .int x) (ls := ls) h) hw)
theorem js_istore_n {i : Nat} {j : Fin 4} {x : Int32} {lo' : ev_L} (X : ev_X l D γ μ κ) (hd : decode μ.1 pc = .ok (.istore_n j, 1)) (hn : pc + 1 = n) (hj : (j : Nat) = i) (hi : i < μ.2.1) (hlo : ev_st lo i (.int x) = lo') (hk : ev_J l D γ μ κ n ce sl lo' (st) hp y w) : ev_J l D γ μ κ pc ce sl lo (.int x :: st) hp (y) w := by
  obtain ⟨p, e, s, m, args, below, meth, c, Q, A, ρ0, n0, Ex⟩ := κ
  subst hn
  intro q hy E ρ ls H locs hl hw
  subst hlo
  exact lv_istore_n X.1 X.2.1 hd hj hl.has hi rfl (fun ls' h => hk q hy E ρ ls' H locs (ev_lo.store (v := .int x) (ls := ls) h) hw)
theorem js_astore {i : Nat} {x : Nat} {lo' : ev_L} (X : ev_X l D γ μ κ) (hd : decode μ.1 pc = .ok (.astore i, 2)) (hn : pc + 2 = n) (hi : i < μ.2.1) (hlo : ev_st lo i (.ref x) = lo') (hk : ev_J l D γ μ κ n ce sl lo' (st) hp y w) : ev_J l D γ μ κ pc ce sl lo (.ref x :: st) hp (y) w := by
  obtain ⟨p, e, s, m, args, below, meth, c, Q, A, ρ0, n0, Ex⟩ := κ
  subst hn
  intro q hy E ρ ls H locs hl hw
  subst hlo
  exact lv_astore X.1 X.2.1 hd hl.has hi rfl (fun ls' h => hk q hy E ρ ls' H locs (ev_lo.store (v := .ref x) (ls := ls) h) hw)
theorem js_astore_n {i : Nat} {j : Fin 4} {x : Nat} {lo' : ev_L} (X : ev_X l D γ μ κ) (hd : decode μ.1 pc = .ok (.astore_n j, 1)) (hn : pc + 1 = n) (hj : (j : Nat) = i) (hi : i < μ.2.1) (hlo : ev_st lo i (.ref x) = lo') (hk : ev_J l D γ μ κ n ce sl lo' (st) hp y w) : ev_J l D γ μ κ pc ce sl lo (.ref x :: st) hp (y) w := by
  obtain ⟨p, e, s, m, args, below, meth, c, Q, A, ρ0, n0, Ex⟩ := κ
  subst hn
  intro q hy E ρ ls H locs hl hw
  subst hlo
  exact lv_astore_n X.1 X.2.1 hd hj hl.has hi rfl (fun ls' h => hk q hy E ρ ls' H locs (ev_lo.store (v := .ref x) (ls := ls) h) hw)
theorem js_iinc {i : Nat} {d : Int} (v : Int32) {x : Int32} {lo' : ev_L} (X : ev_X l D γ μ κ) (hd : decode μ.1 pc = .ok (.iinc i d, 3)) (hn : pc + 3 = n) (hv : Int32.ofInt d = v) (hi : i < μ.2.1) (hx : ev_n lo i = some (some (.int x))) (hlo : ev_st lo i (.int (x + v)) = lo') (hk : ev_J l D γ μ κ n ce sl lo' (st) hp y w) : ev_J l D γ μ κ pc ce sl lo (st) hp (y) w := by
  obtain ⟨p, e, s, m, args, below, meth, c, Q, A, ρ0, n0, Ex⟩ := κ
  subst hn
  intro q hy E ρ ls H locs hl hw
  subst hlo
  obtain ⟨j, hj⟩ := List.getElem?_of_mem (ev_as_mem (ρ := ρ) hx)
  exact lv_iinc X.1 X.2.1 hd hl.has (k := j) hj (by rw [hv]) hi rfl (fun ls' h => hk q hy E ρ ls' H locs (ev_lo.store (v := .int (x + v)) (ls := ls) h) hw)
theorem js_iadd {x z : Int32} (X : ev_X l D γ μ κ) (hd : decode μ.1 pc = .ok (.iadd, 1)) (hn : pc + 1 = n) (hk : ev_J l D γ μ κ n ce sl lo (.int (x + z) :: st) hp y w) : ev_J l D γ μ κ pc ce sl lo (.int z :: .int x :: st) hp (y) w := by
  obtain ⟨p, e, s, m, args, below, meth, c, Q, A, ρ0, n0, Ex⟩ := κ
  subst hn
  intro q hy E ρ ls H locs hl hw
  exact lv_iadd X.1 X.2.1 hd (hk q hy E ρ ls H locs hl hw)
theorem js_isub {x z : Int32} (X : ev_X l D γ μ κ) (hd : decode μ.1 pc = .ok (.isub, 1)) (hn : pc + 1 = n) (hk : ev_J l D γ μ κ n ce sl lo (.int (x - z) :: st) hp y w) : ev_J l D γ μ κ pc ce sl lo (.int z :: .int x :: st) hp (y) w := by
  obtain ⟨p, e, s, m, args, below, meth, c, Q, A, ρ0, n0, Ex⟩ := κ
  subst hn
  intro q hy E ρ ls H locs hl hw
  exact lv_isub X.1 X.2.1 hd (hk q hy E ρ ls H locs hl hw)
theorem js_imul {x z : Int32} (X : ev_X l D γ μ κ) (hd : decode μ.1 pc = .ok (.imul, 1)) (hn : pc + 1 = n) (hk : ev_J l D γ μ κ n ce sl lo (.int (x * z) :: st) hp y w) : ev_J l D γ μ κ pc ce sl lo (.int z :: .int x :: st) hp (y) w := by
  obtain ⟨p, e, s, m, args, below, meth, c, Q, A, ρ0, n0, Ex⟩ := κ
  subst hn
  intro q hy E ρ ls H locs hl hw
  exact lv_imul X.1 X.2.1 hd (hk q hy E ρ ls H locs hl hw)
theorem js_iand {x z : Int32} (X : ev_X l D γ μ κ) (hd : decode μ.1 pc = .ok (.iand, 1)) (hn : pc + 1 = n) (hk : ev_J l D γ μ κ n ce sl lo (.int (x &&& z) :: st) hp y w) : ev_J l D γ μ κ pc ce sl lo (.int z :: .int x :: st) hp (y) w := by
  obtain ⟨p, e, s, m, args, below, meth, c, Q, A, ρ0, n0, Ex⟩ := κ
  subst hn
  intro q hy E ρ ls H locs hl hw
  exact lv_iand X.1 X.2.1 hd (hk q hy E ρ ls H locs hl hw)
theorem js_ior {x z : Int32} (X : ev_X l D γ μ κ) (hd : decode μ.1 pc = .ok (.ior, 1)) (hn : pc + 1 = n) (hk : ev_J l D γ μ κ n ce sl lo (.int (x ||| z) :: st) hp y w) : ev_J l D γ μ κ pc ce sl lo (.int z :: .int x :: st) hp (y) w := by
  obtain ⟨p, e, s, m, args, below, meth, c, Q, A, ρ0, n0, Ex⟩ := κ
  subst hn
  intro q hy E ρ ls H locs hl hw
  exact lv_ior X.1 X.2.1 hd (hk q hy E ρ ls H locs hl hw)
theorem js_ixor {x z : Int32} (X : ev_X l D γ μ κ) (hd : decode μ.1 pc = .ok (.ixor, 1)) (hn : pc + 1 = n) (hk : ev_J l D γ μ κ n ce sl lo (.int (x ^^^ z) :: st) hp y w) : ev_J l D γ μ κ pc ce sl lo (.int z :: .int x :: st) hp (y) w := by
  obtain ⟨p, e, s, m, args, below, meth, c, Q, A, ρ0, n0, Ex⟩ := κ
  subst hn
  intro q hy E ρ ls H locs hl hw
  exact lv_ixor X.1 X.2.1 hd (hk q hy E ρ ls H locs hl hw)
theorem js_ishl {x z : Int32} (X : ev_X l D γ μ κ) (hd : decode μ.1 pc = .ok (.ishl, 1)) (hn : pc + 1 = n) (hk : ev_J l D γ μ κ n ce sl lo (.int (x <<< (z &&& 31)) :: st) hp y w) : ev_J l D γ μ κ pc ce sl lo (.int z :: .int x :: st) hp (y) w := by
  obtain ⟨p, e, s, m, args, below, meth, c, Q, A, ρ0, n0, Ex⟩ := κ
  subst hn
  intro q hy E ρ ls H locs hl hw
  exact lv_ishl X.1 X.2.1 hd (hk q hy E ρ ls H locs hl hw)
theorem js_ishr {x z : Int32} (X : ev_X l D γ μ κ) (hd : decode μ.1 pc = .ok (.ishr, 1)) (hn : pc + 1 = n) (hk : ev_J l D γ μ κ n ce sl lo (.int (x >>> (z &&& 31)) :: st) hp y w) : ev_J l D γ μ κ pc ce sl lo (.int z :: .int x :: st) hp (y) w := by
  obtain ⟨p, e, s, m, args, below, meth, c, Q, A, ρ0, n0, Ex⟩ := κ
  subst hn
  intro q hy E ρ ls H locs hl hw
  exact lv_ishr X.1 X.2.1 hd (hk q hy E ρ ls H locs hl hw)
theorem js_ineg {x : Int32} (X : ev_X l D γ μ κ) (hd : decode μ.1 pc = .ok (.ineg, 1)) (hn : pc + 1 = n) (hk : ev_J l D γ μ κ n ce sl lo (.int (-x) :: st) hp y w) : ev_J l D γ μ κ pc ce sl lo (.int x :: st) hp (y) w := by
  obtain ⟨p, e, s, m, args, below, meth, c, Q, A, ρ0, n0, Ex⟩ := κ
  subst hn
  intro q hy E ρ ls H locs hl hw
  exact lv_ineg X.1 X.2.1 hd (hk q hy E ρ ls H locs hl hw)
theorem js_idiv {x z : Int32} (X : ev_X l D γ μ κ) (hd : decode μ.1 pc = .ok (.idiv, 1)) (hn : pc + 1 = n) (hk : ev_J l D γ μ κ n ce sl lo (.int (x / z) :: st) hp y w) : ev_J l D γ μ κ pc ce sl lo (.int z :: .int x :: st) hp (ck (nz z) y) w := by
  obtain ⟨p, e, s, m, args, below, meth, c, Q, A, ρ0, n0, Ex⟩ := κ
  subst hn
  intro q hy E ρ ls H locs hl hw
  obtain ⟨h1, hy⟩ := ck_t hy
  exact lv_idiv X.1 X.2.1 hd (nz_ne h1) (hk q hy E ρ ls H locs hl hw)
theorem js_irem {x z : Int32} (X : ev_X l D γ μ κ) (hd : decode μ.1 pc = .ok (.irem, 1)) (hn : pc + 1 = n) (hk : ev_J l D γ μ κ n ce sl lo (.int (x - x / z * z) :: st) hp y w) : ev_J l D γ μ κ pc ce sl lo (.int z :: .int x :: st) hp (ck (nz z) y) w := by
  obtain ⟨p, e, s, m, args, below, meth, c, Q, A, ρ0, n0, Ex⟩ := κ
  subst hn
  intro q hy E ρ ls H locs hl hw
  obtain ⟨h1, hy⟩ := ck_t hy
  exact lv_irem X.1 X.2.1 hd (nz_ne h1) (hk q hy E ρ ls H locs hl hw)
theorem js_ladd {x z : Int64} (X : ev_X l D γ μ κ) (hd : decode μ.1 pc = .ok (.ladd, 1)) (hn : pc + 1 = n) (hk : ev_J l D γ μ κ n ce sl lo (.long (x + z) :: st) hp y w) : ev_J l D γ μ κ pc ce sl lo (.long z :: .long x :: st) hp (y) w := by
  obtain ⟨p, e, s, m, args, below, meth, c, Q, A, ρ0, n0, Ex⟩ := κ
  subst hn
  intro q hy E ρ ls H locs hl hw
  exact lv_ladd X.1 X.2.1 hd (hk q hy E ρ ls H locs hl hw)
theorem js_lmul {x z : Int64} (X : ev_X l D γ μ κ) (hd : decode μ.1 pc = .ok (.lmul, 1)) (hn : pc + 1 = n) (hk : ev_J l D γ μ κ n ce sl lo (.long (x * z) :: st) hp y w) : ev_J l D γ μ κ pc ce sl lo (.long z :: .long x :: st) hp (y) w := by
  obtain ⟨p, e, s, m, args, below, meth, c, Q, A, ρ0, n0, Ex⟩ := κ
  subst hn
  intro q hy E ρ ls H locs hl hw
  exact lv_lmul X.1 X.2.1 hd (hk q hy E ρ ls H locs hl hw)
theorem js_land {x z : Int64} (X : ev_X l D γ μ κ) (hd : decode μ.1 pc = .ok (.land, 1)) (hn : pc + 1 = n) (hk : ev_J l D γ μ κ n ce sl lo (.long (x &&& z) :: st) hp y w) : ev_J l D γ μ κ pc ce sl lo (.long z :: .long x :: st) hp (y) w := by
  obtain ⟨p, e, s, m, args, below, meth, c, Q, A, ρ0, n0, Ex⟩ := κ
  subst hn
  intro q hy E ρ ls H locs hl hw
  exact lv_land X.1 X.2.1 hd (hk q hy E ρ ls H locs hl hw)
theorem js_lor {x z : Int64} (X : ev_X l D γ μ κ) (hd : decode μ.1 pc = .ok (.lor, 1)) (hn : pc + 1 = n) (hk : ev_J l D γ μ κ n ce sl lo (.long (x ||| z) :: st) hp y w) : ev_J l D γ μ κ pc ce sl lo (.long z :: .long x :: st) hp (y) w := by
  obtain ⟨p, e, s, m, args, below, meth, c, Q, A, ρ0, n0, Ex⟩ := κ
  subst hn
  intro q hy E ρ ls H locs hl hw
  exact lv_lor X.1 X.2.1 hd (hk q hy E ρ ls H locs hl hw)
theorem js_lrem {x z : Int64} (X : ev_X l D γ μ κ) (hd : decode μ.1 pc = .ok (.lrem, 1)) (hn : pc + 1 = n) (hk : ev_J l D γ μ κ n ce sl lo (.long (x - x / z * z) :: st) hp y w) : ev_J l D γ μ κ pc ce sl lo (.long z :: .long x :: st) hp (ck (nzL z) y) w := by
  obtain ⟨p, e, s, m, args, below, meth, c, Q, A, ρ0, n0, Ex⟩ := κ
  subst hn
  intro q hy E ρ ls H locs hl hw
  obtain ⟨h1, hy⟩ := ck_t hy
  exact lv_lrem X.1 X.2.1 hd (nzL_ne h1) (hk q hy E ρ ls H locs hl hw)
theorem js_lushr {x : Int64} {z : Int32} (X : ev_X l D γ μ κ) (hd : decode μ.1 pc = .ok (.lushr, 1)) (hn : pc + 1 = n) (hk : ev_J l D γ μ κ n ce sl lo (.long ((x.toUInt64 >>> (z.toInt64.toUInt64 &&& Int64.toUInt64 63)).toInt64) :: st) hp y w) : ev_J l D γ μ κ pc ce sl lo (.int z :: .long x :: st) hp (y) w := by
  obtain ⟨p, e, s, m, args, below, meth, c, Q, A, ρ0, n0, Ex⟩ := κ
  subst hn
  intro q hy E ρ ls H locs hl hw
  exact lv_lushr X.1 X.2.1 hd rfl (hk q hy E ρ ls H locs hl hw)
theorem js_lshl {x : Int64} {z : Int32} (X : ev_X l D γ μ κ) (hd : decode μ.1 pc = .ok (.lshl, 1)) (hn : pc + 1 = n) (hk : ev_J l D γ μ κ n ce sl lo (.long (x <<< (z.toInt64 &&& 63)) :: st) hp y w) : ev_J l D γ μ κ pc ce sl lo (.int z :: .long x :: st) hp (y) w := by
  obtain ⟨p, e, s, m, args, below, meth, c, Q, A, ρ0, n0, Ex⟩ := κ
  subst hn
  intro q hy E ρ ls H locs hl hw
  exact lv_lshl X.1 X.2.1 hd rfl (hk q hy E ρ ls H locs hl hw)
theorem js_lshr {x : Int64} {z : Int32} (X : ev_X l D γ μ κ) (hd : decode μ.1 pc = .ok (.lshr, 1)) (hn : pc + 1 = n) (hk : ev_J l D γ μ κ n ce sl lo (.long (x >>> (z.toInt64 &&& 63)) :: st) hp y w) : ev_J l D γ μ κ pc ce sl lo (.int z :: .long x :: st) hp (y) w := by
  obtain ⟨p, e, s, m, args, below, meth, c, Q, A, ρ0, n0, Ex⟩ := κ
  subst hn
  intro q hy E ρ ls H locs hl hw
  exact lv_lshr X.1 X.2.1 hd rfl (hk q hy E ρ ls H locs hl hw)
theorem js_lcmp {x z : Int64} (X : ev_X l D γ μ κ) (hd : decode μ.1 pc = .ok (.lcmp, 1)) (hn : pc + 1 = n) (hk : ev_J l D γ μ κ n ce sl lo (.int (lg_cmp x z) :: st) hp y w) : ev_J l D γ μ κ pc ce sl lo (.long z :: .long x :: st) hp (y) w := by
  obtain ⟨p, e, s, m, args, below, meth, c, Q, A, ρ0, n0, Ex⟩ := κ
  subst hn
  intro q hy E ρ ls H locs hl hw
  exact W.lcmp X.1 X.2.1 hd (hk q hy E ρ ls H locs hl hw)
theorem js_i2l {x : Int32} (X : ev_X l D γ μ κ) (hd : decode μ.1 pc = .ok (.i2l, 1)) (hn : pc + 1 = n) (hk : ev_J l D γ μ κ n ce sl lo (.long x.toInt64 :: st) hp y w) : ev_J l D γ μ κ pc ce sl lo (.int x :: st) hp (y) w := by
  obtain ⟨p, e, s, m, args, below, meth, c, Q, A, ρ0, n0, Ex⟩ := κ
  subst hn
  intro q hy E ρ ls H locs hl hw
  exact lv_i2l X.1 X.2.1 hd rfl (hk q hy E ρ ls H locs hl hw)
theorem js_l2i {x : Int64} (X : ev_X l D γ μ κ) (hd : decode μ.1 pc = .ok (.l2i, 1)) (hn : pc + 1 = n) (hk : ev_J l D γ μ κ n ce sl lo (.int x.toInt32 :: st) hp y w) : ev_J l D γ μ κ pc ce sl lo (.long x :: st) hp (y) w := by
  obtain ⟨p, e, s, m, args, below, meth, c, Q, A, ρ0, n0, Ex⟩ := κ
  subst hn
  intro q hy E ρ ls H locs hl hw
  exact lv_l2i X.1 X.2.1 hd rfl (hk q hy E ρ ls H locs hl hw)
theorem js_dup {a : Value} (X : ev_X l D γ μ κ) (hd : decode μ.1 pc = .ok (.dup, 1)) (hn : pc + 1 = n) (ha : a.category = 1) (hk : ev_J l D γ μ κ n ce sl lo (a :: a :: st) hp y w) : ev_J l D γ μ κ pc ce sl lo (a :: st) hp (y) w := by
  obtain ⟨p, e, s, m, args, below, meth, c, Q, A, ρ0, n0, Ex⟩ := κ
  subst hn
  intro q hy E ρ ls H locs hl hw
  exact lv_dup X.1 X.2.1 hd (by rw [ev_v_cat]; exact ha) (hk q hy E ρ ls H locs hl hw)
theorem js_dup2 {a b : Value} (X : ev_X l D γ μ κ) (hd : decode μ.1 pc = .ok (.dup2, 1)) (hn : pc + 1 = n) (ha : a.category = 1) (hb : b.category = 1) (hk : ev_J l D γ μ κ n ce sl lo (a :: b :: a :: b :: st) hp y w) : ev_J l D γ μ κ pc ce sl lo (a :: b :: st) hp (y) w := by
  obtain ⟨p, e, s, m, args, below, meth, c, Q, A, ρ0, n0, Ex⟩ := κ
  subst hn
  intro q hy E ρ ls H locs hl hw
  exact lv_dup2_11 X.1 X.2.1 hd (by rw [ev_v_cat]; exact ha) (by rw [ev_v_cat]; exact hb) (hk q hy E ρ ls H locs hl hw)
theorem js_dup22 {a : Value} (X : ev_X l D γ μ κ) (hd : decode μ.1 pc = .ok (.dup2, 1)) (hn : pc + 1 = n) (ha : a.category = 2) (hk : ev_J l D γ μ κ n ce sl lo (a :: a :: st) hp y w) : ev_J l D γ μ κ pc ce sl lo (a :: st) hp (y) w := by
  obtain ⟨p, e, s, m, args, below, meth, c, Q, A, ρ0, n0, Ex⟩ := κ
  subst hn
  intro q hy E ρ ls H locs hl hw
  exact lv_dup2_2 X.1 X.2.1 hd (by rw [ev_v_cat]; exact ha) (hk q hy E ρ ls H locs hl hw)
theorem js_dup_x1 {a b : Value} (X : ev_X l D γ μ κ) (hd : decode μ.1 pc = .ok (.dup_x1, 1)) (hn : pc + 1 = n) (ha : a.category = 1) (hb : b.category = 1) (hk : ev_J l D γ μ κ n ce sl lo (a :: b :: a :: st) hp y w) : ev_J l D γ μ κ pc ce sl lo (a :: b :: st) hp (y) w := by
  obtain ⟨p, e, s, m, args, below, meth, c, Q, A, ρ0, n0, Ex⟩ := κ
  subst hn
  intro q hy E ρ ls H locs hl hw
  exact lv_dup_x1 X.1 X.2.1 hd (by rw [ev_v_cat]; exact ha) (by rw [ev_v_cat]; exact hb) (hk q hy E ρ ls H locs hl hw)
theorem js_pop {a : Value} (X : ev_X l D γ μ κ) (hd : decode μ.1 pc = .ok (.pop, 1)) (hn : pc + 1 = n) (ha : a.category = 1) (hk : ev_J l D γ μ κ n ce sl lo (st) hp y w) : ev_J l D γ μ κ pc ce sl lo (a :: st) hp (y) w := by
  obtain ⟨p, e, s, m, args, below, meth, c, Q, A, ρ0, n0, Ex⟩ := κ
  subst hn
  intro q hy E ρ ls H locs hl hw
  exact lv_pop (va := ev_v ρ a) X.1 X.2.1 hd (by rw [ev_v_cat]; exact ha) (hk q hy E ρ ls H locs hl hw)
theorem js_if_eq {x : Int32} {yt yf : Option β} {t : Nat} {off : Int} (X : ev_X l D γ μ κ) (hd : decode μ.1 pc = .ok (.ifCond .eq off, 3)) (ht : (pc : Int) + off = (t : Int)) (hn : pc + 3 = n) (hkt : ev_J l D γ μ κ t ce sl lo st hp yt w) (hkf : ev_J l D γ μ κ n ce sl lo st hp yf w) : ev_J l D γ μ κ pc ce sl lo (.int x :: st) hp (if x = 0 then yt else yf) w := by
  obtain ⟨p, e, s, m, args, below, meth, c, Q, A, ρ0, n0, Ex⟩ := κ
  subst hn
  intro q hy E ρ ls H locs hl hw
  exact lv_if_eq X.1 X.2.1 hd ht (fun h => hkt q (by rw [if_pos h] at hy; exact hy) E ρ ls H locs hl hw) (fun h => hkf q (by rw [if_neg h] at hy; exact hy) E ρ ls H locs hl hw)
theorem js_if_eq_t {x : Int32} {t : Nat} {off : Int} (X : ev_X l D γ μ κ) (hd : decode μ.1 pc = .ok (.ifCond .eq off, 3)) (ht : (pc : Int) + off = (t : Int)) (hc : x = 0) (hkt : ev_J l D γ μ κ t ce sl lo st hp y w) : ev_J l D γ μ κ pc ce sl lo (.int x :: st) hp y w := by
  obtain ⟨p, e, s, m, args, below, meth, c, Q, A, ρ0, n0, Ex⟩ := κ
  intro q hy E ρ ls H locs hl hw
  exact lv_if_eq X.1 X.2.1 hd ht (fun _ => hkt q hy E ρ ls H locs hl hw) (fun h => absurd hc h)
theorem js_if_eq_f {x : Int32} {t : Nat} {off : Int} (X : ev_X l D γ μ κ) (hd : decode μ.1 pc = .ok (.ifCond .eq off, 3)) (ht : (pc : Int) + off = (t : Int)) (hn : pc + 3 = n) (hc : ¬ x = 0) (hkf : ev_J l D γ μ κ n ce sl lo st hp y w) : ev_J l D γ μ κ pc ce sl lo (.int x :: st) hp y w := by
  obtain ⟨p, e, s, m, args, below, meth, c, Q, A, ρ0, n0, Ex⟩ := κ
  subst hn
  intro q hy E ρ ls H locs hl hw
  exact lv_if_eq X.1 X.2.1 hd ht (fun h => absurd h hc) (fun _ => hkf q hy E ρ ls H locs hl hw)
theorem js_if_ne {x : Int32} {yt yf : Option β} {t : Nat} {off : Int} (X : ev_X l D γ μ κ) (hd : decode μ.1 pc = .ok (.ifCond .ne off, 3)) (ht : (pc : Int) + off = (t : Int)) (hn : pc + 3 = n) (hkt : ev_J l D γ μ κ t ce sl lo st hp yt w) (hkf : ev_J l D γ μ κ n ce sl lo st hp yf w) : ev_J l D γ μ κ pc ce sl lo (.int x :: st) hp (if x = 0 then yf else yt) w := by
  obtain ⟨p, e, s, m, args, below, meth, c, Q, A, ρ0, n0, Ex⟩ := κ
  subst hn
  intro q hy E ρ ls H locs hl hw
  exact lv_if_ne X.1 X.2.1 hd ht (fun h => hkt q (by rw [if_neg h] at hy; exact hy) E ρ ls H locs hl hw) (fun h => hkf q (by rw [if_pos h] at hy; exact hy) E ρ ls H locs hl hw)
theorem js_if_ne_t {x : Int32} {t : Nat} {off : Int} (X : ev_X l D γ μ κ) (hd : decode μ.1 pc = .ok (.ifCond .ne off, 3)) (ht : (pc : Int) + off = (t : Int)) (hc : ¬ x = 0) (hkt : ev_J l D γ μ κ t ce sl lo st hp y w) : ev_J l D γ μ κ pc ce sl lo (.int x :: st) hp y w := by
  obtain ⟨p, e, s, m, args, below, meth, c, Q, A, ρ0, n0, Ex⟩ := κ
  intro q hy E ρ ls H locs hl hw
  exact lv_if_ne X.1 X.2.1 hd ht (fun _ => hkt q hy E ρ ls H locs hl hw) (fun h => absurd h hc)
theorem js_if_ne_f {x : Int32} {t : Nat} {off : Int} (X : ev_X l D γ μ κ) (hd : decode μ.1 pc = .ok (.ifCond .ne off, 3)) (ht : (pc : Int) + off = (t : Int)) (hn : pc + 3 = n) (hc : x = 0) (hkf : ev_J l D γ μ κ n ce sl lo st hp y w) : ev_J l D γ μ κ pc ce sl lo (.int x :: st) hp y w := by
  obtain ⟨p, e, s, m, args, below, meth, c, Q, A, ρ0, n0, Ex⟩ := κ
  subst hn
  intro q hy E ρ ls H locs hl hw
  exact lv_if_ne X.1 X.2.1 hd ht (fun h => absurd hc h) (fun _ => hkf q hy E ρ ls H locs hl hw)
theorem js_if_lt {x : Int32} {yt yf : Option β} {t : Nat} {off : Int} (X : ev_X l D γ μ κ) (hd : decode μ.1 pc = .ok (.ifCond .lt off, 3)) (ht : (pc : Int) + off = (t : Int)) (hn : pc + 3 = n) (hkt : ev_J l D γ μ κ t ce sl lo st hp yt w) (hkf : ev_J l D γ μ κ n ce sl lo st hp yf w) : ev_J l D γ μ κ pc ce sl lo (.int x :: st) hp (if x < 0 then yt else yf) w := by
  obtain ⟨p, e, s, m, args, below, meth, c, Q, A, ρ0, n0, Ex⟩ := κ
  subst hn
  intro q hy E ρ ls H locs hl hw
  exact lv_if_lt X.1 X.2.1 hd ht (fun h => hkt q (by rw [if_pos h] at hy; exact hy) E ρ ls H locs hl hw) (fun h => hkf q (by rw [if_neg h] at hy; exact hy) E ρ ls H locs hl hw)
theorem js_if_lt_t {x : Int32} {t : Nat} {off : Int} (X : ev_X l D γ μ κ) (hd : decode μ.1 pc = .ok (.ifCond .lt off, 3)) (ht : (pc : Int) + off = (t : Int)) (hc : x < 0) (hkt : ev_J l D γ μ κ t ce sl lo st hp y w) : ev_J l D γ μ κ pc ce sl lo (.int x :: st) hp y w := by
  obtain ⟨p, e, s, m, args, below, meth, c, Q, A, ρ0, n0, Ex⟩ := κ
  intro q hy E ρ ls H locs hl hw
  exact lv_if_lt X.1 X.2.1 hd ht (fun _ => hkt q hy E ρ ls H locs hl hw) (fun h => absurd hc h)
theorem js_if_lt_f {x : Int32} {t : Nat} {off : Int} (X : ev_X l D γ μ κ) (hd : decode μ.1 pc = .ok (.ifCond .lt off, 3)) (ht : (pc : Int) + off = (t : Int)) (hn : pc + 3 = n) (hc : ¬ x < 0) (hkf : ev_J l D γ μ κ n ce sl lo st hp y w) : ev_J l D γ μ κ pc ce sl lo (.int x :: st) hp y w := by
  obtain ⟨p, e, s, m, args, below, meth, c, Q, A, ρ0, n0, Ex⟩ := κ
  subst hn
  intro q hy E ρ ls H locs hl hw
  exact lv_if_lt X.1 X.2.1 hd ht (fun h => absurd h hc) (fun _ => hkf q hy E ρ ls H locs hl hw)
theorem js_if_ge {x : Int32} {yt yf : Option β} {t : Nat} {off : Int} (X : ev_X l D γ μ κ) (hd : decode μ.1 pc = .ok (.ifCond .ge off, 3)) (ht : (pc : Int) + off = (t : Int)) (hn : pc + 3 = n) (hkt : ev_J l D γ μ κ t ce sl lo st hp yt w) (hkf : ev_J l D γ μ κ n ce sl lo st hp yf w) : ev_J l D γ μ κ pc ce sl lo (.int x :: st) hp (if 0 ≤ x then yt else yf) w := by
  obtain ⟨p, e, s, m, args, below, meth, c, Q, A, ρ0, n0, Ex⟩ := κ
  subst hn
  intro q hy E ρ ls H locs hl hw
  exact lv_if_ge X.1 X.2.1 hd ht (fun h => hkt q (by rw [if_pos h] at hy; exact hy) E ρ ls H locs hl hw) (fun h => hkf q (by rw [if_neg h] at hy; exact hy) E ρ ls H locs hl hw)
theorem js_if_ge_t {x : Int32} {t : Nat} {off : Int} (X : ev_X l D γ μ κ) (hd : decode μ.1 pc = .ok (.ifCond .ge off, 3)) (ht : (pc : Int) + off = (t : Int)) (hc : 0 ≤ x) (hkt : ev_J l D γ μ κ t ce sl lo st hp y w) : ev_J l D γ μ κ pc ce sl lo (.int x :: st) hp y w := by
  obtain ⟨p, e, s, m, args, below, meth, c, Q, A, ρ0, n0, Ex⟩ := κ
  intro q hy E ρ ls H locs hl hw
  exact lv_if_ge X.1 X.2.1 hd ht (fun _ => hkt q hy E ρ ls H locs hl hw) (fun h => absurd hc h)
theorem js_if_ge_f {x : Int32} {t : Nat} {off : Int} (X : ev_X l D γ μ κ) (hd : decode μ.1 pc = .ok (.ifCond .ge off, 3)) (ht : (pc : Int) + off = (t : Int)) (hn : pc + 3 = n) (hc : ¬ 0 ≤ x) (hkf : ev_J l D γ μ κ n ce sl lo st hp y w) : ev_J l D γ μ κ pc ce sl lo (.int x :: st) hp y w := by
  obtain ⟨p, e, s, m, args, below, meth, c, Q, A, ρ0, n0, Ex⟩ := κ
  subst hn
  intro q hy E ρ ls H locs hl hw
  exact lv_if_ge X.1 X.2.1 hd ht (fun h => absurd h hc) (fun _ => hkf q hy E ρ ls H locs hl hw)
theorem js_if_gt {x : Int32} {yt yf : Option β} {t : Nat} {off : Int} (X : ev_X l D γ μ κ) (hd : decode μ.1 pc = .ok (.ifCond .gt off, 3)) (ht : (pc : Int) + off = (t : Int)) (hn : pc + 3 = n) (hkt : ev_J l D γ μ κ t ce sl lo st hp yt w) (hkf : ev_J l D γ μ κ n ce sl lo st hp yf w) : ev_J l D γ μ κ pc ce sl lo (.int x :: st) hp (if 0 < x then yt else yf) w := by
  obtain ⟨p, e, s, m, args, below, meth, c, Q, A, ρ0, n0, Ex⟩ := κ
  subst hn
  intro q hy E ρ ls H locs hl hw
  exact lv_if_gt X.1 X.2.1 hd ht (fun h => hkt q (by rw [if_pos h] at hy; exact hy) E ρ ls H locs hl hw) (fun h => hkf q (by rw [if_neg h] at hy; exact hy) E ρ ls H locs hl hw)
theorem js_if_gt_t {x : Int32} {t : Nat} {off : Int} (X : ev_X l D γ μ κ) (hd : decode μ.1 pc = .ok (.ifCond .gt off, 3)) (ht : (pc : Int) + off = (t : Int)) (hc : 0 < x) (hkt : ev_J l D γ μ κ t ce sl lo st hp y w) : ev_J l D γ μ κ pc ce sl lo (.int x :: st) hp y w := by
  obtain ⟨p, e, s, m, args, below, meth, c, Q, A, ρ0, n0, Ex⟩ := κ
  intro q hy E ρ ls H locs hl hw
  exact lv_if_gt X.1 X.2.1 hd ht (fun _ => hkt q hy E ρ ls H locs hl hw) (fun h => absurd hc h)
theorem js_if_gt_f {x : Int32} {t : Nat} {off : Int} (X : ev_X l D γ μ κ) (hd : decode μ.1 pc = .ok (.ifCond .gt off, 3)) (ht : (pc : Int) + off = (t : Int)) (hn : pc + 3 = n) (hc : ¬ 0 < x) (hkf : ev_J l D γ μ κ n ce sl lo st hp y w) : ev_J l D γ μ κ pc ce sl lo (.int x :: st) hp y w := by
  obtain ⟨p, e, s, m, args, below, meth, c, Q, A, ρ0, n0, Ex⟩ := κ
  subst hn
  intro q hy E ρ ls H locs hl hw
  exact lv_if_gt X.1 X.2.1 hd ht (fun h => absurd h hc) (fun _ => hkf q hy E ρ ls H locs hl hw)
theorem js_if_le {x : Int32} {yt yf : Option β} {t : Nat} {off : Int} (X : ev_X l D γ μ κ) (hd : decode μ.1 pc = .ok (.ifCond .le off, 3)) (ht : (pc : Int) + off = (t : Int)) (hn : pc + 3 = n) (hkt : ev_J l D γ μ κ t ce sl lo st hp yt w) (hkf : ev_J l D γ μ κ n ce sl lo st hp yf w) : ev_J l D γ μ κ pc ce sl lo (.int x :: st) hp (if x ≤ 0 then yt else yf) w := by
  obtain ⟨p, e, s, m, args, below, meth, c, Q, A, ρ0, n0, Ex⟩ := κ
  subst hn
  intro q hy E ρ ls H locs hl hw
  exact lv_if_le X.1 X.2.1 hd ht (fun h => hkt q (by rw [if_pos h] at hy; exact hy) E ρ ls H locs hl hw) (fun h => hkf q (by rw [if_neg h] at hy; exact hy) E ρ ls H locs hl hw)
theorem js_if_le_t {x : Int32} {t : Nat} {off : Int} (X : ev_X l D γ μ κ) (hd : decode μ.1 pc = .ok (.ifCond .le off, 3)) (ht : (pc : Int) + off = (t : Int)) (hc : x ≤ 0) (hkt : ev_J l D γ μ κ t ce sl lo st hp y w) : ev_J l D γ μ κ pc ce sl lo (.int x :: st) hp y w := by
  obtain ⟨p, e, s, m, args, below, meth, c, Q, A, ρ0, n0, Ex⟩ := κ
  intro q hy E ρ ls H locs hl hw
  exact lv_if_le X.1 X.2.1 hd ht (fun _ => hkt q hy E ρ ls H locs hl hw) (fun h => absurd hc h)
theorem js_if_le_f {x : Int32} {t : Nat} {off : Int} (X : ev_X l D γ μ κ) (hd : decode μ.1 pc = .ok (.ifCond .le off, 3)) (ht : (pc : Int) + off = (t : Int)) (hn : pc + 3 = n) (hc : ¬ x ≤ 0) (hkf : ev_J l D γ μ κ n ce sl lo st hp y w) : ev_J l D γ μ κ pc ce sl lo (.int x :: st) hp y w := by
  obtain ⟨p, e, s, m, args, below, meth, c, Q, A, ρ0, n0, Ex⟩ := κ
  subst hn
  intro q hy E ρ ls H locs hl hw
  exact lv_if_le X.1 X.2.1 hd ht (fun h => absurd h hc) (fun _ => hkf q hy E ρ ls H locs hl hw)
theorem js_icmp_eq {x z : Int32} {yt yf : Option β} {t : Nat} {off : Int} (X : ev_X l D γ μ κ) (hd : decode μ.1 pc = .ok (.if_icmp .eq off, 3)) (ht : (pc : Int) + off = (t : Int)) (hn : pc + 3 = n) (hkt : ev_J l D γ μ κ t ce sl lo st hp yt w) (hkf : ev_J l D γ μ κ n ce sl lo st hp yf w) : ev_J l D γ μ κ pc ce sl lo (.int z :: .int x :: st) hp (if x = z then yt else yf) w := by
  obtain ⟨p, e, s, m, args, below, meth, c, Q, A, ρ0, n0, Ex⟩ := κ
  subst hn
  intro q hy E ρ ls H locs hl hw
  exact lv_icmp_eq X.1 X.2.1 hd ht (fun h => hkt q (by rw [if_pos h] at hy; exact hy) E ρ ls H locs hl hw) (fun h => hkf q (by rw [if_neg h] at hy; exact hy) E ρ ls H locs hl hw)
theorem js_icmp_eq_t {x z : Int32} {t : Nat} {off : Int} (X : ev_X l D γ μ κ) (hd : decode μ.1 pc = .ok (.if_icmp .eq off, 3)) (ht : (pc : Int) + off = (t : Int)) (hc : x = z) (hkt : ev_J l D γ μ κ t ce sl lo st hp y w) : ev_J l D γ μ κ pc ce sl lo (.int z :: .int x :: st) hp y w := by
  obtain ⟨p, e, s, m, args, below, meth, c, Q, A, ρ0, n0, Ex⟩ := κ
  intro q hy E ρ ls H locs hl hw
  exact lv_icmp_eq X.1 X.2.1 hd ht (fun _ => hkt q hy E ρ ls H locs hl hw) (fun h => absurd hc h)
theorem js_icmp_eq_f {x z : Int32} {t : Nat} {off : Int} (X : ev_X l D γ μ κ) (hd : decode μ.1 pc = .ok (.if_icmp .eq off, 3)) (ht : (pc : Int) + off = (t : Int)) (hn : pc + 3 = n) (hc : ¬ x = z) (hkf : ev_J l D γ μ κ n ce sl lo st hp y w) : ev_J l D γ μ κ pc ce sl lo (.int z :: .int x :: st) hp y w := by
  obtain ⟨p, e, s, m, args, below, meth, c, Q, A, ρ0, n0, Ex⟩ := κ
  subst hn
  intro q hy E ρ ls H locs hl hw
  exact lv_icmp_eq X.1 X.2.1 hd ht (fun h => absurd h hc) (fun _ => hkf q hy E ρ ls H locs hl hw)
theorem js_icmp_ne {x z : Int32} {yt yf : Option β} {t : Nat} {off : Int} (X : ev_X l D γ μ κ) (hd : decode μ.1 pc = .ok (.if_icmp .ne off, 3)) (ht : (pc : Int) + off = (t : Int)) (hn : pc + 3 = n) (hkt : ev_J l D γ μ κ t ce sl lo st hp yt w) (hkf : ev_J l D γ μ κ n ce sl lo st hp yf w) : ev_J l D γ μ κ pc ce sl lo (.int z :: .int x :: st) hp (if x = z then yf else yt) w := by
  obtain ⟨p, e, s, m, args, below, meth, c, Q, A, ρ0, n0, Ex⟩ := κ
  subst hn
  intro q hy E ρ ls H locs hl hw
  exact lv_icmp_ne X.1 X.2.1 hd ht (fun h => hkt q (by rw [if_neg h] at hy; exact hy) E ρ ls H locs hl hw) (fun h => hkf q (by rw [if_pos h] at hy; exact hy) E ρ ls H locs hl hw)
theorem js_icmp_ne_t {x z : Int32} {t : Nat} {off : Int} (X : ev_X l D γ μ κ) (hd : decode μ.1 pc = .ok (.if_icmp .ne off, 3)) (ht : (pc : Int) + off = (t : Int)) (hc : ¬ x = z) (hkt : ev_J l D γ μ κ t ce sl lo st hp y w) : ev_J l D γ μ κ pc ce sl lo (.int z :: .int x :: st) hp y w := by
  obtain ⟨p, e, s, m, args, below, meth, c, Q, A, ρ0, n0, Ex⟩ := κ
  intro q hy E ρ ls H locs hl hw
  exact lv_icmp_ne X.1 X.2.1 hd ht (fun _ => hkt q hy E ρ ls H locs hl hw) (fun h => absurd h hc)
theorem js_icmp_ne_f {x z : Int32} {t : Nat} {off : Int} (X : ev_X l D γ μ κ) (hd : decode μ.1 pc = .ok (.if_icmp .ne off, 3)) (ht : (pc : Int) + off = (t : Int)) (hn : pc + 3 = n) (hc : x = z) (hkf : ev_J l D γ μ κ n ce sl lo st hp y w) : ev_J l D γ μ κ pc ce sl lo (.int z :: .int x :: st) hp y w := by
  obtain ⟨p, e, s, m, args, below, meth, c, Q, A, ρ0, n0, Ex⟩ := κ
  subst hn
  intro q hy E ρ ls H locs hl hw
  exact lv_icmp_ne X.1 X.2.1 hd ht (fun h => absurd hc h) (fun _ => hkf q hy E ρ ls H locs hl hw)
theorem js_icmp_lt {x z : Int32} {yt yf : Option β} {t : Nat} {off : Int} (X : ev_X l D γ μ κ) (hd : decode μ.1 pc = .ok (.if_icmp .lt off, 3)) (ht : (pc : Int) + off = (t : Int)) (hn : pc + 3 = n) (hkt : ev_J l D γ μ κ t ce sl lo st hp yt w) (hkf : ev_J l D γ μ κ n ce sl lo st hp yf w) : ev_J l D γ μ κ pc ce sl lo (.int z :: .int x :: st) hp (if x < z then yt else yf) w := by
  obtain ⟨p, e, s, m, args, below, meth, c, Q, A, ρ0, n0, Ex⟩ := κ
  subst hn
  intro q hy E ρ ls H locs hl hw
  exact lv_icmp_lt X.1 X.2.1 hd ht (fun h => hkt q (by rw [if_pos h] at hy; exact hy) E ρ ls H locs hl hw) (fun h => hkf q (by rw [if_neg h] at hy; exact hy) E ρ ls H locs hl hw)
theorem js_icmp_lt_t {x z : Int32} {t : Nat} {off : Int} (X : ev_X l D γ μ κ) (hd : decode μ.1 pc = .ok (.if_icmp .lt off, 3)) (ht : (pc : Int) + off = (t : Int)) (hc : x < z) (hkt : ev_J l D γ μ κ t ce sl lo st hp y w) : ev_J l D γ μ κ pc ce sl lo (.int z :: .int x :: st) hp y w := by
  obtain ⟨p, e, s, m, args, below, meth, c, Q, A, ρ0, n0, Ex⟩ := κ
  intro q hy E ρ ls H locs hl hw
  exact lv_icmp_lt X.1 X.2.1 hd ht (fun _ => hkt q hy E ρ ls H locs hl hw) (fun h => absurd hc h)
theorem js_icmp_lt_f {x z : Int32} {t : Nat} {off : Int} (X : ev_X l D γ μ κ) (hd : decode μ.1 pc = .ok (.if_icmp .lt off, 3)) (ht : (pc : Int) + off = (t : Int)) (hn : pc + 3 = n) (hc : ¬ x < z) (hkf : ev_J l D γ μ κ n ce sl lo st hp y w) : ev_J l D γ μ κ pc ce sl lo (.int z :: .int x :: st) hp y w := by
  obtain ⟨p, e, s, m, args, below, meth, c, Q, A, ρ0, n0, Ex⟩ := κ
  subst hn
  intro q hy E ρ ls H locs hl hw
  exact lv_icmp_lt X.1 X.2.1 hd ht (fun h => absurd h hc) (fun _ => hkf q hy E ρ ls H locs hl hw)
theorem js_icmp_ge {x z : Int32} {yt yf : Option β} {t : Nat} {off : Int} (X : ev_X l D γ μ κ) (hd : decode μ.1 pc = .ok (.if_icmp .ge off, 3)) (ht : (pc : Int) + off = (t : Int)) (hn : pc + 3 = n) (hkt : ev_J l D γ μ κ t ce sl lo st hp yt w) (hkf : ev_J l D γ μ κ n ce sl lo st hp yf w) : ev_J l D γ μ κ pc ce sl lo (.int z :: .int x :: st) hp (if z ≤ x then yt else yf) w := by
  obtain ⟨p, e, s, m, args, below, meth, c, Q, A, ρ0, n0, Ex⟩ := κ
  subst hn
  intro q hy E ρ ls H locs hl hw
  exact lv_icmp_ge X.1 X.2.1 hd ht (fun h => hkt q (by rw [if_pos h] at hy; exact hy) E ρ ls H locs hl hw) (fun h => hkf q (by rw [if_neg h] at hy; exact hy) E ρ ls H locs hl hw)
theorem js_icmp_ge_t {x z : Int32} {t : Nat} {off : Int} (X : ev_X l D γ μ κ) (hd : decode μ.1 pc = .ok (.if_icmp .ge off, 3)) (ht : (pc : Int) + off = (t : Int)) (hc : z ≤ x) (hkt : ev_J l D γ μ κ t ce sl lo st hp y w) : ev_J l D γ μ κ pc ce sl lo (.int z :: .int x :: st) hp y w := by
  obtain ⟨p, e, s, m, args, below, meth, c, Q, A, ρ0, n0, Ex⟩ := κ
  intro q hy E ρ ls H locs hl hw
  exact lv_icmp_ge X.1 X.2.1 hd ht (fun _ => hkt q hy E ρ ls H locs hl hw) (fun h => absurd hc h)
theorem js_icmp_ge_f {x z : Int32} {t : Nat} {off : Int} (X : ev_X l D γ μ κ) (hd : decode μ.1 pc = .ok (.if_icmp .ge off, 3)) (ht : (pc : Int) + off = (t : Int)) (hn : pc + 3 = n) (hc : ¬ z ≤ x) (hkf : ev_J l D γ μ κ n ce sl lo st hp y w) : ev_J l D γ μ κ pc ce sl lo (.int z :: .int x :: st) hp y w := by
  obtain ⟨p, e, s, m, args, below, meth, c, Q, A, ρ0, n0, Ex⟩ := κ
  subst hn
  intro q hy E ρ ls H locs hl hw
  exact lv_icmp_ge X.1 X.2.1 hd ht (fun h => absurd h hc) (fun _ => hkf q hy E ρ ls H locs hl hw)
theorem js_icmp_gt {x z : Int32} {yt yf : Option β} {t : Nat} {off : Int} (X : ev_X l D γ μ κ) (hd : decode μ.1 pc = .ok (.if_icmp .gt off, 3)) (ht : (pc : Int) + off = (t : Int)) (hn : pc + 3 = n) (hkt : ev_J l D γ μ κ t ce sl lo st hp yt w) (hkf : ev_J l D γ μ κ n ce sl lo st hp yf w) : ev_J l D γ μ κ pc ce sl lo (.int z :: .int x :: st) hp (if z < x then yt else yf) w := by
  obtain ⟨p, e, s, m, args, below, meth, c, Q, A, ρ0, n0, Ex⟩ := κ
  subst hn
  intro q hy E ρ ls H locs hl hw
  exact lv_icmp_gt X.1 X.2.1 hd ht (fun h => hkt q (by rw [if_pos h] at hy; exact hy) E ρ ls H locs hl hw) (fun h => hkf q (by rw [if_neg h] at hy; exact hy) E ρ ls H locs hl hw)
theorem js_icmp_gt_t {x z : Int32} {t : Nat} {off : Int} (X : ev_X l D γ μ κ) (hd : decode μ.1 pc = .ok (.if_icmp .gt off, 3)) (ht : (pc : Int) + off = (t : Int)) (hc : z < x) (hkt : ev_J l D γ μ κ t ce sl lo st hp y w) : ev_J l D γ μ κ pc ce sl lo (.int z :: .int x :: st) hp y w := by
  obtain ⟨p, e, s, m, args, below, meth, c, Q, A, ρ0, n0, Ex⟩ := κ
  intro q hy E ρ ls H locs hl hw
  exact lv_icmp_gt X.1 X.2.1 hd ht (fun _ => hkt q hy E ρ ls H locs hl hw) (fun h => absurd hc h)
theorem js_icmp_gt_f {x z : Int32} {t : Nat} {off : Int} (X : ev_X l D γ μ κ) (hd : decode μ.1 pc = .ok (.if_icmp .gt off, 3)) (ht : (pc : Int) + off = (t : Int)) (hn : pc + 3 = n) (hc : ¬ z < x) (hkf : ev_J l D γ μ κ n ce sl lo st hp y w) : ev_J l D γ μ κ pc ce sl lo (.int z :: .int x :: st) hp y w := by
  obtain ⟨p, e, s, m, args, below, meth, c, Q, A, ρ0, n0, Ex⟩ := κ
  subst hn
  intro q hy E ρ ls H locs hl hw
  exact lv_icmp_gt X.1 X.2.1 hd ht (fun h => absurd h hc) (fun _ => hkf q hy E ρ ls H locs hl hw)
theorem js_icmp_le {x z : Int32} {yt yf : Option β} {t : Nat} {off : Int} (X : ev_X l D γ μ κ) (hd : decode μ.1 pc = .ok (.if_icmp .le off, 3)) (ht : (pc : Int) + off = (t : Int)) (hn : pc + 3 = n) (hkt : ev_J l D γ μ κ t ce sl lo st hp yt w) (hkf : ev_J l D γ μ κ n ce sl lo st hp yf w) : ev_J l D γ μ κ pc ce sl lo (.int z :: .int x :: st) hp (if x ≤ z then yt else yf) w := by
  obtain ⟨p, e, s, m, args, below, meth, c, Q, A, ρ0, n0, Ex⟩ := κ
  subst hn
  intro q hy E ρ ls H locs hl hw
  exact lv_icmp_le X.1 X.2.1 hd ht (fun h => hkt q (by rw [if_pos h] at hy; exact hy) E ρ ls H locs hl hw) (fun h => hkf q (by rw [if_neg h] at hy; exact hy) E ρ ls H locs hl hw)
theorem js_icmp_le_t {x z : Int32} {t : Nat} {off : Int} (X : ev_X l D γ μ κ) (hd : decode μ.1 pc = .ok (.if_icmp .le off, 3)) (ht : (pc : Int) + off = (t : Int)) (hc : x ≤ z) (hkt : ev_J l D γ μ κ t ce sl lo st hp y w) : ev_J l D γ μ κ pc ce sl lo (.int z :: .int x :: st) hp y w := by
  obtain ⟨p, e, s, m, args, below, meth, c, Q, A, ρ0, n0, Ex⟩ := κ
  intro q hy E ρ ls H locs hl hw
  exact lv_icmp_le X.1 X.2.1 hd ht (fun _ => hkt q hy E ρ ls H locs hl hw) (fun h => absurd hc h)
theorem js_icmp_le_f {x z : Int32} {t : Nat} {off : Int} (X : ev_X l D γ μ κ) (hd : decode μ.1 pc = .ok (.if_icmp .le off, 3)) (ht : (pc : Int) + off = (t : Int)) (hn : pc + 3 = n) (hc : ¬ x ≤ z) (hkf : ev_J l D γ μ κ n ce sl lo st hp y w) : ev_J l D γ μ κ pc ce sl lo (.int z :: .int x :: st) hp y w := by
  obtain ⟨p, e, s, m, args, below, meth, c, Q, A, ρ0, n0, Ex⟩ := κ
  subst hn
  intro q hy E ρ ls H locs hl hw
  exact lv_icmp_le X.1 X.2.1 hd ht (fun h => absurd h hc) (fun _ => hkf q hy E ρ ls H locs hl hw)
theorem js_goto {t : Nat} {off : Int} (X : ev_X l D γ μ κ) (hd : decode μ.1 pc = .ok (.goto off, 3)) (ht : (pc : Int) + off = (t : Int)) (hk : ev_J l D γ μ κ t ce sl lo st hp y w) : ev_J l D γ μ κ pc ce sl lo st hp y w := by
  obtain ⟨p, e, s, m, args, below, meth, c, Q, A, ρ0, n0, Ex⟩ := κ
  intro q hy E ρ ls H locs hl hw
  exact lv_goto X.1 X.2.1 hd ht (hk q hy E ρ ls H locs hl hw)
theorem js_keep (b : List Bool) (hk : ev_J l D γ μ κ pc ce sl (ev_keep b lo) st hp y w) : ev_J l D γ μ κ pc ce sl lo st hp y w := by
  obtain ⟨p, e, s, m, args, below, meth, c, Q, A, ρ0, n0, Ex⟩ := κ
  intro q hy E ρ ls H locs hl hw
  exact hk q hy E ρ ls H locs (hl.keep b) hw
theorem js_none : ev_J l D γ μ κ pc ce sl lo st hp (none : Option β) w := by
  obtain ⟨p, e, s, m, args, below, meth, c, Q, A, ρ0, n0, Ex⟩ := κ
  intro q hy
  cases hy
theorem js_widen {ce' sl' : Nat} (h1 : ce ≤ ce') (h2 : sl ≤ sl') (hk : ev_J l D γ μ κ pc ce' sl' lo st hp y w) : ev_J l D γ μ κ pc ce sl lo st hp y w := by
  obtain ⟨p, e, s, m, args, below, meth, c, Q, A, ρ0, n0, Ex⟩ := κ
  intro q hy E ρ ls H locs hl hw
  exact W.widen h1 h2 (hk q hy E ρ ls H locs hl hw)
/-- a switch, one key after the other: ps are the keys that are left, with their targets -/
def ev_sj (l : Launch) (D : va_G) (γ : ev_ga) (μ : ev_mu) (κ : ev_ka) (pc ce sl : Nat) (lo : ev_L) (x : Int32) (st : List Value) (hp : ev_H) (ps : List (Int × Int)) (dflt : Int) (y : Option β) (w : β → ev_O) : Prop :=
  ∃ (off : Int) (t : Nat), Op.lookupswitch.offset ps dflt x.toInt = off ∧ (pc : Int) + off = (t : Int) ∧ ev_J l D γ μ κ t ce sl lo st hp y w
theorem js_sw0 {x : Int32} {dflt : Int} (t : Nat) (ht : (pc : Int) + dflt = (t : Int)) (hk : ev_J l D γ μ κ t ce sl lo st hp y w) : ev_sj l D γ μ κ pc ce sl lo x st hp [] dflt y w := ⟨dflt, t, rfl, ht, hk⟩
theorem js_sw1 {x v : Int32} {dflt k off : Int} {ps : List (Int × Int)} {y1 y2 : Option β} (t : Nat) (hv : v.toInt = k) (ht : (pc : Int) + off = (t : Int)) (hk : ev_J l D γ μ κ t ce sl lo st hp y1 w) (hr : ev_sj l D γ μ κ pc ce sl lo x st hp ps dflt y2 w) : ev_sj l D γ μ κ pc ce sl lo x st hp ((k, off) :: ps) dflt (if x = v then y1 else y2) w := by
  by_cases h : x = v
  · refine ⟨off, t, ?_, ht, ?_⟩
    · rw [Op.lookupswitch.offset_cons, if_pos (by rw [h]; exact hv.symm)]
    · rw [if_pos h]
      exact hk
  · obtain ⟨o1, t1, a, b, d⟩ := hr
    refine ⟨o1, t1, ?_, b, ?_⟩
    · rw [Op.lookupswitch.offset_cons, if_neg (fun z => h (Int32.toInt_inj.mp (z.symm.trans hv.symm)))]
      exact a
    · rw [if_neg h]
      exact d
theorem js_lsw {x : Int32} {len : Nat} {dflt : Int} {ps : Array (Int × Int)} (X : ev_X l D γ μ κ) (hd : decode μ.1 pc = .ok (.lookupswitch dflt ps, len)) (hsort : (ps.toList.zip (ps.toList.drop 1)).all (fun (a, next) => a.1 < next.1) = true) (hk : ev_sj l D γ μ κ pc ce sl lo x st hp ps.toList dflt y w) : ev_J l D γ μ κ pc ce sl lo (.int x :: st) hp y w := by
  obtain ⟨off, t, a, b, hk⟩ := hk
  obtain ⟨p, e, s, m, args, below, meth, c, Q, A, ρ0, n0, Ex⟩ := κ
  intro q hy E ρ ls H locs hl hw
  exact lv_lookup X.1 X.2.1 hd hsort a b (hk q hy E ρ ls H locs hl hw)
theorem ev_tab {lo1 dflt x : Int} : ∀ (offs : List Int) (i : Nat), (x < lo1 + i ∨ lo1 + i + offs.length ≤ x → Op.lookupswitch.offset ((offs.zipIdx i).map fun q => (lo1 + (q.2 : Int), q.1)) dflt x = dflt) ∧ ∀ (j : Nat) (o : Int), offs[j]? = some o → x = lo1 + (i + j : Nat) → Op.lookupswitch.offset ((offs.zipIdx i).map fun q => (lo1 + (q.2 : Int), q.1)) dflt x = o
  | [], i => ⟨fun _ => rfl, fun j o h => by simp at h⟩
  | a :: r, i => by
    obtain ⟨h1, h2⟩ := ev_tab (lo1 := lo1) (dflt := dflt) (x := x) r (i + 1)
    have e : (((a :: r).zipIdx i).map fun q => (lo1 + (q.2 : Int), q.1)) = (lo1 + (i : Int), a) :: ((r.zipIdx (i + 1)).map fun q => (lo1 + (q.2 : Int), q.1)) := by simp [List.zipIdx_cons]
    rw [e, Op.lookupswitch.offset_cons]
    refine ⟨fun h => ?_, fun j o hj hx => ?_⟩
    · rw [List.length_cons] at h
      rw [if_neg (by omega)]
      exact h1 (by omega)
    · cases j with
      | zero =>
        rw [if_pos (by omega)]
        simpa using hj
      | succ j =>
        rw [if_neg (by omega)]
        rw [List.getElem?_cons_succ] at hj
        exact h2 j o hj (by omega)
theorem js_tsw {x : Int32} {len : Nat} {dflt lo1 hi1 : Int} {offs : Array Int} (X : ev_X l D γ μ κ) (hd : decode μ.1 pc = .ok (.tableswitch dflt lo1 hi1 offs, len)) (hh : hi1 = lo1 + (offs.toList.length : Int) - 1) (hk : ev_sj l D γ μ κ pc ce sl lo x st hp ((offs.toList.zipIdx 0).map fun q => (lo1 + (q.2 : Int), q.1)) dflt y w) : ev_J l D γ μ κ pc ce sl lo (.int x :: st) hp y w := by
  obtain ⟨off, t, a, b, hk⟩ := hk
  obtain ⟨p, e, s, m, args, below, meth, c, Q, A, ρ0, n0, Ex⟩ := κ
  intro q hy E ρ ls H locs hl hw
  obtain ⟨h1, h2⟩ := ev_tab (lo1 := lo1) (dflt := dflt) (x := x.toInt) offs.toList 0
  by_cases hin : x.toInt < lo1 ∨ hi1 < x.toInt
  · have e1 := h1 (by omega)
    rw [e1] at a
    subst a
    exact lv_tableOut X.1 X.2.1 hd hin b (hk q hy E ρ ls H locs hl hw)
  · have n1 : ¬ x.toInt < lo1 := fun z => hin (Or.inl z)
    have n2 : ¬ hi1 < x.toInt := fun z => hin (Or.inr z)
    have hil : (x.toInt - lo1).toNat < offs.toList.length := by omega
    have hi : offs.toList[(x.toInt - lo1).toNat]? = some offs.toList[(x.toInt - lo1).toNat] := List.getElem?_eq_getElem hil
    have e2 := h2 _ _ hi (by omega)
    rw [e2] at a
    subst a
    exact lv_tableIn X.1 X.2.1 hd n1 n2 (by rw [← Array.getElem?_toList]; exact hi) b (hk q hy E ρ ls H locs hl hw)
end EVR
end
section
def ev_C (γ : ev_ga) (ci : Nat) (C : String) (T : u_T) (N : Nat) (ty : Nat → FieldType) : Prop :=
  γ.1[ci]? = some (C, T, N) ∧ (∀ w ∈ u_ws C T N, w ∈ γ.2.2) ∧ (∀ k, k < N → parseFieldDescriptor (T k).2.2.1 = some (ty k)) ∧ ∀ a, a < N → ∀ b, b < N → a ≠ b → (T a).2.1 ≠ (T b).2.1
theorem ev_w_setf (ρ : ev_R) (hp : ev_H) (a ci j : Nat) (fs : List Value) (v : Value) : ev_w ρ (ev_s hp a (.inr (ci, ev_s fs j v))) = (ev_w ρ hp).set a ((ρ a).1, .inr (ci, (fs.map (ev_v ρ)).set j (ev_v ρ v))) := by
  rw [ev_w_set]
  have h : ev_e ρ a (.inr (ci, ev_s fs j v)) = .inr (ci, (fs.map (ev_v ρ)).set j (ev_v ρ v)) := by
    show (Sum.inr (ci, (ev_s fs j v).map (ev_v ρ)) : va_E) = _
    rw [ev_s_eq, List.map_set]
  rw [h]
def cpok (sp dp n : Int32) (n0 n1 : Nat) : Bool := decide (¬ sp < 0 ∧ ¬ dp < 0 ∧ ¬ n < 0 ∧ sp.toNatClampNeg + n.toNatClampNeg ≤ n0 ∧ dp.toNatClampNeg + n.toNatClampNeg ≤ n1)
theorem cpok_of {sp dp n : Int32} {n0 n1 : Nat} (h : cpok sp dp n n0 n1 = true) : ¬ sp < 0 ∧ ¬ dp < 0 ∧ ¬ n < 0 ∧ sp.toNatClampNeg + n.toNatClampNeg ≤ n0 ∧ dp.toNatClampNeg + n.toNatClampNeg ≤ n1 := of_decide_eq_true h
theorem ev_lo.grow {ρ ρ' : ev_R} {ls : Array Slot} {lo : ev_L} {N nL : Nat} (hl : ev_lo ρ ls nL lo) (ha : ∀ k, k < N → ρ' k = ρ k) (h : ev_okl N lo = true) : ev_lo ρ' ls nL lo := hl.to fun i v hi => ev_okl_eq ha h i v hi
section EVC
variable {β : Type} {l : Launch} {D : va_G} {γ : ev_ga} {μ : ev_mu} {κ : ev_ka} {pc n ce sl : Nat} {lo : ev_L} {st : List Value} {hp : ev_H} {y : Option β} {w : β → ev_O}
theorem js_getf {ci j N idx a : Nat} {C : String} {T : u_T} {ty : Nat → FieldType} {fs : List Value} {v : Value} (X : ev_X l D γ μ κ) (hd : decode μ.1 pc = .ok (.getfield idx, 3)) (hn : pc + 3 = n) (hC : ev_C γ ci C T N ty) (hj : j < N) (hlink : Jvm.Cond.fieldLink μ.2.2.2.1.cls idx (T j).1 (T j).2.1 (T j).2.2.1 ∈ γ.2.2) (hx : ev_n hp a = some (.inr (ci, fs))) (hv : ev_n fs j = some v) (hk : ev_J l D γ μ κ n ce sl lo (v :: st) hp y w) : ev_J l D γ μ κ pc ce sl lo (.ref a :: st) hp y w := by
  obtain ⟨p, e, s, m, args, below, meth, c, Q, A, ρ0, n0, Ex⟩ := κ
  subst hn
  intro q hy E ρ ls H locs hl hw
  exact va_get X.1 X.2.1 X.2.2.2.2.1 hC.2.1 X.2.2.2.1 X.2.2.2.2.2.1 hw.1 a (ev_w_at hx) hC.1 j hj (X.2.2.2.2.1 _ hlink) (fun _ h => h) (v := ev_v ρ v) (by rw [List.getElem?_map, ← ev_n_eq, hv]; rfl) hd (hk q hy E ρ ls H locs hl hw)
theorem js_put0 {ci j N idx a : Nat} {C : String} {T : u_T} {ty : Nat → FieldType} {fs : List Value} {v : Value} (X : ev_X l D γ μ κ) (hd : decode μ.1 pc = .ok (.putfield idx, 3)) (hn : pc + 3 = n) (hC : ev_C γ ci C T N ty) (hj : j < N) (hlink : Jvm.Cond.fieldLink μ.2.2.2.1.cls idx (T j).1 (T j).2.1 (T j).2.2.1 ∈ γ.2.2) (hx : ev_n hp a = some (.inr (ci, fs)))
    (hfin : (T j).2.2.2 = false ∨ ((T j).2.2.2 = true ∧ μ.2.2.2.1.name = "<init>" ∧ (T j).1 = μ.2.2.2.1.cls)) (hlen : j < fs.length) (hv1 : ∀ ρ, narrow (ty j) (ev_v ρ v) = ev_v ρ v) (hv2 : ∀ ρ, fits (ty j) (ev_v ρ v) = true) (hk : ev_J l D γ μ κ n ce sl lo st (ev_s hp a (.inr (ci, ev_s fs j v))) y w) : ev_J l D γ μ κ pc ce sl lo (v :: .ref a :: st) hp y w := by
  obtain ⟨p, e, s, m, args, below, meth, c, Q, A, ρ0, n0, Ex⟩ := κ
  subst hn
  intro q hy E ρ ls H locs hl hw
  obtain ⟨hP, hD, hS, hT, hn0, hag⟩ := hw
  have hlen' : j < (fs.map (ev_v ρ)).length := by rw [List.length_map]; exact hlen
  rcases hfin with hfin | ⟨hfin, hin, hdecl⟩
  · refine va_put X.1 X.2.1 X.2.2.2.2.1 hC.2.1 ty hC.2.2.1 hC.2.2.2 X.2.2.2.1 X.2.2.2.2.2.1 hP hD hS a (ev_w_at hx) hC.1 j hj (X.2.2.2.2.1 _ hlink) (fun _ h => h) hfin (hC.2.2.1 j hj) (hv1 ρ) (hv2 ρ) hlen' hd (fun H1 locs1 hP1 hD1 hS1 => ?_)
    exact hk q hy E ρ ls H1 locs1 hl ⟨by rw [ev_w_setf]; exact hP1, by rw [ev_w_setf]; exact hD1, hS1, hT.seto, by rw [ev_s_len]; exact hn0, hag⟩
  · refine va_putF X.1 X.2.1 X.2.2.2.2.1 hC.2.1 ty hC.2.2.1 hC.2.2.2 X.2.2.2.1 X.2.2.2.2.2.1 hP hD hS a (ev_w_at hx) hC.1 j hj (X.2.2.2.2.1 _ hlink) (fun _ h => h) hfin (X.2.2.2.2.2.2.2.2.1.trans hin) hdecl (hC.2.2.1 j hj) (hv1 ρ) (hv2 ρ) hlen' hd (fun H1 locs1 hP1 hD1 hS1 => ?_)
    exact hk q hy E ρ ls H1 locs1 hl ⟨by rw [ev_w_setf]; exact hP1, by rw [ev_w_setf]; exact hD1, hS1, hT.seto, by rw [ev_s_len]; exact hn0, hag⟩
theorem js_puti {ci j N idx a : Nat} {C : String} {T : u_T} {ty : Nat → FieldType} {fs : List Value} {x : Int32} (X : ev_X l D γ μ κ) (hd : decode μ.1 pc = .ok (.putfield idx, 3)) (hn : pc + 3 = n) (hC : ev_C γ ci C T N ty) (hj : j < N) (hlink : Jvm.Cond.fieldLink μ.2.2.2.1.cls idx (T j).1 (T j).2.1 (T j).2.2.1 ∈ γ.2.2) (hx : ev_n hp a = some (.inr (ci, fs))) (hty : ty j = .int) (hfin : (T j).2.2.2 = false ∨ ((T j).2.2.2 = true ∧ μ.2.2.2.1.name = "<init>" ∧ (T j).1 = μ.2.2.2.1.cls)) (hlen : j < fs.length) (hk : ev_J l D γ μ κ n ce sl lo st (ev_s hp a (.inr (ci, ev_s fs j (.int x)))) y w) : ev_J l D γ μ κ pc ce sl lo (.int x :: .ref a :: st) hp y w :=
  js_put0 X hd hn hC hj hlink hx hfin hlen (fun _ => by rw [hty]; rfl) (fun _ => by rw [hty]; rfl) hk
theorem js_putj {ci j N idx a : Nat} {C : String} {T : u_T} {ty : Nat → FieldType} {fs : List Value} {x : Int64} (X : ev_X l D γ μ κ) (hd : decode μ.1 pc = .ok (.putfield idx, 3)) (hn : pc + 3 = n) (hC : ev_C γ ci C T N ty) (hj : j < N) (hlink : Jvm.Cond.fieldLink μ.2.2.2.1.cls idx (T j).1 (T j).2.1 (T j).2.2.1 ∈ γ.2.2) (hx : ev_n hp a = some (.inr (ci, fs))) (hty : ty j = .long) (hfin : (T j).2.2.2 = false ∨ ((T j).2.2.2 = true ∧ μ.2.2.2.1.name = "<init>" ∧ (T j).1 = μ.2.2.2.1.cls)) (hlen : j < fs.length) (hk : ev_J l D γ μ κ n ce sl lo st (ev_s hp a (.inr (ci, ev_s fs j (.long x)))) y w) : ev_J l D γ μ κ pc ce sl lo (.long x :: .ref a :: st) hp y w :=
  js_put0 X hd hn hC hj hlink hx hfin hlen (fun _ => by rw [hty]; rfl) (fun _ => by rw [hty]; rfl) hk
theorem js_putr {ci j N idx a : Nat} {C : String} {T : u_T} {ty : Nat → FieldType} {fs : List Value} {x : Nat} (X : ev_X l D γ μ κ) (hd : decode μ.1 pc = .ok (.putfield idx, 3)) (hn : pc + 3 = n) (hC : ev_C γ ci C T N ty) (hj : j < N) (hlink : Jvm.Cond.fieldLink μ.2.2.2.1.cls idx (T j).1 (T j).2.1 (T j).2.2.1 ∈ γ.2.2) (hx : ev_n hp a = some (.inr (ci, fs))) (hty : (∃ E, ty j = .object E) ∨ ∃ t, ty j = .array t) (hfin : (T j).2.2.2 = false ∨ ((T j).2.2.2 = true ∧ μ.2.2.2.1.name = "<init>" ∧ (T j).1 = μ.2.2.2.1.cls)) (hlen : j < fs.length) (hk : ev_J l D γ μ κ n ce sl lo st (ev_s hp a (.inr (ci, ev_s fs j (.ref x)))) y w) : ev_J l D γ μ κ pc ce sl lo (.ref x :: .ref a :: st) hp y w :=
  js_put0 X hd hn hC hj hlink hx hfin hlen (fun _ => by rcases hty with ⟨E, hty⟩ | ⟨t, hty⟩ <;> (rw [hty]; rfl)) (fun _ => by rcases hty with ⟨E, hty⟩ | ⟨t, hty⟩ <;> (rw [hty]; rfl)) hk
theorem js_putz {ci j N idx a : Nat} {C : String} {T : u_T} {ty : Nat → FieldType} {fs : List Value} {x : Int32} (X : ev_X l D γ μ κ) (hd : decode μ.1 pc = .ok (.putfield idx, 3)) (hn : pc + 3 = n) (hC : ev_C γ ci C T N ty) (hj : j < N) (hlink : Jvm.Cond.fieldLink μ.2.2.2.1.cls idx (T j).1 (T j).2.1 (T j).2.2.1 ∈ γ.2.2) (hx : ev_n hp a = some (.inr (ci, fs))) (hty : ty j = .boolean) (hfin : (T j).2.2.2 = false ∨ ((T j).2.2.2 = true ∧ μ.2.2.2.1.name = "<init>" ∧ (T j).1 = μ.2.2.2.1.cls)) (hlen : j < fs.length) (hk : ev_J l D γ μ κ n ce sl lo st (ev_s hp a (.inr (ci, ev_s fs j (.int x)))) y w) : ev_J l D γ μ κ pc ce sl lo (.int x :: .ref a :: st) hp (ck (isB x) y) w := by
  by_cases hb : isB x = true
  · rw [hb]
    exact js_put0 X hd hn hC hj hlink hx hfin hlen (fun _ => by rw [hty]; rcases isB_or hb with rfl | rfl <;> rfl) (fun _ => by rw [hty]; rcases isB_or hb with rfl | rfl <;> rfl) hk
  · rw [Bool.not_eq_true] at hb
    rw [hb]
    exact js_none
theorem js_iaload {a N : Nat} {i : Int32} {f : Nat → Int32} (X : ev_X l D γ μ κ) (hd : decode μ.1 pc = .ok (.iaload, 1)) (hn : pc + 1 = n) (hx : ev_n hp a = some (.inl (.int, N, .inl f))) (hk : ev_J l D γ μ κ n ce sl lo (.int (f (ix i)) :: st) hp y w) : ev_J l D γ μ κ pc ce sl lo (.int i :: .ref a :: st) hp (ck (inb i N) y) w := by
  obtain ⟨p, e, s, m, args, below, meth, c, Q, A, ρ0, n0, Ex⟩ := κ
  subst hn
  intro q hy E ρ ls H locs hl hw
  obtain ⟨h1, hy⟩ := ck_t hy
  exact va_iald X.1 X.2.1 (hw.2.2.2.1.K X.2.2.2.2.2.1 hx) hw.1 a 0 (ev_w_at hx) rfl (inb_in h1) hd (hk q hy E ρ ls H locs hl hw)
theorem js_baload {a N : Nat} {i : Int32} {f : Nat → Int32} (X : ev_X l D γ μ κ) (hd : decode μ.1 pc = .ok (.baload, 1)) (hn : pc + 1 = n) (hx : ev_n hp a = some (.inl (.boolean, N, .inl f))) (hk : ev_J l D γ μ κ n ce sl lo (.int (f (ix i)) :: st) hp y w) : ev_J l D γ μ κ pc ce sl lo (.int i :: .ref a :: st) hp (ck (inb i N) y) w := by
  obtain ⟨p, e, s, m, args, below, meth, c, Q, A, ρ0, n0, Ex⟩ := κ
  subst hn
  intro q hy E ρ ls H locs hl hw
  obtain ⟨h1, hy⟩ := ck_t hy
  exact va_zald X.1 X.2.1 (hw.2.2.2.1.K X.2.2.2.2.2.1 hx) hw.1 a 0 (ev_w_at hx) rfl (inb_in h1) hd (hk q hy E ρ ls H locs hl hw)
theorem js_laload {a N : Nat} {i : Int32} {f : Nat → Int64} (X : ev_X l D γ μ κ) (hd : decode μ.1 pc = .ok (.laload, 1)) (hn : pc + 1 = n) (hx : ev_n hp a = some (.inl (.long, N, .inr f))) (hk : ev_J l D γ μ κ n ce sl lo (.long (f (ix i)) :: st) hp y w) : ev_J l D γ μ κ pc ce sl lo (.int i :: .ref a :: st) hp (ck (inb i N) y) w := by
  obtain ⟨p, e, s, m, args, below, meth, c, Q, A, ρ0, n0, Ex⟩ := κ
  subst hn
  intro q hy E ρ ls H locs hl hw
  obtain ⟨h1, hy⟩ := ck_t hy
  exact va_lald X.1 X.2.1 (hw.2.2.2.1.K X.2.2.2.2.2.1 hx) hw.1 a 0 (ev_w_at hx) rfl (inb_in h1) hd (hk q hy E ρ ls H locs hl hw)
theorem js_iastore {a N : Nat} {i : Int32} {x : Int32} {f : Nat → Int32} (X : ev_X l D γ μ κ) (hd : decode μ.1 pc = .ok (.iastore, 1)) (hn : pc + 1 = n) (hx : ev_n hp a = some (.inl (.int, N, .inl f))) (hk : ev_J l D γ μ κ n ce sl lo st (ev_s hp a (.inl (.int, N, .inl (upd f (ix i) x)))) y w) : ev_J l D γ μ κ pc ce sl lo (.int x :: .int i :: .ref a :: st) hp (ck (inb i N) y) w := by
  obtain ⟨p, e, s, m, args, below, meth, c, Q, A, ρ0, n0, Ex⟩ := κ
  subst hn
  intro q hy E ρ ls H locs hl hw
  obtain ⟨h1, hy⟩ := ck_t hy
  obtain ⟨hP, hD, hS, hT, hn0, hag⟩ := hw
  refine va_iast X.1 X.2.1 (hT.K X.2.2.2.2.2.1 hx) hP hD hS a 0 (ev_w_at hx) rfl (inb_in h1) hd (fun H1 locs1 hP1 hD1 hS1 => ?_)
  exact hk q hy E ρ ls H1 locs1 hl ⟨by rw [ev_w_set]; exact hP1, by rw [ev_w_set]; exact hD1, hS1, hT.set hx, by rw [ev_s_len]; exact hn0, hag⟩
theorem js_lastore {a N : Nat} {i : Int32} {x : Int64} {f : Nat → Int64} (X : ev_X l D γ μ κ) (hd : decode μ.1 pc = .ok (.lastore, 1)) (hn : pc + 1 = n) (hx : ev_n hp a = some (.inl (.long, N, .inr f))) (hk : ev_J l D γ μ κ n ce sl lo st (ev_s hp a (.inl (.long, N, .inr (vp_updL f (ix i) x)))) y w) : ev_J l D γ μ κ pc ce sl lo (.long x :: .int i :: .ref a :: st) hp (ck (inb i N) y) w := by
  obtain ⟨p, e, s, m, args, below, meth, c, Q, A, ρ0, n0, Ex⟩ := κ
  subst hn
  intro q hy E ρ ls H locs hl hw
  obtain ⟨h1, hy⟩ := ck_t hy
  obtain ⟨hP, hD, hS, hT, hn0, hag⟩ := hw
  refine va_last X.1 X.2.1 (hT.K X.2.2.2.2.2.1 hx) hP hD hS a 0 (ev_w_at hx) rfl (inb_in h1) hd (fun H1 locs1 hP1 hD1 hS1 => ?_)
  exact hk q hy E ρ ls H1 locs1 hl ⟨by rw [ev_w_set]; exact hP1, by rw [ev_w_set]; exact hD1, hS1, hT.set hx, by rw [ev_s_len]; exact hn0, hag⟩
theorem js_bastore {a N : Nat} {i : Int32} {x : Int32} {f : Nat → Int32} (X : ev_X l D γ μ κ) (hd : decode μ.1 pc = .ok (.bastore, 1)) (hn : pc + 1 = n) (hx : ev_n hp a = some (.inl (.boolean, N, .inl f))) (hk : ev_J l D γ μ κ n ce sl lo st (ev_s hp a (.inl (.boolean, N, .inl (upd f (ix i) x)))) y w) : ev_J l D γ μ κ pc ce sl lo (.int x :: .int i :: .ref a :: st) hp (ck (inb i N) (ck (isB x) y)) w := by
  obtain ⟨p, e, s, m, args, below, meth, c, Q, A, ρ0, n0, Ex⟩ := κ
  subst hn
  intro q hy E ρ ls H locs hl hw
  obtain ⟨h1, hy⟩ := ck_t hy
  obtain ⟨h2, hy⟩ := ck_t hy
  have hz : vp_nar .boolean x = x := by rcases isB_or h2 with rfl | rfl <;> rfl
  obtain ⟨hP, hD, hS, hT, hn0, hag⟩ := hw
  refine va_zast X.1 X.2.1 (hT.K X.2.2.2.2.2.1 hx) hP hD hS a 0 (ev_w_at hx) rfl (inb_in h1) hd (fun H1 locs1 hP1 hD1 hS1 => ?_)
  rw [hz] at hP1 hD1
  exact hk q hy E ρ ls H1 locs1 hl ⟨by rw [ev_w_set]; exact hP1, by rw [ev_w_set]; exact hD1, hS1, hT.set hx, by rw [ev_s_len]; exact hn0, hag⟩
theorem js_alen {a N : Nat} {ty : FieldType} {f : Nat → Int32} (X : ev_X l D γ μ κ) (hd : decode μ.1 pc = .ok (.arraylength, 1)) (hn : pc + 1 = n) (hx : ev_n hp a = some (.inl (ty, N, .inl f))) (hk : ev_J l D γ μ κ n ce sl lo (.int (Int32.ofNat N) :: st) hp y w) : ev_J l D γ μ κ pc ce sl lo (.ref a :: st) hp y w := by
  obtain ⟨p, e, s, m, args, below, meth, c, Q, A, ρ0, n0, Ex⟩ := κ
  subst hn
  intro q hy E ρ ls H locs hl hw
  exact va_alen X.1 X.2.1 (hw.2.2.2.1.K X.2.2.2.2.2.1 hx) hw.1 a 0 (ev_w_at hx) rfl rfl hd (hk q hy E ρ ls H locs hl hw)
theorem js_copy {idx a b N0 N1 : Nat} {sp dp k9 : Int32} {f g : Nat → Int32} (X : ev_X l D γ μ κ) (hd : decode μ.1 pc = .ok (.invokestatic idx, 3)) (hn : pc + 3 = n) (w1 : Jvm.Cond.methodLink μ.2.2.2.1.cls idx arraycopyName ∈ γ.2.2) (w2 : Jvm.Cond.native arraycopyName ∈ γ.2.2) (w3 : Jvm.Cond.static arraycopyName ∈ γ.2.2) (w4 : Jvm.Cond.initialized "java/lang/System" ∈ γ.2.2) (hf : 1 ≤ μ.2.2.2.2.1.frames) (hlo : nativeFrameWords "java/lang/System" "arraycopy" 5 + 11 ≤ μ.2.2.2.2.1.locals)
    (hx : ev_n hp a = some (.inl (.int, N0, .inl f))) (hz : ev_n hp b = some (.inl (.int, N1, .inl g))) (hk : ev_J l D γ μ κ n ce sl lo [] (ev_s hp b (.inl (.int, N1, .inl (va_cpy f g (ix sp) (ix dp) (ix k9))))) y w) : ev_J l D γ μ κ pc ce sl lo [.int k9, .int dp, .ref b, .int sp, .ref a] hp (ck (cpok sp dp k9 N0 N1) y) w := by
  obtain ⟨p, e, s, m, args, below, meth, c, Q, A, ρ0, n0, Ex⟩ := κ
  subst hn
  intro q hy E ρ ls H locs hl hw
  obtain ⟨h1, hy⟩ := ck_t hy
  obtain ⟨c1, c2, c3, c4, c5⟩ := cpok_of h1
  obtain ⟨hP, hD, hS, hT, hn0, hag⟩ := hw
  refine va_copyi (rest := []) X.1 X.2.1 (X.2.2.1.trans hl.1.symm) X.2.2.2.1 (X.2.2.2.2.1 _ w1) (X.2.2.2.2.1 _ w2) (X.2.2.2.2.1 _ w3) (X.2.2.2.2.1 _ w4) ((hT.K X.2.2.2.2.2.1 hx).app (hT.K X.2.2.2.2.2.1 hz)) hP hD hS a b 0 1 (ev_w_at hx) (ev_w_at hz) rfl rfl rfl c1 c2 c3 c4 c5 (fun _ _ => rfl) hf (by simpa using hlo) hd (fun H1 locs1 hP1 hD1 hS1 => ?_)
  exact hk q hy E ρ ls H1 locs1 hl ⟨by rw [ev_w_set]; exact hP1, by rw [ev_w_set]; exact hD1, hS1, hT.set hz, by rw [ev_s_len]; exact hn0, hag⟩
theorem js_new {ci N idx : Nat} {C : String} {T : u_T} {ty : Nat → FieldType} {fs : List Value} (X : ev_X l D γ μ κ) (hd : decode μ.1 pc = .ok (.new idx, 3)) (hn : pc + 3 = n) (hC : ev_C γ ci C T N ty) (w1 : Jvm.Cond.classLink μ.2.2.2.1.cls idx C ∈ γ.2.2) (w2 : Jvm.Cond.instantiable C N ∈ γ.2.2) (w3 : Jvm.Cond.initialized C ∈ γ.2.2) (hfs : ∀ j, j < N → defaultValue (ty j) = vp_V fs j) (hfi : ∀ ρ : ev_R, fs.map (ev_v ρ) = fs) (h1 : ce + 1 ≤ μ.2.2.2.2.1.cells) (h2 : sl + N ≤ μ.2.2.2.2.1.slots)
    (o1 : ev_okh hp.length hp = true) (o2 : ev_okl hp.length lo = true) (o3 : ev_oks hp.length st = true) (hk : ev_J l D γ μ κ n (ce + 1) (sl + N) lo (.ref hp.length :: st) (hp ++ [.inr (ci, fs)]) y w) : ev_J l D γ μ κ pc ce sl lo st hp y w := by
  obtain ⟨p, e, s, m, args, below, meth, c, Q, A, ρ0, n0, Ex⟩ := κ
  subst hn
  intro q hy E ρ ls H locs hl hw
  obtain ⟨hP, hD, hS, hT, hn0, hag⟩ := hw
  refine va_new (fs := fs) X.1 X.2.1 X.2.2.2.2.1 hC.2.1 ty hC.2.2.1 X.2.2.2.1 (X.2.2.2.2.1 _ w1) (X.2.2.2.2.1 _ w2) (X.2.2.2.2.1 _ w3) X.2.2.2.2.2.1 hP hD hS X.2.2.2.2.2.2.1 hC.1 hfs h1 h2 hd (fun q9 H1 hP1 hD1 hS1 => ?_)
  have ha : ∀ k, k < hp.length → ev_up ρ hp.length q9 (ρ 0).2 k = ρ k := fun k hk => ev_up_lt k hk
  have he : ev_w (ev_up ρ hp.length q9 (ρ 0).2) (hp ++ [.inr (ci, fs)]) = ev_w ρ hp ++ [(q9, .inr (ci, fs))] := by
    rw [ev_w_push o1]
    show _ ++ [(q9, (Sum.inr (ci, fs.map (ev_v _)) : va_E))] = _
    rw [hfi]
  have hst : List.map (ev_v (ev_up ρ hp.length q9 (ρ 0).2)) (.ref hp.length :: st) = .ref q9 :: List.map (ev_v ρ) st := by
    rw [List.map_cons, ev_oks_eq ha o3]
    show Value.ref (ev_up ρ hp.length q9 (ρ 0).2 hp.length).1 :: _ = _
    rw [ev_up_at]
  have := hk q hy E (ev_up ρ hp.length q9 (ρ 0).2) ls H1 locs (hl.grow ha o2) ⟨by rw [he]; exact hP1, by rw [he]; exact hD1, hS1, ?_, by rw [List.length_append]; omega, fun k hk => by rw [ev_up_lt k (by omega)]; exact hag k hk⟩
  · rw [hst] at this
    exact this
  · intro k t x hx
    by_cases hkl : k < hp.length
    · rw [List.getElem?_append_left hkl] at hx
      rw [ev_up_lt k hkl]
      exact hT k t x hx
    · rw [List.getElem?_append_right (by omega)] at hx
      have hz : k - hp.length < 1 := (List.getElem?_eq_some_iff.mp hx).1
      have hz0 : k - hp.length = 0 := by omega
      rw [hz0] at hx
      cases hx
def ev_a0 (a : (Nat → Int32) ⊕ (Nat → Int64)) : (Nat → Int32) ⊕ (Nat → Int64) ⊕ (Nat → UInt32) ⊕ (Nat → UInt64) ⊕ (Nat → Option Nat) := match a with
  | .inl f => .inl f
  | .inr f => .inr (.inl f)
theorem js_newa {N : Nat} {ty : FieldType} {atype : ArrayType} (a : (Nat → Int32) ⊕ (Nat → Int64)) {k9 : Int32} (X : ev_X l D γ μ κ) (hd : decode μ.1 pc = .ok (.newarray atype, 2)) (hn : pc + 2 = n) (w1 : Jvm.Cond.arrayClass (newarray.typeOf atype) ∈ γ.2.2) (hty : newarray.typeOf atype = ty) (ha0 : ∀ cA : ClassId, vp_cell cA (N, ev_a0 a) = arrV cA N (fun _ => defaultValue ty)) (hby : N * componentBytes ty ≤ 536870912) (h1 : ce + 1 ≤ μ.2.2.2.2.1.cells) (h2 : sl + N ≤ μ.2.2.2.2.1.slots)
    (g1 : ¬ k9 < 0) (g2 : ix k9 = N) (o1 : ev_okh hp.length hp = true) (o2 : ev_okl hp.length lo = true) (o3 : ev_oks hp.length st = true) (hk : ev_J l D γ μ κ n (ce + 1) (sl + N) lo (.ref hp.length :: st) (hp ++ [.inl (ty, N, a)]) y w) : ev_J l D γ μ κ pc ce sl lo (.int k9 :: st) hp y w := by
  obtain ⟨p, e, s, m, args, below, meth, c, Q, A, ρ0, n0, Ex⟩ := κ
  subst hn
  intro q hy E ρ ls H locs hl hw
  obtain ⟨hP, hD, hS, hT, hn0, hag⟩ := hw
  refine va_newa (a0 := (N, ev_a0 a)) X.1 X.2.1 (X.2.2.2.2.1 _ w1) hty X.2.2.2.2.2.1 hP hD hS X.2.2.2.2.2.2.1 ha0 g1 g2 hby h1 h2 hd (fun q9 cA H1 hK1 hP1 hD1 hS1 => ?_)
  have ha : ∀ k, k < hp.length → ev_up ρ hp.length q9 cA k = ρ k := fun k hk => ev_up_lt k hk
  have he : ev_w (ev_up ρ hp.length q9 cA) (hp ++ [.inl (ty, N, a)]) = ev_w ρ hp ++ [(q9, .inl (cA, N, ev_a0 a))] := by
    rw [ev_w_push o1]
    have : ev_e (ev_up ρ hp.length q9 cA) hp.length (.inl (ty, N, a)) = .inl (cA, N, ev_a0 a) := by
      rcases a with f | f
      · show (Sum.inl ((ev_up ρ hp.length q9 cA hp.length).2, N, _) : va_E) = _
        rw [ev_up_at]
        rfl
      · show (Sum.inl ((ev_up ρ hp.length q9 cA hp.length).2, N, _) : va_E) = _
        rw [ev_up_at]
        rfl
    rw [this]
  have hst : List.map (ev_v (ev_up ρ hp.length q9 cA)) (.ref hp.length :: st) = .ref q9 :: List.map (ev_v ρ) st := by
    rw [List.map_cons, ev_oks_eq ha o3]
    show Value.ref (ev_up ρ hp.length q9 cA hp.length).1 :: _ = _
    rw [ev_up_at]
  have := hk q hy E (ev_up ρ hp.length q9 cA) ls H1 locs (hl.grow ha o2) ⟨by rw [he]; exact hP1, by rw [he]; exact hD1, hS1, ?_, by rw [List.length_append]; omega, fun k hk => by rw [ev_up_lt k (by omega)]; exact hag k hk⟩
  · rw [hst] at this
    exact this
  · intro k t x hx
    by_cases hkl : k < hp.length
    · rw [List.getElem?_append_left hkl] at hx
      rw [ev_up_lt k hkl]
      exact hT k t x hx
    · rw [List.getElem?_append_right (by omega)] at hx
      have hz : k - hp.length < 1 := (List.getElem?_eq_some_iff.mp hx).1
      have hz0 : k = hp.length := by omega
      subst hz0
      rw [Nat.sub_self] at hx
      cases hx
      rw [ev_up_at]
      exact hK1.2 0 (cA, ty) rfl
theorem js_objI {idx a : Nat} (X : ev_X l D γ μ κ) (hd : decode μ.1 pc = .ok (.invokespecial idx, 3)) (hn : pc + 3 = n) (w1 : Jvm.Cond.methodLink μ.2.2.2.1.cls idx Lib.objectInit ∈ γ.2.2) (w2 : Jvm.Cond.instanceMethod Lib.objectInit ∈ γ.2.2) (w3 : Jvm.Cond.code Lib.objectInit ⟨#[0xb1]⟩ 1 none ∈ γ.2.2) (hf : 1 ≤ μ.2.2.2.2.1.frames) (hlo : 12 ≤ μ.2.2.2.2.1.locals) (hk : ev_J l D γ μ κ n ce sl lo [] hp y w) : ev_J l D γ μ κ pc ce sl lo [.ref a] hp y w := by
  obtain ⟨p, e, s, m, args, below, meth, c, Q, A, ρ0, n0, Ex⟩ := κ
  subst hn
  intro q hy E ρ ls H locs hl hw
  refine W.objInit (rest := []) X.1 X.2.1 X.2.2.2.1 (X.2.2.2.2.1 _ w1) (X.2.2.2.2.1 _ w2) (X.2.2.2.2.1 _ w3) rfl (by rw [X.2.2.1]; exact hl.1) rfl hd hf hlo ?_
  exact hk q hy E ρ ls H locs hl hw
end EVC
end
section
def ev_Pw (D : va_G) (γ : ev_ga) (ρ : ev_R) (hp : ev_H) (sz : Nat) (U : State) : Prop :=
  U.heap.size = sz ∧ va_P D γ.1 (ev_w ρ hp) U.heap ∧ va_K D γ.1 [] U ∧ ev_T ρ hp U ∧ va_D (fun _ => True) (ev_w ρ hp) ∧ ∀ q ∈ γ.2.1, va_Nw (.methodLinkNest q.1 q.2.1 q.2.2.1 q.2.2.2) U
def ev_Bq (D : va_G) (γ : ev_ga) (ρ : ev_R) (hp hp' : ev_H) (sz : Nat) (ρ' : ev_R) (t : State) : Prop :=
  va_P D γ.1 (ev_w ρ' hp') t.heap ∧ ev_T ρ' hp' t ∧ va_D (va_A (ev_w ρ hp) sz) (ev_w ρ' hp')
def ev_ag (ρ : ev_R) (hp hp' : ev_H) (ρ' : ev_R) : Prop := (∀ k, k < hp.length → ρ' k = ρ k) ∧ hp.length ≤ hp'.length
def ev_Q (D : va_G) (γ : ev_ga) (ρ : ev_R) (hp : ev_H) (o : ev_O) (sz : Nat) : Array Value → State → Outcome → State → Prop := match o with
  | (none, hp') => va_Qv (ev_ag ρ hp hp') (ev_Bq D γ ρ hp hp' sz) (va_A (ev_w ρ hp) sz)
  | (some (.int r), hp') => va_Qi (fun r' ρ' => r' = r ∧ ev_ag ρ hp hp' ρ') (ev_Bq D γ ρ hp hp' sz) (va_A (ev_w ρ hp) sz)
  | _ => fun _ _ _ _ => False
/-- a method's contract at the values as over the world hp: what the pure side says, it does -/
def ev_M {α : Type} (l : Launch) (D : va_G) (γ : ev_ga) (μ : ev_mu) (as : List Value) (hp : ev_H) (y : Option α) (w : α → ev_O) : Prop :=
  ∀ (q : α), y = some q → ∀ (ρ : ev_R) (sz : Nat), Met l μ.2.2.2.1 (Jvm.Cond.code μ.2.2.2.1 μ.1 μ.2.1 μ.2.2.1 :: γ.2.2) μ.2.2.2.2.1 (va_Pc (as.map (ev_v ρ)) (ev_Pw D γ ρ hp sz)) (ev_Q D γ ρ hp (w q) sz) μ.2.2.2.2.2.1 μ.2.2.2.2.2.2 (va_A (ev_w ρ hp) sz)
theorem ev_blind {D : va_G} {γ : ev_ga} {ρ : ev_R} {hp : ev_H} {sz : Nat} {av : List Value} : FrameBlind (va_Pc av (ev_Pw D γ ρ hp sz)) := by
  intro a U g mk q
  obtain ⟨q0, q1, qP, qK, qT, qD, qN⟩ := q
  exact ⟨q0, q1, qP, va_K.moved (u := U) (U := U.calling g mk a) (Vm.Alike.refl U.vm) qK, ev_T.moved (u := U) (U := U.calling g mk a) (Vm.Alike.refl U.vm) qT, qD, fun z hz => va_Nw.same rfl (u := U) (U := U.calling g mk a) rfl (qN z hz)⟩
def ev_pop : Nat → List Value → List Value → Option (List Value × List Value)
  | 0, st, acc => some (acc, st)
  | _ + 1, [], _ => none
  | n + 1, v :: st, acc => ev_pop n st (v :: acc)
theorem ev_pop_eq : ∀ {n : Nat} {st acc as st' : List Value}, ev_pop n st acc = some (as, st') → as.reverse ++ st' = acc.reverse ++ st ∧ as.length = acc.length + n
  | 0, st, acc, as, st', h => by
    simp only [ev_pop, Option.some.injEq, Prod.mk.injEq] at h
    obtain ⟨rfl, rfl⟩ := h
    exact ⟨rfl, rfl⟩
  | n + 1, [], acc, as, st', h => by simp [ev_pop] at h
  | n + 1, v :: st, acc, as, st', h => by
    obtain ⟨h1, h2⟩ := ev_pop_eq (n := n) (st := st) (acc := v :: acc) h
    refine ⟨h1.trans (by simp), h2.trans ?_⟩
    rw [List.length_cons]
    omega
def ev_cs : List Value → Nat
  | [] => 0
  | .long _ :: st => ev_cs st + 2
  | .double _ :: st => ev_cs st + 2
  | _ :: st => ev_cs st + 1
theorem ev_cs_eq : ∀ (st : List Value), (st.map fun v => v.category).sum = ev_cs st
  | [] => rfl
  | v :: st => by
    rw [List.map_cons, List.sum_cons, ev_cs_eq st]
    cases v <;> simp [ev_cs, Value.category] <;> omega
def ev_push (v : Option Value) (st : List Value) : List Value := match v with
  | some v => v :: st
  | none => st
section EVM
variable {β : Type} {l : Launch} {D : va_G} {γ : ev_ga} {μ : ev_mu} {κ : ev_ka} {pc n ce sl : Nat} {lo : ev_L} {st : List Value} {hp : ev_H} {y : Option β} {w : β → ev_O}
theorem ev_after {p : Program} {e : Env} {R : Room} {s : State} {m : MethodId} {args : Array Value} {below : List Frame} {meth : Method} {c : Code} {Q : State → Prop} {A : Nat → Prop} {ρ0 ρ : ev_R} {n0 nL : Nat} {st' st0 : List Value} {ls : Array Slot} {H : Heap} {locs : List Loc} {o1 : ev_O} {a : Array Value} {mc' ms' : Nat} (hA : ∀ q, s.heap.size ≤ q → A q) (hl : ev_lo ρ ls nL lo) (hw : ev_wd D γ.1 A s ρ0 n0 ρ hp H locs) (o2 : ev_okl hp.length lo = true) (o3 : ev_oks hp.length st' = true)
    (hrun : va_Run p l e R s m args below meth c H locs ce sl mc' ms' (F0 m pc ls st0) (st'.map (ev_v ρ)) (ev_Q D γ ρ hp o1 H.size a) (va_A (ev_w ρ hp) H.size))
    (hk : ∀ (ρ' : ev_R) (H1 : Heap) (locs1 : List Loc), ev_lo ρ' ls nL lo → ev_wd D γ.1 A s ρ0 n0 ρ' o1.2 H1 locs1 → W p l e R s m args below meth c H1 locs1 (ce + mc') (sl + ms') Q (F0 m (pc + 3) ls ((ev_push o1.1 st').map (ev_v ρ')))) : W p l e R s m args below meth c H locs ce sl Q (F0 m pc ls st0) := by
  obtain ⟨hP, hD, hS, hT, hn0, hag⟩ := hw
  have hFc : ∀ q, va_A (ev_w ρ hp) H.size q → A q := by
    intro q h
    rcases h with ⟨j, x, hj⟩ | h
    · exact hD.2 j _ hj
    · exact hA q (Nat.le_trans hS.1 h)
  have fin : ∀ (ρ' : ev_R) (t : State) (H1 : Heap) (locs1 : List Loc), t.heap = H1 → s.vm.Alike t.vm → ev_ag ρ hp o1.2 ρ' → ev_Bq D γ ρ hp o1.2 H.size ρ' t → va_S A s.heap H1 locs1 → ev_lo ρ' ls nL lo ∧ st'.map (ev_v ρ') = st'.map (ev_v ρ) ∧ ev_wd D γ.1 A s ρ0 n0 ρ' o1.2 H1 locs1 := by
    intro ρ' t H1 locs1 ht hvm hg hB hS1
    obtain ⟨b1, b2, b3⟩ := hB
    rw [ht] at b1
    exact ⟨hl.grow hg.1 o2, ev_oks_eq hg.1 o3, b1, b3.weaken (fun _ _ _ h => hFc _ h), hS1, ev_T.moved hvm.symm b2, Nat.le_trans hn0 hg.2, fun j hj => by rw [hg.1 j (by omega)]; exact hag j hj⟩
  obtain ⟨v, hp'⟩ := o1
  have bad : (∀ T : State, T.heap = H → Stand p l e R s m args below meth c T locs ce sl → False) → W p l e R s m args below meth c H locs ce sl Q (F0 m pc ls st0) := fun h T hT' XS => (h T hT' XS).elim
  match v, hrun, hk, fin with
  | none, hrun, hk, fin =>
    refine va_callv (a := a) hrun hS (fun q _ h => hFc q h) hFc (fun ρ' t H1 locs1 ht hvm hg hB _ _ hS1 => ?_)
    obtain ⟨f1, f2, f3⟩ := fin ρ' t H1 locs1 ht hvm hg hB hS1
    rw [← f2]
    exact hk ρ' H1 locs1 f1 f3
  | some (.int r), hrun, hk, fin =>
    refine va_calli (a := a) hrun hS (fun q _ h => hFc q h) hFc (fun r' ρ' t H1 locs1 ht hvm hg hB _ _ hS1 => ?_)
    obtain ⟨rfl, hg⟩ := hg
    obtain ⟨f1, f2, f3⟩ := fin ρ' t H1 locs1 ht hvm hg hB hS1
    rw [← f2]
    exact hk ρ' H1 locs1 f1 f3
  | some (.long r), hrun, hk, fin => exact bad fun T hT' XS => by obtain ⟨_, _, _, _, _, _, _, _, _, _, hf, _⟩ := hrun T hT' XS; exact hf
  | some (.float r), hrun, hk, fin => exact bad fun T hT' XS => by obtain ⟨_, _, _, _, _, _, _, _, _, _, hf, _⟩ := hrun T hT' XS; exact hf
  | some (.double r), hrun, hk, fin => exact bad fun T hT' XS => by obtain ⟨_, _, _, _, _, _, _, _, _, _, hf, _⟩ := hrun T hT' XS; exact hf
  | some (.ref r), hrun, hk, fin => exact bad fun T hT' XS => by obtain ⟨_, _, _, _, _, _, _, _, _, _, hf, _⟩ := hrun T hT' XS; exact hf
  | some (.retAddr r), hrun, hk, fin => exact bad fun T hT' XS => by obtain ⟨_, _, _, _, _, _, _, _, _, _, hf, _⟩ := hrun T hT' XS; exact hf
  | some .null, hrun, hk, fin => exact bad fun T hT' XS => by obtain ⟨_, _, _, _, _, _, _, _, _, _, hf, _⟩ := hrun T hT' XS; exact hf
theorem ev_pre {s : State} {A : Nat → Prop} {ρ0 ρ : ev_R} {n0 : Nat} {H : Heap} {locs : List Loc} {as : List Value} (hK : va_K D γ.1 [] s) (hN : ∀ q ∈ γ.2.1, va_Nw (.methodLinkNest q.1 q.2.1 q.2.2.1 q.2.2.2) s) (hw : ev_wd D γ.1 A s ρ0 n0 ρ hp H locs) : PreS s H (va_Pc (as.map (ev_v ρ)) (ev_Pw D γ ρ hp H.size)) (as.map (ev_v ρ)) := by
  obtain ⟨hP, hD, hS, hT, hn0, hag⟩ := hw
  exact ⟨ev_blind, fun U hU hW => ⟨rfl, by rw [hU], by rw [hU]; exact hP, va_K.moved hW.alike hK, ev_T.moved hW.alike hT, hD.weaken (fun _ _ _ _ => trivial), fun q hq => va_Nw.warmM hW (hN q hq)⟩⟩
theorem js_callV {α : Type} {na idx ci b : Nat} {C : String} {μ' : ev_mu} {tl : u_T × Nat} {as' st' fs : List Value} {y1 : Option α} {w1 : α → ev_O} {k : α → Option β} (X : ev_X l D γ μ κ) (hd : decode μ.1 pc = .ok (.invokevirtual idx, 3)) (hn : pc + 3 = n) (hM : ev_M l D γ μ' (.ref b :: as') hp y1 w1) (hg : GoodIn γ.2.2 (wsV μ.2.2.2.1.cls idx C μ'.2.2.2.1 (Jvm.Cond.code μ'.2.2.2.1 μ'.1 μ'.2.1 μ'.2.2.1 :: γ.2.2))) (hrc : μ'.2.2.2.2.1.cells = μ'.2.2.2.2.2.1) (hrs : μ'.2.2.2.2.1.slots = μ'.2.2.2.2.2.2)
    (hyy : μ'.2.2.2.1.cls = C ∧ μ'.2.2.2.1.cls ≠ "java/lang/invoke/MethodHandle" ∧ μ'.2.2.2.1.cls ≠ "java/lang/invoke/VarHandle" ∧ (parseMethodDescriptor μ'.2.2.2.1.desc).map (fun d => d.parameters.length) = some na) (hR : μ'.2.2.2.2.1.frames + 1 ≤ μ.2.2.2.2.1.frames ∧ 8 + (μ'.2.1 + 11) + μ'.2.2.2.2.1.locals ≤ μ.2.2.2.2.1.locals) (hc : γ.1[ci]? = some (C, tl)) (hf : ce + μ'.2.2.2.2.2.1 ≤ μ.2.2.2.2.1.cells ∧ sl + μ'.2.2.2.2.2.2 ≤ μ.2.2.2.2.1.slots) (hpop : ev_pop (na + 1) st [] = some (.ref b :: as', st')) (hb : ev_n hp b = some (.inr (ci, fs))) (o2 : ev_okl hp.length lo = true) (o3 : ev_oks hp.length st' = true) (o4 : Nat.ble (ev_cs st') 8 = true) (hk : ∀ q1, ev_J l D γ μ κ n (ce + μ'.2.2.2.2.2.1) (sl + μ'.2.2.2.2.2.2) lo (ev_push (w1 q1).1 st') (w1 q1).2 (k q1) w) : ev_J l D γ μ κ pc ce sl lo st hp (bd y1 k) w := by
  obtain ⟨p, e, s, m, args, below, meth, c, Q, A, ρ0, n0, Ex⟩ := κ
  subst hn
  intro q hy E ρ ls H locs hl hw
  obtain ⟨q1, hy1, hy⟩ := bd_t hy
  obtain ⟨hst, hlen⟩ := ev_pop_eq hpop
  have hst' : st.map (ev_v ρ) = (as'.map (ev_v ρ)).reverse ++ .ref (ρ b).1 :: st'.map (ev_v ρ) := by
    rw [show st = _ from hst.symm]
    simp [ev_v]
  have hlen' : (as'.map (ev_v ρ)).length = na := by
    simp only [List.length_cons, List.length_nil] at hlen
    rw [List.length_map]
    omega
  have hroom : ((st'.map (ev_v ρ)).map fun v => v.category).sum ≤ 8 := by
    rw [ev_v_cats, ev_cs_eq]
    exact Nat.le_of_ble_eq_true o4
  have hpre := ev_pre (as := .ref b :: as') X.2.2.2.2.2.1 X.2.2.2.2.2.2.2.1 hw
  exact ev_after X.2.2.2.2.2.2.1 hl hw o2 o3 (va_runV (As := as'.map (ev_v ρ)) (rest := st'.map (ev_v ρ)) (b := (ρ b).1) ⟨X.1, X.2.1, X.2.2.1, X.2.2.2.1, X.2.2.2.2.1⟩ (hM q1 hy1 ρ H.size) (cwV na X.2.2.2.2.1 hg rfl hrc hrs hyy hR) ⟨hpre.1, va_recv X.2.2.2.2.2.1 hw.1 hc (ev_w_at hb), hpre.2⟩ rfl hlen' hl.1 hst' (lv_room hroom) hd hf) (fun ρ' H1 locs1 a1 a2 => hk q1 q hy E ρ' ls H1 locs1 a1 a2)
theorem js_callS {α : Type} {na idx : Nat} {μ' : ev_mu} {as st' : List Value} {y1 : Option α} {w1 : α → ev_O} {k : α → Option β} (X : ev_X l D γ μ κ) (hd : decode μ.1 pc = .ok (.invokestatic idx, 3)) (hn : pc + 3 = n) (hM : ev_M l D γ μ' as hp y1 w1) (hg : GoodIn γ.2.2 (va_wsS μ.2.2.2.1.cls idx μ'.2.2.2.1 (Jvm.Cond.code μ'.2.2.2.1 μ'.1 μ'.2.1 μ'.2.2.1 :: γ.2.2))) (hrc : μ'.2.2.2.2.1.cells = μ'.2.2.2.2.2.1) (hrs : μ'.2.2.2.2.1.slots = μ'.2.2.2.2.2.2)
    (hyy : μ'.2.2.2.1.cls ≠ "java/lang/invoke/MethodHandle" ∧ μ'.2.2.2.1.cls ≠ "java/lang/invoke/VarHandle" ∧ (parseMethodDescriptor μ'.2.2.2.1.desc).map (fun d => d.parameters.length) = some na) (hR : μ'.2.2.2.2.1.frames + 1 ≤ μ.2.2.2.2.1.frames ∧ 8 + (μ'.2.1 + 11) + μ'.2.2.2.2.1.locals ≤ μ.2.2.2.2.1.locals) (hf : ce + μ'.2.2.2.2.2.1 ≤ μ.2.2.2.2.1.cells ∧ sl + μ'.2.2.2.2.2.2 ≤ μ.2.2.2.2.1.slots) (hpop : ev_pop na st [] = some (as, st')) (o2 : ev_okl hp.length lo = true) (o3 : ev_oks hp.length st' = true) (o4 : Nat.ble (ev_cs st') 8 = true) (hk : ∀ q1, ev_J l D γ μ κ n (ce + μ'.2.2.2.2.2.1) (sl + μ'.2.2.2.2.2.2) lo (ev_push (w1 q1).1 st') (w1 q1).2 (k q1) w) : ev_J l D γ μ κ pc ce sl lo st hp (bd y1 k) w := by
  obtain ⟨p, e, s, m, args, below, meth, c, Q, A, ρ0, n0, Ex⟩ := κ
  subst hn
  intro q hy E ρ ls H locs hl hw
  obtain ⟨q1, hy1, hy⟩ := bd_t hy
  obtain ⟨hst, hlen⟩ := ev_pop_eq hpop
  have hst' : st.map (ev_v ρ) = (as.map (ev_v ρ)).reverse ++ st'.map (ev_v ρ) := by
    rw [show st = _ from hst.symm]
    simp
  have hlen' : (as.map (ev_v ρ)).length = na := by
    simp only [List.length_nil] at hlen
    rw [List.length_map]
    omega
  have hroom : ((st'.map (ev_v ρ)).map fun v => v.category).sum ≤ 8 := by
    rw [ev_v_cats, ev_cs_eq]
    exact Nat.le_of_ble_eq_true o4
  exact ev_after X.2.2.2.2.2.2.1 hl hw o2 o3 (va_runS (As := as.map (ev_v ρ)) (rest := st'.map (ev_v ρ)) ⟨X.1, X.2.1, X.2.2.1, X.2.2.2.1, X.2.2.2.2.1⟩ (hM q1 hy1 ρ H.size) (va_cwS na X.2.2.2.2.1 hg rfl hrc hrs hyy hR) (ev_pre X.2.2.2.2.2.1 X.2.2.2.2.2.2.2.1 hw) rfl hlen' hl.1 hst' (lv_room hroom) hd hf) (fun ρ' H1 locs1 a1 a2 => hk q1 q hy E ρ' ls H1 locs1 a1 a2)
theorem js_callI {α : Type} {na idx b : Nat} {μ' : ev_mu} {as' st' : List Value} {y1 : Option α} {w1 : α → ev_O} {k : α → Option β} (X : ev_X l D γ μ κ) (hd : decode μ.1 pc = .ok (.invokespecial idx, 3)) (hn : pc + 3 = n) (hM : ev_M l D γ μ' (.ref b :: as') hp y1 w1) (hg : GoodIn γ.2.2 (Jvm.Cond.code μ'.2.2.2.1 μ'.1 μ'.2.1 μ'.2.2.1 :: γ.2.2)) (hrc : μ'.2.2.2.2.1.cells = μ'.2.2.2.2.2.1) (hrs : μ'.2.2.2.2.1.slots = μ'.2.2.2.2.2.2) (hret : μ'.2.2.1 = none) (hini : Jvm.Cond.initialized μ'.2.2.2.1.cls ∈ γ.2.2) (hml : (Jvm.Cond.methodLink μ.2.2.2.1.cls idx μ'.2.2.2.1 ∈ γ.2.2) ∨ ∃ host, (μ.2.2.2.1.cls, idx, μ'.2.2.2.1, host) ∈ γ.2.1) (him : Jvm.Cond.instanceMethod μ'.2.2.2.1 ∈ γ.2.2) (hyn : μ'.2.2.2.1.name = "<init>")
    (hyy : μ'.2.2.2.1.cls ≠ "java/lang/invoke/MethodHandle" ∧ μ'.2.2.2.1.cls ≠ "java/lang/invoke/VarHandle" ∧ (parseMethodDescriptor μ'.2.2.2.1.desc).map (fun d => d.parameters.length) = some na) (hR : μ'.2.2.2.2.1.frames + 1 ≤ μ.2.2.2.2.1.frames ∧ 8 + (μ'.2.1 + 11) + μ'.2.2.2.2.1.locals ≤ μ.2.2.2.2.1.locals) (hf : ce + μ'.2.2.2.2.2.1 ≤ μ.2.2.2.2.1.cells ∧ sl + μ'.2.2.2.2.2.2 ≤ μ.2.2.2.2.1.slots) (hpop : ev_pop (na + 1) st [] = some (.ref b :: as', st')) (o2 : ev_okl hp.length lo = true) (o3 : ev_oks hp.length st' = true) (o4 : Nat.ble (ev_cs st') 8 = true) (hk : ∀ q1, ev_J l D γ μ κ n (ce + μ'.2.2.2.2.2.1) (sl + μ'.2.2.2.2.2.2) lo (ev_push (w1 q1).1 st') (w1 q1).2 (k q1) w) : ev_J l D γ μ κ pc ce sl lo st hp (bd y1 k) w := by
  obtain ⟨p, e, s, m, args, below, meth, c, Q, A, ρ0, n0, Ex⟩ := κ
  subst hn
  intro q hy E ρ ls H locs hl hw
  obtain ⟨q1, hy1, hy⟩ := bd_t hy
  obtain ⟨hst, hlen⟩ := ev_pop_eq hpop
  have hst' : st.map (ev_v ρ) = (as'.map (ev_v ρ)).reverse ++ .ref (ρ b).1 :: st'.map (ev_v ρ) := by
    rw [show st = _ from hst.symm]
    simp [ev_v]
  have hlen' : (as'.map (ev_v ρ)).length = na := by
    simp only [List.length_cons, List.length_nil] at hlen
    rw [List.length_map]
    omega
  have hroom : ((st'.map (ev_v ρ)).map fun v => v.category).sum ≤ 8 := by
    rw [ev_v_cats, ev_cs_eq]
    exact Nat.le_of_ble_eq_true o4
  have hpre := ev_pre (as := .ref b :: as') X.2.2.2.2.2.1 X.2.2.2.2.2.2.2.1 hw
  have hM1 := hM q1 hy1 ρ H.size
  rw [hret] at hg hM1
  rcases hml with hml | ⟨host, hml⟩
  · exact ev_after X.2.2.2.2.2.2.1 hl hw o2 o3 (va_runI (As := as'.map (ev_v ρ)) (rest := st'.map (ev_v ρ)) (b := (ρ b).1) ⟨X.1, X.2.1, X.2.2.1, X.2.2.2.1, X.2.2.2.2.1⟩ hM1 (cwI na X.2.2.2.2.1 hg rfl hrc hrs (X.2.2.2.2.1 _ hini) (X.2.2.2.2.1 _ hml) (X.2.2.2.2.1 _ him) hyn hyy hR) hpre rfl hlen' hl.1 hst' (lv_room hroom) hd hf) (fun ρ' H1 locs1 a1 a2 => hk q1 q hy E ρ' ls H1 locs1 a1 a2)
  · exact ev_after X.2.2.2.2.2.2.1 hl hw o2 o3 (va_runIN (As := as'.map (ev_v ρ)) (rest := st'.map (ev_v ρ)) (b := (ρ b).1) ⟨X.1, X.2.1, X.2.2.1, X.2.2.2.1, X.2.2.2.2.1⟩ hM1 ⟨va_cnB na X.2.2.2.2.1 hg rfl hrc hrs (X.2.2.2.2.2.2.2.1 _ hml) (X.2.2.2.2.1 _ hini) hyy hR, hyn, X.2.2.2.2.1 _ him⟩ hpre rfl hlen' hl.1 hst' (lv_room hroom) hd hf) (fun ρ' H1 locs1 a1 a2 => hk q1 q hy E ρ' ls H1 locs1 a1 a2)
/-! returns -/
theorem js_retI {x : Int32} {q : β} (X : ev_X l D γ μ κ) (hd : decode μ.1 pc = .ok (.ireturn, 1)) (hret : μ.2.2.1 = some .int) (h1 : ce ≤ μ.2.2.2.2.2.1) (h2 : sl ≤ μ.2.2.2.2.2.2) (hq : w q = (some (.int x), hp)) : ev_J l D γ μ κ pc ce sl lo [.int x] hp (some q) w := by
  obtain ⟨p, e, s, m, args, below, meth, c, Q, A, ρ0, n0, Ex⟩ := κ
  intro q' hy E ρ ls H locs hl hw
  cases hy
  rw [hq] at E
  have E := X.2.2.2.2.2.2.2.2.2 _ E
  exact W.widen h1 h2 (E pc ρ ls H locs ⟨hd, Or.inl hret⟩ hw)
theorem js_retZ {x : Int32} {q : β} (X : ev_X l D γ μ κ) (hd : decode μ.1 pc = .ok (.ireturn, 1)) (hret : μ.2.2.1 = some .boolean) (h1 : ce ≤ μ.2.2.2.2.2.1) (h2 : sl ≤ μ.2.2.2.2.2.2) (hq : w q = (some (.int x), hp)) : ev_J l D γ μ κ pc ce sl lo [.int x] hp (ck (isB x) (some q)) w := by
  obtain ⟨p, e, s, m, args, below, meth, c, Q, A, ρ0, n0, Ex⟩ := κ
  intro q' hy E ρ ls H locs hl hw
  obtain ⟨hb, hy⟩ := ck_t hy
  cases hy
  rw [hq] at E
  have E := X.2.2.2.2.2.2.2.2.2 _ E
  exact W.widen h1 h2 (E pc ρ ls H locs ⟨hd, Or.inr ⟨hret, hb⟩⟩ hw)
theorem js_retV {q : β} (X : ev_X l D γ μ κ) (hd : decode μ.1 pc = .ok (.return_, 1)) (hret : μ.2.2.1 = none) (h1 : ce ≤ μ.2.2.2.2.2.1) (h2 : sl ≤ μ.2.2.2.2.2.2) (hq : w q = (none, hp)) : ev_J l D γ μ κ pc ce sl lo [] hp (some q) w := by
  obtain ⟨p, e, s, m, args, below, meth, c, Q, A, ρ0, n0, Ex⟩ := κ
  intro q' hy E ρ ls H locs hl hw
  cases hy
  rw [hq] at E
  have E := X.2.2.2.2.2.2.2.2.2 _ E
  exact W.widen h1 h2 (E pc ρ ls H locs ⟨hret, hd⟩ hw)
end EVM
theorem ev_sl_len : ∀ (vs : List Value), (lg_sl vs).length = ev_cs vs
  | [] => rfl
  | v :: vs => by
    have h : lg_sl (v :: vs) = (if v.category = 2 then [.val v, .second] else [.val v]) ++ lg_sl vs := by simp [lg_sl]
    rw [h, List.length_append, ev_sl_len vs]
    cases v <;> simp [ev_cs, Value.category] <;> omega
theorem ev_cs_v (ρ : ev_R) (vs : List Value) : ev_cs (vs.map (ev_v ρ)) = ev_cs vs := by rw [← ev_cs_eq, ← ev_cs_eq, ev_v_cats]
set_option maxHeartbeats 4000000 in
theorem ev_met {α : Type} {l : Launch} {D : va_G} {γ : ev_ga} {μ : ev_mu} {as : List Value} {hp : ev_H} {y : Option α} {w : α → ev_O} (hpl : plainName μ.2.2.2.1.cls = true) (hlen : Nat.ble (ev_cs as) μ.2.1 = true) {lo0 : ev_L} (hlo : ev_ent μ.2.1 as = lo0)
    (hJ : ∀ κ : ev_ka, ev_X l D γ μ κ → ev_J l D γ μ κ 0 0 0 lo0 [] hp y w) : ev_M l D γ μ as hp y w := by
  subst hlo
  intro q hy ρ sz
  have hlen := Nat.le_of_ble_eq_true hlen
  refine Met.ofW (cc := μ.1) (maxL := μ.2.1) (ret := μ.2.2.1) hpl rfl ?_
  intro p e s m args below meth c s₁ B hml hv
  obtain ⟨rfl, hsz, hP, hK, hT, hD0, hN⟩ := hv
  have hts0 := atoms_spec (ws := Jvm.Cond.code μ.2.2.2.1 μ.1 μ.2.1 μ.2.2.1 :: γ.2.2) B.pre
  have hts : ∀ w ∈ γ.2.2, w.before (as.map (ev_v ρ)).toArray s = true := fun w h => hts0 w (List.mem_cons_of_mem _ h)
  have hown : s.vm.findClass μ.2.2.2.1.cls = some m.cls := findClass_of_methodNamed B.named
  have hlocks := B.notSynchronized
  have hin : meth.name = μ.2.2.2.1.name := (name_of_methodNamed B.named B.method).1
  subst hsz
  have hD := hD0.self (sz := s.heap.size)
  have hA : ∀ q : Nat, s.heap.size ≤ q → va_A (ev_w ρ hp) s.heap.size q := fun q h => Or.inr h
  have hl := lv_entry (as.map (ev_v ρ)) (n := μ.2.1) (by rw [ev_sl_len, ev_cs_v]; exact hlen)
  rw [lg_entry_eq]
  generalize (lg_sl (as.map (ev_v ρ)) ++ List.replicate (μ.2.1 - (lg_sl (as.map (ev_v ρ))).length) Slot.unset).toArray = ls at hl ⊢
  have HJ := hJ (p, e, s, m, (as.map (ev_v ρ)).toArray, below, meth, c, MQ below (ev_Q D γ ρ hp (w q) s.heap.size) (as.map (ev_v ρ)).toArray s μ.2.2.2.2.2.1 μ.2.2.2.2.2.2 (va_A (ev_w ρ hp) s.heap.size), va_A (ev_w ρ hp) s.heap.size, ρ, hp.length, ev_Ex l D γ μ p e s m (as.map (ev_v ρ)).toArray below meth c (MQ below (ev_Q D γ ρ hp (w q) s.heap.size) (as.map (ev_v ρ)).toArray s μ.2.2.2.2.2.1 μ.2.2.2.2.2.2 (va_A (ev_w ρ hp) s.heap.size)) (va_A (ev_w ρ hp) s.heap.size) ρ hp.length) ⟨B.exec, B.bytes, hml, hown, hts, hK, hA, hN, hin, fun _ h => h⟩
  refine HJ q hy ?_ ρ ls s.heap [] (ev_ent_lo hl) ⟨hP, hD, va_S.rf, hT, Nat.le_refl _, fun _ _ => rfl⟩
  intro pc ρ' ls' H locs hrd hw
  obtain ⟨hP1, hD1, hS1, hT1, hn1, hag1⟩ := hw
  have hB : ∀ t : State, t.heap = H → s.WarmedH t.vm → ev_Bq D γ ρ hp (w q).2 s.heap.size ρ' t := fun t ht hW => ⟨by rw [ht]; exact hP1, ev_T.moved hW.alike hT1, hD1⟩
  have hr := B.returns
  generalize w q = o at hrd hn1 hB ⊢
  obtain ⟨v, hp'⟩ := o
  match v, hrd with
  | none, ⟨e1, hd⟩ =>
    rw [e1] at hr
    exact W.vret B.exec B.bytes hr (fun t ht hW => ⟨⟨ρ', rfl, ⟨hag1, hn1⟩, hB t ht hW⟩, hS1.F ht⟩) hS1.2.2 hd hlocks
  | some (.int x), ⟨hd, hret⟩ =>
    rcases hret with e1 | ⟨e1, hb⟩
    · rw [e1] at hr
      exact W.iret B.exec B.bytes hr (fun t ht hW => ⟨⟨x, ρ', rfl, ⟨rfl, hag1, hn1⟩, hB t ht hW⟩, hS1.F ht⟩) hS1.2.2 hd hlocks
    · rw [e1] at hr
      exact W.zret B.exec B.bytes hr (by rcases isB_or hb with rfl | rfl <;> rfl) (fun t ht hW => ⟨⟨x, ρ', rfl, ⟨rfl, hag1, hn1⟩, hB t ht hW⟩, hS1.F ht⟩) hS1.2.2 hd hlocks
def dq (b : ByteArray) (q : Nat × Instr × Nat) : Bool := decide (decode b q.1 = .ok q.2)
theorem dq_t {b : ByteArray} {q : Nat × Instr × Nat} (h : dq b q = true) : decode b q.1 = .ok q.2 := by
  unfold dq at h
  exact of_decide_eq_true h
theorem dg {b : ByteArray} {L : List (Nat × Instr × Nat)} (h : L.all (dq b) = true) (i : Nat) {pc len : Nat} {ins : Instr} (hi : L[i]? = some (pc, ins, len)) : decode b pc = .ok (ins, len) := by
  have h1 := dq_t (List.all_eq_true.mp h _ (List.mem_of_getElem? hi))
  exact h1
end
section
/-! exceptions by their numbers; a thrown one is the answer (some (.float n), world) -/
def ev_exn (n : UInt32) : String := if n = 1 then "java/lang/IllegalArgumentException" else if n = 2 then "java/lang/IllegalStateException" else if n = 3 then "java/lang/UnsupportedOperationException" else if n = 4 then "java/lang/IndexOutOfBoundsException" else "java/util/NoSuchElementException"
def ev_sv (v : Int32 ⊕ UInt32) : Option Value := match v with
  | .inl x => some (.int x)
  | .inr n => some (.float n)
/-- texts by (owner, place in the pool, text); names with castable X X; methods that are declared -/
abbrev ev_de : Type := List (String × Nat × String) × List String × List MethodName
def ev_Zs (δ : ev_de) (A : Nat → Prop) (U : State) (H : Heap) : Prop :=
  vx_Zq Bundle.tN "UNASSIGNED_STACK" Bundle.steD A U H ∧ vx_Zq Bundle.tN "SUPPRESSED_SENTINEL" Bundle.listD A U H ∧ (∀ q ∈ δ.1, ∃ a, vk_R q.1 q.2.1 q.2.2 a U) ∧ (∀ X ∈ δ.2.1, va_Nw (.castable X X) U) ∧ ∀ y ∈ δ.2.2, va_Nw (.declares y) U
def ev_XC (D : va_G) (γ : ev_ga) (ρ : ev_R) (hp : ev_H) (o : ev_O) (sz : Nat) : String → State → State → Prop := match o with
  | (some (.float n), hp') => vx_X (ev_ag ρ hp hp') (fun E ρ' t => E = ev_exn n ∧ ev_Bq D γ ρ hp hp' sz ρ' t) (va_A (ev_w ρ hp) sz)
  | _ => fun _ _ _ => False
def ev_PX (D : va_G) (γ : ev_ga) (δ : ev_de) (ρ : ev_R) (hp : ev_H) (sz : Nat) (U : State) : Prop := ev_Pw D γ ρ hp sz U ∧ ev_Zs δ (va_A (ev_w ρ hp) sz) U U.heap
def ev_MX {α : Type} (l : Launch) (D : va_G) (γ : ev_ga) (δ : ev_de) (μ : ev_mu) (as : List Value) (hp : ev_H) (y : Option α) (w : α → ev_O) : Prop :=
  ∀ (q : α), y = some q → ∀ (ρ : ev_R) (sz : Nat), vx_Met l μ.2.2.2.1 (Jvm.Cond.code μ.2.2.2.1 μ.1 μ.2.1 μ.2.2.1 :: γ.2.2) μ.2.2.2.2.1 (va_Pc (as.map (ev_v ρ)) (ev_PX D γ δ ρ hp sz)) (ev_Q D γ ρ hp (w q) sz) (ev_XC D γ ρ hp (w q) sz) μ.2.2.2.2.2.1 μ.2.2.2.2.2.2 (va_A (ev_w ρ hp) sz)
/-- what a throwing method's body knows beside ev_X -/
def ev_TX (l : Launch) (D : va_G) (γ : ev_ga) (δ : ev_de) (μ : ev_mu) (κ : ev_ka) : Prop := match κ with
  | (p, e, s, m, args, below, meth, c, Q, A, ρ0, n0, Ex) => l.stackTraces = false ∧ ev_Zs δ A s s.heap ∧ meth.locks = false ∧ (∀ x ∈ c.exceptionTable.toList, False) ∧ ∃ (Qc : Array Value → State → Outcome → State → Prop) (XC : String → State → State → Prop), Q = vx_MQ below Qc XC args s μ.2.2.2.2.2.1 μ.2.2.2.2.2.2 A ∧
    ∀ (n : UInt32) (hp' : ev_H), Ex (some (.float n), hp') → ∀ (ρ : ev_R) (H : Heap) (locs : List Loc), ev_wd D γ.1 A s ρ0 n0 ρ hp' H locs → ∀ t : State, s.vm.Alike t.vm → H.size ≤ t.heap.size → (∀ q : Nat, q < H.size → t.heap[q]? = H[q]?) → XC (ev_exn n) s t
section EVT
variable {β : Type} {l : Launch} {D : va_G} {γ : ev_ga} {μ : ev_mu} {κ : ev_ka} {pc n ce sl : Nat} {lo : ev_L} {st : List Value} {hp : ev_H} {y : Option β} {w : β → ev_O}
theorem js_throwS {δ : ev_de} {n9 : UInt32} {q : β} {cls text : String} {names : List String} {ik is ic : Nat} (X : ev_X l D γ μ κ) (T : ev_TX l D γ δ μ κ) (hcls : ev_exn n9 = cls) (hfit : Bundle.fit cls = true) (hnm : ∀ z ∈ names, Bundle.fit z = true)
    (w1 : Jvm.Cond.classLink μ.2.2.2.1.cls ik cls ∈ γ.2.2) (w2 : Jvm.Cond.initialized cls ∈ γ.2.2) (hstr : (μ.2.2.2.1.cls, is, text) ∈ δ.1)
    (hat : ∀ z ∈ vx_atS μ.2.2.2.1.cls ic cls names, z ∈ γ.2.2 ∨ (∃ E, E ∈ δ.2.1 ∧ z = .castable E E) ∨ ∃ y ∈ δ.2.2, z = .declares y) (hgood : ∀ z ∈ Jvm.Cond.classLink μ.2.2.2.1.cls ik cls :: Jvm.Cond.initialized cls :: vx_atS μ.2.2.2.1.cls ic cls names, vx_ot z = true)
    (d0 : decode μ.1 pc = .ok (.new ik, 3)) (d3 : decode μ.1 (pc + 3) = .ok (.dup, 1)) (d4 : decode μ.1 (pc + 4) = .ok (.ldc is, 2)) (d6 : decode μ.1 (pc + 6) = .ok (.invokespecial ic, 3)) (d9 : decode μ.1 (pc + 9) = .ok (.athrow, 1))
    (hRf : names.length + 3 < μ.2.2.2.2.1.frames) (hRl : 13 * (names.length + 1) + 43 ≤ μ.2.2.2.2.1.locals) (hRc : ce + 1 ≤ μ.2.2.2.2.1.cells) (hRs : sl + 6 ≤ μ.2.2.2.2.1.slots) (hc : ce + 1 ≤ μ.2.2.2.2.2.1) (hs : sl + 6 ≤ μ.2.2.2.2.2.2)
    (hq : w q = (some (.float n9), hp)) : ev_J l D γ μ κ pc ce sl lo [] hp (some q) w := by
  obtain ⟨p, e, s, m, args, below, meth, c, Q, A, ρ0, n0, Ex⟩ := κ
  intro q' hy E ρ ls H locs hl hw
  cases hy
  rw [hq] at E
  obtain ⟨t1, ⟨zU, zN, zR, zC, zD⟩, t3, t4, Qc, XC, rfl, t5⟩ := T
  obtain ⟨sa, hsa⟩ := zR _ hstr
  subst hcls
  refine vx_throwS (rest := []) X.1 X.2.1 t1 X.2.2.2.1 hfit hnm (X.2.2.2.2.1 _ w1) (X.2.2.2.2.1 _ w2) hsa (fun z hz => ?_) hgood zU zN hw.2.2.1 (hl.1.trans X.2.2.1.symm) d0 d3 d4 d6 d9 (fun x hx => (t4 x hx).elim) hRf (by simpa using hRl) hRc hRs t3 (fun t a1 a2 a3 => t5 n9 hp E ρ H locs hw t a1 a2 a3) hw.2.2.1.2.2 hc hs
  rcases hat z hz with h | ⟨E9, h, rfl⟩ | ⟨y9, h, rfl⟩
  · exact X.2.2.2.2.1 _ h
  · exact va_Nw.use rfl (zC _ h)
  · exact va_Nw.use rfl (zD _ h)
end EVT
theorem ev_Zs.moved {δ : ev_de} {A : Nat → Prop} {s U : State} {H : Heap} (hW : s.WarmedH U.vm) (h : ev_Zs δ A s H) : ev_Zs δ A U H :=
  ⟨h.1.moved hW.alike, h.2.1.moved hW.alike, fun q hq => (h.2.2.1 q hq).imp fun _ z => vk_R.warm hW z, fun X hX => va_Nw.warmC hW (h.2.2.2.1 X hX), fun y hy => va_Nw.warmD hW (h.2.2.2.2 y hy)⟩
set_option maxHeartbeats 4000000 in
theorem ev_metX {α : Type} {l : Launch} {D : va_G} {γ : ev_ga} {δ : ev_de} {μ : ev_mu} {as : List Value} {hp : ev_H} {y : Option α} {w : α → ev_O} (hst : l.stackTraces = false) (hpl : plainName μ.2.2.2.1.cls = true) (hlen : Nat.ble (ev_cs as) μ.2.1 = true) {lo0 : ev_L} (hlo : ev_ent μ.2.1 as = lo0)
    (hJ : ∀ κ : ev_ka, ev_X l D γ μ κ → ev_TX l D γ δ μ κ → ev_J l D γ μ κ 0 0 0 lo0 [] hp y w) : ev_MX l D γ δ μ as hp y w := by
  subst hlo
  intro q hy ρ sz
  have hlen := Nat.le_of_ble_eq_true hlen
  refine vx_ofW (cc := μ.1) (maxL := μ.2.1) (ret := μ.2.2.1) hpl rfl ?_
  intro p e s m args below meth c s₁ B hml hex hv
  obtain ⟨rfl, ⟨hsz, hP, hK, hT, hD0, hN⟩, hZ⟩ := hv
  have hts0 := atoms_spec (ws := Jvm.Cond.code μ.2.2.2.1 μ.1 μ.2.1 μ.2.2.1 :: γ.2.2) B.pre
  have hts : ∀ w ∈ γ.2.2, w.before (as.map (ev_v ρ)).toArray s = true := fun w h => hts0 w (List.mem_cons_of_mem _ h)
  have hown : s.vm.findClass μ.2.2.2.1.cls = some m.cls := findClass_of_methodNamed B.named
  have hlocks := B.notSynchronized
  have hin : meth.name = μ.2.2.2.1.name := (name_of_methodNamed B.named B.method).1
  subst hsz
  have hD := hD0.self (sz := s.heap.size)
  have hA : ∀ q : Nat, s.heap.size ≤ q → va_A (ev_w ρ hp) s.heap.size q := fun q h => Or.inr h
  have hl := lv_entry (as.map (ev_v ρ)) (n := μ.2.1) (by rw [ev_sl_len, ev_cs_v]; exact hlen)
  rw [lg_entry_eq]
  generalize (lg_sl (as.map (ev_v ρ)) ++ List.replicate (μ.2.1 - (lg_sl (as.map (ev_v ρ))).length) Slot.unset).toArray = ls at hl ⊢
  have hr := B.returns
  have HE : ∀ o, o = w q → ev_Ex l D γ μ p e s m (as.map (ev_v ρ)).toArray below meth c (vx_MQ below (ev_Q D γ ρ hp (w q) s.heap.size) (ev_XC D γ ρ hp (w q) s.heap.size) (as.map (ev_v ρ)).toArray s μ.2.2.2.2.2.1 μ.2.2.2.2.2.2 (va_A (ev_w ρ hp) s.heap.size)) (va_A (ev_w ρ hp) s.heap.size) ρ hp.length o := by
    intro o ho pc ρ' ls' H locs hrd hw
    rw [← ho]
    refine vx_ret ?_
    obtain ⟨hP1, hD1, hS1, hT1, hn1, hag1⟩ := hw
    have hB : ∀ t : State, t.heap = H → s.WarmedH t.vm → ev_Bq D γ ρ hp o.2 s.heap.size ρ' t := fun t ht hW => ⟨by rw [ht]; exact hP1, ev_T.moved hW.alike hT1, hD1⟩
    clear ho
    obtain ⟨v, hp'⟩ := o
    match v, hrd with
    | none, ⟨e1, hd⟩ =>
      rw [e1] at hr
      exact W.vret B.exec B.bytes hr (fun t ht hW => ⟨⟨ρ', rfl, ⟨hag1, hn1⟩, hB t ht hW⟩, hS1.F ht⟩) hS1.2.2 hd hlocks
    | some (.int x), ⟨hd, hret⟩ =>
      rcases hret with e1 | ⟨e1, hb⟩
      · rw [e1] at hr
        exact W.iret B.exec B.bytes hr (fun t ht hW => ⟨⟨x, ρ', rfl, ⟨rfl, hag1, hn1⟩, hB t ht hW⟩, hS1.F ht⟩) hS1.2.2 hd hlocks
      · rw [e1] at hr
        exact W.zret B.exec B.bytes hr (by rcases isB_or hb with rfl | rfl <;> rfl) (fun t ht hW => ⟨⟨x, ρ', rfl, ⟨rfl, hag1, hn1⟩, hB t ht hW⟩, hS1.F ht⟩) hS1.2.2 hd hlocks
  have HT : ∀ (n : UInt32) (hp' : ev_H), (some (.float n), hp') = w q → ∀ (ρ' : ev_R) (H : Heap) (locs : List Loc), ev_wd D γ.1 (va_A (ev_w ρ hp) s.heap.size) s ρ hp.length ρ' hp' H locs → ∀ t : State, s.vm.Alike t.vm → H.size ≤ t.heap.size → (∀ q : Nat, q < H.size → t.heap[q]? = H[q]?) → ev_XC D γ ρ hp (w q) s.heap.size (ev_exn n) s t := by
    intro n hp' ho ρ' H locs hw t a1 a2 a3
    rw [← ho]
    obtain ⟨hP1, hD1, hS1, hT1, hn1, hag1⟩ := hw
    refine ⟨ρ', ⟨hag1, hn1⟩, ⟨rfl, hP1.kept fun k z hk => a3 _ (hP1 k z hk).lt, ev_T.moved a1 hT1, hD1⟩, Nat.le_trans hS1.1 a2, fun q h1 h2 => (a3 q (Nat.lt_of_lt_of_le h1 hS1.1)).trans (hS1.2.1 q h1 h2)⟩
  have HJ := hJ (p, e, s, m, (as.map (ev_v ρ)).toArray, below, meth, c, vx_MQ below (ev_Q D γ ρ hp (w q) s.heap.size) (ev_XC D γ ρ hp (w q) s.heap.size) (as.map (ev_v ρ)).toArray s μ.2.2.2.2.2.1 μ.2.2.2.2.2.2 (va_A (ev_w ρ hp) s.heap.size), va_A (ev_w ρ hp) s.heap.size, ρ, hp.length, fun o => o = w q) ⟨B.exec, B.bytes, hml, hown, hts, hK, hA, hN, hin, HE⟩ ⟨hst, hZ, hlocks, hex, _, _, rfl, HT⟩
  exact HJ q hy rfl ρ ls s.heap [] (ev_ent_lo hl) ⟨hP, hD, va_S.rf, hT, Nat.le_refl _, fun _ _ => rfl⟩
end
section
def RX_H : String := "HistoryJudge"
def TX_H : u_T := fun k => match k with
  | 0 => ("HistoryJudge", "program", "LHistoryJudge$Program;", true)
  | 1 => ("HistoryJudge", "trial", "LHistoryJudge$Program;", true)
  | 2 => ("HistoryJudge", "tester", "LHistoryJudge$Tester;", true)
  | 3 => ("HistoryJudge", "draws", "LHistoryJudge$Draws;", true)
  | 4 => ("HistoryJudge", "taken", "I", false)
  | _ => ("HistoryJudge", "runIsCurrent", "Z", false)
def tyX_H : Nat → FieldType := fun k => match k with
  | 0 => .object "HistoryJudge$Program"
  | 1 => .object "HistoryJudge$Program"
  | 2 => .object "HistoryJudge$Tester"
  | 3 => .object "HistoryJudge$Draws"
  | 4 => .int
  | _ => .boolean
def RX_P : String := "HistoryJudge$Program"
def TX_P : u_T := fun k => match k with
  | 0 => ("HistoryJudge$Program", "sizes", "[I", true)
  | 1 => ("HistoryJudge$Program", "kinds", "[I", true)
  | 2 => ("HistoryJudge$Program", "cells", "[I", true)
  | _ => ("HistoryJudge$Program", "arguments", "[I", true)
def tyX_P : Nat → FieldType := fun k => match k with
  | 0 => .array .int
  | 1 => .array .int
  | 2 => .array .int
  | _ => .array .int
def RX_T : String := "HistoryJudge$Tester"
def TX_T : u_T := fun k => match k with
  | 0 => ("HistoryJudge$Tester", "machine", "LHistoryJudge$Machine;", true)
  | 1 => ("HistoryJudge$Tester", "judge", "LHistoryJudge$Judge;", true)
  | 2 => ("HistoryJudge$Tester", "tallies", "[I", true)
  | 3 => ("HistoryJudge$Tester", "flawBits", "I", false)
  | 4 => ("HistoryJudge$Tester", "runs", "I", false)
  | 5 => ("HistoryJudge$Tester", "unexplained", "I", false)
  | 6 => ("HistoryJudge$Tester", "schedule", "I", false)
  | 7 => ("HistoryJudge$Tester", "explained", "Z", false)
  | _ => ("HistoryJudge$Tester", "draws", "LHistoryJudge$Draws;", true)
def tyX_T : Nat → FieldType := fun k => match k with
  | 0 => .object "HistoryJudge$Machine"
  | 1 => .object "HistoryJudge$Judge"
  | 2 => .array .int
  | 3 => .int
  | 4 => .int
  | 5 => .int
  | 6 => .int
  | 7 => .boolean
  | _ => .object "HistoryJudge$Draws"
def RX_M : String := "HistoryJudge$Machine"
def TX_M : u_T := fun k => match k with
  | 0 => ("HistoryJudge$Machine", "answers", "[I", true)
  | 1 => ("HistoryJudge$Machine", "numbers", "[I", true)
  | 2 => ("HistoryJudge$Machine", "calls", "[I", true)
  | 3 => ("HistoryJudge$Machine", "returns", "[I", true)
  | 4 => ("HistoryJudge$Machine", "cells", "I", false)
  | 5 => ("HistoryJudge$Machine", "nextCommand", "[I", true)
  | 6 => ("HistoryJudge$Machine", "nextEvent", "[I", true)
  | 7 => ("HistoryJudge$Machine", "noted", "[I", true)
  | _ => ("HistoryJudge$Machine", "flawBits", "I", false)
def tyX_M : Nat → FieldType := fun k => match k with
  | 0 => .array .int
  | 1 => .array .int
  | 2 => .array .int
  | 3 => .array .int
  | 4 => .int
  | 5 => .array .int
  | 6 => .array .int
  | 7 => .array .int
  | _ => .int
def RX_J : String := "HistoryJudge$Judge"
def TX_J : u_T := fun k => match k with
  | _ => ("HistoryJudge$Judge", "witness", "[I", true)
def tyX_J : Nat → FieldType := fun k => match k with
  | _ => .array .int
def RX_D : String := "HistoryJudge$Draws"
def TX_D : u_T := fun k => match k with
  | _ => ("HistoryJudge$Draws", "state", "J", false)
def tyX_D : Nat → FieldType := fun k => match k with
  | _ => .long
def RX_R : String := "HistoryJudgeModel"
def TX_R : u_T := fun k => match k with
  | 0 => ("HistoryJudgeModel", "thrown", "I", false)
  | 1 => ("HistoryJudgeModel", "sizes", "[I", true)
  | 2 => ("HistoryJudgeModel", "kind", "[I", true)
  | 3 => ("HistoryJudgeModel", "cell", "[I", true)
  | 4 => ("HistoryJudgeModel", "argument", "[I", true)
  | 5 => ("HistoryJudgeModel", "keptSizes", "[I", true)
  | 6 => ("HistoryJudgeModel", "kept", "[I", true)
  | 7 => ("HistoryJudgeModel", "flaws", "I", false)
  | 8 => ("HistoryJudgeModel", "g", "J", false)
  | 9 => ("HistoryJudgeModel", "holds", "[I", true)
  | 10 => ("HistoryJudgeModel", "open", "[Z", true)
  | 11 => ("HistoryJudgeModel", "has", "[I", true)
  | 12 => ("HistoryJudgeModel", "isOpen", "[Z", true)
  | 13 => ("HistoryJudgeModel", "ran", "Z", false)
  | 14 => ("HistoryJudgeModel", "explained", "Z", false)
  | 15 => ("HistoryJudgeModel", "answer", "[I", true)
  | 16 => ("HistoryJudgeModel", "number", "[I", true)
  | 17 => ("HistoryJudgeModel", "call", "[I", true)
  | 18 => ("HistoryJudgeModel", "back", "[I", true)
  | 19 => ("HistoryJudgeModel", "noted", "[I", true)
  | 20 => ("HistoryJudgeModel", "at", "[I", true)
  | 21 => ("HistoryJudgeModel", "event", "[I", true)
  | 22 => ("HistoryJudgeModel", "witness", "I", false)
  | 23 => ("HistoryJudgeModel", "runs", "I", false)
  | 24 => ("HistoryJudgeModel", "wrong", "I", false)
  | 25 => ("HistoryJudgeModel", "taken", "I", false)
  | 26 => ("HistoryJudgeModel", "failing", "I", false)
  | _ => ("HistoryJudgeModel", "tallies", "[I", true)
def tyX_R : Nat → FieldType := fun k => match k with
  | 0 => .int
  | 1 => .array .int
  | 2 => .array .int
  | 3 => .array .int
  | 4 => .array .int
  | 5 => .array .int
  | 6 => .array .int
  | 7 => .int
  | 8 => .long
  | 9 => .array .int
  | 10 => .array .boolean
  | 11 => .array .int
  | 12 => .array .boolean
  | 13 => .boolean
  | 14 => .boolean
  | 15 => .array .int
  | 16 => .array .int
  | 17 => .array .int
  | 18 => .array .int
  | 19 => .array .int
  | 20 => .array .int
  | 21 => .array .int
  | 22 => .int
  | 23 => .int
  | 24 => .int
  | 25 => .int
  | 26 => .int
  | _ => .array .int
abbrev clX : List vw_C := [(RX_H, TX_H, 6), (RX_P, TX_P, 4), (RX_T, TX_T, 9), (RX_M, TX_M, 9), (RX_J, TX_J, 1), (RX_D, TX_D, 1), (RX_R, TX_R, 28)]
def y_P_size : MethodName := ⟨"HistoryJudge$Program", "size", "()I"⟩
def y_P_empty : MethodName := ⟨"HistoryJudge$Program", "empty", "()V"⟩
def y_H_clear : MethodName := ⟨"HistoryJudge", "clear", "()I"⟩
def y_H_isBelow : MethodName := ⟨"HistoryJudge", "isBelow", "(II)Z"⟩
def y_P_copyFrom : MethodName := ⟨"HistoryJudge$Program", "copyFrom", "(LHistoryJudge$Program;)V"⟩
def y_P_start : MethodName := ⟨"HistoryJudge$Program", "start", "(I)I"⟩
def y_P_end : MethodName := ⟨"HistoryJudge$Program", "end", "(I)I"⟩
def y_P_put : MethodName := ⟨"HistoryJudge$Program", "put", "(IIII)V"⟩
def y_P_shiftUp : MethodName := ⟨"HistoryJudge$Program", "shiftUp", "(II)V"⟩
def y_P_renumber : MethodName := ⟨"HistoryJudge$Program", "renumber", "(II)V"⟩
def y_P_append : MethodName := ⟨"HistoryJudge$Program", "append", "(IIII)V"⟩
def y_O_isOpen : MethodName := ⟨"HistoryJudge$Model", "isOpen", "(II)Z"⟩
def y_O_source : MethodName := ⟨"HistoryJudge$Model", "source", "(I)I"⟩
def y_O_allows : MethodName := ⟨"HistoryJudge$Model", "allows", "(III)Z"⟩
def y_O_content : MethodName := ⟨"HistoryJudge$Model", "content", "(II)I"⟩
def y_O_held : MethodName := ⟨"HistoryJudge$Model", "held", "(II)I"⟩
def y_O_after : MethodName := ⟨"HistoryJudge$Model", "after", "(IIII)I"⟩
def y_P_isValidBeside : MethodName := ⟨"HistoryJudge$Program", "isValidBeside", "(II)Z"⟩
def y_P_isValid : MethodName := ⟨"HistoryJudge$Program", "isValid", "()Z"⟩
def y_H_appendIfValid : MethodName := ⟨"HistoryJudge", "appendIfValid", "(IIII)Z"⟩
def y_D_below : MethodName := ⟨"HistoryJudge$Draws", "below", "(I)I"⟩
def y_P_known : MethodName := ⟨"HistoryJudge$Program", "known", "(I)I"⟩
def y_P_knownAt : MethodName := ⟨"HistoryJudge$Program", "knownAt", "(II)I"⟩
def y_H_drawCommand : MethodName := ⟨"HistoryJudge", "drawCommand", "(I)Z"⟩
def y_H_drawBranch : MethodName := ⟨"HistoryJudge", "drawBranch", "(II)V"⟩
def y_P_lower : MethodName := ⟨"HistoryJudge$Program", "lower", "(IZ)Z"⟩
def y_P_hasRoom : MethodName := ⟨"HistoryJudge$Program", "hasRoom", "(I)Z"⟩
def y_P_promote : MethodName := ⟨"HistoryJudge$Program", "promote", "(I)Z"⟩
def y_P_isNeeded : MethodName := ⟨"HistoryJudge$Program", "isNeeded", "(I)Z"⟩
def y_P_branchOf : MethodName := ⟨"HistoryJudge$Program", "branchOf", "(I)I"⟩
def y_P_remove : MethodName := ⟨"HistoryJudge$Program", "remove", "(I)Z"⟩
def y_H_prepareCandidate : MethodName := ⟨"HistoryJudge", "prepareCandidate", "(I)Z"⟩
def y_P_mayTake : MethodName := ⟨"HistoryJudge$Program", "mayTake", "(II)Z"⟩
def y_O_answer : MethodName := ⟨"HistoryJudge$Model", "answer", "(IIII)I"⟩
def y_R_thrown : MethodName := ⟨"HistoryJudgeModel", "thrown", "()I"⟩
def y_R_fail : MethodName := ⟨"HistoryJudgeModel", "fail", "(I)I"⟩
def y_R_within : MethodName := ⟨"HistoryJudgeModel", "within", "(III)Z"⟩
def y_R_many : MethodName := ⟨"HistoryJudgeModel", "many", "()I"⟩
def y_R_branch : MethodName := ⟨"HistoryJudgeModel", "branch", "(I)I"⟩
def y_R_first : MethodName := ⟨"HistoryJudgeModel", "first", "(I)I"⟩
def y_R_mayStand : MethodName := ⟨"HistoryJudgeModel", "mayStand", "(III)Z"⟩
def y_R_placed : MethodName := ⟨"HistoryJudgeModel", "placed", "(II)I"⟩
def y_R_isOrder : MethodName := ⟨"HistoryJudgeModel", "isOrder", "(I)Z"⟩
def y_R_finds : MethodName := ⟨"HistoryJudgeModel", "finds", "(I)Z"⟩
def y_R_fits : MethodName := ⟨"HistoryJudgeModel", "fits", "(I)Z"⟩
def y_R_valid : MethodName := ⟨"HistoryJudgeModel", "valid", "()Z"⟩
def y_R_keep : MethodName := ⟨"HistoryJudgeModel", "keep", "()V"⟩
def y_R_putBack : MethodName := ⟨"HistoryJudgeModel", "putBack", "()V"⟩
def y_R_copy : MethodName := ⟨"HistoryJudgeModel", "copy", "(II)V"⟩
def y_R_insert : MethodName := ⟨"HistoryJudgeModel", "insert", "(IIII)I"⟩
def y_R_leaveOut : MethodName := ⟨"HistoryJudgeModel", "leaveOut", "(I)Z"⟩
def y_R_raise : MethodName := ⟨"HistoryJudgeModel", "raise", "(I)V"⟩
def y_R_add : MethodName := ⟨"HistoryJudgeModel", "add", "(IIII)I"⟩
def y_R_clear : MethodName := ⟨"HistoryJudgeModel", "clear", "()I"⟩
def y_R_drawn : MethodName := ⟨"HistoryJudgeModel", "drawn", "(I)I"⟩
def y_R_before : MethodName := ⟨"HistoryJudgeModel", "before", "(III)I"⟩
def y_R_tried : MethodName := ⟨"HistoryJudgeModel", "tried", "(I)V"⟩
def y_R_make : MethodName := ⟨"HistoryJudgeModel", "make", "(JIII)I"⟩
def y_R_flaws : MethodName := ⟨"HistoryJudgeModel", "flaws", "(I)I"⟩
def y_R_twoParts : MethodName := ⟨"HistoryJudgeModel", "twoParts", "(I)Z"⟩
def y_R_isLate : MethodName := ⟨"HistoryJudgeModel", "isLate", "(I)Z"⟩
def y_R_source : MethodName := ⟨"HistoryJudgeModel", "source", "(I)I"⟩
def y_R_does : MethodName := ⟨"HistoryJudgeModel", "does", "(I)V"⟩
def y_R_calls : MethodName := ⟨"HistoryJudgeModel", "calls", "(I)V"⟩
def y_R_events : MethodName := ⟨"HistoryJudgeModel", "events", "(I)I"⟩
def y_R_happens : MethodName := ⟨"HistoryJudgeModel", "happens", "(III)V"⟩
def y_R_hasLeft : MethodName := ⟨"HistoryJudgeModel", "hasLeft", "(I)Z"⟩
def y_R_go : MethodName := ⟨"HistoryJudgeModel", "go", "(I)V"⟩
def y_R_right : MethodName := ⟨"HistoryJudgeModel", "right", "(I)I"⟩
def y_R_explains : MethodName := ⟨"HistoryJudgeModel", "explains", "(I)Z"⟩
def y_R_judged : MethodName := ⟨"HistoryJudgeModel", "judged", "(I)Z"⟩
def y_R_run : MethodName := ⟨"HistoryJudgeModel", "run", "(I)Z"⟩
def y_R_failed : MethodName := ⟨"HistoryJudgeModel", "failed", "(JI)I"⟩
def y_R_fails : MethodName := ⟨"HistoryJudgeModel", "fails", "(JI)I"⟩
def y_R_takes : MethodName := ⟨"HistoryJudgeModel", "takes", "(ZJI)Z"⟩
def y_R_smaller : MethodName := ⟨"HistoryJudgeModel", "smaller", "(JI)Z"⟩
def y_R_shrink : MethodName := ⟨"HistoryJudgeModel", "shrink", "(JI)I"⟩
def y_R_command : MethodName := ⟨"HistoryJudgeModel", "command", "(II)I"⟩
def y_R_event : MethodName := ⟨"HistoryJudgeModel", "event", "(II)I"⟩
def y_R_order : MethodName := ⟨"HistoryJudgeModel", "order", "(I)I"⟩
def y_R_cell : MethodName := ⟨"HistoryJudgeModel", "cell", "(I)I"⟩
def y_R_count : MethodName := ⟨"HistoryJudgeModel", "count", "(I)I"⟩
def y_R_tally : MethodName := ⟨"HistoryJudgeModel", "tally", "(I)I"⟩
def y_M_numberOf : MethodName := ⟨"HistoryJudge$Machine", "numberOf", "(I)I"⟩
def y_M_isSplit : MethodName := ⟨"HistoryJudge$Machine", "isSplit", "(I)Z"⟩
def y_M_isLate : MethodName := ⟨"HistoryJudge$Machine", "isLate", "(I)Z"⟩
def y_M_act : MethodName := ⟨"HistoryJudge$Machine", "act", "(III)V"⟩
def y_M_actByNote : MethodName := ⟨"HistoryJudge$Machine", "actByNote", "(IIII)V"⟩
def y_M_step : MethodName := ⟨"HistoryJudge$Machine", "step", "(LHistoryJudge$Program;II)V"⟩
def y_M_perform : MethodName := ⟨"HistoryJudge$Machine", "perform", "(LHistoryJudge$Program;II)V"⟩
def y_J_answersSo : MethodName := ⟨"HistoryJudge$Judge", "answersSo", "(LHistoryJudge$Program;LHistoryJudge$Machine;II)Z"⟩
def y_J_after : MethodName := ⟨"HistoryJudge$Judge", "after", "(LHistoryJudge$Program;LHistoryJudge$Machine;II)I"⟩
def y_J_search : MethodName := ⟨"HistoryJudge$Judge", "search", "(LHistoryJudge$Program;LHistoryJudge$Machine;IIII)Z"⟩
def y_J_explains : MethodName := ⟨"HistoryJudge$Judge", "explains", "(LHistoryJudge$Program;LHistoryJudge$Machine;)Z"⟩
def y_T_test : MethodName := ⟨"HistoryJudge$Tester", "test", "(LHistoryJudge$Program;I)Z"⟩
def y_D_restart : MethodName := ⟨"HistoryJudge$Draws", "restart", "(J)V"⟩
def y_T_firstFailure : MethodName := ⟨"HistoryJudge$Tester", "firstFailure", "(LHistoryJudge$Program;JI)I"⟩
def y_H_add : MethodName := ⟨"HistoryJudge", "add", "(IIII)I"⟩
def y_H_make : MethodName := ⟨"HistoryJudge", "make", "(JIII)I"⟩
def y_H_flaws : MethodName := ⟨"HistoryJudge", "flaws", "(I)I"⟩
def y_H_run : MethodName := ⟨"HistoryJudge", "run", "(I)Z"⟩
def y_H_fails : MethodName := ⟨"HistoryJudge", "fails", "(JI)I"⟩
def y_H_shrink : MethodName := ⟨"HistoryJudge", "shrink", "(JI)I"⟩
def y_H_command : MethodName := ⟨"HistoryJudge", "command", "(II)I"⟩
def y_H_event : MethodName := ⟨"HistoryJudge", "event", "(II)I"⟩
def y_H_cell : MethodName := ⟨"HistoryJudge", "cell", "(I)I"⟩
def y_H_count : MethodName := ⟨"HistoryJudge", "count", "(I)I"⟩
def y_H_tally : MethodName := ⟨"HistoryJudge", "tally", "(I)I"⟩
def y_H_init : MethodName := ⟨"HistoryJudge", "<init>", "()V"⟩
def y_P_init : MethodName := ⟨"HistoryJudge$Program", "<init>", "()V"⟩
def y_T_init : MethodName := ⟨"HistoryJudge$Tester", "<init>", "()V"⟩
def y_M_init : MethodName := ⟨"HistoryJudge$Machine", "<init>", "()V"⟩
def y_J_init : MethodName := ⟨"HistoryJudge$Judge", "<init>", "()V"⟩
def y_D_init : MethodName := ⟨"HistoryJudge$Draws", "<init>", "()V"⟩
def y_R_init : MethodName := ⟨"HistoryJudgeModel", "<init>", "()V"⟩
def nwX : ev_N := [("HistoryJudge", 11, y_P_init, "HistoryJudge"), ("HistoryJudge$Tester", 11, y_M_init, "HistoryJudge"), ("HistoryJudge$Tester", 20, y_J_init, "HistoryJudge"), ("HistoryJudge$Tester", 48, y_D_init, "HistoryJudge"), ("HistoryJudge", 21, y_T_init, "HistoryJudge"), ("HistoryJudge", 28, y_D_init, "HistoryJudge")]
def lg_0 : List Jvm.Cond := [(Jvm.Cond.fieldLink "HistoryJudge" (12 : Nat) "HistoryJudge" "program" "LHistoryJudge$Program;"),
  (Jvm.Cond.fieldLink "HistoryJudge$Program" (9 : Nat) "HistoryJudge$Program" "sizes" "[I"),
  (Jvm.Cond.code ({ cls := "HistoryJudge$Program", name := "size", desc := "()I" } : Jvm.MethodName) prog_6_method_2_code (1 : Nat) (Option.some Jvm.ClassFile.FieldType.int)),
  (Jvm.Cond.methodLink "HistoryJudge" (79 : Nat) ({ cls := "HistoryJudge$Program", name := "size", desc := "()I" } : Jvm.MethodName)),
  (Jvm.Cond.instanceMethod ({ cls := "HistoryJudge$Program", name := "size", desc := "()I" } : Jvm.MethodName)),
  (Jvm.Cond.selects "HistoryJudge$Program" ({ cls := "HistoryJudge$Program", name := "size", desc := "()I" } : Jvm.MethodName) ({ cls := "HistoryJudge$Program", name := "size", desc := "()I" } : Jvm.MethodName)),
  (Jvm.Cond.initialized "HistoryJudge$Program"),
  (Jvm.Cond.code ({ cls := "HistoryJudge$Program", name := "empty", desc := "()V" } : Jvm.MethodName) prog_6_method_10_code (2 : Nat) (Option.none : Option Jvm.ClassFile.FieldType)),
  (Jvm.Cond.methodLink "HistoryJudge" (83 : Nat) ({ cls := "HistoryJudge$Program", name := "empty", desc := "()V" } : Jvm.MethodName)),
  (Jvm.Cond.instanceMethod ({ cls := "HistoryJudge$Program", name := "empty", desc := "()V" } : Jvm.MethodName)),
  (Jvm.Cond.selects "HistoryJudge$Program" ({ cls := "HistoryJudge$Program", name := "empty", desc := "()V" } : Jvm.MethodName) ({ cls := "HistoryJudge$Program", name := "empty", desc := "()V" } : Jvm.MethodName)),
  (Jvm.Cond.fieldLink "HistoryJudge" (37 : Nat) "HistoryJudge" "runIsCurrent" "Z"),
  (Jvm.Cond.fieldLink "HistoryJudge" (16 : Nat) "HistoryJudge" "trial" "LHistoryJudge$Program;"),
  (Jvm.Cond.methodLink "HistoryJudge$Program" (31 : Nat) ({ cls := "HistoryJudge$Program", name := "size", desc := "()I" } : Jvm.MethodName)),
  (Jvm.Cond.fieldLink "HistoryJudge$Program" (15 : Nat) "HistoryJudge$Program" "kinds" "[I"),
  (Jvm.Cond.methodLink "HistoryJudge$Program" (35 : Nat) ({ cls := "java/lang/System", name := "arraycopy", desc := "(Ljava/lang/Object;ILjava/lang/Object;II)V" } : Jvm.MethodName)),
  (Jvm.Cond.native ({ cls := "java/lang/System", name := "arraycopy", desc := "(Ljava/lang/Object;ILjava/lang/Object;II)V" } : Jvm.MethodName)),
  (Jvm.Cond.static ({ cls := "java/lang/System", name := "arraycopy", desc := "(Ljava/lang/Object;ILjava/lang/Object;II)V" } : Jvm.MethodName)),
  (Jvm.Cond.initialized "java/lang/System"),
  (Jvm.Cond.fieldLink "HistoryJudge$Program" (18 : Nat) "HistoryJudge$Program" "cells" "[I"),
  (Jvm.Cond.fieldLink "HistoryJudge$Program" (21 : Nat) "HistoryJudge$Program" "arguments" "[I"),
  (Jvm.Cond.code ({ cls := "HistoryJudge$Program", name := "copyFrom", desc := "(LHistoryJudge$Program;)V" } : Jvm.MethodName) prog_6_method_11_code (3 : Nat) (Option.none : Option Jvm.ClassFile.FieldType)),
  (Jvm.Cond.methodLink "HistoryJudge" (125 : Nat) ({ cls := "HistoryJudge$Program", name := "copyFrom", desc := "(LHistoryJudge$Program;)V" } : Jvm.MethodName)),
  (Jvm.Cond.instanceMethod ({ cls := "HistoryJudge$Program", name := "copyFrom", desc := "(LHistoryJudge$Program;)V" } : Jvm.MethodName)),
  (Jvm.Cond.selects "HistoryJudge$Program" ({ cls := "HistoryJudge$Program", name := "copyFrom", desc := "(LHistoryJudge$Program;)V" } : Jvm.MethodName) ({ cls := "HistoryJudge$Program", name := "copyFrom", desc := "(LHistoryJudge$Program;)V" } : Jvm.MethodName)),
  (Jvm.Cond.code ({ cls := "HistoryJudge$Program", name := "start", desc := "(I)I" } : Jvm.MethodName) prog_6_method_3_code (2 : Nat) (Option.some Jvm.ClassFile.FieldType.int)),
  (Jvm.Cond.methodLink "HistoryJudge$Program" (24 : Nat) ({ cls := "HistoryJudge$Program", name := "start", desc := "(I)I" } : Jvm.MethodName)),
  (Jvm.Cond.instanceMethod ({ cls := "HistoryJudge$Program", name := "start", desc := "(I)I" } : Jvm.MethodName)),
  (Jvm.Cond.selects "HistoryJudge$Program" ({ cls := "HistoryJudge$Program", name := "start", desc := "(I)I" } : Jvm.MethodName) ({ cls := "HistoryJudge$Program", name := "start", desc := "(I)I" } : Jvm.MethodName)),
  (Jvm.Cond.code ({ cls := "HistoryJudge$Program", name := "end", desc := "(I)I" } : Jvm.MethodName) prog_6_method_4_code (2 : Nat) (Option.some Jvm.ClassFile.FieldType.int)),
  (Jvm.Cond.methodLink "HistoryJudge$Program" (28 : Nat) ({ cls := "HistoryJudge$Program", name := "end", desc := "(I)I" } : Jvm.MethodName)),
  (Jvm.Cond.instanceMethod ({ cls := "HistoryJudge$Program", name := "end", desc := "(I)I" } : Jvm.MethodName)),
  (Jvm.Cond.selects "HistoryJudge$Program" ({ cls := "HistoryJudge$Program", name := "end", desc := "(I)I" } : Jvm.MethodName) ({ cls := "HistoryJudge$Program", name := "end", desc := "(I)I" } : Jvm.MethodName)),
  (Jvm.Cond.code ({ cls := "HistoryJudge$Program", name := "put", desc := "(IIII)V" } : Jvm.MethodName) prog_6_method_19_code (5 : Nat) (Option.none : Option Jvm.ClassFile.FieldType)),
  (Jvm.Cond.methodLink "HistoryJudge$Program" (48 : Nat) ({ cls := "HistoryJudge$Program", name := "put", desc := "(IIII)V" } : Jvm.MethodName)),
  (Jvm.Cond.instanceMethod ({ cls := "HistoryJudge$Program", name := "put", desc := "(IIII)V" } : Jvm.MethodName)),
  (Jvm.Cond.selects "HistoryJudge$Program" ({ cls := "HistoryJudge$Program", name := "put", desc := "(IIII)V" } : Jvm.MethodName) ({ cls := "HistoryJudge$Program", name := "put", desc := "(IIII)V" } : Jvm.MethodName)),
  (Jvm.Cond.code ({ cls := "HistoryJudge$Program", name := "shiftUp", desc := "(II)V" } : Jvm.MethodName) prog_6_method_20_code (4 : Nat) (Option.none : Option Jvm.ClassFile.FieldType)),
  (Jvm.Cond.methodLink "HistoryJudge$Program" (41 : Nat) ({ cls := "HistoryJudge$Program", name := "shiftUp", desc := "(II)V" } : Jvm.MethodName)),
  (Jvm.Cond.instanceMethod ({ cls := "HistoryJudge$Program", name := "shiftUp", desc := "(II)V" } : Jvm.MethodName)),
  (Jvm.Cond.selects "HistoryJudge$Program" ({ cls := "HistoryJudge$Program", name := "shiftUp", desc := "(II)V" } : Jvm.MethodName) ({ cls := "HistoryJudge$Program", name := "shiftUp", desc := "(II)V" } : Jvm.MethodName)),
  (Jvm.Cond.code ({ cls := "HistoryJudge$Program", name := "renumber", desc := "(II)V" } : Jvm.MethodName) prog_6_method_21_code (5 : Nat) (Option.none : Option Jvm.ClassFile.FieldType)),
  (Jvm.Cond.methodLink "HistoryJudge$Program" (45 : Nat) ({ cls := "HistoryJudge$Program", name := "renumber", desc := "(II)V" } : Jvm.MethodName)),
  (Jvm.Cond.instanceMethod ({ cls := "HistoryJudge$Program", name := "renumber", desc := "(II)V" } : Jvm.MethodName)),
  (Jvm.Cond.selects "HistoryJudge$Program" ({ cls := "HistoryJudge$Program", name := "renumber", desc := "(II)V" } : Jvm.MethodName) ({ cls := "HistoryJudge$Program", name := "renumber", desc := "(II)V" } : Jvm.MethodName)),
  (Jvm.Cond.code ({ cls := "HistoryJudge$Program", name := "append", desc := "(IIII)V" } : Jvm.MethodName) prog_6_method_12_code (6 : Nat) (Option.none : Option Jvm.ClassFile.FieldType)),
  (Jvm.Cond.methodLink "HistoryJudge" (212 : Nat) ({ cls := "HistoryJudge$Program", name := "append", desc := "(IIII)V" } : Jvm.MethodName)),
  (Jvm.Cond.instanceMethod ({ cls := "HistoryJudge$Program", name := "append", desc := "(IIII)V" } : Jvm.MethodName)),
  (Jvm.Cond.selects "HistoryJudge$Program" ({ cls := "HistoryJudge$Program", name := "append", desc := "(IIII)V" } : Jvm.MethodName) ({ cls := "HistoryJudge$Program", name := "append", desc := "(IIII)V" } : Jvm.MethodName)),
  (Jvm.Cond.code ({ cls := "HistoryJudge$Model", name := "isOpen", desc := "(II)Z" } : Jvm.MethodName) prog_5_method_4_code (2 : Nat) (Option.some Jvm.ClassFile.FieldType.boolean)),
  (Jvm.Cond.methodLink "HistoryJudge$Model" (11 : Nat) ({ cls := "HistoryJudge$Model", name := "isOpen", desc := "(II)Z" } : Jvm.MethodName)),
  (Jvm.Cond.static ({ cls := "HistoryJudge$Model", name := "isOpen", desc := "(II)Z" } : Jvm.MethodName)),
  (Jvm.Cond.initialized "HistoryJudge$Model"),
  (Jvm.Cond.code ({ cls := "HistoryJudge$Model", name := "source", desc := "(I)I" } : Jvm.MethodName) prog_5_method_5_code (1 : Nat) (Option.some Jvm.ClassFile.FieldType.int)),
  (Jvm.Cond.methodLink "HistoryJudge$Model" (15 : Nat) ({ cls := "HistoryJudge$Model", name := "source", desc := "(I)I" } : Jvm.MethodName)),
  (Jvm.Cond.static ({ cls := "HistoryJudge$Model", name := "source", desc := "(I)I" } : Jvm.MethodName)),
  (Jvm.Cond.code ({ cls := "HistoryJudge$Model", name := "allows", desc := "(III)Z" } : Jvm.MethodName) prog_5_method_6_code (3 : Nat) (Option.some Jvm.ClassFile.FieldType.boolean)),
  (Jvm.Cond.methodLink "HistoryJudge$Program" (64 : Nat) ({ cls := "HistoryJudge$Model", name := "allows", desc := "(III)Z" } : Jvm.MethodName)),
  (Jvm.Cond.static ({ cls := "HistoryJudge$Model", name := "allows", desc := "(III)Z" } : Jvm.MethodName)),
  (Jvm.Cond.code ({ cls := "HistoryJudge$Model", name := "content", desc := "(II)I" } : Jvm.MethodName) prog_5_method_2_code (2 : Nat) (Option.some Jvm.ClassFile.FieldType.int))]
def lg_1 : List Jvm.Cond := [(Jvm.Cond.methodLink "HistoryJudge$Model" (23 : Nat) ({ cls := "HistoryJudge$Model", name := "content", desc := "(II)I" } : Jvm.MethodName)),
  (Jvm.Cond.static ({ cls := "HistoryJudge$Model", name := "content", desc := "(II)I" } : Jvm.MethodName)),
  (Jvm.Cond.code ({ cls := "HistoryJudge$Model", name := "held", desc := "(II)I" } : Jvm.MethodName) prog_5_method_3_code (2 : Nat) (Option.some Jvm.ClassFile.FieldType.int)),
  (Jvm.Cond.methodLink "HistoryJudge$Model" (19 : Nat) ({ cls := "HistoryJudge$Model", name := "held", desc := "(II)I" } : Jvm.MethodName)),
  (Jvm.Cond.static ({ cls := "HistoryJudge$Model", name := "held", desc := "(II)I" } : Jvm.MethodName)),
  (Jvm.Cond.code ({ cls := "HistoryJudge$Model", name := "after", desc := "(IIII)I" } : Jvm.MethodName) prog_5_method_8_code (7 : Nat) (Option.some Jvm.ClassFile.FieldType.int)),
  (Jvm.Cond.methodLink "HistoryJudge$Program" (68 : Nat) ({ cls := "HistoryJudge$Model", name := "after", desc := "(IIII)I" } : Jvm.MethodName)),
  (Jvm.Cond.static ({ cls := "HistoryJudge$Model", name := "after", desc := "(IIII)I" } : Jvm.MethodName)),
  (Jvm.Cond.code ({ cls := "HistoryJudge$Program", name := "isValidBeside", desc := "(II)Z" } : Jvm.MethodName) prog_6_method_17_code (6 : Nat) (Option.some Jvm.ClassFile.FieldType.boolean)),
  (Jvm.Cond.methodLink "HistoryJudge$Program" (72 : Nat) ({ cls := "HistoryJudge$Program", name := "isValidBeside", desc := "(II)Z" } : Jvm.MethodName)),
  (Jvm.Cond.instanceMethod ({ cls := "HistoryJudge$Program", name := "isValidBeside", desc := "(II)Z" } : Jvm.MethodName)),
  (Jvm.Cond.selects "HistoryJudge$Program" ({ cls := "HistoryJudge$Program", name := "isValidBeside", desc := "(II)Z" } : Jvm.MethodName) ({ cls := "HistoryJudge$Program", name := "isValidBeside", desc := "(II)Z" } : Jvm.MethodName)),
  (Jvm.Cond.code ({ cls := "HistoryJudge$Program", name := "isValid", desc := "()Z" } : Jvm.MethodName) prog_6_method_16_code (5 : Nat) (Option.some Jvm.ClassFile.FieldType.boolean)),
  (Jvm.Cond.methodLink "HistoryJudge" (121 : Nat) ({ cls := "HistoryJudge$Program", name := "isValid", desc := "()Z" } : Jvm.MethodName)),
  (Jvm.Cond.instanceMethod ({ cls := "HistoryJudge$Program", name := "isValid", desc := "()Z" } : Jvm.MethodName)),
  (Jvm.Cond.selects "HistoryJudge$Program" ({ cls := "HistoryJudge$Program", name := "isValid", desc := "()Z" } : Jvm.MethodName) ({ cls := "HistoryJudge$Program", name := "isValid", desc := "()Z" } : Jvm.MethodName)),
  (Jvm.Cond.fieldLink "HistoryJudge" (29 : Nat) "HistoryJudge" "draws" "LHistoryJudge$Draws;"),
  (Jvm.Cond.fieldLink "HistoryJudge$Draws" (7 : Nat) "HistoryJudge$Draws" "state" "J"),
  (Jvm.Cond.constantLong "HistoryJudge$Draws" (13 : Nat) (6364136223846793005 : Int64)),
  (Jvm.Cond.constantLong "HistoryJudge$Draws" (15 : Nat) (1442695040888963407 : Int64)),
  (Jvm.Cond.code ({ cls := "HistoryJudge$Draws", name := "below", desc := "(I)I" } : Jvm.MethodName) prog_2_method_3_code (3 : Nat) (Option.some Jvm.ClassFile.FieldType.int)),
  (Jvm.Cond.methodLink "HistoryJudge" (219 : Nat) ({ cls := "HistoryJudge$Draws", name := "below", desc := "(I)I" } : Jvm.MethodName)),
  (Jvm.Cond.instanceMethod ({ cls := "HistoryJudge$Draws", name := "below", desc := "(I)I" } : Jvm.MethodName)),
  (Jvm.Cond.selects "HistoryJudge$Draws" ({ cls := "HistoryJudge$Draws", name := "below", desc := "(I)I" } : Jvm.MethodName) ({ cls := "HistoryJudge$Draws", name := "below", desc := "(I)I" } : Jvm.MethodName)),
  (Jvm.Cond.initialized "HistoryJudge$Draws"),
  (Jvm.Cond.code ({ cls := "HistoryJudge$Program", name := "known", desc := "(I)I" } : Jvm.MethodName) prog_6_method_7_code (2 : Nat) (Option.some Jvm.ClassFile.FieldType.int)),
  (Jvm.Cond.methodLink "HistoryJudge" (222 : Nat) ({ cls := "HistoryJudge$Program", name := "known", desc := "(I)I" } : Jvm.MethodName)),
  (Jvm.Cond.instanceMethod ({ cls := "HistoryJudge$Program", name := "known", desc := "(I)I" } : Jvm.MethodName)),
  (Jvm.Cond.selects "HistoryJudge$Program" ({ cls := "HistoryJudge$Program", name := "known", desc := "(I)I" } : Jvm.MethodName) ({ cls := "HistoryJudge$Program", name := "known", desc := "(I)I" } : Jvm.MethodName)),
  (Jvm.Cond.code ({ cls := "HistoryJudge", name := "appendIfValid", desc := "(IIII)Z" } : Jvm.MethodName) prog_1_method_16_code (5 : Nat) (Option.some Jvm.ClassFile.FieldType.boolean)),
  (Jvm.Cond.methodLink "HistoryJudge" (70 : Nat) ({ cls := "HistoryJudge", name := "appendIfValid", desc := "(IIII)Z" } : Jvm.MethodName)),
  (Jvm.Cond.instanceMethod ({ cls := "HistoryJudge", name := "appendIfValid", desc := "(IIII)Z" } : Jvm.MethodName)),
  (Jvm.Cond.selects "HistoryJudge" ({ cls := "HistoryJudge", name := "appendIfValid", desc := "(IIII)Z" } : Jvm.MethodName) ({ cls := "HistoryJudge", name := "appendIfValid", desc := "(IIII)Z" } : Jvm.MethodName)),
  (Jvm.Cond.initialized "HistoryJudge"),
  (Jvm.Cond.code ({ cls := "HistoryJudge$Program", name := "knownAt", desc := "(II)I" } : Jvm.MethodName) prog_6_method_8_code (3 : Nat) (Option.some Jvm.ClassFile.FieldType.int)),
  (Jvm.Cond.methodLink "HistoryJudge" (225 : Nat) ({ cls := "HistoryJudge$Program", name := "knownAt", desc := "(II)I" } : Jvm.MethodName)),
  (Jvm.Cond.instanceMethod ({ cls := "HistoryJudge$Program", name := "knownAt", desc := "(II)I" } : Jvm.MethodName)),
  (Jvm.Cond.selects "HistoryJudge$Program" ({ cls := "HistoryJudge$Program", name := "knownAt", desc := "(II)I" } : Jvm.MethodName) ({ cls := "HistoryJudge$Program", name := "knownAt", desc := "(II)I" } : Jvm.MethodName)),
  (Jvm.Cond.code ({ cls := "HistoryJudge", name := "drawCommand", desc := "(I)Z" } : Jvm.MethodName) prog_1_method_18_code (7 : Nat) (Option.some Jvm.ClassFile.FieldType.boolean)),
  (Jvm.Cond.methodLink "HistoryJudge" (216 : Nat) ({ cls := "HistoryJudge", name := "drawCommand", desc := "(I)Z" } : Jvm.MethodName)),
  (Jvm.Cond.instanceMethod ({ cls := "HistoryJudge", name := "drawCommand", desc := "(I)Z" } : Jvm.MethodName)),
  (Jvm.Cond.selects "HistoryJudge" ({ cls := "HistoryJudge", name := "drawCommand", desc := "(I)Z" } : Jvm.MethodName) ({ cls := "HistoryJudge", name := "drawCommand", desc := "(I)Z" } : Jvm.MethodName)),
  (Jvm.Cond.code ({ cls := "HistoryJudge$Program", name := "lower", desc := "(IZ)Z" } : Jvm.MethodName) prog_6_method_15_code (4 : Nat) (Option.some Jvm.ClassFile.FieldType.boolean)),
  (Jvm.Cond.methodLink "HistoryJudge" (234 : Nat) ({ cls := "HistoryJudge$Program", name := "lower", desc := "(IZ)Z" } : Jvm.MethodName)),
  (Jvm.Cond.instanceMethod ({ cls := "HistoryJudge$Program", name := "lower", desc := "(IZ)Z" } : Jvm.MethodName)),
  (Jvm.Cond.selects "HistoryJudge$Program" ({ cls := "HistoryJudge$Program", name := "lower", desc := "(IZ)Z" } : Jvm.MethodName) ({ cls := "HistoryJudge$Program", name := "lower", desc := "(IZ)Z" } : Jvm.MethodName)),
  (Jvm.Cond.code ({ cls := "HistoryJudge$Program", name := "hasRoom", desc := "(I)Z" } : Jvm.MethodName) prog_6_method_6_code (2 : Nat) (Option.some Jvm.ClassFile.FieldType.boolean)),
  (Jvm.Cond.methodLink "HistoryJudge$Program" (59 : Nat) ({ cls := "HistoryJudge$Program", name := "hasRoom", desc := "(I)Z" } : Jvm.MethodName)),
  (Jvm.Cond.instanceMethod ({ cls := "HistoryJudge$Program", name := "hasRoom", desc := "(I)Z" } : Jvm.MethodName)),
  (Jvm.Cond.selects "HistoryJudge$Program" ({ cls := "HistoryJudge$Program", name := "hasRoom", desc := "(I)Z" } : Jvm.MethodName) ({ cls := "HistoryJudge$Program", name := "hasRoom", desc := "(I)Z" } : Jvm.MethodName)),
  (Jvm.Cond.code ({ cls := "HistoryJudge$Program", name := "promote", desc := "(I)Z" } : Jvm.MethodName) prog_6_method_14_code (10 : Nat) (Option.some Jvm.ClassFile.FieldType.boolean)),
  (Jvm.Cond.methodLink "HistoryJudge" (231 : Nat) ({ cls := "HistoryJudge$Program", name := "promote", desc := "(I)Z" } : Jvm.MethodName)),
  (Jvm.Cond.instanceMethod ({ cls := "HistoryJudge$Program", name := "promote", desc := "(I)Z" } : Jvm.MethodName)),
  (Jvm.Cond.selects "HistoryJudge$Program" ({ cls := "HistoryJudge$Program", name := "promote", desc := "(I)Z" } : Jvm.MethodName) ({ cls := "HistoryJudge$Program", name := "promote", desc := "(I)Z" } : Jvm.MethodName)),
  (Jvm.Cond.code ({ cls := "HistoryJudge$Program", name := "isNeeded", desc := "(I)Z" } : Jvm.MethodName) prog_6_method_18_code (4 : Nat) (Option.some Jvm.ClassFile.FieldType.boolean)),
  (Jvm.Cond.methodLink "HistoryJudge$Program" (52 : Nat) ({ cls := "HistoryJudge$Program", name := "isNeeded", desc := "(I)Z" } : Jvm.MethodName)),
  (Jvm.Cond.instanceMethod ({ cls := "HistoryJudge$Program", name := "isNeeded", desc := "(I)Z" } : Jvm.MethodName)),
  (Jvm.Cond.selects "HistoryJudge$Program" ({ cls := "HistoryJudge$Program", name := "isNeeded", desc := "(I)Z" } : Jvm.MethodName) ({ cls := "HistoryJudge$Program", name := "isNeeded", desc := "(I)Z" } : Jvm.MethodName)),
  (Jvm.Cond.code ({ cls := "HistoryJudge$Program", name := "branchOf", desc := "(I)I" } : Jvm.MethodName) prog_6_method_5_code (2 : Nat) (Option.some Jvm.ClassFile.FieldType.int)),
  (Jvm.Cond.methodLink "HistoryJudge$Program" (56 : Nat) ({ cls := "HistoryJudge$Program", name := "branchOf", desc := "(I)I" } : Jvm.MethodName))]
def lg_2 : List Jvm.Cond := [(Jvm.Cond.instanceMethod ({ cls := "HistoryJudge$Program", name := "branchOf", desc := "(I)I" } : Jvm.MethodName)),
  (Jvm.Cond.selects "HistoryJudge$Program" ({ cls := "HistoryJudge$Program", name := "branchOf", desc := "(I)I" } : Jvm.MethodName) ({ cls := "HistoryJudge$Program", name := "branchOf", desc := "(I)I" } : Jvm.MethodName)),
  (Jvm.Cond.code ({ cls := "HistoryJudge$Program", name := "remove", desc := "(I)Z" } : Jvm.MethodName) prog_6_method_13_code (4 : Nat) (Option.some Jvm.ClassFile.FieldType.boolean)),
  (Jvm.Cond.methodLink "HistoryJudge" (228 : Nat) ({ cls := "HistoryJudge$Program", name := "remove", desc := "(I)Z" } : Jvm.MethodName)),
  (Jvm.Cond.instanceMethod ({ cls := "HistoryJudge$Program", name := "remove", desc := "(I)Z" } : Jvm.MethodName)),
  (Jvm.Cond.selects "HistoryJudge$Program" ({ cls := "HistoryJudge$Program", name := "remove", desc := "(I)Z" } : Jvm.MethodName) ({ cls := "HistoryJudge$Program", name := "remove", desc := "(I)Z" } : Jvm.MethodName)),
  (Jvm.Cond.fieldLink "HistoryJudgeModel" (65 : Nat) "HistoryJudgeModel" "thrown" "I"),
  (Jvm.Cond.fieldLink "HistoryJudgeModel" (7 : Nat) "HistoryJudgeModel" "sizes" "[I"),
  (Jvm.Cond.code ({ cls := "HistoryJudgeModel", name := "branch", desc := "(I)I" } : Jvm.MethodName) prog_9_method_6_code (2 : Nat) (Option.some Jvm.ClassFile.FieldType.int)),
  (Jvm.Cond.methodLink "HistoryJudgeModel" (69 : Nat) ({ cls := "HistoryJudgeModel", name := "branch", desc := "(I)I" } : Jvm.MethodName)),
  (Jvm.Cond.instanceMethod ({ cls := "HistoryJudgeModel", name := "branch", desc := "(I)I" } : Jvm.MethodName)),
  (Jvm.Cond.selects "HistoryJudgeModel" ({ cls := "HistoryJudgeModel", name := "branch", desc := "(I)I" } : Jvm.MethodName) ({ cls := "HistoryJudgeModel", name := "branch", desc := "(I)I" } : Jvm.MethodName)),
  (Jvm.Cond.initialized "HistoryJudgeModel"),
  (Jvm.Cond.code ({ cls := "HistoryJudgeModel", name := "first", desc := "(I)I" } : Jvm.MethodName) prog_9_method_7_code (2 : Nat) (Option.some Jvm.ClassFile.FieldType.int)),
  (Jvm.Cond.methodLink "HistoryJudgeModel" (73 : Nat) ({ cls := "HistoryJudgeModel", name := "first", desc := "(I)I" } : Jvm.MethodName)),
  (Jvm.Cond.instanceMethod ({ cls := "HistoryJudgeModel", name := "first", desc := "(I)I" } : Jvm.MethodName)),
  (Jvm.Cond.selects "HistoryJudgeModel" ({ cls := "HistoryJudgeModel", name := "first", desc := "(I)I" } : Jvm.MethodName) ({ cls := "HistoryJudgeModel", name := "first", desc := "(I)I" } : Jvm.MethodName)),
  (Jvm.Cond.fieldLink "HistoryJudgeModel" (16 : Nat) "HistoryJudgeModel" "cell" "[I"),
  (Jvm.Cond.fieldLink "HistoryJudgeModel" (13 : Nat) "HistoryJudgeModel" "kind" "[I"),
  (Jvm.Cond.fieldLink "HistoryJudgeModel" (31 : Nat) "HistoryJudgeModel" "open" "[Z"),
  (Jvm.Cond.code ({ cls := "HistoryJudgeModel", name := "placed", desc := "(II)I" } : Jvm.MethodName) prog_9_method_9_code (6 : Nat) (Option.some Jvm.ClassFile.FieldType.int)),
  (Jvm.Cond.methodLink "HistoryJudgeModel" (80 : Nat) ({ cls := "HistoryJudgeModel", name := "placed", desc := "(II)I" } : Jvm.MethodName)),
  (Jvm.Cond.instanceMethod ({ cls := "HistoryJudgeModel", name := "placed", desc := "(II)I" } : Jvm.MethodName)),
  (Jvm.Cond.selects "HistoryJudgeModel" ({ cls := "HistoryJudgeModel", name := "placed", desc := "(II)I" } : Jvm.MethodName) ({ cls := "HistoryJudgeModel", name := "placed", desc := "(II)I" } : Jvm.MethodName)),
  (Jvm.Cond.code ({ cls := "HistoryJudgeModel", name := "finds", desc := "(I)Z" } : Jvm.MethodName) prog_9_method_11_code (4 : Nat) (Option.some Jvm.ClassFile.FieldType.boolean)),
  (Jvm.Cond.methodLink "HistoryJudgeModel" (76 : Nat) ({ cls := "HistoryJudgeModel", name := "finds", desc := "(I)Z" } : Jvm.MethodName)),
  (Jvm.Cond.instanceMethod ({ cls := "HistoryJudgeModel", name := "finds", desc := "(I)Z" } : Jvm.MethodName)),
  (Jvm.Cond.selects "HistoryJudgeModel" ({ cls := "HistoryJudgeModel", name := "finds", desc := "(I)Z" } : Jvm.MethodName) ({ cls := "HistoryJudgeModel", name := "finds", desc := "(I)Z" } : Jvm.MethodName)),
  (Jvm.Cond.code ({ cls := "HistoryJudgeModel", name := "many", desc := "()I" } : Jvm.MethodName) prog_9_method_5_code (1 : Nat) (Option.some Jvm.ClassFile.FieldType.int)),
  (Jvm.Cond.methodLink "HistoryJudgeModel" (84 : Nat) ({ cls := "HistoryJudgeModel", name := "many", desc := "()I" } : Jvm.MethodName)),
  (Jvm.Cond.instanceMethod ({ cls := "HistoryJudgeModel", name := "many", desc := "()I" } : Jvm.MethodName)),
  (Jvm.Cond.selects "HistoryJudgeModel" ({ cls := "HistoryJudgeModel", name := "many", desc := "()I" } : Jvm.MethodName) ({ cls := "HistoryJudgeModel", name := "many", desc := "()I" } : Jvm.MethodName)),
  (Jvm.Cond.code ({ cls := "HistoryJudgeModel", name := "isOrder", desc := "(I)Z" } : Jvm.MethodName) prog_9_method_10_code (4 : Nat) (Option.some Jvm.ClassFile.FieldType.boolean)),
  (Jvm.Cond.methodLink "HistoryJudgeModel" (92 : Nat) ({ cls := "HistoryJudgeModel", name := "isOrder", desc := "(I)Z" } : Jvm.MethodName)),
  (Jvm.Cond.instanceMethod ({ cls := "HistoryJudgeModel", name := "isOrder", desc := "(I)Z" } : Jvm.MethodName)),
  (Jvm.Cond.selects "HistoryJudgeModel" ({ cls := "HistoryJudgeModel", name := "isOrder", desc := "(I)Z" } : Jvm.MethodName) ({ cls := "HistoryJudgeModel", name := "isOrder", desc := "(I)Z" } : Jvm.MethodName)),
  (Jvm.Cond.code ({ cls := "HistoryJudgeModel", name := "fits", desc := "(I)Z" } : Jvm.MethodName) prog_9_method_12_code (4 : Nat) (Option.some Jvm.ClassFile.FieldType.boolean)),
  (Jvm.Cond.methodLink "HistoryJudgeModel" (95 : Nat) ({ cls := "HistoryJudgeModel", name := "fits", desc := "(I)Z" } : Jvm.MethodName)),
  (Jvm.Cond.instanceMethod ({ cls := "HistoryJudgeModel", name := "fits", desc := "(I)Z" } : Jvm.MethodName)),
  (Jvm.Cond.selects "HistoryJudgeModel" ({ cls := "HistoryJudgeModel", name := "fits", desc := "(I)Z" } : Jvm.MethodName) ({ cls := "HistoryJudgeModel", name := "fits", desc := "(I)Z" } : Jvm.MethodName)),
  (Jvm.Cond.fieldLink "HistoryJudgeModel" (19 : Nat) "HistoryJudgeModel" "argument" "[I"),
  (Jvm.Cond.code ({ cls := "HistoryJudgeModel", name := "mayStand", desc := "(III)Z" } : Jvm.MethodName) prog_9_method_8_code (4 : Nat) (Option.some Jvm.ClassFile.FieldType.boolean)),
  (Jvm.Cond.methodLink "HistoryJudgeModel" (88 : Nat) ({ cls := "HistoryJudgeModel", name := "mayStand", desc := "(III)Z" } : Jvm.MethodName)),
  (Jvm.Cond.instanceMethod ({ cls := "HistoryJudgeModel", name := "mayStand", desc := "(III)Z" } : Jvm.MethodName)),
  (Jvm.Cond.selects "HistoryJudgeModel" ({ cls := "HistoryJudgeModel", name := "mayStand", desc := "(III)Z" } : Jvm.MethodName) ({ cls := "HistoryJudgeModel", name := "mayStand", desc := "(III)Z" } : Jvm.MethodName)),
  (Jvm.Cond.fieldLink "HistoryJudgeModel" (25 : Nat) "HistoryJudgeModel" "kept" "[I"),
  (Jvm.Cond.fieldLink "HistoryJudgeModel" (22 : Nat) "HistoryJudgeModel" "keptSizes" "[I"),
  (Jvm.Cond.code ({ cls := "HistoryJudgeModel", name := "copy", desc := "(II)V" } : Jvm.MethodName) prog_9_method_16_code (3 : Nat) (Option.none : Option Jvm.ClassFile.FieldType)),
  (Jvm.Cond.methodLink "HistoryJudgeModel" (98 : Nat) ({ cls := "HistoryJudgeModel", name := "copy", desc := "(II)V" } : Jvm.MethodName)),
  (Jvm.Cond.instanceMethod ({ cls := "HistoryJudgeModel", name := "copy", desc := "(II)V" } : Jvm.MethodName)),
  (Jvm.Cond.selects "HistoryJudgeModel" ({ cls := "HistoryJudgeModel", name := "copy", desc := "(II)V" } : Jvm.MethodName) ({ cls := "HistoryJudgeModel", name := "copy", desc := "(II)V" } : Jvm.MethodName)),
  (Jvm.Cond.code ({ cls := "HistoryJudgeModel", name := "within", desc := "(III)Z" } : Jvm.MethodName) prog_9_method_4_code (3 : Nat) (Option.some Jvm.ClassFile.FieldType.boolean)),
  (Jvm.Cond.methodLink "HistoryJudgeModel" (102 : Nat) ({ cls := "HistoryJudgeModel", name := "within", desc := "(III)Z" } : Jvm.MethodName)),
  (Jvm.Cond.static ({ cls := "HistoryJudgeModel", name := "within", desc := "(III)Z" } : Jvm.MethodName)),
  (Jvm.Cond.code ({ cls := "HistoryJudgeModel", name := "fail", desc := "(I)I" } : Jvm.MethodName) prog_9_method_3_code (2 : Nat) (Option.some Jvm.ClassFile.FieldType.int)),
  (Jvm.Cond.methodLink "HistoryJudgeModel" (105 : Nat) ({ cls := "HistoryJudgeModel", name := "fail", desc := "(I)I" } : Jvm.MethodName)),
  (Jvm.Cond.instanceMethod ({ cls := "HistoryJudgeModel", name := "fail", desc := "(I)I" } : Jvm.MethodName)),
  (Jvm.Cond.selects "HistoryJudgeModel" ({ cls := "HistoryJudgeModel", name := "fail", desc := "(I)I" } : Jvm.MethodName) ({ cls := "HistoryJudgeModel", name := "fail", desc := "(I)I" } : Jvm.MethodName)),
  (Jvm.Cond.code ({ cls := "HistoryJudgeModel", name := "keep", desc := "()V" } : Jvm.MethodName) prog_9_method_14_code (2 : Nat) (Option.none : Option Jvm.ClassFile.FieldType)),
  (Jvm.Cond.methodLink "HistoryJudgeModel" (108 : Nat) ({ cls := "HistoryJudgeModel", name := "keep", desc := "()V" } : Jvm.MethodName))]
def lg_3 : List Jvm.Cond := [(Jvm.Cond.instanceMethod ({ cls := "HistoryJudgeModel", name := "keep", desc := "()V" } : Jvm.MethodName)),
  (Jvm.Cond.selects "HistoryJudgeModel" ({ cls := "HistoryJudgeModel", name := "keep", desc := "()V" } : Jvm.MethodName) ({ cls := "HistoryJudgeModel", name := "keep", desc := "()V" } : Jvm.MethodName)),
  (Jvm.Cond.code ({ cls := "HistoryJudgeModel", name := "insert", desc := "(IIII)I" } : Jvm.MethodName) prog_9_method_17_code (7 : Nat) (Option.some Jvm.ClassFile.FieldType.int)),
  (Jvm.Cond.methodLink "HistoryJudgeModel" (111 : Nat) ({ cls := "HistoryJudgeModel", name := "insert", desc := "(IIII)I" } : Jvm.MethodName)),
  (Jvm.Cond.instanceMethod ({ cls := "HistoryJudgeModel", name := "insert", desc := "(IIII)I" } : Jvm.MethodName)),
  (Jvm.Cond.selects "HistoryJudgeModel" ({ cls := "HistoryJudgeModel", name := "insert", desc := "(IIII)I" } : Jvm.MethodName) ({ cls := "HistoryJudgeModel", name := "insert", desc := "(IIII)I" } : Jvm.MethodName)),
  (Jvm.Cond.code ({ cls := "HistoryJudgeModel", name := "valid", desc := "()Z" } : Jvm.MethodName) prog_9_method_13_code (4 : Nat) (Option.some Jvm.ClassFile.FieldType.boolean)),
  (Jvm.Cond.methodLink "HistoryJudgeModel" (115 : Nat) ({ cls := "HistoryJudgeModel", name := "valid", desc := "()Z" } : Jvm.MethodName)),
  (Jvm.Cond.instanceMethod ({ cls := "HistoryJudgeModel", name := "valid", desc := "()Z" } : Jvm.MethodName)),
  (Jvm.Cond.selects "HistoryJudgeModel" ({ cls := "HistoryJudgeModel", name := "valid", desc := "()Z" } : Jvm.MethodName) ({ cls := "HistoryJudgeModel", name := "valid", desc := "()Z" } : Jvm.MethodName)),
  (Jvm.Cond.fieldLink "HistoryJudgeModel" (122 : Nat) "HistoryJudgeModel" "ran" "Z"),
  (Jvm.Cond.code ({ cls := "HistoryJudgeModel", name := "putBack", desc := "()V" } : Jvm.MethodName) prog_9_method_15_code (2 : Nat) (Option.none : Option Jvm.ClassFile.FieldType)),
  (Jvm.Cond.methodLink "HistoryJudgeModel" (119 : Nat) ({ cls := "HistoryJudgeModel", name := "putBack", desc := "()V" } : Jvm.MethodName)),
  (Jvm.Cond.instanceMethod ({ cls := "HistoryJudgeModel", name := "putBack", desc := "()V" } : Jvm.MethodName)),
  (Jvm.Cond.selects "HistoryJudgeModel" ({ cls := "HistoryJudgeModel", name := "putBack", desc := "()V" } : Jvm.MethodName) ({ cls := "HistoryJudgeModel", name := "putBack", desc := "()V" } : Jvm.MethodName)),
  (Jvm.Cond.fieldLink "HistoryJudgeModel" (126 : Nat) "HistoryJudgeModel" "g" "J"),
  (Jvm.Cond.constantLong "HistoryJudgeModel" (130 : Nat) (6364136223846793005 : Int64)),
  (Jvm.Cond.constantLong "HistoryJudgeModel" (132 : Nat) (1442695040888963407 : Int64)),
  (Jvm.Cond.code ({ cls := "HistoryJudgeModel", name := "drawn", desc := "(I)I" } : Jvm.MethodName) prog_9_method_22_code (2 : Nat) (Option.some Jvm.ClassFile.FieldType.int)),
  (Jvm.Cond.methodLink "HistoryJudgeModel" (134 : Nat) ({ cls := "HistoryJudgeModel", name := "drawn", desc := "(I)I" } : Jvm.MethodName)),
  (Jvm.Cond.instanceMethod ({ cls := "HistoryJudgeModel", name := "drawn", desc := "(I)I" } : Jvm.MethodName)),
  (Jvm.Cond.selects "HistoryJudgeModel" ({ cls := "HistoryJudgeModel", name := "drawn", desc := "(I)I" } : Jvm.MethodName) ({ cls := "HistoryJudgeModel", name := "drawn", desc := "(I)I" } : Jvm.MethodName)),
  (Jvm.Cond.code ({ cls := "HistoryJudgeModel", name := "before", desc := "(III)I" } : Jvm.MethodName) prog_9_method_24_code (6 : Nat) (Option.some Jvm.ClassFile.FieldType.int)),
  (Jvm.Cond.methodLink "HistoryJudgeModel" (137 : Nat) ({ cls := "HistoryJudgeModel", name := "before", desc := "(III)I" } : Jvm.MethodName)),
  (Jvm.Cond.instanceMethod ({ cls := "HistoryJudgeModel", name := "before", desc := "(III)I" } : Jvm.MethodName)),
  (Jvm.Cond.selects "HistoryJudgeModel" ({ cls := "HistoryJudgeModel", name := "before", desc := "(III)I" } : Jvm.MethodName) ({ cls := "HistoryJudgeModel", name := "before", desc := "(III)I" } : Jvm.MethodName)),
  (Jvm.Cond.code ({ cls := "HistoryJudgeModel", name := "clear", desc := "()I" } : Jvm.MethodName) prog_9_method_21_code (3 : Nat) (Option.some Jvm.ClassFile.FieldType.int)),
  (Jvm.Cond.methodLink "HistoryJudgeModel" (141 : Nat) ({ cls := "HistoryJudgeModel", name := "clear", desc := "()I" } : Jvm.MethodName)),
  (Jvm.Cond.instanceMethod ({ cls := "HistoryJudgeModel", name := "clear", desc := "()I" } : Jvm.MethodName)),
  (Jvm.Cond.selects "HistoryJudgeModel" ({ cls := "HistoryJudgeModel", name := "clear", desc := "()I" } : Jvm.MethodName) ({ cls := "HistoryJudgeModel", name := "clear", desc := "()I" } : Jvm.MethodName)),
  (Jvm.Cond.code ({ cls := "HistoryJudgeModel", name := "tried", desc := "(I)V" } : Jvm.MethodName) prog_9_method_23_code (12 : Nat) (Option.none : Option Jvm.ClassFile.FieldType)),
  (Jvm.Cond.methodLink "HistoryJudgeModel" (144 : Nat) ({ cls := "HistoryJudgeModel", name := "tried", desc := "(I)V" } : Jvm.MethodName)),
  (Jvm.Cond.instanceMethod ({ cls := "HistoryJudgeModel", name := "tried", desc := "(I)V" } : Jvm.MethodName)),
  (Jvm.Cond.selects "HistoryJudgeModel" ({ cls := "HistoryJudgeModel", name := "tried", desc := "(I)V" } : Jvm.MethodName) ({ cls := "HistoryJudgeModel", name := "tried", desc := "(I)V" } : Jvm.MethodName)),
  (Jvm.Cond.fieldLink "HistoryJudgeModel" (148 : Nat) "HistoryJudgeModel" "flaws" "I"),
  (Jvm.Cond.fieldLink "HistoryJudgeModel" (44 : Nat) "HistoryJudgeModel" "number" "[I"),
  (Jvm.Cond.fieldLink "HistoryJudgeModel" (53 : Nat) "HistoryJudgeModel" "noted" "[I"),
  (Jvm.Cond.fieldLink "HistoryJudgeModel" (41 : Nat) "HistoryJudgeModel" "answer" "[I"),
  (Jvm.Cond.fieldLink "HistoryJudgeModel" (35 : Nat) "HistoryJudgeModel" "has" "[I"),
  (Jvm.Cond.fieldLink "HistoryJudgeModel" (38 : Nat) "HistoryJudgeModel" "isOpen" "[Z"),
  (Jvm.Cond.code ({ cls := "HistoryJudgeModel", name := "isLate", desc := "(I)Z" } : Jvm.MethodName) prog_9_method_28_code (2 : Nat) (Option.some Jvm.ClassFile.FieldType.boolean)),
  (Jvm.Cond.methodLink "HistoryJudgeModel" (151 : Nat) ({ cls := "HistoryJudgeModel", name := "isLate", desc := "(I)Z" } : Jvm.MethodName)),
  (Jvm.Cond.instanceMethod ({ cls := "HistoryJudgeModel", name := "isLate", desc := "(I)Z" } : Jvm.MethodName)),
  (Jvm.Cond.selects "HistoryJudgeModel" ({ cls := "HistoryJudgeModel", name := "isLate", desc := "(I)Z" } : Jvm.MethodName) ({ cls := "HistoryJudgeModel", name := "isLate", desc := "(I)Z" } : Jvm.MethodName)),
  (Jvm.Cond.code ({ cls := "HistoryJudgeModel", name := "twoParts", desc := "(I)Z" } : Jvm.MethodName) prog_9_method_27_code (2 : Nat) (Option.some Jvm.ClassFile.FieldType.boolean)),
  (Jvm.Cond.methodLink "HistoryJudgeModel" (154 : Nat) ({ cls := "HistoryJudgeModel", name := "twoParts", desc := "(I)Z" } : Jvm.MethodName)),
  (Jvm.Cond.instanceMethod ({ cls := "HistoryJudgeModel", name := "twoParts", desc := "(I)Z" } : Jvm.MethodName)),
  (Jvm.Cond.selects "HistoryJudgeModel" ({ cls := "HistoryJudgeModel", name := "twoParts", desc := "(I)Z" } : Jvm.MethodName) ({ cls := "HistoryJudgeModel", name := "twoParts", desc := "(I)Z" } : Jvm.MethodName)),
  (Jvm.Cond.fieldLink "HistoryJudgeModel" (50 : Nat) "HistoryJudgeModel" "back" "[I"),
  (Jvm.Cond.code ({ cls := "HistoryJudgeModel", name := "does", desc := "(I)V" } : Jvm.MethodName) prog_9_method_30_code (5 : Nat) (Option.none : Option Jvm.ClassFile.FieldType)),
  (Jvm.Cond.methodLink "HistoryJudgeModel" (163 : Nat) ({ cls := "HistoryJudgeModel", name := "does", desc := "(I)V" } : Jvm.MethodName)),
  (Jvm.Cond.instanceMethod ({ cls := "HistoryJudgeModel", name := "does", desc := "(I)V" } : Jvm.MethodName)),
  (Jvm.Cond.selects "HistoryJudgeModel" ({ cls := "HistoryJudgeModel", name := "does", desc := "(I)V" } : Jvm.MethodName) ({ cls := "HistoryJudgeModel", name := "does", desc := "(I)V" } : Jvm.MethodName)),
  (Jvm.Cond.code ({ cls := "HistoryJudgeModel", name := "source", desc := "(I)I" } : Jvm.MethodName) prog_9_method_29_code (2 : Nat) (Option.some Jvm.ClassFile.FieldType.int)),
  (Jvm.Cond.methodLink "HistoryJudgeModel" (160 : Nat) ({ cls := "HistoryJudgeModel", name := "source", desc := "(I)I" } : Jvm.MethodName)),
  (Jvm.Cond.instanceMethod ({ cls := "HistoryJudgeModel", name := "source", desc := "(I)I" } : Jvm.MethodName)),
  (Jvm.Cond.selects "HistoryJudgeModel" ({ cls := "HistoryJudgeModel", name := "source", desc := "(I)I" } : Jvm.MethodName) ({ cls := "HistoryJudgeModel", name := "source", desc := "(I)I" } : Jvm.MethodName)),
  (Jvm.Cond.code ({ cls := "HistoryJudgeModel", name := "calls", desc := "(I)V" } : Jvm.MethodName) prog_9_method_31_code (2 : Nat) (Option.none : Option Jvm.ClassFile.FieldType)),
  (Jvm.Cond.methodLink "HistoryJudgeModel" (157 : Nat) ({ cls := "HistoryJudgeModel", name := "calls", desc := "(I)V" } : Jvm.MethodName)),
  (Jvm.Cond.instanceMethod ({ cls := "HistoryJudgeModel", name := "calls", desc := "(I)V" } : Jvm.MethodName))]
def lg_4 : List Jvm.Cond := [(Jvm.Cond.selects "HistoryJudgeModel" ({ cls := "HistoryJudgeModel", name := "calls", desc := "(I)V" } : Jvm.MethodName) ({ cls := "HistoryJudgeModel", name := "calls", desc := "(I)V" } : Jvm.MethodName)),
  (Jvm.Cond.fieldLink "HistoryJudgeModel" (47 : Nat) "HistoryJudgeModel" "call" "[I"),
  (Jvm.Cond.fieldLink "HistoryJudgeModel" (56 : Nat) "HistoryJudgeModel" "at" "[I"),
  (Jvm.Cond.code ({ cls := "HistoryJudgeModel", name := "hasLeft", desc := "(I)Z" } : Jvm.MethodName) prog_9_method_34_code (2 : Nat) (Option.some Jvm.ClassFile.FieldType.boolean)),
  (Jvm.Cond.methodLink "HistoryJudgeModel" (173 : Nat) ({ cls := "HistoryJudgeModel", name := "hasLeft", desc := "(I)Z" } : Jvm.MethodName)),
  (Jvm.Cond.instanceMethod ({ cls := "HistoryJudgeModel", name := "hasLeft", desc := "(I)Z" } : Jvm.MethodName)),
  (Jvm.Cond.selects "HistoryJudgeModel" ({ cls := "HistoryJudgeModel", name := "hasLeft", desc := "(I)Z" } : Jvm.MethodName) ({ cls := "HistoryJudgeModel", name := "hasLeft", desc := "(I)Z" } : Jvm.MethodName)),
  (Jvm.Cond.fieldLink "HistoryJudgeModel" (59 : Nat) "HistoryJudgeModel" "event" "[I"),
  (Jvm.Cond.code ({ cls := "HistoryJudgeModel", name := "happens", desc := "(III)V" } : Jvm.MethodName) prog_9_method_33_code (5 : Nat) (Option.none : Option Jvm.ClassFile.FieldType)),
  (Jvm.Cond.methodLink "HistoryJudgeModel" (169 : Nat) ({ cls := "HistoryJudgeModel", name := "happens", desc := "(III)V" } : Jvm.MethodName)),
  (Jvm.Cond.instanceMethod ({ cls := "HistoryJudgeModel", name := "happens", desc := "(III)V" } : Jvm.MethodName)),
  (Jvm.Cond.selects "HistoryJudgeModel" ({ cls := "HistoryJudgeModel", name := "happens", desc := "(III)V" } : Jvm.MethodName) ({ cls := "HistoryJudgeModel", name := "happens", desc := "(III)V" } : Jvm.MethodName)),
  (Jvm.Cond.code ({ cls := "HistoryJudgeModel", name := "events", desc := "(I)I" } : Jvm.MethodName) prog_9_method_32_code (2 : Nat) (Option.some Jvm.ClassFile.FieldType.int)),
  (Jvm.Cond.methodLink "HistoryJudgeModel" (166 : Nat) ({ cls := "HistoryJudgeModel", name := "events", desc := "(I)I" } : Jvm.MethodName)),
  (Jvm.Cond.instanceMethod ({ cls := "HistoryJudgeModel", name := "events", desc := "(I)I" } : Jvm.MethodName)),
  (Jvm.Cond.selects "HistoryJudgeModel" ({ cls := "HistoryJudgeModel", name := "events", desc := "(I)I" } : Jvm.MethodName) ({ cls := "HistoryJudgeModel", name := "events", desc := "(I)I" } : Jvm.MethodName)),
  (Jvm.Cond.fieldLink "HistoryJudgeModel" (28 : Nat) "HistoryJudgeModel" "holds" "[I"),
  (Jvm.Cond.code ({ cls := "HistoryJudgeModel", name := "right", desc := "(I)I" } : Jvm.MethodName) prog_9_method_36_code (5 : Nat) (Option.some Jvm.ClassFile.FieldType.int)),
  (Jvm.Cond.methodLink "HistoryJudgeModel" (176 : Nat) ({ cls := "HistoryJudgeModel", name := "right", desc := "(I)I" } : Jvm.MethodName)),
  (Jvm.Cond.instanceMethod ({ cls := "HistoryJudgeModel", name := "right", desc := "(I)I" } : Jvm.MethodName)),
  (Jvm.Cond.selects "HistoryJudgeModel" ({ cls := "HistoryJudgeModel", name := "right", desc := "(I)I" } : Jvm.MethodName) ({ cls := "HistoryJudgeModel", name := "right", desc := "(I)I" } : Jvm.MethodName)),
  (Jvm.Cond.code ({ cls := "HistoryJudgeModel", name := "go", desc := "(I)V" } : Jvm.MethodName) prog_9_method_35_code (4 : Nat) (Option.none : Option Jvm.ClassFile.FieldType)),
  (Jvm.Cond.methodLink "HistoryJudgeModel" (179 : Nat) ({ cls := "HistoryJudgeModel", name := "go", desc := "(I)V" } : Jvm.MethodName)),
  (Jvm.Cond.instanceMethod ({ cls := "HistoryJudgeModel", name := "go", desc := "(I)V" } : Jvm.MethodName)),
  (Jvm.Cond.selects "HistoryJudgeModel" ({ cls := "HistoryJudgeModel", name := "go", desc := "(I)V" } : Jvm.MethodName) ({ cls := "HistoryJudgeModel", name := "go", desc := "(I)V" } : Jvm.MethodName)),
  (Jvm.Cond.fieldLink "HistoryJudgeModel" (182 : Nat) "HistoryJudgeModel" "runs" "I"),
  (Jvm.Cond.fieldLink "HistoryJudgeModel" (185 : Nat) "HistoryJudgeModel" "explained" "Z"),
  (Jvm.Cond.fieldLink "HistoryJudgeModel" (194 : Nat) "HistoryJudgeModel" "wrong" "I"),
  (Jvm.Cond.fieldLink "HistoryJudgeModel" (191 : Nat) "HistoryJudgeModel" "witness" "I"),
  (Jvm.Cond.code ({ cls := "HistoryJudgeModel", name := "explains", desc := "(I)Z" } : Jvm.MethodName) prog_9_method_37_code (7 : Nat) (Option.some Jvm.ClassFile.FieldType.boolean)),
  (Jvm.Cond.methodLink "HistoryJudgeModel" (188 : Nat) ({ cls := "HistoryJudgeModel", name := "explains", desc := "(I)Z" } : Jvm.MethodName)),
  (Jvm.Cond.instanceMethod ({ cls := "HistoryJudgeModel", name := "explains", desc := "(I)Z" } : Jvm.MethodName)),
  (Jvm.Cond.selects "HistoryJudgeModel" ({ cls := "HistoryJudgeModel", name := "explains", desc := "(I)Z" } : Jvm.MethodName) ({ cls := "HistoryJudgeModel", name := "explains", desc := "(I)Z" } : Jvm.MethodName)),
  (Jvm.Cond.fieldLink "HistoryJudgeModel" (62 : Nat) "HistoryJudgeModel" "tallies" "[I"),
  (Jvm.Cond.code ({ cls := "HistoryJudgeModel", name := "judged", desc := "(I)Z" } : Jvm.MethodName) prog_9_method_38_code (4 : Nat) (Option.some Jvm.ClassFile.FieldType.boolean)),
  (Jvm.Cond.methodLink "HistoryJudgeModel" (197 : Nat) ({ cls := "HistoryJudgeModel", name := "judged", desc := "(I)Z" } : Jvm.MethodName)),
  (Jvm.Cond.instanceMethod ({ cls := "HistoryJudgeModel", name := "judged", desc := "(I)Z" } : Jvm.MethodName)),
  (Jvm.Cond.selects "HistoryJudgeModel" ({ cls := "HistoryJudgeModel", name := "judged", desc := "(I)Z" } : Jvm.MethodName) ({ cls := "HistoryJudgeModel", name := "judged", desc := "(I)Z" } : Jvm.MethodName)),
  (Jvm.Cond.constant "HistoryJudgeModel" (200 : Nat) (2147483647 : Int32)),
  (Jvm.Cond.fieldLink "HistoryJudgeModel" (201 : Nat) "HistoryJudgeModel" "failing" "I"),
  (Jvm.Cond.code ({ cls := "HistoryJudgeModel", name := "failed", desc := "(JI)I" } : Jvm.MethodName) prog_9_method_40_code (6 : Nat) (Option.some Jvm.ClassFile.FieldType.int)),
  (Jvm.Cond.methodLink "HistoryJudgeModel" (204 : Nat) ({ cls := "HistoryJudgeModel", name := "failed", desc := "(JI)I" } : Jvm.MethodName)),
  (Jvm.Cond.instanceMethod ({ cls := "HistoryJudgeModel", name := "failed", desc := "(JI)I" } : Jvm.MethodName)),
  (Jvm.Cond.selects "HistoryJudgeModel" ({ cls := "HistoryJudgeModel", name := "failed", desc := "(JI)I" } : Jvm.MethodName) ({ cls := "HistoryJudgeModel", name := "failed", desc := "(JI)I" } : Jvm.MethodName)),
  (Jvm.Cond.code ({ cls := "HistoryJudgeModel", name := "takes", desc := "(ZJI)Z" } : Jvm.MethodName) prog_9_method_42_code (5 : Nat) (Option.some Jvm.ClassFile.FieldType.boolean)),
  (Jvm.Cond.methodLink "HistoryJudgeModel" (211 : Nat) ({ cls := "HistoryJudgeModel", name := "takes", desc := "(ZJI)Z" } : Jvm.MethodName)),
  (Jvm.Cond.instanceMethod ({ cls := "HistoryJudgeModel", name := "takes", desc := "(ZJI)Z" } : Jvm.MethodName)),
  (Jvm.Cond.selects "HistoryJudgeModel" ({ cls := "HistoryJudgeModel", name := "takes", desc := "(ZJI)Z" } : Jvm.MethodName) ({ cls := "HistoryJudgeModel", name := "takes", desc := "(ZJI)Z" } : Jvm.MethodName)),
  (Jvm.Cond.code ({ cls := "HistoryJudgeModel", name := "raise", desc := "(I)V" } : Jvm.MethodName) prog_9_method_19_code (9 : Nat) (Option.none : Option Jvm.ClassFile.FieldType)),
  (Jvm.Cond.methodLink "HistoryJudgeModel" (215 : Nat) ({ cls := "HistoryJudgeModel", name := "raise", desc := "(I)V" } : Jvm.MethodName)),
  (Jvm.Cond.instanceMethod ({ cls := "HistoryJudgeModel", name := "raise", desc := "(I)V" } : Jvm.MethodName)),
  (Jvm.Cond.selects "HistoryJudgeModel" ({ cls := "HistoryJudgeModel", name := "raise", desc := "(I)V" } : Jvm.MethodName) ({ cls := "HistoryJudgeModel", name := "raise", desc := "(I)V" } : Jvm.MethodName)),
  (Jvm.Cond.code ({ cls := "HistoryJudgeModel", name := "leaveOut", desc := "(I)Z" } : Jvm.MethodName) prog_9_method_18_code (4 : Nat) (Option.some Jvm.ClassFile.FieldType.boolean)),
  (Jvm.Cond.methodLink "HistoryJudgeModel" (208 : Nat) ({ cls := "HistoryJudgeModel", name := "leaveOut", desc := "(I)Z" } : Jvm.MethodName)),
  (Jvm.Cond.instanceMethod ({ cls := "HistoryJudgeModel", name := "leaveOut", desc := "(I)Z" } : Jvm.MethodName)),
  (Jvm.Cond.selects "HistoryJudgeModel" ({ cls := "HistoryJudgeModel", name := "leaveOut", desc := "(I)Z" } : Jvm.MethodName) ({ cls := "HistoryJudgeModel", name := "leaveOut", desc := "(I)Z" } : Jvm.MethodName)),
  (Jvm.Cond.code ({ cls := "HistoryJudgeModel", name := "smaller", desc := "(JI)Z" } : Jvm.MethodName) prog_9_method_43_code (7 : Nat) (Option.some Jvm.ClassFile.FieldType.boolean)),
  (Jvm.Cond.methodLink "HistoryJudgeModel" (218 : Nat) ({ cls := "HistoryJudgeModel", name := "smaller", desc := "(JI)Z" } : Jvm.MethodName)),
  (Jvm.Cond.instanceMethod ({ cls := "HistoryJudgeModel", name := "smaller", desc := "(JI)Z" } : Jvm.MethodName)),
  (Jvm.Cond.selects "HistoryJudgeModel" ({ cls := "HistoryJudgeModel", name := "smaller", desc := "(JI)Z" } : Jvm.MethodName) ({ cls := "HistoryJudgeModel", name := "smaller", desc := "(JI)Z" } : Jvm.MethodName))]
def lg_5 : List Jvm.Cond := [(Jvm.Cond.fieldLink "HistoryJudgeModel" (222 : Nat) "HistoryJudgeModel" "taken" "I"),
  (Jvm.Cond.fieldLink "HistoryJudge$Tester" (39 : Nat) "HistoryJudge$Tester" "schedule" "I"),
  (Jvm.Cond.fieldLink "HistoryJudge$Tester" (12 : Nat) "HistoryJudge$Tester" "machine" "LHistoryJudge$Machine;"),
  (Jvm.Cond.fieldLink "HistoryJudge$Tester" (29 : Nat) "HistoryJudge$Tester" "flawBits" "I"),
  (Jvm.Cond.fieldLink "HistoryJudge$Machine" (39 : Nat) "HistoryJudge$Machine" "flawBits" "I"),
  (Jvm.Cond.fieldLink "HistoryJudge$Machine" (26 : Nat) "HistoryJudge$Machine" "cells" "I"),
  (Jvm.Cond.methodLink "HistoryJudge$Machine" (48 : Nat) ({ cls := "HistoryJudge$Program", name := "end", desc := "(I)I" } : Jvm.MethodName)),
  (Jvm.Cond.fieldLink "HistoryJudge$Machine" (30 : Nat) "HistoryJudge$Machine" "nextCommand" "[I"),
  (Jvm.Cond.fieldLink "HistoryJudge$Machine" (55 : Nat) "HistoryJudge$Program" "kinds" "[I"),
  (Jvm.Cond.fieldLink "HistoryJudge$Machine" (58 : Nat) "HistoryJudge$Program" "cells" "[I"),
  (Jvm.Cond.fieldLink "HistoryJudge$Machine" (33 : Nat) "HistoryJudge$Machine" "nextEvent" "[I"),
  (Jvm.Cond.fieldLink "HistoryJudge$Machine" (18 : Nat) "HistoryJudge$Machine" "calls" "[I"),
  (Jvm.Cond.fieldLink "HistoryJudge$Machine" (15 : Nat) "HistoryJudge$Machine" "numbers" "[I"),
  (Jvm.Cond.fieldLink "HistoryJudge$Machine" (60 : Nat) "HistoryJudge$Program" "arguments" "[I"),
  (Jvm.Cond.fieldLink "HistoryJudge$Machine" (9 : Nat) "HistoryJudge$Machine" "answers" "[I"),
  (Jvm.Cond.code ({ cls := "HistoryJudge$Machine", name := "numberOf", desc := "(I)I" } : Jvm.MethodName) prog_4_method_4_code (2 : Nat) (Option.some Jvm.ClassFile.FieldType.int)),
  (Jvm.Cond.methodLink "HistoryJudge$Machine" (63 : Nat) ({ cls := "HistoryJudge$Machine", name := "numberOf", desc := "(I)I" } : Jvm.MethodName)),
  (Jvm.Cond.instanceMethod ({ cls := "HistoryJudge$Machine", name := "numberOf", desc := "(I)I" } : Jvm.MethodName)),
  (Jvm.Cond.selects "HistoryJudge$Machine" ({ cls := "HistoryJudge$Machine", name := "numberOf", desc := "(I)I" } : Jvm.MethodName) ({ cls := "HistoryJudge$Machine", name := "numberOf", desc := "(I)I" } : Jvm.MethodName)),
  (Jvm.Cond.initialized "HistoryJudge$Machine"),
  (Jvm.Cond.code ({ cls := "HistoryJudge$Machine", name := "isSplit", desc := "(I)Z" } : Jvm.MethodName) prog_4_method_5_code (2 : Nat) (Option.some Jvm.ClassFile.FieldType.boolean)),
  (Jvm.Cond.methodLink "HistoryJudge$Machine" (66 : Nat) ({ cls := "HistoryJudge$Machine", name := "isSplit", desc := "(I)Z" } : Jvm.MethodName)),
  (Jvm.Cond.instanceMethod ({ cls := "HistoryJudge$Machine", name := "isSplit", desc := "(I)Z" } : Jvm.MethodName)),
  (Jvm.Cond.selects "HistoryJudge$Machine" ({ cls := "HistoryJudge$Machine", name := "isSplit", desc := "(I)Z" } : Jvm.MethodName) ({ cls := "HistoryJudge$Machine", name := "isSplit", desc := "(I)Z" } : Jvm.MethodName)),
  (Jvm.Cond.fieldLink "HistoryJudge$Machine" (36 : Nat) "HistoryJudge$Machine" "noted" "[I"),
  (Jvm.Cond.methodLink "HistoryJudge$Machine" (73 : Nat) ({ cls := "HistoryJudge$Model", name := "held", desc := "(II)I" } : Jvm.MethodName)),
  (Jvm.Cond.methodLink "HistoryJudge$Machine" (70 : Nat) ({ cls := "HistoryJudge$Model", name := "source", desc := "(I)I" } : Jvm.MethodName)),
  (Jvm.Cond.code ({ cls := "HistoryJudge$Model", name := "answer", desc := "(IIII)I" } : Jvm.MethodName) prog_5_method_7_code (4 : Nat) (Option.some Jvm.ClassFile.FieldType.int)),
  (Jvm.Cond.methodLink "HistoryJudge$Machine" (92 : Nat) ({ cls := "HistoryJudge$Model", name := "answer", desc := "(IIII)I" } : Jvm.MethodName)),
  (Jvm.Cond.static ({ cls := "HistoryJudge$Model", name := "answer", desc := "(IIII)I" } : Jvm.MethodName)),
  (Jvm.Cond.code ({ cls := "HistoryJudge$Machine", name := "isLate", desc := "(I)Z" } : Jvm.MethodName) prog_4_method_6_code (2 : Nat) (Option.some Jvm.ClassFile.FieldType.boolean)),
  (Jvm.Cond.methodLink "HistoryJudge$Machine" (85 : Nat) ({ cls := "HistoryJudge$Machine", name := "isLate", desc := "(I)Z" } : Jvm.MethodName)),
  (Jvm.Cond.instanceMethod ({ cls := "HistoryJudge$Machine", name := "isLate", desc := "(I)Z" } : Jvm.MethodName)),
  (Jvm.Cond.selects "HistoryJudge$Machine" ({ cls := "HistoryJudge$Machine", name := "isLate", desc := "(I)Z" } : Jvm.MethodName) ({ cls := "HistoryJudge$Machine", name := "isLate", desc := "(I)Z" } : Jvm.MethodName)),
  (Jvm.Cond.methodLink "HistoryJudge$Machine" (88 : Nat) ({ cls := "HistoryJudge$Model", name := "after", desc := "(IIII)I" } : Jvm.MethodName)),
  (Jvm.Cond.code ({ cls := "HistoryJudge$Machine", name := "act", desc := "(III)V" } : Jvm.MethodName) prog_4_method_7_code (4 : Nat) (Option.none : Option Jvm.ClassFile.FieldType)),
  (Jvm.Cond.methodLink "HistoryJudge$Machine" (81 : Nat) ({ cls := "HistoryJudge$Machine", name := "act", desc := "(III)V" } : Jvm.MethodName)),
  (Jvm.Cond.instanceMethod ({ cls := "HistoryJudge$Machine", name := "act", desc := "(III)V" } : Jvm.MethodName)),
  (Jvm.Cond.selects "HistoryJudge$Machine" ({ cls := "HistoryJudge$Machine", name := "act", desc := "(III)V" } : Jvm.MethodName) ({ cls := "HistoryJudge$Machine", name := "act", desc := "(III)V" } : Jvm.MethodName)),
  (Jvm.Cond.code ({ cls := "HistoryJudge$Machine", name := "actByNote", desc := "(IIII)V" } : Jvm.MethodName) prog_4_method_8_code (6 : Nat) (Option.none : Option Jvm.ClassFile.FieldType)),
  (Jvm.Cond.methodLink "HistoryJudge$Machine" (77 : Nat) ({ cls := "HistoryJudge$Machine", name := "actByNote", desc := "(IIII)V" } : Jvm.MethodName)),
  (Jvm.Cond.instanceMethod ({ cls := "HistoryJudge$Machine", name := "actByNote", desc := "(IIII)V" } : Jvm.MethodName)),
  (Jvm.Cond.selects "HistoryJudge$Machine" ({ cls := "HistoryJudge$Machine", name := "actByNote", desc := "(IIII)V" } : Jvm.MethodName) ({ cls := "HistoryJudge$Machine", name := "actByNote", desc := "(IIII)V" } : Jvm.MethodName)),
  (Jvm.Cond.fieldLink "HistoryJudge$Machine" (21 : Nat) "HistoryJudge$Machine" "returns" "[I"),
  (Jvm.Cond.code ({ cls := "HistoryJudge$Machine", name := "step", desc := "(LHistoryJudge$Program;II)V" } : Jvm.MethodName) prog_4_method_3_code (7 : Nat) (Option.none : Option Jvm.ClassFile.FieldType)),
  (Jvm.Cond.methodLink "HistoryJudge$Machine" (51 : Nat) ({ cls := "HistoryJudge$Machine", name := "step", desc := "(LHistoryJudge$Program;II)V" } : Jvm.MethodName)),
  (Jvm.Cond.instanceMethod ({ cls := "HistoryJudge$Machine", name := "step", desc := "(LHistoryJudge$Program;II)V" } : Jvm.MethodName)),
  (Jvm.Cond.selects "HistoryJudge$Machine" ({ cls := "HistoryJudge$Machine", name := "step", desc := "(LHistoryJudge$Program;II)V" } : Jvm.MethodName) ({ cls := "HistoryJudge$Machine", name := "step", desc := "(LHistoryJudge$Program;II)V" } : Jvm.MethodName)),
  (Jvm.Cond.methodLink "HistoryJudge$Machine" (42 : Nat) ({ cls := "HistoryJudge$Program", name := "start", desc := "(I)I" } : Jvm.MethodName)),
  (Jvm.Cond.code ({ cls := "HistoryJudge$Machine", name := "perform", desc := "(LHistoryJudge$Program;II)V" } : Jvm.MethodName) prog_4_method_2_code (11 : Nat) (Option.none : Option Jvm.ClassFile.FieldType)),
  (Jvm.Cond.methodLink "HistoryJudge$Tester" (53 : Nat) ({ cls := "HistoryJudge$Machine", name := "perform", desc := "(LHistoryJudge$Program;II)V" } : Jvm.MethodName)),
  (Jvm.Cond.instanceMethod ({ cls := "HistoryJudge$Machine", name := "perform", desc := "(LHistoryJudge$Program;II)V" } : Jvm.MethodName)),
  (Jvm.Cond.selects "HistoryJudge$Machine" ({ cls := "HistoryJudge$Machine", name := "perform", desc := "(LHistoryJudge$Program;II)V" } : Jvm.MethodName) ({ cls := "HistoryJudge$Machine", name := "perform", desc := "(LHistoryJudge$Program;II)V" } : Jvm.MethodName)),
  (Jvm.Cond.fieldLink "HistoryJudge$Tester" (21 : Nat) "HistoryJudge$Tester" "judge" "LHistoryJudge$Judge;"),
  (Jvm.Cond.methodLink "HistoryJudge$Judge" (17 : Nat) ({ cls := "HistoryJudge$Program", name := "end", desc := "(I)I" } : Jvm.MethodName)),
  (Jvm.Cond.methodLink "HistoryJudge$Judge" (31 : Nat) ({ cls := "HistoryJudge$Program", name := "start", desc := "(I)I" } : Jvm.MethodName)),
  (Jvm.Cond.fieldLink "HistoryJudge$Judge" (9 : Nat) "HistoryJudge$Judge" "witness" "[I"),
  (Jvm.Cond.fieldLink "HistoryJudge$Judge" (46 : Nat) "HistoryJudge$Program" "kinds" "[I"),
  (Jvm.Cond.fieldLink "HistoryJudge$Judge" (49 : Nat) "HistoryJudge$Program" "cells" "[I"),
  (Jvm.Cond.fieldLink "HistoryJudge$Judge" (52 : Nat) "HistoryJudge$Machine" "numbers" "[I")]
def lg_6 : List Jvm.Cond := [(Jvm.Cond.methodLink "HistoryJudge$Judge" (55 : Nat) ({ cls := "HistoryJudge$Model", name := "answer", desc := "(IIII)I" } : Jvm.MethodName)),
  (Jvm.Cond.fieldLink "HistoryJudge$Judge" (59 : Nat) "HistoryJudge$Machine" "answers" "[I"),
  (Jvm.Cond.code ({ cls := "HistoryJudge$Judge", name := "answersSo", desc := "(LHistoryJudge$Program;LHistoryJudge$Machine;II)Z" } : Jvm.MethodName) prog_3_method_4_code (5 : Nat) (Option.some Jvm.ClassFile.FieldType.boolean)),
  (Jvm.Cond.methodLink "HistoryJudge$Judge" (23 : Nat) ({ cls := "HistoryJudge$Judge", name := "answersSo", desc := "(LHistoryJudge$Program;LHistoryJudge$Machine;II)Z" } : Jvm.MethodName)),
  (Jvm.Cond.static ({ cls := "HistoryJudge$Judge", name := "answersSo", desc := "(LHistoryJudge$Program;LHistoryJudge$Machine;II)Z" } : Jvm.MethodName)),
  (Jvm.Cond.initialized "HistoryJudge$Judge"),
  (Jvm.Cond.methodLink "HistoryJudge$Judge" (62 : Nat) ({ cls := "HistoryJudge$Model", name := "after", desc := "(IIII)I" } : Jvm.MethodName)),
  (Jvm.Cond.code ({ cls := "HistoryJudge$Judge", name := "after", desc := "(LHistoryJudge$Program;LHistoryJudge$Machine;II)I" } : Jvm.MethodName) prog_3_method_5_code (4 : Nat) (Option.some Jvm.ClassFile.FieldType.int)),
  (Jvm.Cond.methodLink "HistoryJudge$Judge" (27 : Nat) ({ cls := "HistoryJudge$Judge", name := "after", desc := "(LHistoryJudge$Program;LHistoryJudge$Machine;II)I" } : Jvm.MethodName)),
  (Jvm.Cond.static ({ cls := "HistoryJudge$Judge", name := "after", desc := "(LHistoryJudge$Program;LHistoryJudge$Machine;II)I" } : Jvm.MethodName)),
  (Jvm.Cond.code ({ cls := "HistoryJudge$Judge", name := "search", desc := "(LHistoryJudge$Program;LHistoryJudge$Machine;IIII)Z" } : Jvm.MethodName) prog_3_method_3_code (12 : Nat) (Option.some Jvm.ClassFile.FieldType.boolean)),
  (Jvm.Cond.methodLink "HistoryJudge$Judge" (34 : Nat) ({ cls := "HistoryJudge$Judge", name := "search", desc := "(LHistoryJudge$Program;LHistoryJudge$Machine;IIII)Z" } : Jvm.MethodName)),
  (Jvm.Cond.instanceMethod ({ cls := "HistoryJudge$Judge", name := "search", desc := "(LHistoryJudge$Program;LHistoryJudge$Machine;IIII)Z" } : Jvm.MethodName)),
  (Jvm.Cond.selects "HistoryJudge$Judge" ({ cls := "HistoryJudge$Judge", name := "search", desc := "(LHistoryJudge$Program;LHistoryJudge$Machine;IIII)Z" } : Jvm.MethodName) ({ cls := "HistoryJudge$Judge", name := "search", desc := "(LHistoryJudge$Program;LHistoryJudge$Machine;IIII)Z" } : Jvm.MethodName)),
  (Jvm.Cond.fieldLink "HistoryJudge$Judge" (38 : Nat) "HistoryJudge$Machine" "returns" "[I"),
  (Jvm.Cond.fieldLink "HistoryJudge$Judge" (43 : Nat) "HistoryJudge$Machine" "calls" "[I"),
  (Jvm.Cond.code ({ cls := "HistoryJudge$Judge", name := "explains", desc := "(LHistoryJudge$Program;LHistoryJudge$Machine;)Z" } : Jvm.MethodName) prog_3_method_2_code (6 : Nat) (Option.some Jvm.ClassFile.FieldType.boolean)),
  (Jvm.Cond.methodLink "HistoryJudge$Tester" (57 : Nat) ({ cls := "HistoryJudge$Judge", name := "explains", desc := "(LHistoryJudge$Program;LHistoryJudge$Machine;)Z" } : Jvm.MethodName)),
  (Jvm.Cond.instanceMethod ({ cls := "HistoryJudge$Judge", name := "explains", desc := "(LHistoryJudge$Program;LHistoryJudge$Machine;)Z" } : Jvm.MethodName)),
  (Jvm.Cond.selects "HistoryJudge$Judge" ({ cls := "HistoryJudge$Judge", name := "explains", desc := "(LHistoryJudge$Program;LHistoryJudge$Machine;)Z" } : Jvm.MethodName) ({ cls := "HistoryJudge$Judge", name := "explains", desc := "(LHistoryJudge$Program;LHistoryJudge$Machine;)Z" } : Jvm.MethodName)),
  (Jvm.Cond.fieldLink "HistoryJudge$Tester" (42 : Nat) "HistoryJudge$Tester" "explained" "Z"),
  (Jvm.Cond.fieldLink "HistoryJudge$Tester" (33 : Nat) "HistoryJudge$Tester" "runs" "I"),
  (Jvm.Cond.methodLink "HistoryJudge$Tester" (61 : Nat) ({ cls := "HistoryJudge$Program", name := "size", desc := "()I" } : Jvm.MethodName)),
  (Jvm.Cond.fieldLink "HistoryJudge$Tester" (25 : Nat) "HistoryJudge$Tester" "tallies" "[I"),
  (Jvm.Cond.fieldLink "HistoryJudge$Tester" (67 : Nat) "HistoryJudge$Program" "kinds" "[I"),
  (Jvm.Cond.fieldLink "HistoryJudge$Tester" (36 : Nat) "HistoryJudge$Tester" "unexplained" "I"),
  (Jvm.Cond.fieldLink "HistoryJudge$Tester" (49 : Nat) "HistoryJudge$Tester" "draws" "LHistoryJudge$Draws;"),
  (Jvm.Cond.code ({ cls := "HistoryJudge$Draws", name := "restart", desc := "(J)V" } : Jvm.MethodName) prog_2_method_2_code (3 : Nat) (Option.none : Option Jvm.ClassFile.FieldType)),
  (Jvm.Cond.methodLink "HistoryJudge$Tester" (70 : Nat) ({ cls := "HistoryJudge$Draws", name := "restart", desc := "(J)V" } : Jvm.MethodName)),
  (Jvm.Cond.instanceMethod ({ cls := "HistoryJudge$Draws", name := "restart", desc := "(J)V" } : Jvm.MethodName)),
  (Jvm.Cond.selects "HistoryJudge$Draws" ({ cls := "HistoryJudge$Draws", name := "restart", desc := "(J)V" } : Jvm.MethodName) ({ cls := "HistoryJudge$Draws", name := "restart", desc := "(J)V" } : Jvm.MethodName)),
  (Jvm.Cond.constant "HistoryJudge$Tester" (74 : Nat) (2147483647 : Int32)),
  (Jvm.Cond.methodLink "HistoryJudge$Tester" (75 : Nat) ({ cls := "HistoryJudge$Draws", name := "below", desc := "(I)I" } : Jvm.MethodName)),
  (Jvm.Cond.code ({ cls := "HistoryJudge$Tester", name := "test", desc := "(LHistoryJudge$Program;I)Z" } : Jvm.MethodName) prog_7_method_2_code (5 : Nat) (Option.some Jvm.ClassFile.FieldType.boolean)),
  (Jvm.Cond.methodLink "HistoryJudge$Tester" (79 : Nat) ({ cls := "HistoryJudge$Tester", name := "test", desc := "(LHistoryJudge$Program;I)Z" } : Jvm.MethodName)),
  (Jvm.Cond.instanceMethod ({ cls := "HistoryJudge$Tester", name := "test", desc := "(LHistoryJudge$Program;I)Z" } : Jvm.MethodName)),
  (Jvm.Cond.selects "HistoryJudge$Tester" ({ cls := "HistoryJudge$Tester", name := "test", desc := "(LHistoryJudge$Program;I)Z" } : Jvm.MethodName) ({ cls := "HistoryJudge$Tester", name := "test", desc := "(LHistoryJudge$Program;I)Z" } : Jvm.MethodName)),
  (Jvm.Cond.initialized "HistoryJudge$Tester"),
  (Jvm.Cond.code ({ cls := "HistoryJudge", name := "isBelow", desc := "(II)Z" } : Jvm.MethodName) prog_1_method_15_code (2 : Nat) (Option.some Jvm.ClassFile.FieldType.boolean)),
  (Jvm.Cond.methodLink "HistoryJudge" (41 : Nat) ({ cls := "HistoryJudge", name := "isBelow", desc := "(II)Z" } : Jvm.MethodName)),
  (Jvm.Cond.static ({ cls := "HistoryJudge", name := "isBelow", desc := "(II)Z" } : Jvm.MethodName)),
  (Jvm.Cond.classLink "HistoryJudge" (45 : Nat) "java/lang/IllegalArgumentException"),
  (Jvm.Cond.initialized "java/lang/IllegalArgumentException"),
  (Jvm.Cond.code ({ cls := "HistoryJudge$Program", name := "mayTake", desc := "(II)Z" } : Jvm.MethodName) prog_6_method_9_code (4 : Nat) (Option.some Jvm.ClassFile.FieldType.boolean)),
  (Jvm.Cond.methodLink "HistoryJudge" (52 : Nat) ({ cls := "HistoryJudge$Program", name := "mayTake", desc := "(II)Z" } : Jvm.MethodName)),
  (Jvm.Cond.instanceMethod ({ cls := "HistoryJudge$Program", name := "mayTake", desc := "(II)Z" } : Jvm.MethodName)),
  (Jvm.Cond.selects "HistoryJudge$Program" ({ cls := "HistoryJudge$Program", name := "mayTake", desc := "(II)Z" } : Jvm.MethodName) ({ cls := "HistoryJudge$Program", name := "mayTake", desc := "(II)Z" } : Jvm.MethodName)),
  (Jvm.Cond.methodLink "HistoryJudge" (57 : Nat) ({ cls := "HistoryJudge$Program", name := "hasRoom", desc := "(I)Z" } : Jvm.MethodName)),
  (Jvm.Cond.methodLink "HistoryJudge" (66 : Nat) ({ cls := "HistoryJudge$Program", name := "end", desc := "(I)I" } : Jvm.MethodName)),
  (Jvm.Cond.classLink "HistoryJudge" (74 : Nat) "java/lang/UnsupportedOperationException"),
  (Jvm.Cond.initialized "java/lang/UnsupportedOperationException"),
  (Jvm.Cond.classLink "HistoryJudge" (61 : Nat) "java/lang/IllegalStateException"),
  (Jvm.Cond.initialized "java/lang/IllegalStateException"),
  (Jvm.Cond.methodLink "HistoryJudge" (88 : Nat) ({ cls := "HistoryJudge$Draws", name := "restart", desc := "(J)V" } : Jvm.MethodName)),
  (Jvm.Cond.code ({ cls := "HistoryJudge", name := "drawBranch", desc := "(II)V" } : Jvm.MethodName) prog_1_method_17_code (6 : Nat) (Option.none : Option Jvm.ClassFile.FieldType)),
  (Jvm.Cond.methodLink "HistoryJudge" (92 : Nat) ({ cls := "HistoryJudge", name := "drawBranch", desc := "(II)V" } : Jvm.MethodName)),
  (Jvm.Cond.instanceMethod ({ cls := "HistoryJudge", name := "drawBranch", desc := "(II)V" } : Jvm.MethodName)),
  (Jvm.Cond.selects "HistoryJudge" ({ cls := "HistoryJudge", name := "drawBranch", desc := "(II)V" } : Jvm.MethodName) ({ cls := "HistoryJudge", name := "drawBranch", desc := "(II)V" } : Jvm.MethodName)),
  (Jvm.Cond.fieldLink "HistoryJudge" (22 : Nat) "HistoryJudge" "tester" "LHistoryJudge$Tester;"),
  (Jvm.Cond.fieldLink "HistoryJudge" (98 : Nat) "HistoryJudge$Tester" "flawBits" "I")]
def lg_7 : List Jvm.Cond := [(Jvm.Cond.methodLink "HistoryJudge" (103 : Nat) ({ cls := "HistoryJudge$Tester", name := "test", desc := "(LHistoryJudge$Program;I)Z" } : Jvm.MethodName)),
  (Jvm.Cond.code ({ cls := "HistoryJudge$Tester", name := "firstFailure", desc := "(LHistoryJudge$Program;JI)I" } : Jvm.MethodName) prog_7_method_3_code (6 : Nat) (Option.some Jvm.ClassFile.FieldType.int)),
  (Jvm.Cond.methodLink "HistoryJudge" (109 : Nat) ({ cls := "HistoryJudge$Tester", name := "firstFailure", desc := "(LHistoryJudge$Program;JI)I" } : Jvm.MethodName)),
  (Jvm.Cond.instanceMethod ({ cls := "HistoryJudge$Tester", name := "firstFailure", desc := "(LHistoryJudge$Program;JI)I" } : Jvm.MethodName)),
  (Jvm.Cond.selects "HistoryJudge$Tester" ({ cls := "HistoryJudge$Tester", name := "firstFailure", desc := "(LHistoryJudge$Program;JI)I" } : Jvm.MethodName) ({ cls := "HistoryJudge$Tester", name := "firstFailure", desc := "(LHistoryJudge$Program;JI)I" } : Jvm.MethodName)),
  (Jvm.Cond.fieldLink "HistoryJudge" (115 : Nat) "HistoryJudge$Tester" "schedule" "I"),
  (Jvm.Cond.fieldLink "HistoryJudge" (33 : Nat) "HistoryJudge" "taken" "I"),
  (Jvm.Cond.code ({ cls := "HistoryJudge", name := "prepareCandidate", desc := "(I)Z" } : Jvm.MethodName) prog_1_method_19_code (3 : Nat) (Option.some Jvm.ClassFile.FieldType.boolean)),
  (Jvm.Cond.methodLink "HistoryJudge" (118 : Nat) ({ cls := "HistoryJudge", name := "prepareCandidate", desc := "(I)Z" } : Jvm.MethodName)),
  (Jvm.Cond.instanceMethod ({ cls := "HistoryJudge", name := "prepareCandidate", desc := "(I)Z" } : Jvm.MethodName)),
  (Jvm.Cond.selects "HistoryJudge" ({ cls := "HistoryJudge", name := "prepareCandidate", desc := "(I)Z" } : Jvm.MethodName) ({ cls := "HistoryJudge", name := "prepareCandidate", desc := "(I)Z" } : Jvm.MethodName)),
  (Jvm.Cond.classLink "HistoryJudge" (129 : Nat) "java/lang/IndexOutOfBoundsException"),
  (Jvm.Cond.initialized "java/lang/IndexOutOfBoundsException"),
  (Jvm.Cond.methodLink "HistoryJudge" (134 : Nat) ({ cls := "HistoryJudge$Program", name := "branchOf", desc := "(I)I" } : Jvm.MethodName)),
  (Jvm.Cond.fieldLink "HistoryJudge" (137 : Nat) "HistoryJudge$Program" "kinds" "[I"),
  (Jvm.Cond.fieldLink "HistoryJudge" (141 : Nat) "HistoryJudge$Program" "cells" "[I"),
  (Jvm.Cond.fieldLink "HistoryJudge" (144 : Nat) "HistoryJudge$Program" "arguments" "[I"),
  (Jvm.Cond.fieldLink "HistoryJudge" (151 : Nat) "HistoryJudge$Tester" "machine" "LHistoryJudge$Machine;"),
  (Jvm.Cond.fieldLink "HistoryJudge" (155 : Nat) "HistoryJudge$Machine" "answers" "[I"),
  (Jvm.Cond.fieldLink "HistoryJudge" (160 : Nat) "HistoryJudge$Machine" "numbers" "[I"),
  (Jvm.Cond.fieldLink "HistoryJudge" (163 : Nat) "HistoryJudge$Machine" "calls" "[I"),
  (Jvm.Cond.fieldLink "HistoryJudge" (166 : Nat) "HistoryJudge$Machine" "returns" "[I"),
  (Jvm.Cond.fieldLink "HistoryJudge" (191 : Nat) "HistoryJudge$Machine" "cells" "I"),
  (Jvm.Cond.methodLink "HistoryJudge" (193 : Nat) ({ cls := "HistoryJudge$Model", name := "content", desc := "(II)I" } : Jvm.MethodName)),
  (Jvm.Cond.fieldLink "HistoryJudge" (199 : Nat) "HistoryJudge$Tester" "runs" "I"),
  (Jvm.Cond.fieldLink "HistoryJudge" (202 : Nat) "HistoryJudge$Tester" "unexplained" "I"),
  (Jvm.Cond.fieldLink "HistoryJudge" (209 : Nat) "HistoryJudge$Tester" "tallies" "[I"),
  (Jvm.Cond.initialized "java/lang/Throwable"),
  (Jvm.Cond.initialized "java/lang/Exception"),
  (Jvm.Cond.initialized "java/lang/RuntimeException"),
  (Jvm.Cond.initialized "java/util/NoSuchElementException"),
  (Jvm.Cond.methodLink "HistoryJudge" (3 : Nat) ({ cls := "java/lang/Object", name := "<init>", desc := "()V" } : Jvm.MethodName)),
  (Jvm.Cond.instanceMethod ({ cls := "java/lang/Object", name := "<init>", desc := "()V" } : Jvm.MethodName)),
  (Jvm.Cond.code ({ cls := "java/lang/Object", name := "<init>", desc := "()V" } : Jvm.MethodName) object_method_1_code (1 : Nat) (Option.none : Option Jvm.ClassFile.FieldType)),
  (Jvm.Cond.methodLink "HistoryJudge$Program" (3 : Nat) ({ cls := "java/lang/Object", name := "<init>", desc := "()V" } : Jvm.MethodName)),
  (Jvm.Cond.superclass "HistoryJudge$Program" "java/lang/Object"),
  (Jvm.Cond.methodLink "HistoryJudge$Tester" (3 : Nat) ({ cls := "java/lang/Object", name := "<init>", desc := "()V" } : Jvm.MethodName)),
  (Jvm.Cond.methodLink "HistoryJudge$Machine" (3 : Nat) ({ cls := "java/lang/Object", name := "<init>", desc := "()V" } : Jvm.MethodName)),
  (Jvm.Cond.superclass "HistoryJudge$Machine" "java/lang/Object"),
  (Jvm.Cond.methodLink "HistoryJudge$Judge" (3 : Nat) ({ cls := "java/lang/Object", name := "<init>", desc := "()V" } : Jvm.MethodName)),
  (Jvm.Cond.superclass "HistoryJudge$Judge" "java/lang/Object"),
  (Jvm.Cond.methodLink "HistoryJudge$Draws" (1 : Nat) ({ cls := "java/lang/Object", name := "<init>", desc := "()V" } : Jvm.MethodName)),
  (Jvm.Cond.superclass "HistoryJudge$Draws" "java/lang/Object"),
  (Jvm.Cond.superclass "HistoryJudge$Tester" "java/lang/Object"),
  (Jvm.Cond.superclass "HistoryJudge" "java/lang/Object"),
  (Jvm.Cond.instantiable "java/lang/IllegalArgumentException" (6 : Nat)),
  (Jvm.Cond.selects "java/lang/IllegalArgumentException" ({ cls := "java/lang/Throwable", name := "fillInStackTrace", desc := "(I)Ljava/lang/Throwable;" } : Jvm.MethodName) ({ cls := "java/lang/Throwable", name := "fillInStackTrace", desc := "(I)Ljava/lang/Throwable;" } : Jvm.MethodName)),
  (Jvm.Cond.selects "java/lang/IllegalArgumentException" ({ cls := "java/lang/Throwable", name := "fillInStackTrace", desc := "()Ljava/lang/Throwable;" } : Jvm.MethodName) ({ cls := "java/lang/Throwable", name := "fillInStackTrace", desc := "()Ljava/lang/Throwable;" } : Jvm.MethodName)),
  (Jvm.Cond.lays "java/lang/IllegalArgumentException" "java/lang/Throwable" "cause" "Ljava/lang/Throwable;"),
  (Jvm.Cond.lays "java/lang/Throwable" "java/lang/Throwable" "cause" "Ljava/lang/Throwable;"),
  (Jvm.Cond.lays "java/lang/IllegalArgumentException" "java/lang/Throwable" "stackTrace" "[Ljava/lang/StackTraceElement;"),
  (Jvm.Cond.lays "java/lang/Throwable" "java/lang/Throwable" "stackTrace" "[Ljava/lang/StackTraceElement;"),
  (Jvm.Cond.lays "java/lang/IllegalArgumentException" "java/lang/Throwable" "suppressedExceptions" "Ljava/util/List;"),
  (Jvm.Cond.lays "java/lang/Throwable" "java/lang/Throwable" "suppressedExceptions" "Ljava/util/List;"),
  (Jvm.Cond.lays "java/lang/IllegalArgumentException" "java/lang/Throwable" "detailMessage" "Ljava/lang/String;"),
  (Jvm.Cond.lays "java/lang/Throwable" "java/lang/Throwable" "detailMessage" "Ljava/lang/String;"),
  (Jvm.Cond.lays "java/lang/IllegalArgumentException" "java/lang/Throwable" "backtrace" "Ljava/lang/Object;"),
  (Jvm.Cond.lays "java/lang/Throwable" "java/lang/Throwable" "backtrace" "Ljava/lang/Object;"),
  (Jvm.Cond.fieldLink "java/lang/Throwable" (198 : Nat) "java/lang/Throwable" "backtrace" "Ljava/lang/Object;"),
  (Jvm.Cond.superclass "java/lang/Throwable" "java/lang/Object")]
def lg_8 : List Jvm.Cond := [(Jvm.Cond.instanceMethod ({ cls := "java/lang/Throwable", name := "<init>", desc := "()V" } : Jvm.MethodName)),
  (Jvm.Cond.code ({ cls := "java/lang/Throwable", name := "<init>", desc := "()V" } : Jvm.MethodName) prog_17_method_1_code (1 : Nat) (Option.none : Option Jvm.ClassFile.FieldType)),
  (Jvm.Cond.methodLink "java/lang/Throwable" (1 : Nat) ({ cls := "java/lang/Object", name := "<init>", desc := "()V" } : Jvm.MethodName)),
  (Jvm.Cond.fieldLink "java/lang/Throwable" (13 : Nat) "java/lang/Throwable" "UNASSIGNED_STACK" "[Ljava/lang/StackTraceElement;"),
  (Jvm.Cond.fieldLink "java/lang/Throwable" (20 : Nat) "java/lang/Throwable" "SUPPRESSED_SENTINEL" "Ljava/util/List;"),
  (Jvm.Cond.methodLink "java/lang/Throwable" (27 : Nat) ({ cls := "java/lang/Throwable", name := "fillInStackTrace", desc := "()Ljava/lang/Throwable;" } : Jvm.MethodName)),
  (Jvm.Cond.instanceMethod ({ cls := "java/lang/Throwable", name := "fillInStackTrace", desc := "()Ljava/lang/Throwable;" } : Jvm.MethodName)),
  (Jvm.Cond.selects "java/lang/IllegalStateException" ({ cls := "java/lang/Throwable", name := "fillInStackTrace", desc := "()Ljava/lang/Throwable;" } : Jvm.MethodName) ({ cls := "java/lang/Throwable", name := "fillInStackTrace", desc := "()Ljava/lang/Throwable;" } : Jvm.MethodName)),
  (Jvm.Cond.selects "java/lang/IndexOutOfBoundsException" ({ cls := "java/lang/Throwable", name := "fillInStackTrace", desc := "()Ljava/lang/Throwable;" } : Jvm.MethodName) ({ cls := "java/lang/Throwable", name := "fillInStackTrace", desc := "()Ljava/lang/Throwable;" } : Jvm.MethodName)),
  (Jvm.Cond.selects "java/lang/UnsupportedOperationException" ({ cls := "java/lang/Throwable", name := "fillInStackTrace", desc := "()Ljava/lang/Throwable;" } : Jvm.MethodName) ({ cls := "java/lang/Throwable", name := "fillInStackTrace", desc := "()Ljava/lang/Throwable;" } : Jvm.MethodName)),
  (Jvm.Cond.selects "java/util/NoSuchElementException" ({ cls := "java/lang/Throwable", name := "fillInStackTrace", desc := "()Ljava/lang/Throwable;" } : Jvm.MethodName) ({ cls := "java/lang/Throwable", name := "fillInStackTrace", desc := "()Ljava/lang/Throwable;" } : Jvm.MethodName)),
  (Jvm.Cond.codeSync ({ cls := "java/lang/Throwable", name := "fillInStackTrace", desc := "()Ljava/lang/Throwable;" } : Jvm.MethodName) prog_17_method_18_code (1 : Nat) (Option.some (Jvm.ClassFile.FieldType.object "java/lang/Throwable"))),
  (Jvm.Cond.methodLink "java/lang/Throwable" (202 : Nat) ({ cls := "java/lang/Throwable", name := "fillInStackTrace", desc := "(I)Ljava/lang/Throwable;" } : Jvm.MethodName)),
  (Jvm.Cond.instanceMethod ({ cls := "java/lang/Throwable", name := "fillInStackTrace", desc := "(I)Ljava/lang/Throwable;" } : Jvm.MethodName)),
  (Jvm.Cond.instantiable "java/lang/Throwable" (6 : Nat)),
  (Jvm.Cond.native ({ cls := "java/lang/Throwable", name := "fillInStackTrace", desc := "(I)Ljava/lang/Throwable;" } : Jvm.MethodName)),
  (Jvm.Cond.methodLink "HistoryJudge" (49 : Nat) ({ cls := "java/lang/IllegalArgumentException", name := "<init>", desc := "(Ljava/lang/String;)V" } : Jvm.MethodName)),
  (Jvm.Cond.instanceMethod ({ cls := "java/lang/IllegalArgumentException", name := "<init>", desc := "(Ljava/lang/String;)V" } : Jvm.MethodName)),
  (Jvm.Cond.code ({ cls := "java/lang/IllegalArgumentException", name := "<init>", desc := "(Ljava/lang/String;)V" } : Jvm.MethodName) prog_11_method_2_code (2 : Nat) (Option.none : Option Jvm.ClassFile.FieldType)),
  (Jvm.Cond.methodLink "java/lang/IllegalArgumentException" (7 : Nat) ({ cls := "java/lang/RuntimeException", name := "<init>", desc := "(Ljava/lang/String;)V" } : Jvm.MethodName)),
  (Jvm.Cond.instanceMethod ({ cls := "java/lang/RuntimeException", name := "<init>", desc := "(Ljava/lang/String;)V" } : Jvm.MethodName)),
  (Jvm.Cond.code ({ cls := "java/lang/RuntimeException", name := "<init>", desc := "(Ljava/lang/String;)V" } : Jvm.MethodName) prog_14_method_2_code (2 : Nat) (Option.none : Option Jvm.ClassFile.FieldType)),
  (Jvm.Cond.methodLink "java/lang/RuntimeException" (7 : Nat) ({ cls := "java/lang/Exception", name := "<init>", desc := "(Ljava/lang/String;)V" } : Jvm.MethodName)),
  (Jvm.Cond.instanceMethod ({ cls := "java/lang/Exception", name := "<init>", desc := "(Ljava/lang/String;)V" } : Jvm.MethodName)),
  (Jvm.Cond.code ({ cls := "java/lang/Exception", name := "<init>", desc := "(Ljava/lang/String;)V" } : Jvm.MethodName) prog_10_method_2_code (2 : Nat) (Option.none : Option Jvm.ClassFile.FieldType)),
  (Jvm.Cond.methodLink "java/lang/Exception" (7 : Nat) ({ cls := "java/lang/Throwable", name := "<init>", desc := "(Ljava/lang/String;)V" } : Jvm.MethodName)),
  (Jvm.Cond.instanceMethod ({ cls := "java/lang/Throwable", name := "<init>", desc := "(Ljava/lang/String;)V" } : Jvm.MethodName)),
  (Jvm.Cond.code ({ cls := "java/lang/Throwable", name := "<init>", desc := "(Ljava/lang/String;)V" } : Jvm.MethodName) prog_17_method_2_code (2 : Nat) (Option.none : Option Jvm.ClassFile.FieldType)),
  (Jvm.Cond.fieldLink "java/lang/Throwable" (31 : Nat) "java/lang/Throwable" "detailMessage" "Ljava/lang/String;"),
  (Jvm.Cond.fieldLink "java/lang/Throwable" (7 : Nat) "java/lang/Throwable" "cause" "Ljava/lang/Throwable;"),
  (Jvm.Cond.fieldLink "java/lang/Throwable" (17 : Nat) "java/lang/Throwable" "stackTrace" "[Ljava/lang/StackTraceElement;"),
  (Jvm.Cond.fieldLink "java/lang/Throwable" (24 : Nat) "java/lang/Throwable" "suppressedExceptions" "Ljava/util/List;"),
  (Jvm.Cond.lays "java/lang/IllegalArgumentException" "java/lang/Throwable" "depth" "I"),
  (Jvm.Cond.superclass "java/lang/IllegalArgumentException" "java/lang/RuntimeException"),
  (Jvm.Cond.instantiable "java/lang/IllegalStateException" (6 : Nat)),
  (Jvm.Cond.selects "java/lang/IllegalStateException" ({ cls := "java/lang/Throwable", name := "fillInStackTrace", desc := "(I)Ljava/lang/Throwable;" } : Jvm.MethodName) ({ cls := "java/lang/Throwable", name := "fillInStackTrace", desc := "(I)Ljava/lang/Throwable;" } : Jvm.MethodName)),
  (Jvm.Cond.lays "java/lang/IllegalStateException" "java/lang/Throwable" "cause" "Ljava/lang/Throwable;"),
  (Jvm.Cond.lays "java/lang/IllegalStateException" "java/lang/Throwable" "stackTrace" "[Ljava/lang/StackTraceElement;"),
  (Jvm.Cond.lays "java/lang/IllegalStateException" "java/lang/Throwable" "suppressedExceptions" "Ljava/util/List;"),
  (Jvm.Cond.lays "java/lang/IllegalStateException" "java/lang/Throwable" "detailMessage" "Ljava/lang/String;"),
  (Jvm.Cond.lays "java/lang/IllegalStateException" "java/lang/Throwable" "backtrace" "Ljava/lang/Object;"),
  (Jvm.Cond.methodLink "HistoryJudge" (65 : Nat) ({ cls := "java/lang/IllegalStateException", name := "<init>", desc := "(Ljava/lang/String;)V" } : Jvm.MethodName)),
  (Jvm.Cond.instanceMethod ({ cls := "java/lang/IllegalStateException", name := "<init>", desc := "(Ljava/lang/String;)V" } : Jvm.MethodName)),
  (Jvm.Cond.code ({ cls := "java/lang/IllegalStateException", name := "<init>", desc := "(Ljava/lang/String;)V" } : Jvm.MethodName) prog_12_method_2_code (2 : Nat) (Option.none : Option Jvm.ClassFile.FieldType)),
  (Jvm.Cond.methodLink "java/lang/IllegalStateException" (7 : Nat) ({ cls := "java/lang/RuntimeException", name := "<init>", desc := "(Ljava/lang/String;)V" } : Jvm.MethodName)),
  (Jvm.Cond.lays "java/lang/IllegalStateException" "java/lang/Throwable" "depth" "I"),
  (Jvm.Cond.superclass "java/lang/IllegalStateException" "java/lang/RuntimeException"),
  (Jvm.Cond.instantiable "java/lang/UnsupportedOperationException" (6 : Nat)),
  (Jvm.Cond.selects "java/lang/UnsupportedOperationException" ({ cls := "java/lang/Throwable", name := "fillInStackTrace", desc := "(I)Ljava/lang/Throwable;" } : Jvm.MethodName) ({ cls := "java/lang/Throwable", name := "fillInStackTrace", desc := "(I)Ljava/lang/Throwable;" } : Jvm.MethodName)),
  (Jvm.Cond.lays "java/lang/UnsupportedOperationException" "java/lang/Throwable" "cause" "Ljava/lang/Throwable;"),
  (Jvm.Cond.lays "java/lang/UnsupportedOperationException" "java/lang/Throwable" "stackTrace" "[Ljava/lang/StackTraceElement;"),
  (Jvm.Cond.lays "java/lang/UnsupportedOperationException" "java/lang/Throwable" "suppressedExceptions" "Ljava/util/List;"),
  (Jvm.Cond.lays "java/lang/UnsupportedOperationException" "java/lang/Throwable" "detailMessage" "Ljava/lang/String;"),
  (Jvm.Cond.lays "java/lang/UnsupportedOperationException" "java/lang/Throwable" "backtrace" "Ljava/lang/Object;"),
  (Jvm.Cond.methodLink "HistoryJudge" (78 : Nat) ({ cls := "java/lang/UnsupportedOperationException", name := "<init>", desc := "(Ljava/lang/String;)V" } : Jvm.MethodName)),
  (Jvm.Cond.instanceMethod ({ cls := "java/lang/UnsupportedOperationException", name := "<init>", desc := "(Ljava/lang/String;)V" } : Jvm.MethodName)),
  (Jvm.Cond.code ({ cls := "java/lang/UnsupportedOperationException", name := "<init>", desc := "(Ljava/lang/String;)V" } : Jvm.MethodName) prog_18_method_2_code (2 : Nat) (Option.none : Option Jvm.ClassFile.FieldType)),
  (Jvm.Cond.methodLink "java/lang/UnsupportedOperationException" (7 : Nat) ({ cls := "java/lang/RuntimeException", name := "<init>", desc := "(Ljava/lang/String;)V" } : Jvm.MethodName)),
  (Jvm.Cond.lays "java/lang/UnsupportedOperationException" "java/lang/Throwable" "depth" "I"),
  (Jvm.Cond.superclass "java/lang/UnsupportedOperationException" "java/lang/RuntimeException")]
def lg_9 : List Jvm.Cond := [(Jvm.Cond.instantiable "java/lang/IndexOutOfBoundsException" (6 : Nat)),
  (Jvm.Cond.selects "java/lang/IndexOutOfBoundsException" ({ cls := "java/lang/Throwable", name := "fillInStackTrace", desc := "(I)Ljava/lang/Throwable;" } : Jvm.MethodName) ({ cls := "java/lang/Throwable", name := "fillInStackTrace", desc := "(I)Ljava/lang/Throwable;" } : Jvm.MethodName)),
  (Jvm.Cond.lays "java/lang/IndexOutOfBoundsException" "java/lang/Throwable" "cause" "Ljava/lang/Throwable;"),
  (Jvm.Cond.lays "java/lang/IndexOutOfBoundsException" "java/lang/Throwable" "stackTrace" "[Ljava/lang/StackTraceElement;"),
  (Jvm.Cond.lays "java/lang/IndexOutOfBoundsException" "java/lang/Throwable" "suppressedExceptions" "Ljava/util/List;"),
  (Jvm.Cond.lays "java/lang/IndexOutOfBoundsException" "java/lang/Throwable" "detailMessage" "Ljava/lang/String;"),
  (Jvm.Cond.lays "java/lang/IndexOutOfBoundsException" "java/lang/Throwable" "backtrace" "Ljava/lang/Object;"),
  (Jvm.Cond.methodLink "HistoryJudge" (133 : Nat) ({ cls := "java/lang/IndexOutOfBoundsException", name := "<init>", desc := "(Ljava/lang/String;)V" } : Jvm.MethodName)),
  (Jvm.Cond.instanceMethod ({ cls := "java/lang/IndexOutOfBoundsException", name := "<init>", desc := "(Ljava/lang/String;)V" } : Jvm.MethodName)),
  (Jvm.Cond.code ({ cls := "java/lang/IndexOutOfBoundsException", name := "<init>", desc := "(Ljava/lang/String;)V" } : Jvm.MethodName) prog_13_method_2_code (2 : Nat) (Option.none : Option Jvm.ClassFile.FieldType)),
  (Jvm.Cond.methodLink "java/lang/IndexOutOfBoundsException" (7 : Nat) ({ cls := "java/lang/RuntimeException", name := "<init>", desc := "(Ljava/lang/String;)V" } : Jvm.MethodName)),
  (Jvm.Cond.lays "java/lang/IndexOutOfBoundsException" "java/lang/Throwable" "depth" "I"),
  (Jvm.Cond.superclass "java/lang/IndexOutOfBoundsException" "java/lang/RuntimeException"),
  (Jvm.Cond.instantiable "java/util/NoSuchElementException" (6 : Nat)),
  (Jvm.Cond.selects "java/util/NoSuchElementException" ({ cls := "java/lang/Throwable", name := "fillInStackTrace", desc := "(I)Ljava/lang/Throwable;" } : Jvm.MethodName) ({ cls := "java/lang/Throwable", name := "fillInStackTrace", desc := "(I)Ljava/lang/Throwable;" } : Jvm.MethodName)),
  (Jvm.Cond.lays "java/util/NoSuchElementException" "java/lang/Throwable" "cause" "Ljava/lang/Throwable;"),
  (Jvm.Cond.lays "java/util/NoSuchElementException" "java/lang/Throwable" "stackTrace" "[Ljava/lang/StackTraceElement;"),
  (Jvm.Cond.lays "java/util/NoSuchElementException" "java/lang/Throwable" "suppressedExceptions" "Ljava/util/List;"),
  (Jvm.Cond.lays "java/util/NoSuchElementException" "java/lang/Throwable" "detailMessage" "Ljava/lang/String;"),
  (Jvm.Cond.lays "java/util/NoSuchElementException" "java/lang/Throwable" "backtrace" "Ljava/lang/Object;"),
  (Jvm.Cond.methodLink "HistoryJudge" (179 : Nat) ({ cls := "java/util/NoSuchElementException", name := "<init>", desc := "(Ljava/lang/String;)V" } : Jvm.MethodName)),
  (Jvm.Cond.instanceMethod ({ cls := "java/util/NoSuchElementException", name := "<init>", desc := "(Ljava/lang/String;)V" } : Jvm.MethodName)),
  (Jvm.Cond.code ({ cls := "java/util/NoSuchElementException", name := "<init>", desc := "(Ljava/lang/String;)V" } : Jvm.MethodName) prog_19_method_4_code (2 : Nat) (Option.none : Option Jvm.ClassFile.FieldType)),
  (Jvm.Cond.methodLink "java/util/NoSuchElementException" (13 : Nat) ({ cls := "java/lang/RuntimeException", name := "<init>", desc := "(Ljava/lang/String;)V" } : Jvm.MethodName)),
  (Jvm.Cond.lays "java/util/NoSuchElementException" "java/lang/Throwable" "depth" "I"),
  (Jvm.Cond.superclass "java/util/NoSuchElementException" "java/lang/RuntimeException"),
  (Jvm.Cond.methodLink "HistoryJudgeModel" (1 : Nat) ({ cls := "java/lang/Object", name := "<init>", desc := "()V" } : Jvm.MethodName)),
  (Jvm.Cond.superclass "HistoryJudgeModel" "java/lang/Object"),
  (Jvm.Cond.classLink "HistoryJudge" (9 : Nat) "HistoryJudge$Program"),
  (Jvm.Cond.instantiable "HistoryJudge$Program" (4 : Nat)),
  (Jvm.Cond.arrayClass Jvm.ClassFile.FieldType.int),
  (Jvm.Cond.instanceMethod ({ cls := "HistoryJudge$Program", name := "<init>", desc := "()V" } : Jvm.MethodName)),
  (Jvm.Cond.code ({ cls := "HistoryJudge$Program", name := "<init>", desc := "()V" } : Jvm.MethodName) prog_6_method_1_code (1 : Nat) (Option.none : Option Jvm.ClassFile.FieldType)),
  (Jvm.Cond.classLink "HistoryJudge" (19 : Nat) "HistoryJudge$Tester"),
  (Jvm.Cond.instantiable "HistoryJudge$Tester" (9 : Nat)),
  (Jvm.Cond.classLink "HistoryJudge$Tester" (9 : Nat) "HistoryJudge$Machine"),
  (Jvm.Cond.instantiable "HistoryJudge$Machine" (9 : Nat)),
  (Jvm.Cond.instanceMethod ({ cls := "HistoryJudge$Machine", name := "<init>", desc := "()V" } : Jvm.MethodName)),
  (Jvm.Cond.code ({ cls := "HistoryJudge$Machine", name := "<init>", desc := "()V" } : Jvm.MethodName) prog_4_method_1_code (1 : Nat) (Option.none : Option Jvm.ClassFile.FieldType)),
  (Jvm.Cond.classLink "HistoryJudge$Tester" (18 : Nat) "HistoryJudge$Judge"),
  (Jvm.Cond.instantiable "HistoryJudge$Judge" (1 : Nat)),
  (Jvm.Cond.instanceMethod ({ cls := "HistoryJudge$Judge", name := "<init>", desc := "()V" } : Jvm.MethodName)),
  (Jvm.Cond.code ({ cls := "HistoryJudge$Judge", name := "<init>", desc := "()V" } : Jvm.MethodName) prog_3_method_1_code (1 : Nat) (Option.none : Option Jvm.ClassFile.FieldType)),
  (Jvm.Cond.classLink "HistoryJudge$Tester" (46 : Nat) "HistoryJudge$Draws"),
  (Jvm.Cond.instantiable "HistoryJudge$Draws" (1 : Nat)),
  (Jvm.Cond.instanceMethod ({ cls := "HistoryJudge$Draws", name := "<init>", desc := "()V" } : Jvm.MethodName)),
  (Jvm.Cond.code ({ cls := "HistoryJudge$Draws", name := "<init>", desc := "()V" } : Jvm.MethodName) prog_2_method_1_code (1 : Nat) (Option.none : Option Jvm.ClassFile.FieldType)),
  (Jvm.Cond.instanceMethod ({ cls := "HistoryJudge$Tester", name := "<init>", desc := "()V" } : Jvm.MethodName)),
  (Jvm.Cond.code ({ cls := "HistoryJudge$Tester", name := "<init>", desc := "()V" } : Jvm.MethodName) prog_7_method_1_code (1 : Nat) (Option.none : Option Jvm.ClassFile.FieldType)),
  (Jvm.Cond.classLink "HistoryJudge" (26 : Nat) "HistoryJudge$Draws"),
  (Jvm.Cond.arrayClass Jvm.ClassFile.FieldType.boolean),
  (Jvm.Cond.laysFinal "HistoryJudge" "HistoryJudge" "program" "LHistoryJudge$Program;"),
  (Jvm.Cond.laysFinal "HistoryJudge" "HistoryJudge" "trial" "LHistoryJudge$Program;"),
  (Jvm.Cond.laysFinal "HistoryJudge" "HistoryJudge" "tester" "LHistoryJudge$Tester;"),
  (Jvm.Cond.laysFinal "HistoryJudge" "HistoryJudge" "draws" "LHistoryJudge$Draws;"),
  (Jvm.Cond.lays "HistoryJudge" "HistoryJudge" "taken" "I"),
  (Jvm.Cond.lays "HistoryJudge" "HistoryJudge" "runIsCurrent" "Z"),
  (Jvm.Cond.laysFinal "HistoryJudge$Program" "HistoryJudge$Program" "sizes" "[I"),
  (Jvm.Cond.laysFinal "HistoryJudge$Program" "HistoryJudge$Program" "kinds" "[I"),
  (Jvm.Cond.laysFinal "HistoryJudge$Program" "HistoryJudge$Program" "cells" "[I")]
def lg_10 : List Jvm.Cond := [(Jvm.Cond.laysFinal "HistoryJudge$Program" "HistoryJudge$Program" "arguments" "[I"),
  (Jvm.Cond.laysFinal "HistoryJudge$Tester" "HistoryJudge$Tester" "machine" "LHistoryJudge$Machine;"),
  (Jvm.Cond.laysFinal "HistoryJudge$Tester" "HistoryJudge$Tester" "judge" "LHistoryJudge$Judge;"),
  (Jvm.Cond.laysFinal "HistoryJudge$Tester" "HistoryJudge$Tester" "tallies" "[I"),
  (Jvm.Cond.lays "HistoryJudge$Tester" "HistoryJudge$Tester" "flawBits" "I"),
  (Jvm.Cond.lays "HistoryJudge$Tester" "HistoryJudge$Tester" "runs" "I"),
  (Jvm.Cond.lays "HistoryJudge$Tester" "HistoryJudge$Tester" "unexplained" "I"),
  (Jvm.Cond.lays "HistoryJudge$Tester" "HistoryJudge$Tester" "schedule" "I"),
  (Jvm.Cond.lays "HistoryJudge$Tester" "HistoryJudge$Tester" "explained" "Z"),
  (Jvm.Cond.laysFinal "HistoryJudge$Tester" "HistoryJudge$Tester" "draws" "LHistoryJudge$Draws;"),
  (Jvm.Cond.laysFinal "HistoryJudge$Machine" "HistoryJudge$Machine" "answers" "[I"),
  (Jvm.Cond.laysFinal "HistoryJudge$Machine" "HistoryJudge$Machine" "numbers" "[I"),
  (Jvm.Cond.laysFinal "HistoryJudge$Machine" "HistoryJudge$Machine" "calls" "[I"),
  (Jvm.Cond.laysFinal "HistoryJudge$Machine" "HistoryJudge$Machine" "returns" "[I"),
  (Jvm.Cond.lays "HistoryJudge$Machine" "HistoryJudge$Machine" "cells" "I"),
  (Jvm.Cond.laysFinal "HistoryJudge$Machine" "HistoryJudge$Machine" "nextCommand" "[I"),
  (Jvm.Cond.laysFinal "HistoryJudge$Machine" "HistoryJudge$Machine" "nextEvent" "[I"),
  (Jvm.Cond.laysFinal "HistoryJudge$Machine" "HistoryJudge$Machine" "noted" "[I"),
  (Jvm.Cond.lays "HistoryJudge$Machine" "HistoryJudge$Machine" "flawBits" "I"),
  (Jvm.Cond.laysFinal "HistoryJudge$Judge" "HistoryJudge$Judge" "witness" "[I"),
  (Jvm.Cond.lays "HistoryJudge$Draws" "HistoryJudge$Draws" "state" "J"),
  (Jvm.Cond.lays "HistoryJudgeModel" "HistoryJudgeModel" "thrown" "I"),
  (Jvm.Cond.laysFinal "HistoryJudgeModel" "HistoryJudgeModel" "sizes" "[I"),
  (Jvm.Cond.laysFinal "HistoryJudgeModel" "HistoryJudgeModel" "kind" "[I"),
  (Jvm.Cond.laysFinal "HistoryJudgeModel" "HistoryJudgeModel" "cell" "[I"),
  (Jvm.Cond.laysFinal "HistoryJudgeModel" "HistoryJudgeModel" "argument" "[I"),
  (Jvm.Cond.laysFinal "HistoryJudgeModel" "HistoryJudgeModel" "keptSizes" "[I"),
  (Jvm.Cond.laysFinal "HistoryJudgeModel" "HistoryJudgeModel" "kept" "[I"),
  (Jvm.Cond.lays "HistoryJudgeModel" "HistoryJudgeModel" "flaws" "I"),
  (Jvm.Cond.lays "HistoryJudgeModel" "HistoryJudgeModel" "g" "J"),
  (Jvm.Cond.laysFinal "HistoryJudgeModel" "HistoryJudgeModel" "holds" "[I"),
  (Jvm.Cond.laysFinal "HistoryJudgeModel" "HistoryJudgeModel" "open" "[Z"),
  (Jvm.Cond.laysFinal "HistoryJudgeModel" "HistoryJudgeModel" "has" "[I"),
  (Jvm.Cond.laysFinal "HistoryJudgeModel" "HistoryJudgeModel" "isOpen" "[Z"),
  (Jvm.Cond.lays "HistoryJudgeModel" "HistoryJudgeModel" "ran" "Z"),
  (Jvm.Cond.lays "HistoryJudgeModel" "HistoryJudgeModel" "explained" "Z"),
  (Jvm.Cond.laysFinal "HistoryJudgeModel" "HistoryJudgeModel" "answer" "[I"),
  (Jvm.Cond.laysFinal "HistoryJudgeModel" "HistoryJudgeModel" "number" "[I"),
  (Jvm.Cond.laysFinal "HistoryJudgeModel" "HistoryJudgeModel" "call" "[I"),
  (Jvm.Cond.laysFinal "HistoryJudgeModel" "HistoryJudgeModel" "back" "[I"),
  (Jvm.Cond.laysFinal "HistoryJudgeModel" "HistoryJudgeModel" "noted" "[I"),
  (Jvm.Cond.laysFinal "HistoryJudgeModel" "HistoryJudgeModel" "at" "[I"),
  (Jvm.Cond.laysFinal "HistoryJudgeModel" "HistoryJudgeModel" "event" "[I"),
  (Jvm.Cond.lays "HistoryJudgeModel" "HistoryJudgeModel" "witness" "I"),
  (Jvm.Cond.lays "HistoryJudgeModel" "HistoryJudgeModel" "runs" "I"),
  (Jvm.Cond.lays "HistoryJudgeModel" "HistoryJudgeModel" "wrong" "I"),
  (Jvm.Cond.lays "HistoryJudgeModel" "HistoryJudgeModel" "taken" "I"),
  (Jvm.Cond.lays "HistoryJudgeModel" "HistoryJudgeModel" "failing" "I"),
  (Jvm.Cond.laysFinal "HistoryJudgeModel" "HistoryJudgeModel" "tallies" "[I")]
def lg : List Jvm.Cond := lg_0 ++ lg_1 ++ lg_2 ++ lg_3 ++ lg_4 ++ lg_5 ++ lg_6 ++ lg_7 ++ lg_8 ++ lg_9 ++ lg_10
def gaX : ev_ga := (clX, nwX, lg)
theorem hw_0 : (Jvm.Cond.fieldLink "HistoryJudge" (12 : Nat) "HistoryJudge" "program" "LHistoryJudge$Program;") ∈ lg := List.mem_append_left _ (List.mem_append_left _ (List.mem_append_left _ (List.mem_append_left _ (List.mem_append_left _ (List.mem_append_left _ (List.mem_append_left _ (List.mem_append_left _ (List.mem_append_left _ (List.mem_append_left _ (List.mem_of_getElem? (i := 0) rfl))))))))))
theorem hw_1 : (Jvm.Cond.fieldLink "HistoryJudge$Program" (9 : Nat) "HistoryJudge$Program" "sizes" "[I") ∈ lg := List.mem_append_left _ (List.mem_append_left _ (List.mem_append_left _ (List.mem_append_left _ (List.mem_append_left _ (List.mem_append_left _ (List.mem_append_left _ (List.mem_append_left _ (List.mem_append_left _ (List.mem_append_left _ (List.mem_of_getElem? (i := 1) rfl))))))))))
theorem hw_2 : (Jvm.Cond.code ({ cls := "HistoryJudge$Program", name := "size", desc := "()I" } : Jvm.MethodName) prog_6_method_2_code (1 : Nat) (Option.some Jvm.ClassFile.FieldType.int)) ∈ lg := List.mem_append_left _ (List.mem_append_left _ (List.mem_append_left _ (List.mem_append_left _ (List.mem_append_left _ (List.mem_append_left _ (List.mem_append_left _ (List.mem_append_left _ (List.mem_append_left _ (List.mem_append_left _ (List.mem_of_getElem? (i := 2) rfl))))))))))
theorem hw_3 : (Jvm.Cond.methodLink "HistoryJudge" (79 : Nat) ({ cls := "HistoryJudge$Program", name := "size", desc := "()I" } : Jvm.MethodName)) ∈ lg := List.mem_append_left _ (List.mem_append_left _ (List.mem_append_left _ (List.mem_append_left _ (List.mem_append_left _ (List.mem_append_left _ (List.mem_append_left _ (List.mem_append_left _ (List.mem_append_left _ (List.mem_append_left _ (List.mem_of_getElem? (i := 3) rfl))))))))))
theorem hw_4 : (Jvm.Cond.instanceMethod ({ cls := "HistoryJudge$Program", name := "size", desc := "()I" } : Jvm.MethodName)) ∈ lg := List.mem_append_left _ (List.mem_append_left _ (List.mem_append_left _ (List.mem_append_left _ (List.mem_append_left _ (List.mem_append_left _ (List.mem_append_left _ (List.mem_append_left _ (List.mem_append_left _ (List.mem_append_left _ (List.mem_of_getElem? (i := 4) rfl))))))))))
theorem hw_5 : (Jvm.Cond.selects "HistoryJudge$Program" ({ cls := "HistoryJudge$Program", name := "size", desc := "()I" } : Jvm.MethodName) ({ cls := "HistoryJudge$Program", name := "size", desc := "()I" } : Jvm.MethodName)) ∈ lg := List.mem_append_left _ (List.mem_append_left _ (List.mem_append_left _ (List.mem_append_left _ (List.mem_append_left _ (List.mem_append_left _ (List.mem_append_left _ (List.mem_append_left _ (List.mem_append_left _ (List.mem_append_left _ (List.mem_of_getElem? (i := 5) rfl))))))))))
theorem hw_6 : (Jvm.Cond.initialized "HistoryJudge$Program") ∈ lg := List.mem_append_left _ (List.mem_append_left _ (List.mem_append_left _ (List.mem_append_left _ (List.mem_append_left _ (List.mem_append_left _ (List.mem_append_left _ (List.mem_append_left _ (List.mem_append_left _ (List.mem_append_left _ (List.mem_of_getElem? (i := 6) rfl))))))))))
theorem hw_7 : (Jvm.Cond.code ({ cls := "HistoryJudge$Program", name := "empty", desc := "()V" } : Jvm.MethodName) prog_6_method_10_code (2 : Nat) (Option.none : Option Jvm.ClassFile.FieldType)) ∈ lg := List.mem_append_left _ (List.mem_append_left _ (List.mem_append_left _ (List.mem_append_left _ (List.mem_append_left _ (List.mem_append_left _ (List.mem_append_left _ (List.mem_append_left _ (List.mem_append_left _ (List.mem_append_left _ (List.mem_of_getElem? (i := 7) rfl))))))))))
theorem hw_8 : (Jvm.Cond.methodLink "HistoryJudge" (83 : Nat) ({ cls := "HistoryJudge$Program", name := "empty", desc := "()V" } : Jvm.MethodName)) ∈ lg := List.mem_append_left _ (List.mem_append_left _ (List.mem_append_left _ (List.mem_append_left _ (List.mem_append_left _ (List.mem_append_left _ (List.mem_append_left _ (List.mem_append_left _ (List.mem_append_left _ (List.mem_append_left _ (List.mem_of_getElem? (i := 8) rfl))))))))))
theorem hw_9 : (Jvm.Cond.instanceMethod ({ cls := "HistoryJudge$Program", name := "empty", desc := "()V" } : Jvm.MethodName)) ∈ lg := List.mem_append_left _ (List.mem_append_left _ (List.mem_append_left _ (List.mem_append_left _ (List.mem_append_left _ (List.mem_append_left _ (List.mem_append_left _ (List.mem_append_left _ (List.mem_append_left _ (List.mem_append_left _ (List.mem_of_getElem? (i := 9) rfl))))))))))
theorem hw_10 : (Jvm.Cond.selects "HistoryJudge$Program" ({ cls := "HistoryJudge$Program", name := "empty", desc := "()V" } : Jvm.MethodName) ({ cls := "HistoryJudge$Program", name := "empty", desc := "()V" } : Jvm.MethodName)) ∈ lg := List.mem_append_left _ (List.mem_append_left _ (List.mem_append_left _ (List.mem_append_left _ (List.mem_append_left _ (List.mem_append_left _ (List.mem_append_left _ (List.mem_append_left _ (List.mem_append_left _ (List.mem_append_left _ (List.mem_of_getElem? (i := 10) rfl))))))))))
theorem hw_11 : (Jvm.Cond.fieldLink "HistoryJudge" (37 : Nat) "HistoryJudge" "runIsCurrent" "Z") ∈ lg := List.mem_append_left _ (List.mem_append_left _ (List.mem_append_left _ (List.mem_append_left _ (List.mem_append_left _ (List.mem_append_left _ (List.mem_append_left _ (List.mem_append_left _ (List.mem_append_left _ (List.mem_append_left _ (List.mem_of_getElem? (i := 11) rfl))))))))))
theorem hw_12 : (Jvm.Cond.fieldLink "HistoryJudge" (16 : Nat) "HistoryJudge" "trial" "LHistoryJudge$Program;") ∈ lg := List.mem_append_left _ (List.mem_append_left _ (List.mem_append_left _ (List.mem_append_left _ (List.mem_append_left _ (List.mem_append_left _ (List.mem_append_left _ (List.mem_append_left _ (List.mem_append_left _ (List.mem_append_left _ (List.mem_of_getElem? (i := 12) rfl))))))))))
theorem hw_13 : (Jvm.Cond.methodLink "HistoryJudge$Program" (31 : Nat) ({ cls := "HistoryJudge$Program", name := "size", desc := "()I" } : Jvm.MethodName)) ∈ lg := List.mem_append_left _ (List.mem_append_left _ (List.mem_append_left _ (List.mem_append_left _ (List.mem_append_left _ (List.mem_append_left _ (List.mem_append_left _ (List.mem_append_left _ (List.mem_append_left _ (List.mem_append_left _ (List.mem_of_getElem? (i := 13) rfl))))))))))
theorem hw_14 : (Jvm.Cond.fieldLink "HistoryJudge$Program" (15 : Nat) "HistoryJudge$Program" "kinds" "[I") ∈ lg := List.mem_append_left _ (List.mem_append_left _ (List.mem_append_left _ (List.mem_append_left _ (List.mem_append_left _ (List.mem_append_left _ (List.mem_append_left _ (List.mem_append_left _ (List.mem_append_left _ (List.mem_append_left _ (List.mem_of_getElem? (i := 14) rfl))))))))))
theorem hw_15 : (Jvm.Cond.methodLink "HistoryJudge$Program" (35 : Nat) ({ cls := "java/lang/System", name := "arraycopy", desc := "(Ljava/lang/Object;ILjava/lang/Object;II)V" } : Jvm.MethodName)) ∈ lg := List.mem_append_left _ (List.mem_append_left _ (List.mem_append_left _ (List.mem_append_left _ (List.mem_append_left _ (List.mem_append_left _ (List.mem_append_left _ (List.mem_append_left _ (List.mem_append_left _ (List.mem_append_left _ (List.mem_of_getElem? (i := 15) rfl))))))))))
theorem hw_16 : (Jvm.Cond.native ({ cls := "java/lang/System", name := "arraycopy", desc := "(Ljava/lang/Object;ILjava/lang/Object;II)V" } : Jvm.MethodName)) ∈ lg := List.mem_append_left _ (List.mem_append_left _ (List.mem_append_left _ (List.mem_append_left _ (List.mem_append_left _ (List.mem_append_left _ (List.mem_append_left _ (List.mem_append_left _ (List.mem_append_left _ (List.mem_append_left _ (List.mem_of_getElem? (i := 16) rfl))))))))))
theorem hw_17 : (Jvm.Cond.static ({ cls := "java/lang/System", name := "arraycopy", desc := "(Ljava/lang/Object;ILjava/lang/Object;II)V" } : Jvm.MethodName)) ∈ lg := List.mem_append_left _ (List.mem_append_left _ (List.mem_append_left _ (List.mem_append_left _ (List.mem_append_left _ (List.mem_append_left _ (List.mem_append_left _ (List.mem_append_left _ (List.mem_append_left _ (List.mem_append_left _ (List.mem_of_getElem? (i := 17) rfl))))))))))
theorem hw_18 : (Jvm.Cond.initialized "java/lang/System") ∈ lg := List.mem_append_left _ (List.mem_append_left _ (List.mem_append_left _ (List.mem_append_left _ (List.mem_append_left _ (List.mem_append_left _ (List.mem_append_left _ (List.mem_append_left _ (List.mem_append_left _ (List.mem_append_left _ (List.mem_of_getElem? (i := 18) rfl))))))))))
theorem hw_19 : (Jvm.Cond.fieldLink "HistoryJudge$Program" (18 : Nat) "HistoryJudge$Program" "cells" "[I") ∈ lg := List.mem_append_left _ (List.mem_append_left _ (List.mem_append_left _ (List.mem_append_left _ (List.mem_append_left _ (List.mem_append_left _ (List.mem_append_left _ (List.mem_append_left _ (List.mem_append_left _ (List.mem_append_left _ (List.mem_of_getElem? (i := 19) rfl))))))))))
theorem hw_20 : (Jvm.Cond.fieldLink "HistoryJudge$Program" (21 : Nat) "HistoryJudge$Program" "arguments" "[I") ∈ lg := List.mem_append_left _ (List.mem_append_left _ (List.mem_append_left _ (List.mem_append_left _ (List.mem_append_left _ (List.mem_append_left _ (List.mem_append_left _ (List.mem_append_left _ (List.mem_append_left _ (List.mem_append_left _ (List.mem_of_getElem? (i := 20) rfl))))))))))
theorem hw_21 : (Jvm.Cond.code ({ cls := "HistoryJudge$Program", name := "copyFrom", desc := "(LHistoryJudge$Program;)V" } : Jvm.MethodName) prog_6_method_11_code (3 : Nat) (Option.none : Option Jvm.ClassFile.FieldType)) ∈ lg := List.mem_append_left _ (List.mem_append_left _ (List.mem_append_left _ (List.mem_append_left _ (List.mem_append_left _ (List.mem_append_left _ (List.mem_append_left _ (List.mem_append_left _ (List.mem_append_left _ (List.mem_append_left _ (List.mem_of_getElem? (i := 21) rfl))))))))))
theorem hw_22 : (Jvm.Cond.methodLink "HistoryJudge" (125 : Nat) ({ cls := "HistoryJudge$Program", name := "copyFrom", desc := "(LHistoryJudge$Program;)V" } : Jvm.MethodName)) ∈ lg := List.mem_append_left _ (List.mem_append_left _ (List.mem_append_left _ (List.mem_append_left _ (List.mem_append_left _ (List.mem_append_left _ (List.mem_append_left _ (List.mem_append_left _ (List.mem_append_left _ (List.mem_append_left _ (List.mem_of_getElem? (i := 22) rfl))))))))))
theorem hw_23 : (Jvm.Cond.instanceMethod ({ cls := "HistoryJudge$Program", name := "copyFrom", desc := "(LHistoryJudge$Program;)V" } : Jvm.MethodName)) ∈ lg := List.mem_append_left _ (List.mem_append_left _ (List.mem_append_left _ (List.mem_append_left _ (List.mem_append_left _ (List.mem_append_left _ (List.mem_append_left _ (List.mem_append_left _ (List.mem_append_left _ (List.mem_append_left _ (List.mem_of_getElem? (i := 23) rfl))))))))))
theorem hw_24 : (Jvm.Cond.selects "HistoryJudge$Program" ({ cls := "HistoryJudge$Program", name := "copyFrom", desc := "(LHistoryJudge$Program;)V" } : Jvm.MethodName) ({ cls := "HistoryJudge$Program", name := "copyFrom", desc := "(LHistoryJudge$Program;)V" } : Jvm.MethodName)) ∈ lg := List.mem_append_left _ (List.mem_append_left _ (List.mem_append_left _ (List.mem_append_left _ (List.mem_append_left _ (List.mem_append_left _ (List.mem_append_left _ (List.mem_append_left _ (List.mem_append_left _ (List.mem_append_left _ (List.mem_of_getElem? (i := 24) rfl))))))))))
theorem hw_25 : (Jvm.Cond.code ({ cls := "HistoryJudge$Program", name := "start", desc := "(I)I" } : Jvm.MethodName) prog_6_method_3_code (2 : Nat) (Option.some Jvm.ClassFile.FieldType.int)) ∈ lg := List.mem_append_left _ (List.mem_append_left _ (List.mem_append_left _ (List.mem_append_left _ (List.mem_append_left _ (List.mem_append_left _ (List.mem_append_left _ (List.mem_append_left _ (List.mem_append_left _ (List.mem_append_left _ (List.mem_of_getElem? (i := 25) rfl))))))))))
theorem hw_26 : (Jvm.Cond.methodLink "HistoryJudge$Program" (24 : Nat) ({ cls := "HistoryJudge$Program", name := "start", desc := "(I)I" } : Jvm.MethodName)) ∈ lg := List.mem_append_left _ (List.mem_append_left _ (List.mem_append_left _ (List.mem_append_left _ (List.mem_append_left _ (List.mem_append_left _ (List.mem_append_left _ (List.mem_append_left _ (List.mem_append_left _ (List.mem_append_left _ (List.mem_of_getElem? (i := 26) rfl))))))))))
theorem hw_27 : (Jvm.Cond.instanceMethod ({ cls := "HistoryJudge$Program", name := "start", desc := "(I)I" } : Jvm.MethodName)) ∈ lg := List.mem_append_left _ (List.mem_append_left _ (List.mem_append_left _ (List.mem_append_left _ (List.mem_append_left _ (List.mem_append_left _ (List.mem_append_left _ (List.mem_append_left _ (List.mem_append_left _ (List.mem_append_left _ (List.mem_of_getElem? (i := 27) rfl))))))))))
theorem hw_28 : (Jvm.Cond.selects "HistoryJudge$Program" ({ cls := "HistoryJudge$Program", name := "start", desc := "(I)I" } : Jvm.MethodName) ({ cls := "HistoryJudge$Program", name := "start", desc := "(I)I" } : Jvm.MethodName)) ∈ lg := List.mem_append_left _ (List.mem_append_left _ (List.mem_append_left _ (List.mem_append_left _ (List.mem_append_left _ (List.mem_append_left _ (List.mem_append_left _ (List.mem_append_left _ (List.mem_append_left _ (List.mem_append_left _ (List.mem_of_getElem? (i := 28) rfl))))))))))
theorem hw_29 : (Jvm.Cond.code ({ cls := "HistoryJudge$Program", name := "end", desc := "(I)I" } : Jvm.MethodName) prog_6_method_4_code (2 : Nat) (Option.some Jvm.ClassFile.FieldType.int)) ∈ lg := List.mem_append_left _ (List.mem_append_left _ (List.mem_append_left _ (List.mem_append_left _ (List.mem_append_left _ (List.mem_append_left _ (List.mem_append_left _ (List.mem_append_left _ (List.mem_append_left _ (List.mem_append_left _ (List.mem_of_getElem? (i := 29) rfl))))))))))
theorem hw_30 : (Jvm.Cond.methodLink "HistoryJudge$Program" (28 : Nat) ({ cls := "HistoryJudge$Program", name := "end", desc := "(I)I" } : Jvm.MethodName)) ∈ lg := List.mem_append_left _ (List.mem_append_left _ (List.mem_append_left _ (List.mem_append_left _ (List.mem_append_left _ (List.mem_append_left _ (List.mem_append_left _ (List.mem_append_left _ (List.mem_append_left _ (List.mem_append_left _ (List.mem_of_getElem? (i := 30) rfl))))))))))
theorem hw_31 : (Jvm.Cond.instanceMethod ({ cls := "HistoryJudge$Program", name := "end", desc := "(I)I" } : Jvm.MethodName)) ∈ lg := List.mem_append_left _ (List.mem_append_left _ (List.mem_append_left _ (List.mem_append_left _ (List.mem_append_left _ (List.mem_append_left _ (List.mem_append_left _ (List.mem_append_left _ (List.mem_append_left _ (List.mem_append_left _ (List.mem_of_getElem? (i := 31) rfl))))))))))
theorem hw_32 : (Jvm.Cond.selects "HistoryJudge$Program" ({ cls := "HistoryJudge$Program", name := "end", desc := "(I)I" } : Jvm.MethodName) ({ cls := "HistoryJudge$Program", name := "end", desc := "(I)I" } : Jvm.MethodName)) ∈ lg := List.mem_append_left _ (List.mem_append_left _ (List.mem_append_left _ (List.mem_append_left _ (List.mem_append_left _ (List.mem_append_left _ (List.mem_append_left _ (List.mem_append_left _ (List.mem_append_left _ (List.mem_append_left _ (List.mem_of_getElem? (i := 32) rfl))))))))))
theorem hw_33 : (Jvm.Cond.code ({ cls := "HistoryJudge$Program", name := "put", desc := "(IIII)V" } : Jvm.MethodName) prog_6_method_19_code (5 : Nat) (Option.none : Option Jvm.ClassFile.FieldType)) ∈ lg := List.mem_append_left _ (List.mem_append_left _ (List.mem_append_left _ (List.mem_append_left _ (List.mem_append_left _ (List.mem_append_left _ (List.mem_append_left _ (List.mem_append_left _ (List.mem_append_left _ (List.mem_append_left _ (List.mem_of_getElem? (i := 33) rfl))))))))))
theorem hw_34 : (Jvm.Cond.methodLink "HistoryJudge$Program" (48 : Nat) ({ cls := "HistoryJudge$Program", name := "put", desc := "(IIII)V" } : Jvm.MethodName)) ∈ lg := List.mem_append_left _ (List.mem_append_left _ (List.mem_append_left _ (List.mem_append_left _ (List.mem_append_left _ (List.mem_append_left _ (List.mem_append_left _ (List.mem_append_left _ (List.mem_append_left _ (List.mem_append_left _ (List.mem_of_getElem? (i := 34) rfl))))))))))
theorem hw_35 : (Jvm.Cond.instanceMethod ({ cls := "HistoryJudge$Program", name := "put", desc := "(IIII)V" } : Jvm.MethodName)) ∈ lg := List.mem_append_left _ (List.mem_append_left _ (List.mem_append_left _ (List.mem_append_left _ (List.mem_append_left _ (List.mem_append_left _ (List.mem_append_left _ (List.mem_append_left _ (List.mem_append_left _ (List.mem_append_left _ (List.mem_of_getElem? (i := 35) rfl))))))))))
theorem hw_36 : (Jvm.Cond.selects "HistoryJudge$Program" ({ cls := "HistoryJudge$Program", name := "put", desc := "(IIII)V" } : Jvm.MethodName) ({ cls := "HistoryJudge$Program", name := "put", desc := "(IIII)V" } : Jvm.MethodName)) ∈ lg := List.mem_append_left _ (List.mem_append_left _ (List.mem_append_left _ (List.mem_append_left _ (List.mem_append_left _ (List.mem_append_left _ (List.mem_append_left _ (List.mem_append_left _ (List.mem_append_left _ (List.mem_append_left _ (List.mem_of_getElem? (i := 36) rfl))))))))))
theorem hw_37 : (Jvm.Cond.code ({ cls := "HistoryJudge$Program", name := "shiftUp", desc := "(II)V" } : Jvm.MethodName) prog_6_method_20_code (4 : Nat) (Option.none : Option Jvm.ClassFile.FieldType)) ∈ lg := List.mem_append_left _ (List.mem_append_left _ (List.mem_append_left _ (List.mem_append_left _ (List.mem_append_left _ (List.mem_append_left _ (List.mem_append_left _ (List.mem_append_left _ (List.mem_append_left _ (List.mem_append_left _ (List.mem_of_getElem? (i := 37) rfl))))))))))
theorem hw_38 : (Jvm.Cond.methodLink "HistoryJudge$Program" (41 : Nat) ({ cls := "HistoryJudge$Program", name := "shiftUp", desc := "(II)V" } : Jvm.MethodName)) ∈ lg := List.mem_append_left _ (List.mem_append_left _ (List.mem_append_left _ (List.mem_append_left _ (List.mem_append_left _ (List.mem_append_left _ (List.mem_append_left _ (List.mem_append_left _ (List.mem_append_left _ (List.mem_append_left _ (List.mem_of_getElem? (i := 38) rfl))))))))))
theorem hw_39 : (Jvm.Cond.instanceMethod ({ cls := "HistoryJudge$Program", name := "shiftUp", desc := "(II)V" } : Jvm.MethodName)) ∈ lg := List.mem_append_left _ (List.mem_append_left _ (List.mem_append_left _ (List.mem_append_left _ (List.mem_append_left _ (List.mem_append_left _ (List.mem_append_left _ (List.mem_append_left _ (List.mem_append_left _ (List.mem_append_left _ (List.mem_of_getElem? (i := 39) rfl))))))))))
theorem hw_40 : (Jvm.Cond.selects "HistoryJudge$Program" ({ cls := "HistoryJudge$Program", name := "shiftUp", desc := "(II)V" } : Jvm.MethodName) ({ cls := "HistoryJudge$Program", name := "shiftUp", desc := "(II)V" } : Jvm.MethodName)) ∈ lg := List.mem_append_left _ (List.mem_append_left _ (List.mem_append_left _ (List.mem_append_left _ (List.mem_append_left _ (List.mem_append_left _ (List.mem_append_left _ (List.mem_append_left _ (List.mem_append_left _ (List.mem_append_left _ (List.mem_of_getElem? (i := 40) rfl))))))))))
theorem hw_41 : (Jvm.Cond.code ({ cls := "HistoryJudge$Program", name := "renumber", desc := "(II)V" } : Jvm.MethodName) prog_6_method_21_code (5 : Nat) (Option.none : Option Jvm.ClassFile.FieldType)) ∈ lg := List.mem_append_left _ (List.mem_append_left _ (List.mem_append_left _ (List.mem_append_left _ (List.mem_append_left _ (List.mem_append_left _ (List.mem_append_left _ (List.mem_append_left _ (List.mem_append_left _ (List.mem_append_left _ (List.mem_of_getElem? (i := 41) rfl))))))))))
theorem hw_42 : (Jvm.Cond.methodLink "HistoryJudge$Program" (45 : Nat) ({ cls := "HistoryJudge$Program", name := "renumber", desc := "(II)V" } : Jvm.MethodName)) ∈ lg := List.mem_append_left _ (List.mem_append_left _ (List.mem_append_left _ (List.mem_append_left _ (List.mem_append_left _ (List.mem_append_left _ (List.mem_append_left _ (List.mem_append_left _ (List.mem_append_left _ (List.mem_append_left _ (List.mem_of_getElem? (i := 42) rfl))))))))))
theorem hw_43 : (Jvm.Cond.instanceMethod ({ cls := "HistoryJudge$Program", name := "renumber", desc := "(II)V" } : Jvm.MethodName)) ∈ lg := List.mem_append_left _ (List.mem_append_left _ (List.mem_append_left _ (List.mem_append_left _ (List.mem_append_left _ (List.mem_append_left _ (List.mem_append_left _ (List.mem_append_left _ (List.mem_append_left _ (List.mem_append_left _ (List.mem_of_getElem? (i := 43) rfl))))))))))
theorem hw_44 : (Jvm.Cond.selects "HistoryJudge$Program" ({ cls := "HistoryJudge$Program", name := "renumber", desc := "(II)V" } : Jvm.MethodName) ({ cls := "HistoryJudge$Program", name := "renumber", desc := "(II)V" } : Jvm.MethodName)) ∈ lg := List.mem_append_left _ (List.mem_append_left _ (List.mem_append_left _ (List.mem_append_left _ (List.mem_append_left _ (List.mem_append_left _ (List.mem_append_left _ (List.mem_append_left _ (List.mem_append_left _ (List.mem_append_left _ (List.mem_of_getElem? (i := 44) rfl))))))))))
theorem hw_45 : (Jvm.Cond.code ({ cls := "HistoryJudge$Program", name := "append", desc := "(IIII)V" } : Jvm.MethodName) prog_6_method_12_code (6 : Nat) (Option.none : Option Jvm.ClassFile.FieldType)) ∈ lg := List.mem_append_left _ (List.mem_append_left _ (List.mem_append_left _ (List.mem_append_left _ (List.mem_append_left _ (List.mem_append_left _ (List.mem_append_left _ (List.mem_append_left _ (List.mem_append_left _ (List.mem_append_left _ (List.mem_of_getElem? (i := 45) rfl))))))))))
theorem hw_46 : (Jvm.Cond.methodLink "HistoryJudge" (212 : Nat) ({ cls := "HistoryJudge$Program", name := "append", desc := "(IIII)V" } : Jvm.MethodName)) ∈ lg := List.mem_append_left _ (List.mem_append_left _ (List.mem_append_left _ (List.mem_append_left _ (List.mem_append_left _ (List.mem_append_left _ (List.mem_append_left _ (List.mem_append_left _ (List.mem_append_left _ (List.mem_append_left _ (List.mem_of_getElem? (i := 46) rfl))))))))))
theorem hw_47 : (Jvm.Cond.instanceMethod ({ cls := "HistoryJudge$Program", name := "append", desc := "(IIII)V" } : Jvm.MethodName)) ∈ lg := List.mem_append_left _ (List.mem_append_left _ (List.mem_append_left _ (List.mem_append_left _ (List.mem_append_left _ (List.mem_append_left _ (List.mem_append_left _ (List.mem_append_left _ (List.mem_append_left _ (List.mem_append_left _ (List.mem_of_getElem? (i := 47) rfl))))))))))
theorem hw_48 : (Jvm.Cond.selects "HistoryJudge$Program" ({ cls := "HistoryJudge$Program", name := "append", desc := "(IIII)V" } : Jvm.MethodName) ({ cls := "HistoryJudge$Program", name := "append", desc := "(IIII)V" } : Jvm.MethodName)) ∈ lg := List.mem_append_left _ (List.mem_append_left _ (List.mem_append_left _ (List.mem_append_left _ (List.mem_append_left _ (List.mem_append_left _ (List.mem_append_left _ (List.mem_append_left _ (List.mem_append_left _ (List.mem_append_left _ (List.mem_of_getElem? (i := 48) rfl))))))))))
theorem hw_49 : (Jvm.Cond.code ({ cls := "HistoryJudge$Model", name := "isOpen", desc := "(II)Z" } : Jvm.MethodName) prog_5_method_4_code (2 : Nat) (Option.some Jvm.ClassFile.FieldType.boolean)) ∈ lg := List.mem_append_left _ (List.mem_append_left _ (List.mem_append_left _ (List.mem_append_left _ (List.mem_append_left _ (List.mem_append_left _ (List.mem_append_left _ (List.mem_append_left _ (List.mem_append_left _ (List.mem_append_left _ (List.mem_of_getElem? (i := 49) rfl))))))))))
theorem hw_50 : (Jvm.Cond.methodLink "HistoryJudge$Model" (11 : Nat) ({ cls := "HistoryJudge$Model", name := "isOpen", desc := "(II)Z" } : Jvm.MethodName)) ∈ lg := List.mem_append_left _ (List.mem_append_left _ (List.mem_append_left _ (List.mem_append_left _ (List.mem_append_left _ (List.mem_append_left _ (List.mem_append_left _ (List.mem_append_left _ (List.mem_append_left _ (List.mem_append_left _ (List.mem_of_getElem? (i := 50) rfl))))))))))
theorem hw_51 : (Jvm.Cond.static ({ cls := "HistoryJudge$Model", name := "isOpen", desc := "(II)Z" } : Jvm.MethodName)) ∈ lg := List.mem_append_left _ (List.mem_append_left _ (List.mem_append_left _ (List.mem_append_left _ (List.mem_append_left _ (List.mem_append_left _ (List.mem_append_left _ (List.mem_append_left _ (List.mem_append_left _ (List.mem_append_left _ (List.mem_of_getElem? (i := 51) rfl))))))))))
theorem hw_52 : (Jvm.Cond.initialized "HistoryJudge$Model") ∈ lg := List.mem_append_left _ (List.mem_append_left _ (List.mem_append_left _ (List.mem_append_left _ (List.mem_append_left _ (List.mem_append_left _ (List.mem_append_left _ (List.mem_append_left _ (List.mem_append_left _ (List.mem_append_left _ (List.mem_of_getElem? (i := 52) rfl))))))))))
theorem hw_53 : (Jvm.Cond.code ({ cls := "HistoryJudge$Model", name := "source", desc := "(I)I" } : Jvm.MethodName) prog_5_method_5_code (1 : Nat) (Option.some Jvm.ClassFile.FieldType.int)) ∈ lg := List.mem_append_left _ (List.mem_append_left _ (List.mem_append_left _ (List.mem_append_left _ (List.mem_append_left _ (List.mem_append_left _ (List.mem_append_left _ (List.mem_append_left _ (List.mem_append_left _ (List.mem_append_left _ (List.mem_of_getElem? (i := 53) rfl))))))))))
theorem hw_54 : (Jvm.Cond.methodLink "HistoryJudge$Model" (15 : Nat) ({ cls := "HistoryJudge$Model", name := "source", desc := "(I)I" } : Jvm.MethodName)) ∈ lg := List.mem_append_left _ (List.mem_append_left _ (List.mem_append_left _ (List.mem_append_left _ (List.mem_append_left _ (List.mem_append_left _ (List.mem_append_left _ (List.mem_append_left _ (List.mem_append_left _ (List.mem_append_left _ (List.mem_of_getElem? (i := 54) rfl))))))))))
theorem hw_55 : (Jvm.Cond.static ({ cls := "HistoryJudge$Model", name := "source", desc := "(I)I" } : Jvm.MethodName)) ∈ lg := List.mem_append_left _ (List.mem_append_left _ (List.mem_append_left _ (List.mem_append_left _ (List.mem_append_left _ (List.mem_append_left _ (List.mem_append_left _ (List.mem_append_left _ (List.mem_append_left _ (List.mem_append_left _ (List.mem_of_getElem? (i := 55) rfl))))))))))
theorem hw_56 : (Jvm.Cond.code ({ cls := "HistoryJudge$Model", name := "allows", desc := "(III)Z" } : Jvm.MethodName) prog_5_method_6_code (3 : Nat) (Option.some Jvm.ClassFile.FieldType.boolean)) ∈ lg := List.mem_append_left _ (List.mem_append_left _ (List.mem_append_left _ (List.mem_append_left _ (List.mem_append_left _ (List.mem_append_left _ (List.mem_append_left _ (List.mem_append_left _ (List.mem_append_left _ (List.mem_append_left _ (List.mem_of_getElem? (i := 56) rfl))))))))))
theorem hw_57 : (Jvm.Cond.methodLink "HistoryJudge$Program" (64 : Nat) ({ cls := "HistoryJudge$Model", name := "allows", desc := "(III)Z" } : Jvm.MethodName)) ∈ lg := List.mem_append_left _ (List.mem_append_left _ (List.mem_append_left _ (List.mem_append_left _ (List.mem_append_left _ (List.mem_append_left _ (List.mem_append_left _ (List.mem_append_left _ (List.mem_append_left _ (List.mem_append_left _ (List.mem_of_getElem? (i := 57) rfl))))))))))
theorem hw_58 : (Jvm.Cond.static ({ cls := "HistoryJudge$Model", name := "allows", desc := "(III)Z" } : Jvm.MethodName)) ∈ lg := List.mem_append_left _ (List.mem_append_left _ (List.mem_append_left _ (List.mem_append_left _ (List.mem_append_left _ (List.mem_append_left _ (List.mem_append_left _ (List.mem_append_left _ (List.mem_append_left _ (List.mem_append_left _ (List.mem_of_getElem? (i := 58) rfl))))))))))
theorem hw_59 : (Jvm.Cond.code ({ cls := "HistoryJudge$Model", name := "content", desc := "(II)I" } : Jvm.MethodName) prog_5_method_2_code (2 : Nat) (Option.some Jvm.ClassFile.FieldType.int)) ∈ lg := List.mem_append_left _ (List.mem_append_left _ (List.mem_append_left _ (List.mem_append_left _ (List.mem_append_left _ (List.mem_append_left _ (List.mem_append_left _ (List.mem_append_left _ (List.mem_append_left _ (List.mem_append_left _ (List.mem_of_getElem? (i := 59) rfl))))))))))
theorem hw_60 : (Jvm.Cond.methodLink "HistoryJudge$Model" (23 : Nat) ({ cls := "HistoryJudge$Model", name := "content", desc := "(II)I" } : Jvm.MethodName)) ∈ lg := List.mem_append_left _ (List.mem_append_left _ (List.mem_append_left _ (List.mem_append_left _ (List.mem_append_left _ (List.mem_append_left _ (List.mem_append_left _ (List.mem_append_left _ (List.mem_append_left _ (List.mem_append_right _ (List.mem_of_getElem? (i := 0) rfl))))))))))
theorem hw_61 : (Jvm.Cond.static ({ cls := "HistoryJudge$Model", name := "content", desc := "(II)I" } : Jvm.MethodName)) ∈ lg := List.mem_append_left _ (List.mem_append_left _ (List.mem_append_left _ (List.mem_append_left _ (List.mem_append_left _ (List.mem_append_left _ (List.mem_append_left _ (List.mem_append_left _ (List.mem_append_left _ (List.mem_append_right _ (List.mem_of_getElem? (i := 1) rfl))))))))))
theorem hw_62 : (Jvm.Cond.code ({ cls := "HistoryJudge$Model", name := "held", desc := "(II)I" } : Jvm.MethodName) prog_5_method_3_code (2 : Nat) (Option.some Jvm.ClassFile.FieldType.int)) ∈ lg := List.mem_append_left _ (List.mem_append_left _ (List.mem_append_left _ (List.mem_append_left _ (List.mem_append_left _ (List.mem_append_left _ (List.mem_append_left _ (List.mem_append_left _ (List.mem_append_left _ (List.mem_append_right _ (List.mem_of_getElem? (i := 2) rfl))))))))))
theorem hw_63 : (Jvm.Cond.methodLink "HistoryJudge$Model" (19 : Nat) ({ cls := "HistoryJudge$Model", name := "held", desc := "(II)I" } : Jvm.MethodName)) ∈ lg := List.mem_append_left _ (List.mem_append_left _ (List.mem_append_left _ (List.mem_append_left _ (List.mem_append_left _ (List.mem_append_left _ (List.mem_append_left _ (List.mem_append_left _ (List.mem_append_left _ (List.mem_append_right _ (List.mem_of_getElem? (i := 3) rfl))))))))))
theorem hw_64 : (Jvm.Cond.static ({ cls := "HistoryJudge$Model", name := "held", desc := "(II)I" } : Jvm.MethodName)) ∈ lg := List.mem_append_left _ (List.mem_append_left _ (List.mem_append_left _ (List.mem_append_left _ (List.mem_append_left _ (List.mem_append_left _ (List.mem_append_left _ (List.mem_append_left _ (List.mem_append_left _ (List.mem_append_right _ (List.mem_of_getElem? (i := 4) rfl))))))))))
theorem hw_65 : (Jvm.Cond.code ({ cls := "HistoryJudge$Model", name := "after", desc := "(IIII)I" } : Jvm.MethodName) prog_5_method_8_code (7 : Nat) (Option.some Jvm.ClassFile.FieldType.int)) ∈ lg := List.mem_append_left _ (List.mem_append_left _ (List.mem_append_left _ (List.mem_append_left _ (List.mem_append_left _ (List.mem_append_left _ (List.mem_append_left _ (List.mem_append_left _ (List.mem_append_left _ (List.mem_append_right _ (List.mem_of_getElem? (i := 5) rfl))))))))))
theorem hw_66 : (Jvm.Cond.methodLink "HistoryJudge$Program" (68 : Nat) ({ cls := "HistoryJudge$Model", name := "after", desc := "(IIII)I" } : Jvm.MethodName)) ∈ lg := List.mem_append_left _ (List.mem_append_left _ (List.mem_append_left _ (List.mem_append_left _ (List.mem_append_left _ (List.mem_append_left _ (List.mem_append_left _ (List.mem_append_left _ (List.mem_append_left _ (List.mem_append_right _ (List.mem_of_getElem? (i := 6) rfl))))))))))
theorem hw_67 : (Jvm.Cond.static ({ cls := "HistoryJudge$Model", name := "after", desc := "(IIII)I" } : Jvm.MethodName)) ∈ lg := List.mem_append_left _ (List.mem_append_left _ (List.mem_append_left _ (List.mem_append_left _ (List.mem_append_left _ (List.mem_append_left _ (List.mem_append_left _ (List.mem_append_left _ (List.mem_append_left _ (List.mem_append_right _ (List.mem_of_getElem? (i := 7) rfl))))))))))
theorem hw_68 : (Jvm.Cond.code ({ cls := "HistoryJudge$Program", name := "isValidBeside", desc := "(II)Z" } : Jvm.MethodName) prog_6_method_17_code (6 : Nat) (Option.some Jvm.ClassFile.FieldType.boolean)) ∈ lg := List.mem_append_left _ (List.mem_append_left _ (List.mem_append_left _ (List.mem_append_left _ (List.mem_append_left _ (List.mem_append_left _ (List.mem_append_left _ (List.mem_append_left _ (List.mem_append_left _ (List.mem_append_right _ (List.mem_of_getElem? (i := 8) rfl))))))))))
theorem hw_69 : (Jvm.Cond.methodLink "HistoryJudge$Program" (72 : Nat) ({ cls := "HistoryJudge$Program", name := "isValidBeside", desc := "(II)Z" } : Jvm.MethodName)) ∈ lg := List.mem_append_left _ (List.mem_append_left _ (List.mem_append_left _ (List.mem_append_left _ (List.mem_append_left _ (List.mem_append_left _ (List.mem_append_left _ (List.mem_append_left _ (List.mem_append_left _ (List.mem_append_right _ (List.mem_of_getElem? (i := 9) rfl))))))))))
theorem hw_70 : (Jvm.Cond.instanceMethod ({ cls := "HistoryJudge$Program", name := "isValidBeside", desc := "(II)Z" } : Jvm.MethodName)) ∈ lg := List.mem_append_left _ (List.mem_append_left _ (List.mem_append_left _ (List.mem_append_left _ (List.mem_append_left _ (List.mem_append_left _ (List.mem_append_left _ (List.mem_append_left _ (List.mem_append_left _ (List.mem_append_right _ (List.mem_of_getElem? (i := 10) rfl))))))))))
theorem hw_71 : (Jvm.Cond.selects "HistoryJudge$Program" ({ cls := "HistoryJudge$Program", name := "isValidBeside", desc := "(II)Z" } : Jvm.MethodName) ({ cls := "HistoryJudge$Program", name := "isValidBeside", desc := "(II)Z" } : Jvm.MethodName)) ∈ lg := List.mem_append_left _ (List.mem_append_left _ (List.mem_append_left _ (List.mem_append_left _ (List.mem_append_left _ (List.mem_append_left _ (List.mem_append_left _ (List.mem_append_left _ (List.mem_append_left _ (List.mem_append_right _ (List.mem_of_getElem? (i := 11) rfl))))))))))
theorem hw_72 : (Jvm.Cond.code ({ cls := "HistoryJudge$Program", name := "isValid", desc := "()Z" } : Jvm.MethodName) prog_6_method_16_code (5 : Nat) (Option.some Jvm.ClassFile.FieldType.boolean)) ∈ lg := List.mem_append_left _ (List.mem_append_left _ (List.mem_append_left _ (List.mem_append_left _ (List.mem_append_left _ (List.mem_append_left _ (List.mem_append_left _ (List.mem_append_left _ (List.mem_append_left _ (List.mem_append_right _ (List.mem_of_getElem? (i := 12) rfl))))))))))
theorem hw_73 : (Jvm.Cond.methodLink "HistoryJudge" (121 : Nat) ({ cls := "HistoryJudge$Program", name := "isValid", desc := "()Z" } : Jvm.MethodName)) ∈ lg := List.mem_append_left _ (List.mem_append_left _ (List.mem_append_left _ (List.mem_append_left _ (List.mem_append_left _ (List.mem_append_left _ (List.mem_append_left _ (List.mem_append_left _ (List.mem_append_left _ (List.mem_append_right _ (List.mem_of_getElem? (i := 13) rfl))))))))))
theorem hw_74 : (Jvm.Cond.instanceMethod ({ cls := "HistoryJudge$Program", name := "isValid", desc := "()Z" } : Jvm.MethodName)) ∈ lg := List.mem_append_left _ (List.mem_append_left _ (List.mem_append_left _ (List.mem_append_left _ (List.mem_append_left _ (List.mem_append_left _ (List.mem_append_left _ (List.mem_append_left _ (List.mem_append_left _ (List.mem_append_right _ (List.mem_of_getElem? (i := 14) rfl))))))))))
theorem hw_75 : (Jvm.Cond.selects "HistoryJudge$Program" ({ cls := "HistoryJudge$Program", name := "isValid", desc := "()Z" } : Jvm.MethodName) ({ cls := "HistoryJudge$Program", name := "isValid", desc := "()Z" } : Jvm.MethodName)) ∈ lg := List.mem_append_left _ (List.mem_append_left _ (List.mem_append_left _ (List.mem_append_left _ (List.mem_append_left _ (List.mem_append_left _ (List.mem_append_left _ (List.mem_append_left _ (List.mem_append_left _ (List.mem_append_right _ (List.mem_of_getElem? (i := 15) rfl))))))))))
theorem hw_76 : (Jvm.Cond.fieldLink "HistoryJudge" (29 : Nat) "HistoryJudge" "draws" "LHistoryJudge$Draws;") ∈ lg := List.mem_append_left _ (List.mem_append_left _ (List.mem_append_left _ (List.mem_append_left _ (List.mem_append_left _ (List.mem_append_left _ (List.mem_append_left _ (List.mem_append_left _ (List.mem_append_left _ (List.mem_append_right _ (List.mem_of_getElem? (i := 16) rfl))))))))))
theorem hw_77 : (Jvm.Cond.fieldLink "HistoryJudge$Draws" (7 : Nat) "HistoryJudge$Draws" "state" "J") ∈ lg := List.mem_append_left _ (List.mem_append_left _ (List.mem_append_left _ (List.mem_append_left _ (List.mem_append_left _ (List.mem_append_left _ (List.mem_append_left _ (List.mem_append_left _ (List.mem_append_left _ (List.mem_append_right _ (List.mem_of_getElem? (i := 17) rfl))))))))))
theorem hw_78 : (Jvm.Cond.constantLong "HistoryJudge$Draws" (13 : Nat) (6364136223846793005 : Int64)) ∈ lg := List.mem_append_left _ (List.mem_append_left _ (List.mem_append_left _ (List.mem_append_left _ (List.mem_append_left _ (List.mem_append_left _ (List.mem_append_left _ (List.mem_append_left _ (List.mem_append_left _ (List.mem_append_right _ (List.mem_of_getElem? (i := 18) rfl))))))))))
theorem hw_79 : (Jvm.Cond.constantLong "HistoryJudge$Draws" (15 : Nat) (1442695040888963407 : Int64)) ∈ lg := List.mem_append_left _ (List.mem_append_left _ (List.mem_append_left _ (List.mem_append_left _ (List.mem_append_left _ (List.mem_append_left _ (List.mem_append_left _ (List.mem_append_left _ (List.mem_append_left _ (List.mem_append_right _ (List.mem_of_getElem? (i := 19) rfl))))))))))
theorem hw_80 : (Jvm.Cond.code ({ cls := "HistoryJudge$Draws", name := "below", desc := "(I)I" } : Jvm.MethodName) prog_2_method_3_code (3 : Nat) (Option.some Jvm.ClassFile.FieldType.int)) ∈ lg := List.mem_append_left _ (List.mem_append_left _ (List.mem_append_left _ (List.mem_append_left _ (List.mem_append_left _ (List.mem_append_left _ (List.mem_append_left _ (List.mem_append_left _ (List.mem_append_left _ (List.mem_append_right _ (List.mem_of_getElem? (i := 20) rfl))))))))))
theorem hw_81 : (Jvm.Cond.methodLink "HistoryJudge" (219 : Nat) ({ cls := "HistoryJudge$Draws", name := "below", desc := "(I)I" } : Jvm.MethodName)) ∈ lg := List.mem_append_left _ (List.mem_append_left _ (List.mem_append_left _ (List.mem_append_left _ (List.mem_append_left _ (List.mem_append_left _ (List.mem_append_left _ (List.mem_append_left _ (List.mem_append_left _ (List.mem_append_right _ (List.mem_of_getElem? (i := 21) rfl))))))))))
theorem hw_82 : (Jvm.Cond.instanceMethod ({ cls := "HistoryJudge$Draws", name := "below", desc := "(I)I" } : Jvm.MethodName)) ∈ lg := List.mem_append_left _ (List.mem_append_left _ (List.mem_append_left _ (List.mem_append_left _ (List.mem_append_left _ (List.mem_append_left _ (List.mem_append_left _ (List.mem_append_left _ (List.mem_append_left _ (List.mem_append_right _ (List.mem_of_getElem? (i := 22) rfl))))))))))
theorem hw_83 : (Jvm.Cond.selects "HistoryJudge$Draws" ({ cls := "HistoryJudge$Draws", name := "below", desc := "(I)I" } : Jvm.MethodName) ({ cls := "HistoryJudge$Draws", name := "below", desc := "(I)I" } : Jvm.MethodName)) ∈ lg := List.mem_append_left _ (List.mem_append_left _ (List.mem_append_left _ (List.mem_append_left _ (List.mem_append_left _ (List.mem_append_left _ (List.mem_append_left _ (List.mem_append_left _ (List.mem_append_left _ (List.mem_append_right _ (List.mem_of_getElem? (i := 23) rfl))))))))))
theorem hw_84 : (Jvm.Cond.initialized "HistoryJudge$Draws") ∈ lg := List.mem_append_left _ (List.mem_append_left _ (List.mem_append_left _ (List.mem_append_left _ (List.mem_append_left _ (List.mem_append_left _ (List.mem_append_left _ (List.mem_append_left _ (List.mem_append_left _ (List.mem_append_right _ (List.mem_of_getElem? (i := 24) rfl))))))))))
theorem hw_85 : (Jvm.Cond.code ({ cls := "HistoryJudge$Program", name := "known", desc := "(I)I" } : Jvm.MethodName) prog_6_method_7_code (2 : Nat) (Option.some Jvm.ClassFile.FieldType.int)) ∈ lg := List.mem_append_left _ (List.mem_append_left _ (List.mem_append_left _ (List.mem_append_left _ (List.mem_append_left _ (List.mem_append_left _ (List.mem_append_left _ (List.mem_append_left _ (List.mem_append_left _ (List.mem_append_right _ (List.mem_of_getElem? (i := 25) rfl))))))))))
theorem hw_86 : (Jvm.Cond.methodLink "HistoryJudge" (222 : Nat) ({ cls := "HistoryJudge$Program", name := "known", desc := "(I)I" } : Jvm.MethodName)) ∈ lg := List.mem_append_left _ (List.mem_append_left _ (List.mem_append_left _ (List.mem_append_left _ (List.mem_append_left _ (List.mem_append_left _ (List.mem_append_left _ (List.mem_append_left _ (List.mem_append_left _ (List.mem_append_right _ (List.mem_of_getElem? (i := 26) rfl))))))))))
theorem hw_87 : (Jvm.Cond.instanceMethod ({ cls := "HistoryJudge$Program", name := "known", desc := "(I)I" } : Jvm.MethodName)) ∈ lg := List.mem_append_left _ (List.mem_append_left _ (List.mem_append_left _ (List.mem_append_left _ (List.mem_append_left _ (List.mem_append_left _ (List.mem_append_left _ (List.mem_append_left _ (List.mem_append_left _ (List.mem_append_right _ (List.mem_of_getElem? (i := 27) rfl))))))))))
theorem hw_88 : (Jvm.Cond.selects "HistoryJudge$Program" ({ cls := "HistoryJudge$Program", name := "known", desc := "(I)I" } : Jvm.MethodName) ({ cls := "HistoryJudge$Program", name := "known", desc := "(I)I" } : Jvm.MethodName)) ∈ lg := List.mem_append_left _ (List.mem_append_left _ (List.mem_append_left _ (List.mem_append_left _ (List.mem_append_left _ (List.mem_append_left _ (List.mem_append_left _ (List.mem_append_left _ (List.mem_append_left _ (List.mem_append_right _ (List.mem_of_getElem? (i := 28) rfl))))))))))
theorem hw_89 : (Jvm.Cond.code ({ cls := "HistoryJudge", name := "appendIfValid", desc := "(IIII)Z" } : Jvm.MethodName) prog_1_method_16_code (5 : Nat) (Option.some Jvm.ClassFile.FieldType.boolean)) ∈ lg := List.mem_append_left _ (List.mem_append_left _ (List.mem_append_left _ (List.mem_append_left _ (List.mem_append_left _ (List.mem_append_left _ (List.mem_append_left _ (List.mem_append_left _ (List.mem_append_left _ (List.mem_append_right _ (List.mem_of_getElem? (i := 29) rfl))))))))))
theorem hw_90 : (Jvm.Cond.methodLink "HistoryJudge" (70 : Nat) ({ cls := "HistoryJudge", name := "appendIfValid", desc := "(IIII)Z" } : Jvm.MethodName)) ∈ lg := List.mem_append_left _ (List.mem_append_left _ (List.mem_append_left _ (List.mem_append_left _ (List.mem_append_left _ (List.mem_append_left _ (List.mem_append_left _ (List.mem_append_left _ (List.mem_append_left _ (List.mem_append_right _ (List.mem_of_getElem? (i := 30) rfl))))))))))
theorem hw_91 : (Jvm.Cond.instanceMethod ({ cls := "HistoryJudge", name := "appendIfValid", desc := "(IIII)Z" } : Jvm.MethodName)) ∈ lg := List.mem_append_left _ (List.mem_append_left _ (List.mem_append_left _ (List.mem_append_left _ (List.mem_append_left _ (List.mem_append_left _ (List.mem_append_left _ (List.mem_append_left _ (List.mem_append_left _ (List.mem_append_right _ (List.mem_of_getElem? (i := 31) rfl))))))))))
theorem hw_92 : (Jvm.Cond.selects "HistoryJudge" ({ cls := "HistoryJudge", name := "appendIfValid", desc := "(IIII)Z" } : Jvm.MethodName) ({ cls := "HistoryJudge", name := "appendIfValid", desc := "(IIII)Z" } : Jvm.MethodName)) ∈ lg := List.mem_append_left _ (List.mem_append_left _ (List.mem_append_left _ (List.mem_append_left _ (List.mem_append_left _ (List.mem_append_left _ (List.mem_append_left _ (List.mem_append_left _ (List.mem_append_left _ (List.mem_append_right _ (List.mem_of_getElem? (i := 32) rfl))))))))))
theorem hw_93 : (Jvm.Cond.initialized "HistoryJudge") ∈ lg := List.mem_append_left _ (List.mem_append_left _ (List.mem_append_left _ (List.mem_append_left _ (List.mem_append_left _ (List.mem_append_left _ (List.mem_append_left _ (List.mem_append_left _ (List.mem_append_left _ (List.mem_append_right _ (List.mem_of_getElem? (i := 33) rfl))))))))))
theorem hw_94 : (Jvm.Cond.code ({ cls := "HistoryJudge$Program", name := "knownAt", desc := "(II)I" } : Jvm.MethodName) prog_6_method_8_code (3 : Nat) (Option.some Jvm.ClassFile.FieldType.int)) ∈ lg := List.mem_append_left _ (List.mem_append_left _ (List.mem_append_left _ (List.mem_append_left _ (List.mem_append_left _ (List.mem_append_left _ (List.mem_append_left _ (List.mem_append_left _ (List.mem_append_left _ (List.mem_append_right _ (List.mem_of_getElem? (i := 34) rfl))))))))))
theorem hw_95 : (Jvm.Cond.methodLink "HistoryJudge" (225 : Nat) ({ cls := "HistoryJudge$Program", name := "knownAt", desc := "(II)I" } : Jvm.MethodName)) ∈ lg := List.mem_append_left _ (List.mem_append_left _ (List.mem_append_left _ (List.mem_append_left _ (List.mem_append_left _ (List.mem_append_left _ (List.mem_append_left _ (List.mem_append_left _ (List.mem_append_left _ (List.mem_append_right _ (List.mem_of_getElem? (i := 35) rfl))))))))))
theorem hw_96 : (Jvm.Cond.instanceMethod ({ cls := "HistoryJudge$Program", name := "knownAt", desc := "(II)I" } : Jvm.MethodName)) ∈ lg := List.mem_append_left _ (List.mem_append_left _ (List.mem_append_left _ (List.mem_append_left _ (List.mem_append_left _ (List.mem_append_left _ (List.mem_append_left _ (List.mem_append_left _ (List.mem_append_left _ (List.mem_append_right _ (List.mem_of_getElem? (i := 36) rfl))))))))))
theorem hw_97 : (Jvm.Cond.selects "HistoryJudge$Program" ({ cls := "HistoryJudge$Program", name := "knownAt", desc := "(II)I" } : Jvm.MethodName) ({ cls := "HistoryJudge$Program", name := "knownAt", desc := "(II)I" } : Jvm.MethodName)) ∈ lg := List.mem_append_left _ (List.mem_append_left _ (List.mem_append_left _ (List.mem_append_left _ (List.mem_append_left _ (List.mem_append_left _ (List.mem_append_left _ (List.mem_append_left _ (List.mem_append_left _ (List.mem_append_right _ (List.mem_of_getElem? (i := 37) rfl))))))))))
theorem hw_98 : (Jvm.Cond.code ({ cls := "HistoryJudge", name := "drawCommand", desc := "(I)Z" } : Jvm.MethodName) prog_1_method_18_code (7 : Nat) (Option.some Jvm.ClassFile.FieldType.boolean)) ∈ lg := List.mem_append_left _ (List.mem_append_left _ (List.mem_append_left _ (List.mem_append_left _ (List.mem_append_left _ (List.mem_append_left _ (List.mem_append_left _ (List.mem_append_left _ (List.mem_append_left _ (List.mem_append_right _ (List.mem_of_getElem? (i := 38) rfl))))))))))
theorem hw_99 : (Jvm.Cond.methodLink "HistoryJudge" (216 : Nat) ({ cls := "HistoryJudge", name := "drawCommand", desc := "(I)Z" } : Jvm.MethodName)) ∈ lg := List.mem_append_left _ (List.mem_append_left _ (List.mem_append_left _ (List.mem_append_left _ (List.mem_append_left _ (List.mem_append_left _ (List.mem_append_left _ (List.mem_append_left _ (List.mem_append_left _ (List.mem_append_right _ (List.mem_of_getElem? (i := 39) rfl))))))))))
theorem hw_100 : (Jvm.Cond.instanceMethod ({ cls := "HistoryJudge", name := "drawCommand", desc := "(I)Z" } : Jvm.MethodName)) ∈ lg := List.mem_append_left _ (List.mem_append_left _ (List.mem_append_left _ (List.mem_append_left _ (List.mem_append_left _ (List.mem_append_left _ (List.mem_append_left _ (List.mem_append_left _ (List.mem_append_left _ (List.mem_append_right _ (List.mem_of_getElem? (i := 40) rfl))))))))))
theorem hw_101 : (Jvm.Cond.selects "HistoryJudge" ({ cls := "HistoryJudge", name := "drawCommand", desc := "(I)Z" } : Jvm.MethodName) ({ cls := "HistoryJudge", name := "drawCommand", desc := "(I)Z" } : Jvm.MethodName)) ∈ lg := List.mem_append_left _ (List.mem_append_left _ (List.mem_append_left _ (List.mem_append_left _ (List.mem_append_left _ (List.mem_append_left _ (List.mem_append_left _ (List.mem_append_left _ (List.mem_append_left _ (List.mem_append_right _ (List.mem_of_getElem? (i := 41) rfl))))))))))
theorem hw_102 : (Jvm.Cond.code ({ cls := "HistoryJudge$Program", name := "lower", desc := "(IZ)Z" } : Jvm.MethodName) prog_6_method_15_code (4 : Nat) (Option.some Jvm.ClassFile.FieldType.boolean)) ∈ lg := List.mem_append_left _ (List.mem_append_left _ (List.mem_append_left _ (List.mem_append_left _ (List.mem_append_left _ (List.mem_append_left _ (List.mem_append_left _ (List.mem_append_left _ (List.mem_append_left _ (List.mem_append_right _ (List.mem_of_getElem? (i := 42) rfl))))))))))
theorem hw_103 : (Jvm.Cond.methodLink "HistoryJudge" (234 : Nat) ({ cls := "HistoryJudge$Program", name := "lower", desc := "(IZ)Z" } : Jvm.MethodName)) ∈ lg := List.mem_append_left _ (List.mem_append_left _ (List.mem_append_left _ (List.mem_append_left _ (List.mem_append_left _ (List.mem_append_left _ (List.mem_append_left _ (List.mem_append_left _ (List.mem_append_left _ (List.mem_append_right _ (List.mem_of_getElem? (i := 43) rfl))))))))))
theorem hw_104 : (Jvm.Cond.instanceMethod ({ cls := "HistoryJudge$Program", name := "lower", desc := "(IZ)Z" } : Jvm.MethodName)) ∈ lg := List.mem_append_left _ (List.mem_append_left _ (List.mem_append_left _ (List.mem_append_left _ (List.mem_append_left _ (List.mem_append_left _ (List.mem_append_left _ (List.mem_append_left _ (List.mem_append_left _ (List.mem_append_right _ (List.mem_of_getElem? (i := 44) rfl))))))))))
theorem hw_105 : (Jvm.Cond.selects "HistoryJudge$Program" ({ cls := "HistoryJudge$Program", name := "lower", desc := "(IZ)Z" } : Jvm.MethodName) ({ cls := "HistoryJudge$Program", name := "lower", desc := "(IZ)Z" } : Jvm.MethodName)) ∈ lg := List.mem_append_left _ (List.mem_append_left _ (List.mem_append_left _ (List.mem_append_left _ (List.mem_append_left _ (List.mem_append_left _ (List.mem_append_left _ (List.mem_append_left _ (List.mem_append_left _ (List.mem_append_right _ (List.mem_of_getElem? (i := 45) rfl))))))))))
theorem hw_106 : (Jvm.Cond.code ({ cls := "HistoryJudge$Program", name := "hasRoom", desc := "(I)Z" } : Jvm.MethodName) prog_6_method_6_code (2 : Nat) (Option.some Jvm.ClassFile.FieldType.boolean)) ∈ lg := List.mem_append_left _ (List.mem_append_left _ (List.mem_append_left _ (List.mem_append_left _ (List.mem_append_left _ (List.mem_append_left _ (List.mem_append_left _ (List.mem_append_left _ (List.mem_append_left _ (List.mem_append_right _ (List.mem_of_getElem? (i := 46) rfl))))))))))
theorem hw_107 : (Jvm.Cond.methodLink "HistoryJudge$Program" (59 : Nat) ({ cls := "HistoryJudge$Program", name := "hasRoom", desc := "(I)Z" } : Jvm.MethodName)) ∈ lg := List.mem_append_left _ (List.mem_append_left _ (List.mem_append_left _ (List.mem_append_left _ (List.mem_append_left _ (List.mem_append_left _ (List.mem_append_left _ (List.mem_append_left _ (List.mem_append_left _ (List.mem_append_right _ (List.mem_of_getElem? (i := 47) rfl))))))))))
theorem hw_108 : (Jvm.Cond.instanceMethod ({ cls := "HistoryJudge$Program", name := "hasRoom", desc := "(I)Z" } : Jvm.MethodName)) ∈ lg := List.mem_append_left _ (List.mem_append_left _ (List.mem_append_left _ (List.mem_append_left _ (List.mem_append_left _ (List.mem_append_left _ (List.mem_append_left _ (List.mem_append_left _ (List.mem_append_left _ (List.mem_append_right _ (List.mem_of_getElem? (i := 48) rfl))))))))))
theorem hw_109 : (Jvm.Cond.selects "HistoryJudge$Program" ({ cls := "HistoryJudge$Program", name := "hasRoom", desc := "(I)Z" } : Jvm.MethodName) ({ cls := "HistoryJudge$Program", name := "hasRoom", desc := "(I)Z" } : Jvm.MethodName)) ∈ lg := List.mem_append_left _ (List.mem_append_left _ (List.mem_append_left _ (List.mem_append_left _ (List.mem_append_left _ (List.mem_append_left _ (List.mem_append_left _ (List.mem_append_left _ (List.mem_append_left _ (List.mem_append_right _ (List.mem_of_getElem? (i := 49) rfl))))))))))
theorem hw_110 : (Jvm.Cond.code ({ cls := "HistoryJudge$Program", name := "promote", desc := "(I)Z" } : Jvm.MethodName) prog_6_method_14_code (10 : Nat) (Option.some Jvm.ClassFile.FieldType.boolean)) ∈ lg := List.mem_append_left _ (List.mem_append_left _ (List.mem_append_left _ (List.mem_append_left _ (List.mem_append_left _ (List.mem_append_left _ (List.mem_append_left _ (List.mem_append_left _ (List.mem_append_left _ (List.mem_append_right _ (List.mem_of_getElem? (i := 50) rfl))))))))))
theorem hw_111 : (Jvm.Cond.methodLink "HistoryJudge" (231 : Nat) ({ cls := "HistoryJudge$Program", name := "promote", desc := "(I)Z" } : Jvm.MethodName)) ∈ lg := List.mem_append_left _ (List.mem_append_left _ (List.mem_append_left _ (List.mem_append_left _ (List.mem_append_left _ (List.mem_append_left _ (List.mem_append_left _ (List.mem_append_left _ (List.mem_append_left _ (List.mem_append_right _ (List.mem_of_getElem? (i := 51) rfl))))))))))
theorem hw_112 : (Jvm.Cond.instanceMethod ({ cls := "HistoryJudge$Program", name := "promote", desc := "(I)Z" } : Jvm.MethodName)) ∈ lg := List.mem_append_left _ (List.mem_append_left _ (List.mem_append_left _ (List.mem_append_left _ (List.mem_append_left _ (List.mem_append_left _ (List.mem_append_left _ (List.mem_append_left _ (List.mem_append_left _ (List.mem_append_right _ (List.mem_of_getElem? (i := 52) rfl))))))))))
theorem hw_113 : (Jvm.Cond.selects "HistoryJudge$Program" ({ cls := "HistoryJudge$Program", name := "promote", desc := "(I)Z" } : Jvm.MethodName) ({ cls := "HistoryJudge$Program", name := "promote", desc := "(I)Z" } : Jvm.MethodName)) ∈ lg := List.mem_append_left _ (List.mem_append_left _ (List.mem_append_left _ (List.mem_append_left _ (List.mem_append_left _ (List.mem_append_left _ (List.mem_append_left _ (List.mem_append_left _ (List.mem_append_left _ (List.mem_append_right _ (List.mem_of_getElem? (i := 53) rfl))))))))))
theorem hw_114 : (Jvm.Cond.code ({ cls := "HistoryJudge$Program", name := "isNeeded", desc := "(I)Z" } : Jvm.MethodName) prog_6_method_18_code (4 : Nat) (Option.some Jvm.ClassFile.FieldType.boolean)) ∈ lg := List.mem_append_left _ (List.mem_append_left _ (List.mem_append_left _ (List.mem_append_left _ (List.mem_append_left _ (List.mem_append_left _ (List.mem_append_left _ (List.mem_append_left _ (List.mem_append_left _ (List.mem_append_right _ (List.mem_of_getElem? (i := 54) rfl))))))))))
theorem hw_115 : (Jvm.Cond.methodLink "HistoryJudge$Program" (52 : Nat) ({ cls := "HistoryJudge$Program", name := "isNeeded", desc := "(I)Z" } : Jvm.MethodName)) ∈ lg := List.mem_append_left _ (List.mem_append_left _ (List.mem_append_left _ (List.mem_append_left _ (List.mem_append_left _ (List.mem_append_left _ (List.mem_append_left _ (List.mem_append_left _ (List.mem_append_left _ (List.mem_append_right _ (List.mem_of_getElem? (i := 55) rfl))))))))))
theorem hw_116 : (Jvm.Cond.instanceMethod ({ cls := "HistoryJudge$Program", name := "isNeeded", desc := "(I)Z" } : Jvm.MethodName)) ∈ lg := List.mem_append_left _ (List.mem_append_left _ (List.mem_append_left _ (List.mem_append_left _ (List.mem_append_left _ (List.mem_append_left _ (List.mem_append_left _ (List.mem_append_left _ (List.mem_append_left _ (List.mem_append_right _ (List.mem_of_getElem? (i := 56) rfl))))))))))
theorem hw_117 : (Jvm.Cond.selects "HistoryJudge$Program" ({ cls := "HistoryJudge$Program", name := "isNeeded", desc := "(I)Z" } : Jvm.MethodName) ({ cls := "HistoryJudge$Program", name := "isNeeded", desc := "(I)Z" } : Jvm.MethodName)) ∈ lg := List.mem_append_left _ (List.mem_append_left _ (List.mem_append_left _ (List.mem_append_left _ (List.mem_append_left _ (List.mem_append_left _ (List.mem_append_left _ (List.mem_append_left _ (List.mem_append_left _ (List.mem_append_right _ (List.mem_of_getElem? (i := 57) rfl))))))))))
theorem hw_118 : (Jvm.Cond.code ({ cls := "HistoryJudge$Program", name := "branchOf", desc := "(I)I" } : Jvm.MethodName) prog_6_method_5_code (2 : Nat) (Option.some Jvm.ClassFile.FieldType.int)) ∈ lg := List.mem_append_left _ (List.mem_append_left _ (List.mem_append_left _ (List.mem_append_left _ (List.mem_append_left _ (List.mem_append_left _ (List.mem_append_left _ (List.mem_append_left _ (List.mem_append_left _ (List.mem_append_right _ (List.mem_of_getElem? (i := 58) rfl))))))))))
theorem hw_119 : (Jvm.Cond.methodLink "HistoryJudge$Program" (56 : Nat) ({ cls := "HistoryJudge$Program", name := "branchOf", desc := "(I)I" } : Jvm.MethodName)) ∈ lg := List.mem_append_left _ (List.mem_append_left _ (List.mem_append_left _ (List.mem_append_left _ (List.mem_append_left _ (List.mem_append_left _ (List.mem_append_left _ (List.mem_append_left _ (List.mem_append_left _ (List.mem_append_right _ (List.mem_of_getElem? (i := 59) rfl))))))))))
theorem hw_120 : (Jvm.Cond.instanceMethod ({ cls := "HistoryJudge$Program", name := "branchOf", desc := "(I)I" } : Jvm.MethodName)) ∈ lg := List.mem_append_left _ (List.mem_append_left _ (List.mem_append_left _ (List.mem_append_left _ (List.mem_append_left _ (List.mem_append_left _ (List.mem_append_left _ (List.mem_append_left _ (List.mem_append_right _ (List.mem_of_getElem? (i := 0) rfl)))))))))
theorem hw_121 : (Jvm.Cond.selects "HistoryJudge$Program" ({ cls := "HistoryJudge$Program", name := "branchOf", desc := "(I)I" } : Jvm.MethodName) ({ cls := "HistoryJudge$Program", name := "branchOf", desc := "(I)I" } : Jvm.MethodName)) ∈ lg := List.mem_append_left _ (List.mem_append_left _ (List.mem_append_left _ (List.mem_append_left _ (List.mem_append_left _ (List.mem_append_left _ (List.mem_append_left _ (List.mem_append_left _ (List.mem_append_right _ (List.mem_of_getElem? (i := 1) rfl)))))))))
theorem hw_122 : (Jvm.Cond.code ({ cls := "HistoryJudge$Program", name := "remove", desc := "(I)Z" } : Jvm.MethodName) prog_6_method_13_code (4 : Nat) (Option.some Jvm.ClassFile.FieldType.boolean)) ∈ lg := List.mem_append_left _ (List.mem_append_left _ (List.mem_append_left _ (List.mem_append_left _ (List.mem_append_left _ (List.mem_append_left _ (List.mem_append_left _ (List.mem_append_left _ (List.mem_append_right _ (List.mem_of_getElem? (i := 2) rfl)))))))))
theorem hw_123 : (Jvm.Cond.methodLink "HistoryJudge" (228 : Nat) ({ cls := "HistoryJudge$Program", name := "remove", desc := "(I)Z" } : Jvm.MethodName)) ∈ lg := List.mem_append_left _ (List.mem_append_left _ (List.mem_append_left _ (List.mem_append_left _ (List.mem_append_left _ (List.mem_append_left _ (List.mem_append_left _ (List.mem_append_left _ (List.mem_append_right _ (List.mem_of_getElem? (i := 3) rfl)))))))))
theorem hw_124 : (Jvm.Cond.instanceMethod ({ cls := "HistoryJudge$Program", name := "remove", desc := "(I)Z" } : Jvm.MethodName)) ∈ lg := List.mem_append_left _ (List.mem_append_left _ (List.mem_append_left _ (List.mem_append_left _ (List.mem_append_left _ (List.mem_append_left _ (List.mem_append_left _ (List.mem_append_left _ (List.mem_append_right _ (List.mem_of_getElem? (i := 4) rfl)))))))))
theorem hw_125 : (Jvm.Cond.selects "HistoryJudge$Program" ({ cls := "HistoryJudge$Program", name := "remove", desc := "(I)Z" } : Jvm.MethodName) ({ cls := "HistoryJudge$Program", name := "remove", desc := "(I)Z" } : Jvm.MethodName)) ∈ lg := List.mem_append_left _ (List.mem_append_left _ (List.mem_append_left _ (List.mem_append_left _ (List.mem_append_left _ (List.mem_append_left _ (List.mem_append_left _ (List.mem_append_left _ (List.mem_append_right _ (List.mem_of_getElem? (i := 5) rfl)))))))))
theorem hw_126 : (Jvm.Cond.fieldLink "HistoryJudgeModel" (65 : Nat) "HistoryJudgeModel" "thrown" "I") ∈ lg := List.mem_append_left _ (List.mem_append_left _ (List.mem_append_left _ (List.mem_append_left _ (List.mem_append_left _ (List.mem_append_left _ (List.mem_append_left _ (List.mem_append_left _ (List.mem_append_right _ (List.mem_of_getElem? (i := 6) rfl)))))))))
theorem hw_127 : (Jvm.Cond.fieldLink "HistoryJudgeModel" (7 : Nat) "HistoryJudgeModel" "sizes" "[I") ∈ lg := List.mem_append_left _ (List.mem_append_left _ (List.mem_append_left _ (List.mem_append_left _ (List.mem_append_left _ (List.mem_append_left _ (List.mem_append_left _ (List.mem_append_left _ (List.mem_append_right _ (List.mem_of_getElem? (i := 7) rfl)))))))))
theorem hw_128 : (Jvm.Cond.code ({ cls := "HistoryJudgeModel", name := "branch", desc := "(I)I" } : Jvm.MethodName) prog_9_method_6_code (2 : Nat) (Option.some Jvm.ClassFile.FieldType.int)) ∈ lg := List.mem_append_left _ (List.mem_append_left _ (List.mem_append_left _ (List.mem_append_left _ (List.mem_append_left _ (List.mem_append_left _ (List.mem_append_left _ (List.mem_append_left _ (List.mem_append_right _ (List.mem_of_getElem? (i := 8) rfl)))))))))
theorem hw_129 : (Jvm.Cond.methodLink "HistoryJudgeModel" (69 : Nat) ({ cls := "HistoryJudgeModel", name := "branch", desc := "(I)I" } : Jvm.MethodName)) ∈ lg := List.mem_append_left _ (List.mem_append_left _ (List.mem_append_left _ (List.mem_append_left _ (List.mem_append_left _ (List.mem_append_left _ (List.mem_append_left _ (List.mem_append_left _ (List.mem_append_right _ (List.mem_of_getElem? (i := 9) rfl)))))))))
theorem hw_130 : (Jvm.Cond.instanceMethod ({ cls := "HistoryJudgeModel", name := "branch", desc := "(I)I" } : Jvm.MethodName)) ∈ lg := List.mem_append_left _ (List.mem_append_left _ (List.mem_append_left _ (List.mem_append_left _ (List.mem_append_left _ (List.mem_append_left _ (List.mem_append_left _ (List.mem_append_left _ (List.mem_append_right _ (List.mem_of_getElem? (i := 10) rfl)))))))))
theorem hw_131 : (Jvm.Cond.selects "HistoryJudgeModel" ({ cls := "HistoryJudgeModel", name := "branch", desc := "(I)I" } : Jvm.MethodName) ({ cls := "HistoryJudgeModel", name := "branch", desc := "(I)I" } : Jvm.MethodName)) ∈ lg := List.mem_append_left _ (List.mem_append_left _ (List.mem_append_left _ (List.mem_append_left _ (List.mem_append_left _ (List.mem_append_left _ (List.mem_append_left _ (List.mem_append_left _ (List.mem_append_right _ (List.mem_of_getElem? (i := 11) rfl)))))))))
theorem hw_132 : (Jvm.Cond.initialized "HistoryJudgeModel") ∈ lg := List.mem_append_left _ (List.mem_append_left _ (List.mem_append_left _ (List.mem_append_left _ (List.mem_append_left _ (List.mem_append_left _ (List.mem_append_left _ (List.mem_append_left _ (List.mem_append_right _ (List.mem_of_getElem? (i := 12) rfl)))))))))
theorem hw_133 : (Jvm.Cond.code ({ cls := "HistoryJudgeModel", name := "first", desc := "(I)I" } : Jvm.MethodName) prog_9_method_7_code (2 : Nat) (Option.some Jvm.ClassFile.FieldType.int)) ∈ lg := List.mem_append_left _ (List.mem_append_left _ (List.mem_append_left _ (List.mem_append_left _ (List.mem_append_left _ (List.mem_append_left _ (List.mem_append_left _ (List.mem_append_left _ (List.mem_append_right _ (List.mem_of_getElem? (i := 13) rfl)))))))))
theorem hw_134 : (Jvm.Cond.methodLink "HistoryJudgeModel" (73 : Nat) ({ cls := "HistoryJudgeModel", name := "first", desc := "(I)I" } : Jvm.MethodName)) ∈ lg := List.mem_append_left _ (List.mem_append_left _ (List.mem_append_left _ (List.mem_append_left _ (List.mem_append_left _ (List.mem_append_left _ (List.mem_append_left _ (List.mem_append_left _ (List.mem_append_right _ (List.mem_of_getElem? (i := 14) rfl)))))))))
theorem hw_135 : (Jvm.Cond.instanceMethod ({ cls := "HistoryJudgeModel", name := "first", desc := "(I)I" } : Jvm.MethodName)) ∈ lg := List.mem_append_left _ (List.mem_append_left _ (List.mem_append_left _ (List.mem_append_left _ (List.mem_append_left _ (List.mem_append_left _ (List.mem_append_left _ (List.mem_append_left _ (List.mem_append_right _ (List.mem_of_getElem? (i := 15) rfl)))))))))
theorem hw_136 : (Jvm.Cond.selects "HistoryJudgeModel" ({ cls := "HistoryJudgeModel", name := "first", desc := "(I)I" } : Jvm.MethodName) ({ cls := "HistoryJudgeModel", name := "first", desc := "(I)I" } : Jvm.MethodName)) ∈ lg := List.mem_append_left _ (List.mem_append_left _ (List.mem_append_left _ (List.mem_append_left _ (List.mem_append_left _ (List.mem_append_left _ (List.mem_append_left _ (List.mem_append_left _ (List.mem_append_right _ (List.mem_of_getElem? (i := 16) rfl)))))))))
theorem hw_137 : (Jvm.Cond.fieldLink "HistoryJudgeModel" (16 : Nat) "HistoryJudgeModel" "cell" "[I") ∈ lg := List.mem_append_left _ (List.mem_append_left _ (List.mem_append_left _ (List.mem_append_left _ (List.mem_append_left _ (List.mem_append_left _ (List.mem_append_left _ (List.mem_append_left _ (List.mem_append_right _ (List.mem_of_getElem? (i := 17) rfl)))))))))
theorem hw_138 : (Jvm.Cond.fieldLink "HistoryJudgeModel" (13 : Nat) "HistoryJudgeModel" "kind" "[I") ∈ lg := List.mem_append_left _ (List.mem_append_left _ (List.mem_append_left _ (List.mem_append_left _ (List.mem_append_left _ (List.mem_append_left _ (List.mem_append_left _ (List.mem_append_left _ (List.mem_append_right _ (List.mem_of_getElem? (i := 18) rfl)))))))))
theorem hw_139 : (Jvm.Cond.fieldLink "HistoryJudgeModel" (31 : Nat) "HistoryJudgeModel" "open" "[Z") ∈ lg := List.mem_append_left _ (List.mem_append_left _ (List.mem_append_left _ (List.mem_append_left _ (List.mem_append_left _ (List.mem_append_left _ (List.mem_append_left _ (List.mem_append_left _ (List.mem_append_right _ (List.mem_of_getElem? (i := 19) rfl)))))))))
theorem hw_140 : (Jvm.Cond.code ({ cls := "HistoryJudgeModel", name := "placed", desc := "(II)I" } : Jvm.MethodName) prog_9_method_9_code (6 : Nat) (Option.some Jvm.ClassFile.FieldType.int)) ∈ lg := List.mem_append_left _ (List.mem_append_left _ (List.mem_append_left _ (List.mem_append_left _ (List.mem_append_left _ (List.mem_append_left _ (List.mem_append_left _ (List.mem_append_left _ (List.mem_append_right _ (List.mem_of_getElem? (i := 20) rfl)))))))))
theorem hw_141 : (Jvm.Cond.methodLink "HistoryJudgeModel" (80 : Nat) ({ cls := "HistoryJudgeModel", name := "placed", desc := "(II)I" } : Jvm.MethodName)) ∈ lg := List.mem_append_left _ (List.mem_append_left _ (List.mem_append_left _ (List.mem_append_left _ (List.mem_append_left _ (List.mem_append_left _ (List.mem_append_left _ (List.mem_append_left _ (List.mem_append_right _ (List.mem_of_getElem? (i := 21) rfl)))))))))
theorem hw_142 : (Jvm.Cond.instanceMethod ({ cls := "HistoryJudgeModel", name := "placed", desc := "(II)I" } : Jvm.MethodName)) ∈ lg := List.mem_append_left _ (List.mem_append_left _ (List.mem_append_left _ (List.mem_append_left _ (List.mem_append_left _ (List.mem_append_left _ (List.mem_append_left _ (List.mem_append_left _ (List.mem_append_right _ (List.mem_of_getElem? (i := 22) rfl)))))))))
theorem hw_143 : (Jvm.Cond.selects "HistoryJudgeModel" ({ cls := "HistoryJudgeModel", name := "placed", desc := "(II)I" } : Jvm.MethodName) ({ cls := "HistoryJudgeModel", name := "placed", desc := "(II)I" } : Jvm.MethodName)) ∈ lg := List.mem_append_left _ (List.mem_append_left _ (List.mem_append_left _ (List.mem_append_left _ (List.mem_append_left _ (List.mem_append_left _ (List.mem_append_left _ (List.mem_append_left _ (List.mem_append_right _ (List.mem_of_getElem? (i := 23) rfl)))))))))
theorem hw_144 : (Jvm.Cond.code ({ cls := "HistoryJudgeModel", name := "finds", desc := "(I)Z" } : Jvm.MethodName) prog_9_method_11_code (4 : Nat) (Option.some Jvm.ClassFile.FieldType.boolean)) ∈ lg := List.mem_append_left _ (List.mem_append_left _ (List.mem_append_left _ (List.mem_append_left _ (List.mem_append_left _ (List.mem_append_left _ (List.mem_append_left _ (List.mem_append_left _ (List.mem_append_right _ (List.mem_of_getElem? (i := 24) rfl)))))))))
theorem hw_145 : (Jvm.Cond.methodLink "HistoryJudgeModel" (76 : Nat) ({ cls := "HistoryJudgeModel", name := "finds", desc := "(I)Z" } : Jvm.MethodName)) ∈ lg := List.mem_append_left _ (List.mem_append_left _ (List.mem_append_left _ (List.mem_append_left _ (List.mem_append_left _ (List.mem_append_left _ (List.mem_append_left _ (List.mem_append_left _ (List.mem_append_right _ (List.mem_of_getElem? (i := 25) rfl)))))))))
theorem hw_146 : (Jvm.Cond.instanceMethod ({ cls := "HistoryJudgeModel", name := "finds", desc := "(I)Z" } : Jvm.MethodName)) ∈ lg := List.mem_append_left _ (List.mem_append_left _ (List.mem_append_left _ (List.mem_append_left _ (List.mem_append_left _ (List.mem_append_left _ (List.mem_append_left _ (List.mem_append_left _ (List.mem_append_right _ (List.mem_of_getElem? (i := 26) rfl)))))))))
theorem hw_147 : (Jvm.Cond.selects "HistoryJudgeModel" ({ cls := "HistoryJudgeModel", name := "finds", desc := "(I)Z" } : Jvm.MethodName) ({ cls := "HistoryJudgeModel", name := "finds", desc := "(I)Z" } : Jvm.MethodName)) ∈ lg := List.mem_append_left _ (List.mem_append_left _ (List.mem_append_left _ (List.mem_append_left _ (List.mem_append_left _ (List.mem_append_left _ (List.mem_append_left _ (List.mem_append_left _ (List.mem_append_right _ (List.mem_of_getElem? (i := 27) rfl)))))))))
theorem hw_148 : (Jvm.Cond.code ({ cls := "HistoryJudgeModel", name := "many", desc := "()I" } : Jvm.MethodName) prog_9_method_5_code (1 : Nat) (Option.some Jvm.ClassFile.FieldType.int)) ∈ lg := List.mem_append_left _ (List.mem_append_left _ (List.mem_append_left _ (List.mem_append_left _ (List.mem_append_left _ (List.mem_append_left _ (List.mem_append_left _ (List.mem_append_left _ (List.mem_append_right _ (List.mem_of_getElem? (i := 28) rfl)))))))))
theorem hw_149 : (Jvm.Cond.methodLink "HistoryJudgeModel" (84 : Nat) ({ cls := "HistoryJudgeModel", name := "many", desc := "()I" } : Jvm.MethodName)) ∈ lg := List.mem_append_left _ (List.mem_append_left _ (List.mem_append_left _ (List.mem_append_left _ (List.mem_append_left _ (List.mem_append_left _ (List.mem_append_left _ (List.mem_append_left _ (List.mem_append_right _ (List.mem_of_getElem? (i := 29) rfl)))))))))
theorem hw_150 : (Jvm.Cond.instanceMethod ({ cls := "HistoryJudgeModel", name := "many", desc := "()I" } : Jvm.MethodName)) ∈ lg := List.mem_append_left _ (List.mem_append_left _ (List.mem_append_left _ (List.mem_append_left _ (List.mem_append_left _ (List.mem_append_left _ (List.mem_append_left _ (List.mem_append_left _ (List.mem_append_right _ (List.mem_of_getElem? (i := 30) rfl)))))))))
theorem hw_151 : (Jvm.Cond.selects "HistoryJudgeModel" ({ cls := "HistoryJudgeModel", name := "many", desc := "()I" } : Jvm.MethodName) ({ cls := "HistoryJudgeModel", name := "many", desc := "()I" } : Jvm.MethodName)) ∈ lg := List.mem_append_left _ (List.mem_append_left _ (List.mem_append_left _ (List.mem_append_left _ (List.mem_append_left _ (List.mem_append_left _ (List.mem_append_left _ (List.mem_append_left _ (List.mem_append_right _ (List.mem_of_getElem? (i := 31) rfl)))))))))
theorem hw_152 : (Jvm.Cond.code ({ cls := "HistoryJudgeModel", name := "isOrder", desc := "(I)Z" } : Jvm.MethodName) prog_9_method_10_code (4 : Nat) (Option.some Jvm.ClassFile.FieldType.boolean)) ∈ lg := List.mem_append_left _ (List.mem_append_left _ (List.mem_append_left _ (List.mem_append_left _ (List.mem_append_left _ (List.mem_append_left _ (List.mem_append_left _ (List.mem_append_left _ (List.mem_append_right _ (List.mem_of_getElem? (i := 32) rfl)))))))))
theorem hw_153 : (Jvm.Cond.methodLink "HistoryJudgeModel" (92 : Nat) ({ cls := "HistoryJudgeModel", name := "isOrder", desc := "(I)Z" } : Jvm.MethodName)) ∈ lg := List.mem_append_left _ (List.mem_append_left _ (List.mem_append_left _ (List.mem_append_left _ (List.mem_append_left _ (List.mem_append_left _ (List.mem_append_left _ (List.mem_append_left _ (List.mem_append_right _ (List.mem_of_getElem? (i := 33) rfl)))))))))
theorem hw_154 : (Jvm.Cond.instanceMethod ({ cls := "HistoryJudgeModel", name := "isOrder", desc := "(I)Z" } : Jvm.MethodName)) ∈ lg := List.mem_append_left _ (List.mem_append_left _ (List.mem_append_left _ (List.mem_append_left _ (List.mem_append_left _ (List.mem_append_left _ (List.mem_append_left _ (List.mem_append_left _ (List.mem_append_right _ (List.mem_of_getElem? (i := 34) rfl)))))))))
theorem hw_155 : (Jvm.Cond.selects "HistoryJudgeModel" ({ cls := "HistoryJudgeModel", name := "isOrder", desc := "(I)Z" } : Jvm.MethodName) ({ cls := "HistoryJudgeModel", name := "isOrder", desc := "(I)Z" } : Jvm.MethodName)) ∈ lg := List.mem_append_left _ (List.mem_append_left _ (List.mem_append_left _ (List.mem_append_left _ (List.mem_append_left _ (List.mem_append_left _ (List.mem_append_left _ (List.mem_append_left _ (List.mem_append_right _ (List.mem_of_getElem? (i := 35) rfl)))))))))
theorem hw_156 : (Jvm.Cond.code ({ cls := "HistoryJudgeModel", name := "fits", desc := "(I)Z" } : Jvm.MethodName) prog_9_method_12_code (4 : Nat) (Option.some Jvm.ClassFile.FieldType.boolean)) ∈ lg := List.mem_append_left _ (List.mem_append_left _ (List.mem_append_left _ (List.mem_append_left _ (List.mem_append_left _ (List.mem_append_left _ (List.mem_append_left _ (List.mem_append_left _ (List.mem_append_right _ (List.mem_of_getElem? (i := 36) rfl)))))))))
theorem hw_157 : (Jvm.Cond.methodLink "HistoryJudgeModel" (95 : Nat) ({ cls := "HistoryJudgeModel", name := "fits", desc := "(I)Z" } : Jvm.MethodName)) ∈ lg := List.mem_append_left _ (List.mem_append_left _ (List.mem_append_left _ (List.mem_append_left _ (List.mem_append_left _ (List.mem_append_left _ (List.mem_append_left _ (List.mem_append_left _ (List.mem_append_right _ (List.mem_of_getElem? (i := 37) rfl)))))))))
theorem hw_158 : (Jvm.Cond.instanceMethod ({ cls := "HistoryJudgeModel", name := "fits", desc := "(I)Z" } : Jvm.MethodName)) ∈ lg := List.mem_append_left _ (List.mem_append_left _ (List.mem_append_left _ (List.mem_append_left _ (List.mem_append_left _ (List.mem_append_left _ (List.mem_append_left _ (List.mem_append_left _ (List.mem_append_right _ (List.mem_of_getElem? (i := 38) rfl)))))))))
theorem hw_159 : (Jvm.Cond.selects "HistoryJudgeModel" ({ cls := "HistoryJudgeModel", name := "fits", desc := "(I)Z" } : Jvm.MethodName) ({ cls := "HistoryJudgeModel", name := "fits", desc := "(I)Z" } : Jvm.MethodName)) ∈ lg := List.mem_append_left _ (List.mem_append_left _ (List.mem_append_left _ (List.mem_append_left _ (List.mem_append_left _ (List.mem_append_left _ (List.mem_append_left _ (List.mem_append_left _ (List.mem_append_right _ (List.mem_of_getElem? (i := 39) rfl)))))))))
theorem hw_160 : (Jvm.Cond.fieldLink "HistoryJudgeModel" (19 : Nat) "HistoryJudgeModel" "argument" "[I") ∈ lg := List.mem_append_left _ (List.mem_append_left _ (List.mem_append_left _ (List.mem_append_left _ (List.mem_append_left _ (List.mem_append_left _ (List.mem_append_left _ (List.mem_append_left _ (List.mem_append_right _ (List.mem_of_getElem? (i := 40) rfl)))))))))
theorem hw_161 : (Jvm.Cond.code ({ cls := "HistoryJudgeModel", name := "mayStand", desc := "(III)Z" } : Jvm.MethodName) prog_9_method_8_code (4 : Nat) (Option.some Jvm.ClassFile.FieldType.boolean)) ∈ lg := List.mem_append_left _ (List.mem_append_left _ (List.mem_append_left _ (List.mem_append_left _ (List.mem_append_left _ (List.mem_append_left _ (List.mem_append_left _ (List.mem_append_left _ (List.mem_append_right _ (List.mem_of_getElem? (i := 41) rfl)))))))))
theorem hw_162 : (Jvm.Cond.methodLink "HistoryJudgeModel" (88 : Nat) ({ cls := "HistoryJudgeModel", name := "mayStand", desc := "(III)Z" } : Jvm.MethodName)) ∈ lg := List.mem_append_left _ (List.mem_append_left _ (List.mem_append_left _ (List.mem_append_left _ (List.mem_append_left _ (List.mem_append_left _ (List.mem_append_left _ (List.mem_append_left _ (List.mem_append_right _ (List.mem_of_getElem? (i := 42) rfl)))))))))
theorem hw_163 : (Jvm.Cond.instanceMethod ({ cls := "HistoryJudgeModel", name := "mayStand", desc := "(III)Z" } : Jvm.MethodName)) ∈ lg := List.mem_append_left _ (List.mem_append_left _ (List.mem_append_left _ (List.mem_append_left _ (List.mem_append_left _ (List.mem_append_left _ (List.mem_append_left _ (List.mem_append_left _ (List.mem_append_right _ (List.mem_of_getElem? (i := 43) rfl)))))))))
theorem hw_164 : (Jvm.Cond.selects "HistoryJudgeModel" ({ cls := "HistoryJudgeModel", name := "mayStand", desc := "(III)Z" } : Jvm.MethodName) ({ cls := "HistoryJudgeModel", name := "mayStand", desc := "(III)Z" } : Jvm.MethodName)) ∈ lg := List.mem_append_left _ (List.mem_append_left _ (List.mem_append_left _ (List.mem_append_left _ (List.mem_append_left _ (List.mem_append_left _ (List.mem_append_left _ (List.mem_append_left _ (List.mem_append_right _ (List.mem_of_getElem? (i := 44) rfl)))))))))
theorem hw_165 : (Jvm.Cond.fieldLink "HistoryJudgeModel" (25 : Nat) "HistoryJudgeModel" "kept" "[I") ∈ lg := List.mem_append_left _ (List.mem_append_left _ (List.mem_append_left _ (List.mem_append_left _ (List.mem_append_left _ (List.mem_append_left _ (List.mem_append_left _ (List.mem_append_left _ (List.mem_append_right _ (List.mem_of_getElem? (i := 45) rfl)))))))))
theorem hw_166 : (Jvm.Cond.fieldLink "HistoryJudgeModel" (22 : Nat) "HistoryJudgeModel" "keptSizes" "[I") ∈ lg := List.mem_append_left _ (List.mem_append_left _ (List.mem_append_left _ (List.mem_append_left _ (List.mem_append_left _ (List.mem_append_left _ (List.mem_append_left _ (List.mem_append_left _ (List.mem_append_right _ (List.mem_of_getElem? (i := 46) rfl)))))))))
theorem hw_167 : (Jvm.Cond.code ({ cls := "HistoryJudgeModel", name := "copy", desc := "(II)V" } : Jvm.MethodName) prog_9_method_16_code (3 : Nat) (Option.none : Option Jvm.ClassFile.FieldType)) ∈ lg := List.mem_append_left _ (List.mem_append_left _ (List.mem_append_left _ (List.mem_append_left _ (List.mem_append_left _ (List.mem_append_left _ (List.mem_append_left _ (List.mem_append_left _ (List.mem_append_right _ (List.mem_of_getElem? (i := 47) rfl)))))))))
theorem hw_168 : (Jvm.Cond.methodLink "HistoryJudgeModel" (98 : Nat) ({ cls := "HistoryJudgeModel", name := "copy", desc := "(II)V" } : Jvm.MethodName)) ∈ lg := List.mem_append_left _ (List.mem_append_left _ (List.mem_append_left _ (List.mem_append_left _ (List.mem_append_left _ (List.mem_append_left _ (List.mem_append_left _ (List.mem_append_left _ (List.mem_append_right _ (List.mem_of_getElem? (i := 48) rfl)))))))))
theorem hw_169 : (Jvm.Cond.instanceMethod ({ cls := "HistoryJudgeModel", name := "copy", desc := "(II)V" } : Jvm.MethodName)) ∈ lg := List.mem_append_left _ (List.mem_append_left _ (List.mem_append_left _ (List.mem_append_left _ (List.mem_append_left _ (List.mem_append_left _ (List.mem_append_left _ (List.mem_append_left _ (List.mem_append_right _ (List.mem_of_getElem? (i := 49) rfl)))))))))
theorem hw_170 : (Jvm.Cond.selects "HistoryJudgeModel" ({ cls := "HistoryJudgeModel", name := "copy", desc := "(II)V" } : Jvm.MethodName) ({ cls := "HistoryJudgeModel", name := "copy", desc := "(II)V" } : Jvm.MethodName)) ∈ lg := List.mem_append_left _ (List.mem_append_left _ (List.mem_append_left _ (List.mem_append_left _ (List.mem_append_left _ (List.mem_append_left _ (List.mem_append_left _ (List.mem_append_left _ (List.mem_append_right _ (List.mem_of_getElem? (i := 50) rfl)))))))))
theorem hw_171 : (Jvm.Cond.code ({ cls := "HistoryJudgeModel", name := "within", desc := "(III)Z" } : Jvm.MethodName) prog_9_method_4_code (3 : Nat) (Option.some Jvm.ClassFile.FieldType.boolean)) ∈ lg := List.mem_append_left _ (List.mem_append_left _ (List.mem_append_left _ (List.mem_append_left _ (List.mem_append_left _ (List.mem_append_left _ (List.mem_append_left _ (List.mem_append_left _ (List.mem_append_right _ (List.mem_of_getElem? (i := 51) rfl)))))))))
theorem hw_172 : (Jvm.Cond.methodLink "HistoryJudgeModel" (102 : Nat) ({ cls := "HistoryJudgeModel", name := "within", desc := "(III)Z" } : Jvm.MethodName)) ∈ lg := List.mem_append_left _ (List.mem_append_left _ (List.mem_append_left _ (List.mem_append_left _ (List.mem_append_left _ (List.mem_append_left _ (List.mem_append_left _ (List.mem_append_left _ (List.mem_append_right _ (List.mem_of_getElem? (i := 52) rfl)))))))))
theorem hw_173 : (Jvm.Cond.static ({ cls := "HistoryJudgeModel", name := "within", desc := "(III)Z" } : Jvm.MethodName)) ∈ lg := List.mem_append_left _ (List.mem_append_left _ (List.mem_append_left _ (List.mem_append_left _ (List.mem_append_left _ (List.mem_append_left _ (List.mem_append_left _ (List.mem_append_left _ (List.mem_append_right _ (List.mem_of_getElem? (i := 53) rfl)))))))))
theorem hw_174 : (Jvm.Cond.code ({ cls := "HistoryJudgeModel", name := "fail", desc := "(I)I" } : Jvm.MethodName) prog_9_method_3_code (2 : Nat) (Option.some Jvm.ClassFile.FieldType.int)) ∈ lg := List.mem_append_left _ (List.mem_append_left _ (List.mem_append_left _ (List.mem_append_left _ (List.mem_append_left _ (List.mem_append_left _ (List.mem_append_left _ (List.mem_append_left _ (List.mem_append_right _ (List.mem_of_getElem? (i := 54) rfl)))))))))
theorem hw_175 : (Jvm.Cond.methodLink "HistoryJudgeModel" (105 : Nat) ({ cls := "HistoryJudgeModel", name := "fail", desc := "(I)I" } : Jvm.MethodName)) ∈ lg := List.mem_append_left _ (List.mem_append_left _ (List.mem_append_left _ (List.mem_append_left _ (List.mem_append_left _ (List.mem_append_left _ (List.mem_append_left _ (List.mem_append_left _ (List.mem_append_right _ (List.mem_of_getElem? (i := 55) rfl)))))))))
theorem hw_176 : (Jvm.Cond.instanceMethod ({ cls := "HistoryJudgeModel", name := "fail", desc := "(I)I" } : Jvm.MethodName)) ∈ lg := List.mem_append_left _ (List.mem_append_left _ (List.mem_append_left _ (List.mem_append_left _ (List.mem_append_left _ (List.mem_append_left _ (List.mem_append_left _ (List.mem_append_left _ (List.mem_append_right _ (List.mem_of_getElem? (i := 56) rfl)))))))))
theorem hw_177 : (Jvm.Cond.selects "HistoryJudgeModel" ({ cls := "HistoryJudgeModel", name := "fail", desc := "(I)I" } : Jvm.MethodName) ({ cls := "HistoryJudgeModel", name := "fail", desc := "(I)I" } : Jvm.MethodName)) ∈ lg := List.mem_append_left _ (List.mem_append_left _ (List.mem_append_left _ (List.mem_append_left _ (List.mem_append_left _ (List.mem_append_left _ (List.mem_append_left _ (List.mem_append_left _ (List.mem_append_right _ (List.mem_of_getElem? (i := 57) rfl)))))))))
theorem hw_178 : (Jvm.Cond.code ({ cls := "HistoryJudgeModel", name := "keep", desc := "()V" } : Jvm.MethodName) prog_9_method_14_code (2 : Nat) (Option.none : Option Jvm.ClassFile.FieldType)) ∈ lg := List.mem_append_left _ (List.mem_append_left _ (List.mem_append_left _ (List.mem_append_left _ (List.mem_append_left _ (List.mem_append_left _ (List.mem_append_left _ (List.mem_append_left _ (List.mem_append_right _ (List.mem_of_getElem? (i := 58) rfl)))))))))
theorem hw_179 : (Jvm.Cond.methodLink "HistoryJudgeModel" (108 : Nat) ({ cls := "HistoryJudgeModel", name := "keep", desc := "()V" } : Jvm.MethodName)) ∈ lg := List.mem_append_left _ (List.mem_append_left _ (List.mem_append_left _ (List.mem_append_left _ (List.mem_append_left _ (List.mem_append_left _ (List.mem_append_left _ (List.mem_append_left _ (List.mem_append_right _ (List.mem_of_getElem? (i := 59) rfl)))))))))
theorem hw_180 : (Jvm.Cond.instanceMethod ({ cls := "HistoryJudgeModel", name := "keep", desc := "()V" } : Jvm.MethodName)) ∈ lg := List.mem_append_left _ (List.mem_append_left _ (List.mem_append_left _ (List.mem_append_left _ (List.mem_append_left _ (List.mem_append_left _ (List.mem_append_left _ (List.mem_append_right _ (List.mem_of_getElem? (i := 0) rfl))))))))
theorem hw_181 : (Jvm.Cond.selects "HistoryJudgeModel" ({ cls := "HistoryJudgeModel", name := "keep", desc := "()V" } : Jvm.MethodName) ({ cls := "HistoryJudgeModel", name := "keep", desc := "()V" } : Jvm.MethodName)) ∈ lg := List.mem_append_left _ (List.mem_append_left _ (List.mem_append_left _ (List.mem_append_left _ (List.mem_append_left _ (List.mem_append_left _ (List.mem_append_left _ (List.mem_append_right _ (List.mem_of_getElem? (i := 1) rfl))))))))
theorem hw_182 : (Jvm.Cond.code ({ cls := "HistoryJudgeModel", name := "insert", desc := "(IIII)I" } : Jvm.MethodName) prog_9_method_17_code (7 : Nat) (Option.some Jvm.ClassFile.FieldType.int)) ∈ lg := List.mem_append_left _ (List.mem_append_left _ (List.mem_append_left _ (List.mem_append_left _ (List.mem_append_left _ (List.mem_append_left _ (List.mem_append_left _ (List.mem_append_right _ (List.mem_of_getElem? (i := 2) rfl))))))))
theorem hw_183 : (Jvm.Cond.methodLink "HistoryJudgeModel" (111 : Nat) ({ cls := "HistoryJudgeModel", name := "insert", desc := "(IIII)I" } : Jvm.MethodName)) ∈ lg := List.mem_append_left _ (List.mem_append_left _ (List.mem_append_left _ (List.mem_append_left _ (List.mem_append_left _ (List.mem_append_left _ (List.mem_append_left _ (List.mem_append_right _ (List.mem_of_getElem? (i := 3) rfl))))))))
theorem hw_184 : (Jvm.Cond.instanceMethod ({ cls := "HistoryJudgeModel", name := "insert", desc := "(IIII)I" } : Jvm.MethodName)) ∈ lg := List.mem_append_left _ (List.mem_append_left _ (List.mem_append_left _ (List.mem_append_left _ (List.mem_append_left _ (List.mem_append_left _ (List.mem_append_left _ (List.mem_append_right _ (List.mem_of_getElem? (i := 4) rfl))))))))
theorem hw_185 : (Jvm.Cond.selects "HistoryJudgeModel" ({ cls := "HistoryJudgeModel", name := "insert", desc := "(IIII)I" } : Jvm.MethodName) ({ cls := "HistoryJudgeModel", name := "insert", desc := "(IIII)I" } : Jvm.MethodName)) ∈ lg := List.mem_append_left _ (List.mem_append_left _ (List.mem_append_left _ (List.mem_append_left _ (List.mem_append_left _ (List.mem_append_left _ (List.mem_append_left _ (List.mem_append_right _ (List.mem_of_getElem? (i := 5) rfl))))))))
theorem hw_186 : (Jvm.Cond.code ({ cls := "HistoryJudgeModel", name := "valid", desc := "()Z" } : Jvm.MethodName) prog_9_method_13_code (4 : Nat) (Option.some Jvm.ClassFile.FieldType.boolean)) ∈ lg := List.mem_append_left _ (List.mem_append_left _ (List.mem_append_left _ (List.mem_append_left _ (List.mem_append_left _ (List.mem_append_left _ (List.mem_append_left _ (List.mem_append_right _ (List.mem_of_getElem? (i := 6) rfl))))))))
theorem hw_187 : (Jvm.Cond.methodLink "HistoryJudgeModel" (115 : Nat) ({ cls := "HistoryJudgeModel", name := "valid", desc := "()Z" } : Jvm.MethodName)) ∈ lg := List.mem_append_left _ (List.mem_append_left _ (List.mem_append_left _ (List.mem_append_left _ (List.mem_append_left _ (List.mem_append_left _ (List.mem_append_left _ (List.mem_append_right _ (List.mem_of_getElem? (i := 7) rfl))))))))
theorem hw_188 : (Jvm.Cond.instanceMethod ({ cls := "HistoryJudgeModel", name := "valid", desc := "()Z" } : Jvm.MethodName)) ∈ lg := List.mem_append_left _ (List.mem_append_left _ (List.mem_append_left _ (List.mem_append_left _ (List.mem_append_left _ (List.mem_append_left _ (List.mem_append_left _ (List.mem_append_right _ (List.mem_of_getElem? (i := 8) rfl))))))))
theorem hw_189 : (Jvm.Cond.selects "HistoryJudgeModel" ({ cls := "HistoryJudgeModel", name := "valid", desc := "()Z" } : Jvm.MethodName) ({ cls := "HistoryJudgeModel", name := "valid", desc := "()Z" } : Jvm.MethodName)) ∈ lg := List.mem_append_left _ (List.mem_append_left _ (List.mem_append_left _ (List.mem_append_left _ (List.mem_append_left _ (List.mem_append_left _ (List.mem_append_left _ (List.mem_append_right _ (List.mem_of_getElem? (i := 9) rfl))))))))
theorem hw_190 : (Jvm.Cond.fieldLink "HistoryJudgeModel" (122 : Nat) "HistoryJudgeModel" "ran" "Z") ∈ lg := List.mem_append_left _ (List.mem_append_left _ (List.mem_append_left _ (List.mem_append_left _ (List.mem_append_left _ (List.mem_append_left _ (List.mem_append_left _ (List.mem_append_right _ (List.mem_of_getElem? (i := 10) rfl))))))))
theorem hw_191 : (Jvm.Cond.code ({ cls := "HistoryJudgeModel", name := "putBack", desc := "()V" } : Jvm.MethodName) prog_9_method_15_code (2 : Nat) (Option.none : Option Jvm.ClassFile.FieldType)) ∈ lg := List.mem_append_left _ (List.mem_append_left _ (List.mem_append_left _ (List.mem_append_left _ (List.mem_append_left _ (List.mem_append_left _ (List.mem_append_left _ (List.mem_append_right _ (List.mem_of_getElem? (i := 11) rfl))))))))
theorem hw_192 : (Jvm.Cond.methodLink "HistoryJudgeModel" (119 : Nat) ({ cls := "HistoryJudgeModel", name := "putBack", desc := "()V" } : Jvm.MethodName)) ∈ lg := List.mem_append_left _ (List.mem_append_left _ (List.mem_append_left _ (List.mem_append_left _ (List.mem_append_left _ (List.mem_append_left _ (List.mem_append_left _ (List.mem_append_right _ (List.mem_of_getElem? (i := 12) rfl))))))))
theorem hw_193 : (Jvm.Cond.instanceMethod ({ cls := "HistoryJudgeModel", name := "putBack", desc := "()V" } : Jvm.MethodName)) ∈ lg := List.mem_append_left _ (List.mem_append_left _ (List.mem_append_left _ (List.mem_append_left _ (List.mem_append_left _ (List.mem_append_left _ (List.mem_append_left _ (List.mem_append_right _ (List.mem_of_getElem? (i := 13) rfl))))))))
theorem hw_194 : (Jvm.Cond.selects "HistoryJudgeModel" ({ cls := "HistoryJudgeModel", name := "putBack", desc := "()V" } : Jvm.MethodName) ({ cls := "HistoryJudgeModel", name := "putBack", desc := "()V" } : Jvm.MethodName)) ∈ lg := List.mem_append_left _ (List.mem_append_left _ (List.mem_append_left _ (List.mem_append_left _ (List.mem_append_left _ (List.mem_append_left _ (List.mem_append_left _ (List.mem_append_right _ (List.mem_of_getElem? (i := 14) rfl))))))))
theorem hw_195 : (Jvm.Cond.fieldLink "HistoryJudgeModel" (126 : Nat) "HistoryJudgeModel" "g" "J") ∈ lg := List.mem_append_left _ (List.mem_append_left _ (List.mem_append_left _ (List.mem_append_left _ (List.mem_append_left _ (List.mem_append_left _ (List.mem_append_left _ (List.mem_append_right _ (List.mem_of_getElem? (i := 15) rfl))))))))
theorem hw_196 : (Jvm.Cond.constantLong "HistoryJudgeModel" (130 : Nat) (6364136223846793005 : Int64)) ∈ lg := List.mem_append_left _ (List.mem_append_left _ (List.mem_append_left _ (List.mem_append_left _ (List.mem_append_left _ (List.mem_append_left _ (List.mem_append_left _ (List.mem_append_right _ (List.mem_of_getElem? (i := 16) rfl))))))))
theorem hw_197 : (Jvm.Cond.constantLong "HistoryJudgeModel" (132 : Nat) (1442695040888963407 : Int64)) ∈ lg := List.mem_append_left _ (List.mem_append_left _ (List.mem_append_left _ (List.mem_append_left _ (List.mem_append_left _ (List.mem_append_left _ (List.mem_append_left _ (List.mem_append_right _ (List.mem_of_getElem? (i := 17) rfl))))))))
theorem hw_198 : (Jvm.Cond.code ({ cls := "HistoryJudgeModel", name := "drawn", desc := "(I)I" } : Jvm.MethodName) prog_9_method_22_code (2 : Nat) (Option.some Jvm.ClassFile.FieldType.int)) ∈ lg := List.mem_append_left _ (List.mem_append_left _ (List.mem_append_left _ (List.mem_append_left _ (List.mem_append_left _ (List.mem_append_left _ (List.mem_append_left _ (List.mem_append_right _ (List.mem_of_getElem? (i := 18) rfl))))))))
theorem hw_199 : (Jvm.Cond.methodLink "HistoryJudgeModel" (134 : Nat) ({ cls := "HistoryJudgeModel", name := "drawn", desc := "(I)I" } : Jvm.MethodName)) ∈ lg := List.mem_append_left _ (List.mem_append_left _ (List.mem_append_left _ (List.mem_append_left _ (List.mem_append_left _ (List.mem_append_left _ (List.mem_append_left _ (List.mem_append_right _ (List.mem_of_getElem? (i := 19) rfl))))))))
theorem hw_200 : (Jvm.Cond.instanceMethod ({ cls := "HistoryJudgeModel", name := "drawn", desc := "(I)I" } : Jvm.MethodName)) ∈ lg := List.mem_append_left _ (List.mem_append_left _ (List.mem_append_left _ (List.mem_append_left _ (List.mem_append_left _ (List.mem_append_left _ (List.mem_append_left _ (List.mem_append_right _ (List.mem_of_getElem? (i := 20) rfl))))))))
theorem hw_201 : (Jvm.Cond.selects "HistoryJudgeModel" ({ cls := "HistoryJudgeModel", name := "drawn", desc := "(I)I" } : Jvm.MethodName) ({ cls := "HistoryJudgeModel", name := "drawn", desc := "(I)I" } : Jvm.MethodName)) ∈ lg := List.mem_append_left _ (List.mem_append_left _ (List.mem_append_left _ (List.mem_append_left _ (List.mem_append_left _ (List.mem_append_left _ (List.mem_append_left _ (List.mem_append_right _ (List.mem_of_getElem? (i := 21) rfl))))))))
theorem hw_202 : (Jvm.Cond.code ({ cls := "HistoryJudgeModel", name := "before", desc := "(III)I" } : Jvm.MethodName) prog_9_method_24_code (6 : Nat) (Option.some Jvm.ClassFile.FieldType.int)) ∈ lg := List.mem_append_left _ (List.mem_append_left _ (List.mem_append_left _ (List.mem_append_left _ (List.mem_append_left _ (List.mem_append_left _ (List.mem_append_left _ (List.mem_append_right _ (List.mem_of_getElem? (i := 22) rfl))))))))
theorem hw_203 : (Jvm.Cond.methodLink "HistoryJudgeModel" (137 : Nat) ({ cls := "HistoryJudgeModel", name := "before", desc := "(III)I" } : Jvm.MethodName)) ∈ lg := List.mem_append_left _ (List.mem_append_left _ (List.mem_append_left _ (List.mem_append_left _ (List.mem_append_left _ (List.mem_append_left _ (List.mem_append_left _ (List.mem_append_right _ (List.mem_of_getElem? (i := 23) rfl))))))))
theorem hw_204 : (Jvm.Cond.instanceMethod ({ cls := "HistoryJudgeModel", name := "before", desc := "(III)I" } : Jvm.MethodName)) ∈ lg := List.mem_append_left _ (List.mem_append_left _ (List.mem_append_left _ (List.mem_append_left _ (List.mem_append_left _ (List.mem_append_left _ (List.mem_append_left _ (List.mem_append_right _ (List.mem_of_getElem? (i := 24) rfl))))))))
theorem hw_205 : (Jvm.Cond.selects "HistoryJudgeModel" ({ cls := "HistoryJudgeModel", name := "before", desc := "(III)I" } : Jvm.MethodName) ({ cls := "HistoryJudgeModel", name := "before", desc := "(III)I" } : Jvm.MethodName)) ∈ lg := List.mem_append_left _ (List.mem_append_left _ (List.mem_append_left _ (List.mem_append_left _ (List.mem_append_left _ (List.mem_append_left _ (List.mem_append_left _ (List.mem_append_right _ (List.mem_of_getElem? (i := 25) rfl))))))))
theorem hw_206 : (Jvm.Cond.code ({ cls := "HistoryJudgeModel", name := "clear", desc := "()I" } : Jvm.MethodName) prog_9_method_21_code (3 : Nat) (Option.some Jvm.ClassFile.FieldType.int)) ∈ lg := List.mem_append_left _ (List.mem_append_left _ (List.mem_append_left _ (List.mem_append_left _ (List.mem_append_left _ (List.mem_append_left _ (List.mem_append_left _ (List.mem_append_right _ (List.mem_of_getElem? (i := 26) rfl))))))))
theorem hw_207 : (Jvm.Cond.methodLink "HistoryJudgeModel" (141 : Nat) ({ cls := "HistoryJudgeModel", name := "clear", desc := "()I" } : Jvm.MethodName)) ∈ lg := List.mem_append_left _ (List.mem_append_left _ (List.mem_append_left _ (List.mem_append_left _ (List.mem_append_left _ (List.mem_append_left _ (List.mem_append_left _ (List.mem_append_right _ (List.mem_of_getElem? (i := 27) rfl))))))))
theorem hw_208 : (Jvm.Cond.instanceMethod ({ cls := "HistoryJudgeModel", name := "clear", desc := "()I" } : Jvm.MethodName)) ∈ lg := List.mem_append_left _ (List.mem_append_left _ (List.mem_append_left _ (List.mem_append_left _ (List.mem_append_left _ (List.mem_append_left _ (List.mem_append_left _ (List.mem_append_right _ (List.mem_of_getElem? (i := 28) rfl))))))))
theorem hw_209 : (Jvm.Cond.selects "HistoryJudgeModel" ({ cls := "HistoryJudgeModel", name := "clear", desc := "()I" } : Jvm.MethodName) ({ cls := "HistoryJudgeModel", name := "clear", desc := "()I" } : Jvm.MethodName)) ∈ lg := List.mem_append_left _ (List.mem_append_left _ (List.mem_append_left _ (List.mem_append_left _ (List.mem_append_left _ (List.mem_append_left _ (List.mem_append_left _ (List.mem_append_right _ (List.mem_of_getElem? (i := 29) rfl))))))))
theorem hw_210 : (Jvm.Cond.code ({ cls := "HistoryJudgeModel", name := "tried", desc := "(I)V" } : Jvm.MethodName) prog_9_method_23_code (12 : Nat) (Option.none : Option Jvm.ClassFile.FieldType)) ∈ lg := List.mem_append_left _ (List.mem_append_left _ (List.mem_append_left _ (List.mem_append_left _ (List.mem_append_left _ (List.mem_append_left _ (List.mem_append_left _ (List.mem_append_right _ (List.mem_of_getElem? (i := 30) rfl))))))))
theorem hw_211 : (Jvm.Cond.methodLink "HistoryJudgeModel" (144 : Nat) ({ cls := "HistoryJudgeModel", name := "tried", desc := "(I)V" } : Jvm.MethodName)) ∈ lg := List.mem_append_left _ (List.mem_append_left _ (List.mem_append_left _ (List.mem_append_left _ (List.mem_append_left _ (List.mem_append_left _ (List.mem_append_left _ (List.mem_append_right _ (List.mem_of_getElem? (i := 31) rfl))))))))
theorem hw_212 : (Jvm.Cond.instanceMethod ({ cls := "HistoryJudgeModel", name := "tried", desc := "(I)V" } : Jvm.MethodName)) ∈ lg := List.mem_append_left _ (List.mem_append_left _ (List.mem_append_left _ (List.mem_append_left _ (List.mem_append_left _ (List.mem_append_left _ (List.mem_append_left _ (List.mem_append_right _ (List.mem_of_getElem? (i := 32) rfl))))))))
theorem hw_213 : (Jvm.Cond.selects "HistoryJudgeModel" ({ cls := "HistoryJudgeModel", name := "tried", desc := "(I)V" } : Jvm.MethodName) ({ cls := "HistoryJudgeModel", name := "tried", desc := "(I)V" } : Jvm.MethodName)) ∈ lg := List.mem_append_left _ (List.mem_append_left _ (List.mem_append_left _ (List.mem_append_left _ (List.mem_append_left _ (List.mem_append_left _ (List.mem_append_left _ (List.mem_append_right _ (List.mem_of_getElem? (i := 33) rfl))))))))
theorem hw_214 : (Jvm.Cond.fieldLink "HistoryJudgeModel" (148 : Nat) "HistoryJudgeModel" "flaws" "I") ∈ lg := List.mem_append_left _ (List.mem_append_left _ (List.mem_append_left _ (List.mem_append_left _ (List.mem_append_left _ (List.mem_append_left _ (List.mem_append_left _ (List.mem_append_right _ (List.mem_of_getElem? (i := 34) rfl))))))))
theorem hw_215 : (Jvm.Cond.fieldLink "HistoryJudgeModel" (44 : Nat) "HistoryJudgeModel" "number" "[I") ∈ lg := List.mem_append_left _ (List.mem_append_left _ (List.mem_append_left _ (List.mem_append_left _ (List.mem_append_left _ (List.mem_append_left _ (List.mem_append_left _ (List.mem_append_right _ (List.mem_of_getElem? (i := 35) rfl))))))))
theorem hw_216 : (Jvm.Cond.fieldLink "HistoryJudgeModel" (53 : Nat) "HistoryJudgeModel" "noted" "[I") ∈ lg := List.mem_append_left _ (List.mem_append_left _ (List.mem_append_left _ (List.mem_append_left _ (List.mem_append_left _ (List.mem_append_left _ (List.mem_append_left _ (List.mem_append_right _ (List.mem_of_getElem? (i := 36) rfl))))))))
theorem hw_217 : (Jvm.Cond.fieldLink "HistoryJudgeModel" (41 : Nat) "HistoryJudgeModel" "answer" "[I") ∈ lg := List.mem_append_left _ (List.mem_append_left _ (List.mem_append_left _ (List.mem_append_left _ (List.mem_append_left _ (List.mem_append_left _ (List.mem_append_left _ (List.mem_append_right _ (List.mem_of_getElem? (i := 37) rfl))))))))
theorem hw_218 : (Jvm.Cond.fieldLink "HistoryJudgeModel" (35 : Nat) "HistoryJudgeModel" "has" "[I") ∈ lg := List.mem_append_left _ (List.mem_append_left _ (List.mem_append_left _ (List.mem_append_left _ (List.mem_append_left _ (List.mem_append_left _ (List.mem_append_left _ (List.mem_append_right _ (List.mem_of_getElem? (i := 38) rfl))))))))
theorem hw_219 : (Jvm.Cond.fieldLink "HistoryJudgeModel" (38 : Nat) "HistoryJudgeModel" "isOpen" "[Z") ∈ lg := List.mem_append_left _ (List.mem_append_left _ (List.mem_append_left _ (List.mem_append_left _ (List.mem_append_left _ (List.mem_append_left _ (List.mem_append_left _ (List.mem_append_right _ (List.mem_of_getElem? (i := 39) rfl))))))))
theorem hw_220 : (Jvm.Cond.code ({ cls := "HistoryJudgeModel", name := "isLate", desc := "(I)Z" } : Jvm.MethodName) prog_9_method_28_code (2 : Nat) (Option.some Jvm.ClassFile.FieldType.boolean)) ∈ lg := List.mem_append_left _ (List.mem_append_left _ (List.mem_append_left _ (List.mem_append_left _ (List.mem_append_left _ (List.mem_append_left _ (List.mem_append_left _ (List.mem_append_right _ (List.mem_of_getElem? (i := 40) rfl))))))))
theorem hw_221 : (Jvm.Cond.methodLink "HistoryJudgeModel" (151 : Nat) ({ cls := "HistoryJudgeModel", name := "isLate", desc := "(I)Z" } : Jvm.MethodName)) ∈ lg := List.mem_append_left _ (List.mem_append_left _ (List.mem_append_left _ (List.mem_append_left _ (List.mem_append_left _ (List.mem_append_left _ (List.mem_append_left _ (List.mem_append_right _ (List.mem_of_getElem? (i := 41) rfl))))))))
theorem hw_222 : (Jvm.Cond.instanceMethod ({ cls := "HistoryJudgeModel", name := "isLate", desc := "(I)Z" } : Jvm.MethodName)) ∈ lg := List.mem_append_left _ (List.mem_append_left _ (List.mem_append_left _ (List.mem_append_left _ (List.mem_append_left _ (List.mem_append_left _ (List.mem_append_left _ (List.mem_append_right _ (List.mem_of_getElem? (i := 42) rfl))))))))
theorem hw_223 : (Jvm.Cond.selects "HistoryJudgeModel" ({ cls := "HistoryJudgeModel", name := "isLate", desc := "(I)Z" } : Jvm.MethodName) ({ cls := "HistoryJudgeModel", name := "isLate", desc := "(I)Z" } : Jvm.MethodName)) ∈ lg := List.mem_append_left _ (List.mem_append_left _ (List.mem_append_left _ (List.mem_append_left _ (List.mem_append_left _ (List.mem_append_left _ (List.mem_append_left _ (List.mem_append_right _ (List.mem_of_getElem? (i := 43) rfl))))))))
theorem hw_224 : (Jvm.Cond.code ({ cls := "HistoryJudgeModel", name := "twoParts", desc := "(I)Z" } : Jvm.MethodName) prog_9_method_27_code (2 : Nat) (Option.some Jvm.ClassFile.FieldType.boolean)) ∈ lg := List.mem_append_left _ (List.mem_append_left _ (List.mem_append_left _ (List.mem_append_left _ (List.mem_append_left _ (List.mem_append_left _ (List.mem_append_left _ (List.mem_append_right _ (List.mem_of_getElem? (i := 44) rfl))))))))
theorem hw_225 : (Jvm.Cond.methodLink "HistoryJudgeModel" (154 : Nat) ({ cls := "HistoryJudgeModel", name := "twoParts", desc := "(I)Z" } : Jvm.MethodName)) ∈ lg := List.mem_append_left _ (List.mem_append_left _ (List.mem_append_left _ (List.mem_append_left _ (List.mem_append_left _ (List.mem_append_left _ (List.mem_append_left _ (List.mem_append_right _ (List.mem_of_getElem? (i := 45) rfl))))))))
theorem hw_226 : (Jvm.Cond.instanceMethod ({ cls := "HistoryJudgeModel", name := "twoParts", desc := "(I)Z" } : Jvm.MethodName)) ∈ lg := List.mem_append_left _ (List.mem_append_left _ (List.mem_append_left _ (List.mem_append_left _ (List.mem_append_left _ (List.mem_append_left _ (List.mem_append_left _ (List.mem_append_right _ (List.mem_of_getElem? (i := 46) rfl))))))))
theorem hw_227 : (Jvm.Cond.selects "HistoryJudgeModel" ({ cls := "HistoryJudgeModel", name := "twoParts", desc := "(I)Z" } : Jvm.MethodName) ({ cls := "HistoryJudgeModel", name := "twoParts", desc := "(I)Z" } : Jvm.MethodName)) ∈ lg := List.mem_append_left _ (List.mem_append_left _ (List.mem_append_left _ (List.mem_append_left _ (List.mem_append_left _ (List.mem_append_left _ (List.mem_append_left _ (List.mem_append_right _ (List.mem_of_getElem? (i := 47) rfl))))))))
theorem hw_228 : (Jvm.Cond.fieldLink "HistoryJudgeModel" (50 : Nat) "HistoryJudgeModel" "back" "[I") ∈ lg := List.mem_append_left _ (List.mem_append_left _ (List.mem_append_left _ (List.mem_append_left _ (List.mem_append_left _ (List.mem_append_left _ (List.mem_append_left _ (List.mem_append_right _ (List.mem_of_getElem? (i := 48) rfl))))))))
theorem hw_229 : (Jvm.Cond.code ({ cls := "HistoryJudgeModel", name := "does", desc := "(I)V" } : Jvm.MethodName) prog_9_method_30_code (5 : Nat) (Option.none : Option Jvm.ClassFile.FieldType)) ∈ lg := List.mem_append_left _ (List.mem_append_left _ (List.mem_append_left _ (List.mem_append_left _ (List.mem_append_left _ (List.mem_append_left _ (List.mem_append_left _ (List.mem_append_right _ (List.mem_of_getElem? (i := 49) rfl))))))))
theorem hw_230 : (Jvm.Cond.methodLink "HistoryJudgeModel" (163 : Nat) ({ cls := "HistoryJudgeModel", name := "does", desc := "(I)V" } : Jvm.MethodName)) ∈ lg := List.mem_append_left _ (List.mem_append_left _ (List.mem_append_left _ (List.mem_append_left _ (List.mem_append_left _ (List.mem_append_left _ (List.mem_append_left _ (List.mem_append_right _ (List.mem_of_getElem? (i := 50) rfl))))))))
theorem hw_231 : (Jvm.Cond.instanceMethod ({ cls := "HistoryJudgeModel", name := "does", desc := "(I)V" } : Jvm.MethodName)) ∈ lg := List.mem_append_left _ (List.mem_append_left _ (List.mem_append_left _ (List.mem_append_left _ (List.mem_append_left _ (List.mem_append_left _ (List.mem_append_left _ (List.mem_append_right _ (List.mem_of_getElem? (i := 51) rfl))))))))
theorem hw_232 : (Jvm.Cond.selects "HistoryJudgeModel" ({ cls := "HistoryJudgeModel", name := "does", desc := "(I)V" } : Jvm.MethodName) ({ cls := "HistoryJudgeModel", name := "does", desc := "(I)V" } : Jvm.MethodName)) ∈ lg := List.mem_append_left _ (List.mem_append_left _ (List.mem_append_left _ (List.mem_append_left _ (List.mem_append_left _ (List.mem_append_left _ (List.mem_append_left _ (List.mem_append_right _ (List.mem_of_getElem? (i := 52) rfl))))))))
theorem hw_233 : (Jvm.Cond.code ({ cls := "HistoryJudgeModel", name := "source", desc := "(I)I" } : Jvm.MethodName) prog_9_method_29_code (2 : Nat) (Option.some Jvm.ClassFile.FieldType.int)) ∈ lg := List.mem_append_left _ (List.mem_append_left _ (List.mem_append_left _ (List.mem_append_left _ (List.mem_append_left _ (List.mem_append_left _ (List.mem_append_left _ (List.mem_append_right _ (List.mem_of_getElem? (i := 53) rfl))))))))
theorem hw_234 : (Jvm.Cond.methodLink "HistoryJudgeModel" (160 : Nat) ({ cls := "HistoryJudgeModel", name := "source", desc := "(I)I" } : Jvm.MethodName)) ∈ lg := List.mem_append_left _ (List.mem_append_left _ (List.mem_append_left _ (List.mem_append_left _ (List.mem_append_left _ (List.mem_append_left _ (List.mem_append_left _ (List.mem_append_right _ (List.mem_of_getElem? (i := 54) rfl))))))))
theorem hw_235 : (Jvm.Cond.instanceMethod ({ cls := "HistoryJudgeModel", name := "source", desc := "(I)I" } : Jvm.MethodName)) ∈ lg := List.mem_append_left _ (List.mem_append_left _ (List.mem_append_left _ (List.mem_append_left _ (List.mem_append_left _ (List.mem_append_left _ (List.mem_append_left _ (List.mem_append_right _ (List.mem_of_getElem? (i := 55) rfl))))))))
theorem hw_236 : (Jvm.Cond.selects "HistoryJudgeModel" ({ cls := "HistoryJudgeModel", name := "source", desc := "(I)I" } : Jvm.MethodName) ({ cls := "HistoryJudgeModel", name := "source", desc := "(I)I" } : Jvm.MethodName)) ∈ lg := List.mem_append_left _ (List.mem_append_left _ (List.mem_append_left _ (List.mem_append_left _ (List.mem_append_left _ (List.mem_append_left _ (List.mem_append_left _ (List.mem_append_right _ (List.mem_of_getElem? (i := 56) rfl))))))))
theorem hw_237 : (Jvm.Cond.code ({ cls := "HistoryJudgeModel", name := "calls", desc := "(I)V" } : Jvm.MethodName) prog_9_method_31_code (2 : Nat) (Option.none : Option Jvm.ClassFile.FieldType)) ∈ lg := List.mem_append_left _ (List.mem_append_left _ (List.mem_append_left _ (List.mem_append_left _ (List.mem_append_left _ (List.mem_append_left _ (List.mem_append_left _ (List.mem_append_right _ (List.mem_of_getElem? (i := 57) rfl))))))))
theorem hw_238 : (Jvm.Cond.methodLink "HistoryJudgeModel" (157 : Nat) ({ cls := "HistoryJudgeModel", name := "calls", desc := "(I)V" } : Jvm.MethodName)) ∈ lg := List.mem_append_left _ (List.mem_append_left _ (List.mem_append_left _ (List.mem_append_left _ (List.mem_append_left _ (List.mem_append_left _ (List.mem_append_left _ (List.mem_append_right _ (List.mem_of_getElem? (i := 58) rfl))))))))
theorem hw_239 : (Jvm.Cond.instanceMethod ({ cls := "HistoryJudgeModel", name := "calls", desc := "(I)V" } : Jvm.MethodName)) ∈ lg := List.mem_append_left _ (List.mem_append_left _ (List.mem_append_left _ (List.mem_append_left _ (List.mem_append_left _ (List.mem_append_left _ (List.mem_append_left _ (List.mem_append_right _ (List.mem_of_getElem? (i := 59) rfl))))))))
theorem hw_240 : (Jvm.Cond.selects "HistoryJudgeModel" ({ cls := "HistoryJudgeModel", name := "calls", desc := "(I)V" } : Jvm.MethodName) ({ cls := "HistoryJudgeModel", name := "calls", desc := "(I)V" } : Jvm.MethodName)) ∈ lg := List.mem_append_left _ (List.mem_append_left _ (List.mem_append_left _ (List.mem_append_left _ (List.mem_append_left _ (List.mem_append_left _ (List.mem_append_right _ (List.mem_of_getElem? (i := 0) rfl)))))))
theorem hw_241 : (Jvm.Cond.fieldLink "HistoryJudgeModel" (47 : Nat) "HistoryJudgeModel" "call" "[I") ∈ lg := List.mem_append_left _ (List.mem_append_left _ (List.mem_append_left _ (List.mem_append_left _ (List.mem_append_left _ (List.mem_append_left _ (List.mem_append_right _ (List.mem_of_getElem? (i := 1) rfl)))))))
theorem hw_242 : (Jvm.Cond.fieldLink "HistoryJudgeModel" (56 : Nat) "HistoryJudgeModel" "at" "[I") ∈ lg := List.mem_append_left _ (List.mem_append_left _ (List.mem_append_left _ (List.mem_append_left _ (List.mem_append_left _ (List.mem_append_left _ (List.mem_append_right _ (List.mem_of_getElem? (i := 2) rfl)))))))
theorem hw_243 : (Jvm.Cond.code ({ cls := "HistoryJudgeModel", name := "hasLeft", desc := "(I)Z" } : Jvm.MethodName) prog_9_method_34_code (2 : Nat) (Option.some Jvm.ClassFile.FieldType.boolean)) ∈ lg := List.mem_append_left _ (List.mem_append_left _ (List.mem_append_left _ (List.mem_append_left _ (List.mem_append_left _ (List.mem_append_left _ (List.mem_append_right _ (List.mem_of_getElem? (i := 3) rfl)))))))
theorem hw_244 : (Jvm.Cond.methodLink "HistoryJudgeModel" (173 : Nat) ({ cls := "HistoryJudgeModel", name := "hasLeft", desc := "(I)Z" } : Jvm.MethodName)) ∈ lg := List.mem_append_left _ (List.mem_append_left _ (List.mem_append_left _ (List.mem_append_left _ (List.mem_append_left _ (List.mem_append_left _ (List.mem_append_right _ (List.mem_of_getElem? (i := 4) rfl)))))))
theorem hw_245 : (Jvm.Cond.instanceMethod ({ cls := "HistoryJudgeModel", name := "hasLeft", desc := "(I)Z" } : Jvm.MethodName)) ∈ lg := List.mem_append_left _ (List.mem_append_left _ (List.mem_append_left _ (List.mem_append_left _ (List.mem_append_left _ (List.mem_append_left _ (List.mem_append_right _ (List.mem_of_getElem? (i := 5) rfl)))))))
theorem hw_246 : (Jvm.Cond.selects "HistoryJudgeModel" ({ cls := "HistoryJudgeModel", name := "hasLeft", desc := "(I)Z" } : Jvm.MethodName) ({ cls := "HistoryJudgeModel", name := "hasLeft", desc := "(I)Z" } : Jvm.MethodName)) ∈ lg := List.mem_append_left _ (List.mem_append_left _ (List.mem_append_left _ (List.mem_append_left _ (List.mem_append_left _ (List.mem_append_left _ (List.mem_append_right _ (List.mem_of_getElem? (i := 6) rfl)))))))
theorem hw_247 : (Jvm.Cond.fieldLink "HistoryJudgeModel" (59 : Nat) "HistoryJudgeModel" "event" "[I") ∈ lg := List.mem_append_left _ (List.mem_append_left _ (List.mem_append_left _ (List.mem_append_left _ (List.mem_append_left _ (List.mem_append_left _ (List.mem_append_right _ (List.mem_of_getElem? (i := 7) rfl)))))))
theorem hw_248 : (Jvm.Cond.code ({ cls := "HistoryJudgeModel", name := "happens", desc := "(III)V" } : Jvm.MethodName) prog_9_method_33_code (5 : Nat) (Option.none : Option Jvm.ClassFile.FieldType)) ∈ lg := List.mem_append_left _ (List.mem_append_left _ (List.mem_append_left _ (List.mem_append_left _ (List.mem_append_left _ (List.mem_append_left _ (List.mem_append_right _ (List.mem_of_getElem? (i := 8) rfl)))))))
theorem hw_249 : (Jvm.Cond.methodLink "HistoryJudgeModel" (169 : Nat) ({ cls := "HistoryJudgeModel", name := "happens", desc := "(III)V" } : Jvm.MethodName)) ∈ lg := List.mem_append_left _ (List.mem_append_left _ (List.mem_append_left _ (List.mem_append_left _ (List.mem_append_left _ (List.mem_append_left _ (List.mem_append_right _ (List.mem_of_getElem? (i := 9) rfl)))))))
theorem hw_250 : (Jvm.Cond.instanceMethod ({ cls := "HistoryJudgeModel", name := "happens", desc := "(III)V" } : Jvm.MethodName)) ∈ lg := List.mem_append_left _ (List.mem_append_left _ (List.mem_append_left _ (List.mem_append_left _ (List.mem_append_left _ (List.mem_append_left _ (List.mem_append_right _ (List.mem_of_getElem? (i := 10) rfl)))))))
theorem hw_251 : (Jvm.Cond.selects "HistoryJudgeModel" ({ cls := "HistoryJudgeModel", name := "happens", desc := "(III)V" } : Jvm.MethodName) ({ cls := "HistoryJudgeModel", name := "happens", desc := "(III)V" } : Jvm.MethodName)) ∈ lg := List.mem_append_left _ (List.mem_append_left _ (List.mem_append_left _ (List.mem_append_left _ (List.mem_append_left _ (List.mem_append_left _ (List.mem_append_right _ (List.mem_of_getElem? (i := 11) rfl)))))))
theorem hw_252 : (Jvm.Cond.code ({ cls := "HistoryJudgeModel", name := "events", desc := "(I)I" } : Jvm.MethodName) prog_9_method_32_code (2 : Nat) (Option.some Jvm.ClassFile.FieldType.int)) ∈ lg := List.mem_append_left _ (List.mem_append_left _ (List.mem_append_left _ (List.mem_append_left _ (List.mem_append_left _ (List.mem_append_left _ (List.mem_append_right _ (List.mem_of_getElem? (i := 12) rfl)))))))
theorem hw_253 : (Jvm.Cond.methodLink "HistoryJudgeModel" (166 : Nat) ({ cls := "HistoryJudgeModel", name := "events", desc := "(I)I" } : Jvm.MethodName)) ∈ lg := List.mem_append_left _ (List.mem_append_left _ (List.mem_append_left _ (List.mem_append_left _ (List.mem_append_left _ (List.mem_append_left _ (List.mem_append_right _ (List.mem_of_getElem? (i := 13) rfl)))))))
theorem hw_254 : (Jvm.Cond.instanceMethod ({ cls := "HistoryJudgeModel", name := "events", desc := "(I)I" } : Jvm.MethodName)) ∈ lg := List.mem_append_left _ (List.mem_append_left _ (List.mem_append_left _ (List.mem_append_left _ (List.mem_append_left _ (List.mem_append_left _ (List.mem_append_right _ (List.mem_of_getElem? (i := 14) rfl)))))))
theorem hw_255 : (Jvm.Cond.selects "HistoryJudgeModel" ({ cls := "HistoryJudgeModel", name := "events", desc := "(I)I" } : Jvm.MethodName) ({ cls := "HistoryJudgeModel", name := "events", desc := "(I)I" } : Jvm.MethodName)) ∈ lg := List.mem_append_left _ (List.mem_append_left _ (List.mem_append_left _ (List.mem_append_left _ (List.mem_append_left _ (List.mem_append_left _ (List.mem_append_right _ (List.mem_of_getElem? (i := 15) rfl)))))))
theorem hw_256 : (Jvm.Cond.fieldLink "HistoryJudgeModel" (28 : Nat) "HistoryJudgeModel" "holds" "[I") ∈ lg := List.mem_append_left _ (List.mem_append_left _ (List.mem_append_left _ (List.mem_append_left _ (List.mem_append_left _ (List.mem_append_left _ (List.mem_append_right _ (List.mem_of_getElem? (i := 16) rfl)))))))
theorem hw_257 : (Jvm.Cond.code ({ cls := "HistoryJudgeModel", name := "right", desc := "(I)I" } : Jvm.MethodName) prog_9_method_36_code (5 : Nat) (Option.some Jvm.ClassFile.FieldType.int)) ∈ lg := List.mem_append_left _ (List.mem_append_left _ (List.mem_append_left _ (List.mem_append_left _ (List.mem_append_left _ (List.mem_append_left _ (List.mem_append_right _ (List.mem_of_getElem? (i := 17) rfl)))))))
theorem hw_258 : (Jvm.Cond.methodLink "HistoryJudgeModel" (176 : Nat) ({ cls := "HistoryJudgeModel", name := "right", desc := "(I)I" } : Jvm.MethodName)) ∈ lg := List.mem_append_left _ (List.mem_append_left _ (List.mem_append_left _ (List.mem_append_left _ (List.mem_append_left _ (List.mem_append_left _ (List.mem_append_right _ (List.mem_of_getElem? (i := 18) rfl)))))))
theorem hw_259 : (Jvm.Cond.instanceMethod ({ cls := "HistoryJudgeModel", name := "right", desc := "(I)I" } : Jvm.MethodName)) ∈ lg := List.mem_append_left _ (List.mem_append_left _ (List.mem_append_left _ (List.mem_append_left _ (List.mem_append_left _ (List.mem_append_left _ (List.mem_append_right _ (List.mem_of_getElem? (i := 19) rfl)))))))
theorem hw_260 : (Jvm.Cond.selects "HistoryJudgeModel" ({ cls := "HistoryJudgeModel", name := "right", desc := "(I)I" } : Jvm.MethodName) ({ cls := "HistoryJudgeModel", name := "right", desc := "(I)I" } : Jvm.MethodName)) ∈ lg := List.mem_append_left _ (List.mem_append_left _ (List.mem_append_left _ (List.mem_append_left _ (List.mem_append_left _ (List.mem_append_left _ (List.mem_append_right _ (List.mem_of_getElem? (i := 20) rfl)))))))
theorem hw_261 : (Jvm.Cond.code ({ cls := "HistoryJudgeModel", name := "go", desc := "(I)V" } : Jvm.MethodName) prog_9_method_35_code (4 : Nat) (Option.none : Option Jvm.ClassFile.FieldType)) ∈ lg := List.mem_append_left _ (List.mem_append_left _ (List.mem_append_left _ (List.mem_append_left _ (List.mem_append_left _ (List.mem_append_left _ (List.mem_append_right _ (List.mem_of_getElem? (i := 21) rfl)))))))
theorem hw_262 : (Jvm.Cond.methodLink "HistoryJudgeModel" (179 : Nat) ({ cls := "HistoryJudgeModel", name := "go", desc := "(I)V" } : Jvm.MethodName)) ∈ lg := List.mem_append_left _ (List.mem_append_left _ (List.mem_append_left _ (List.mem_append_left _ (List.mem_append_left _ (List.mem_append_left _ (List.mem_append_right _ (List.mem_of_getElem? (i := 22) rfl)))))))
theorem hw_263 : (Jvm.Cond.instanceMethod ({ cls := "HistoryJudgeModel", name := "go", desc := "(I)V" } : Jvm.MethodName)) ∈ lg := List.mem_append_left _ (List.mem_append_left _ (List.mem_append_left _ (List.mem_append_left _ (List.mem_append_left _ (List.mem_append_left _ (List.mem_append_right _ (List.mem_of_getElem? (i := 23) rfl)))))))
theorem hw_264 : (Jvm.Cond.selects "HistoryJudgeModel" ({ cls := "HistoryJudgeModel", name := "go", desc := "(I)V" } : Jvm.MethodName) ({ cls := "HistoryJudgeModel", name := "go", desc := "(I)V" } : Jvm.MethodName)) ∈ lg := List.mem_append_left _ (List.mem_append_left _ (List.mem_append_left _ (List.mem_append_left _ (List.mem_append_left _ (List.mem_append_left _ (List.mem_append_right _ (List.mem_of_getElem? (i := 24) rfl)))))))
theorem hw_265 : (Jvm.Cond.fieldLink "HistoryJudgeModel" (182 : Nat) "HistoryJudgeModel" "runs" "I") ∈ lg := List.mem_append_left _ (List.mem_append_left _ (List.mem_append_left _ (List.mem_append_left _ (List.mem_append_left _ (List.mem_append_left _ (List.mem_append_right _ (List.mem_of_getElem? (i := 25) rfl)))))))
theorem hw_266 : (Jvm.Cond.fieldLink "HistoryJudgeModel" (185 : Nat) "HistoryJudgeModel" "explained" "Z") ∈ lg := List.mem_append_left _ (List.mem_append_left _ (List.mem_append_left _ (List.mem_append_left _ (List.mem_append_left _ (List.mem_append_left _ (List.mem_append_right _ (List.mem_of_getElem? (i := 26) rfl)))))))
theorem hw_267 : (Jvm.Cond.fieldLink "HistoryJudgeModel" (194 : Nat) "HistoryJudgeModel" "wrong" "I") ∈ lg := List.mem_append_left _ (List.mem_append_left _ (List.mem_append_left _ (List.mem_append_left _ (List.mem_append_left _ (List.mem_append_left _ (List.mem_append_right _ (List.mem_of_getElem? (i := 27) rfl)))))))
theorem hw_268 : (Jvm.Cond.fieldLink "HistoryJudgeModel" (191 : Nat) "HistoryJudgeModel" "witness" "I") ∈ lg := List.mem_append_left _ (List.mem_append_left _ (List.mem_append_left _ (List.mem_append_left _ (List.mem_append_left _ (List.mem_append_left _ (List.mem_append_right _ (List.mem_of_getElem? (i := 28) rfl)))))))
theorem hw_269 : (Jvm.Cond.code ({ cls := "HistoryJudgeModel", name := "explains", desc := "(I)Z" } : Jvm.MethodName) prog_9_method_37_code (7 : Nat) (Option.some Jvm.ClassFile.FieldType.boolean)) ∈ lg := List.mem_append_left _ (List.mem_append_left _ (List.mem_append_left _ (List.mem_append_left _ (List.mem_append_left _ (List.mem_append_left _ (List.mem_append_right _ (List.mem_of_getElem? (i := 29) rfl)))))))
theorem hw_270 : (Jvm.Cond.methodLink "HistoryJudgeModel" (188 : Nat) ({ cls := "HistoryJudgeModel", name := "explains", desc := "(I)Z" } : Jvm.MethodName)) ∈ lg := List.mem_append_left _ (List.mem_append_left _ (List.mem_append_left _ (List.mem_append_left _ (List.mem_append_left _ (List.mem_append_left _ (List.mem_append_right _ (List.mem_of_getElem? (i := 30) rfl)))))))
theorem hw_271 : (Jvm.Cond.instanceMethod ({ cls := "HistoryJudgeModel", name := "explains", desc := "(I)Z" } : Jvm.MethodName)) ∈ lg := List.mem_append_left _ (List.mem_append_left _ (List.mem_append_left _ (List.mem_append_left _ (List.mem_append_left _ (List.mem_append_left _ (List.mem_append_right _ (List.mem_of_getElem? (i := 31) rfl)))))))
theorem hw_272 : (Jvm.Cond.selects "HistoryJudgeModel" ({ cls := "HistoryJudgeModel", name := "explains", desc := "(I)Z" } : Jvm.MethodName) ({ cls := "HistoryJudgeModel", name := "explains", desc := "(I)Z" } : Jvm.MethodName)) ∈ lg := List.mem_append_left _ (List.mem_append_left _ (List.mem_append_left _ (List.mem_append_left _ (List.mem_append_left _ (List.mem_append_left _ (List.mem_append_right _ (List.mem_of_getElem? (i := 32) rfl)))))))
theorem hw_273 : (Jvm.Cond.fieldLink "HistoryJudgeModel" (62 : Nat) "HistoryJudgeModel" "tallies" "[I") ∈ lg := List.mem_append_left _ (List.mem_append_left _ (List.mem_append_left _ (List.mem_append_left _ (List.mem_append_left _ (List.mem_append_left _ (List.mem_append_right _ (List.mem_of_getElem? (i := 33) rfl)))))))
theorem hw_274 : (Jvm.Cond.code ({ cls := "HistoryJudgeModel", name := "judged", desc := "(I)Z" } : Jvm.MethodName) prog_9_method_38_code (4 : Nat) (Option.some Jvm.ClassFile.FieldType.boolean)) ∈ lg := List.mem_append_left _ (List.mem_append_left _ (List.mem_append_left _ (List.mem_append_left _ (List.mem_append_left _ (List.mem_append_left _ (List.mem_append_right _ (List.mem_of_getElem? (i := 34) rfl)))))))
theorem hw_275 : (Jvm.Cond.methodLink "HistoryJudgeModel" (197 : Nat) ({ cls := "HistoryJudgeModel", name := "judged", desc := "(I)Z" } : Jvm.MethodName)) ∈ lg := List.mem_append_left _ (List.mem_append_left _ (List.mem_append_left _ (List.mem_append_left _ (List.mem_append_left _ (List.mem_append_left _ (List.mem_append_right _ (List.mem_of_getElem? (i := 35) rfl)))))))
theorem hw_276 : (Jvm.Cond.instanceMethod ({ cls := "HistoryJudgeModel", name := "judged", desc := "(I)Z" } : Jvm.MethodName)) ∈ lg := List.mem_append_left _ (List.mem_append_left _ (List.mem_append_left _ (List.mem_append_left _ (List.mem_append_left _ (List.mem_append_left _ (List.mem_append_right _ (List.mem_of_getElem? (i := 36) rfl)))))))
theorem hw_277 : (Jvm.Cond.selects "HistoryJudgeModel" ({ cls := "HistoryJudgeModel", name := "judged", desc := "(I)Z" } : Jvm.MethodName) ({ cls := "HistoryJudgeModel", name := "judged", desc := "(I)Z" } : Jvm.MethodName)) ∈ lg := List.mem_append_left _ (List.mem_append_left _ (List.mem_append_left _ (List.mem_append_left _ (List.mem_append_left _ (List.mem_append_left _ (List.mem_append_right _ (List.mem_of_getElem? (i := 37) rfl)))))))
theorem hw_278 : (Jvm.Cond.constant "HistoryJudgeModel" (200 : Nat) (2147483647 : Int32)) ∈ lg := List.mem_append_left _ (List.mem_append_left _ (List.mem_append_left _ (List.mem_append_left _ (List.mem_append_left _ (List.mem_append_left _ (List.mem_append_right _ (List.mem_of_getElem? (i := 38) rfl)))))))
theorem hw_279 : (Jvm.Cond.fieldLink "HistoryJudgeModel" (201 : Nat) "HistoryJudgeModel" "failing" "I") ∈ lg := List.mem_append_left _ (List.mem_append_left _ (List.mem_append_left _ (List.mem_append_left _ (List.mem_append_left _ (List.mem_append_left _ (List.mem_append_right _ (List.mem_of_getElem? (i := 39) rfl)))))))
theorem hw_280 : (Jvm.Cond.code ({ cls := "HistoryJudgeModel", name := "failed", desc := "(JI)I" } : Jvm.MethodName) prog_9_method_40_code (6 : Nat) (Option.some Jvm.ClassFile.FieldType.int)) ∈ lg := List.mem_append_left _ (List.mem_append_left _ (List.mem_append_left _ (List.mem_append_left _ (List.mem_append_left _ (List.mem_append_left _ (List.mem_append_right _ (List.mem_of_getElem? (i := 40) rfl)))))))
theorem hw_281 : (Jvm.Cond.methodLink "HistoryJudgeModel" (204 : Nat) ({ cls := "HistoryJudgeModel", name := "failed", desc := "(JI)I" } : Jvm.MethodName)) ∈ lg := List.mem_append_left _ (List.mem_append_left _ (List.mem_append_left _ (List.mem_append_left _ (List.mem_append_left _ (List.mem_append_left _ (List.mem_append_right _ (List.mem_of_getElem? (i := 41) rfl)))))))
theorem hw_282 : (Jvm.Cond.instanceMethod ({ cls := "HistoryJudgeModel", name := "failed", desc := "(JI)I" } : Jvm.MethodName)) ∈ lg := List.mem_append_left _ (List.mem_append_left _ (List.mem_append_left _ (List.mem_append_left _ (List.mem_append_left _ (List.mem_append_left _ (List.mem_append_right _ (List.mem_of_getElem? (i := 42) rfl)))))))
theorem hw_283 : (Jvm.Cond.selects "HistoryJudgeModel" ({ cls := "HistoryJudgeModel", name := "failed", desc := "(JI)I" } : Jvm.MethodName) ({ cls := "HistoryJudgeModel", name := "failed", desc := "(JI)I" } : Jvm.MethodName)) ∈ lg := List.mem_append_left _ (List.mem_append_left _ (List.mem_append_left _ (List.mem_append_left _ (List.mem_append_left _ (List.mem_append_left _ (List.mem_append_right _ (List.mem_of_getElem? (i := 43) rfl)))))))
theorem hw_284 : (Jvm.Cond.code ({ cls := "HistoryJudgeModel", name := "takes", desc := "(ZJI)Z" } : Jvm.MethodName) prog_9_method_42_code (5 : Nat) (Option.some Jvm.ClassFile.FieldType.boolean)) ∈ lg := List.mem_append_left _ (List.mem_append_left _ (List.mem_append_left _ (List.mem_append_left _ (List.mem_append_left _ (List.mem_append_left _ (List.mem_append_right _ (List.mem_of_getElem? (i := 44) rfl)))))))
theorem hw_285 : (Jvm.Cond.methodLink "HistoryJudgeModel" (211 : Nat) ({ cls := "HistoryJudgeModel", name := "takes", desc := "(ZJI)Z" } : Jvm.MethodName)) ∈ lg := List.mem_append_left _ (List.mem_append_left _ (List.mem_append_left _ (List.mem_append_left _ (List.mem_append_left _ (List.mem_append_left _ (List.mem_append_right _ (List.mem_of_getElem? (i := 45) rfl)))))))
theorem hw_286 : (Jvm.Cond.instanceMethod ({ cls := "HistoryJudgeModel", name := "takes", desc := "(ZJI)Z" } : Jvm.MethodName)) ∈ lg := List.mem_append_left _ (List.mem_append_left _ (List.mem_append_left _ (List.mem_append_left _ (List.mem_append_left _ (List.mem_append_left _ (List.mem_append_right _ (List.mem_of_getElem? (i := 46) rfl)))))))
theorem hw_287 : (Jvm.Cond.selects "HistoryJudgeModel" ({ cls := "HistoryJudgeModel", name := "takes", desc := "(ZJI)Z" } : Jvm.MethodName) ({ cls := "HistoryJudgeModel", name := "takes", desc := "(ZJI)Z" } : Jvm.MethodName)) ∈ lg := List.mem_append_left _ (List.mem_append_left _ (List.mem_append_left _ (List.mem_append_left _ (List.mem_append_left _ (List.mem_append_left _ (List.mem_append_right _ (List.mem_of_getElem? (i := 47) rfl)))))))
theorem hw_288 : (Jvm.Cond.code ({ cls := "HistoryJudgeModel", name := "raise", desc := "(I)V" } : Jvm.MethodName) prog_9_method_19_code (9 : Nat) (Option.none : Option Jvm.ClassFile.FieldType)) ∈ lg := List.mem_append_left _ (List.mem_append_left _ (List.mem_append_left _ (List.mem_append_left _ (List.mem_append_left _ (List.mem_append_left _ (List.mem_append_right _ (List.mem_of_getElem? (i := 48) rfl)))))))
theorem hw_289 : (Jvm.Cond.methodLink "HistoryJudgeModel" (215 : Nat) ({ cls := "HistoryJudgeModel", name := "raise", desc := "(I)V" } : Jvm.MethodName)) ∈ lg := List.mem_append_left _ (List.mem_append_left _ (List.mem_append_left _ (List.mem_append_left _ (List.mem_append_left _ (List.mem_append_left _ (List.mem_append_right _ (List.mem_of_getElem? (i := 49) rfl)))))))
theorem hw_290 : (Jvm.Cond.instanceMethod ({ cls := "HistoryJudgeModel", name := "raise", desc := "(I)V" } : Jvm.MethodName)) ∈ lg := List.mem_append_left _ (List.mem_append_left _ (List.mem_append_left _ (List.mem_append_left _ (List.mem_append_left _ (List.mem_append_left _ (List.mem_append_right _ (List.mem_of_getElem? (i := 50) rfl)))))))
theorem hw_291 : (Jvm.Cond.selects "HistoryJudgeModel" ({ cls := "HistoryJudgeModel", name := "raise", desc := "(I)V" } : Jvm.MethodName) ({ cls := "HistoryJudgeModel", name := "raise", desc := "(I)V" } : Jvm.MethodName)) ∈ lg := List.mem_append_left _ (List.mem_append_left _ (List.mem_append_left _ (List.mem_append_left _ (List.mem_append_left _ (List.mem_append_left _ (List.mem_append_right _ (List.mem_of_getElem? (i := 51) rfl)))))))
theorem hw_292 : (Jvm.Cond.code ({ cls := "HistoryJudgeModel", name := "leaveOut", desc := "(I)Z" } : Jvm.MethodName) prog_9_method_18_code (4 : Nat) (Option.some Jvm.ClassFile.FieldType.boolean)) ∈ lg := List.mem_append_left _ (List.mem_append_left _ (List.mem_append_left _ (List.mem_append_left _ (List.mem_append_left _ (List.mem_append_left _ (List.mem_append_right _ (List.mem_of_getElem? (i := 52) rfl)))))))
theorem hw_293 : (Jvm.Cond.methodLink "HistoryJudgeModel" (208 : Nat) ({ cls := "HistoryJudgeModel", name := "leaveOut", desc := "(I)Z" } : Jvm.MethodName)) ∈ lg := List.mem_append_left _ (List.mem_append_left _ (List.mem_append_left _ (List.mem_append_left _ (List.mem_append_left _ (List.mem_append_left _ (List.mem_append_right _ (List.mem_of_getElem? (i := 53) rfl)))))))
theorem hw_294 : (Jvm.Cond.instanceMethod ({ cls := "HistoryJudgeModel", name := "leaveOut", desc := "(I)Z" } : Jvm.MethodName)) ∈ lg := List.mem_append_left _ (List.mem_append_left _ (List.mem_append_left _ (List.mem_append_left _ (List.mem_append_left _ (List.mem_append_left _ (List.mem_append_right _ (List.mem_of_getElem? (i := 54) rfl)))))))
theorem hw_295 : (Jvm.Cond.selects "HistoryJudgeModel" ({ cls := "HistoryJudgeModel", name := "leaveOut", desc := "(I)Z" } : Jvm.MethodName) ({ cls := "HistoryJudgeModel", name := "leaveOut", desc := "(I)Z" } : Jvm.MethodName)) ∈ lg := List.mem_append_left _ (List.mem_append_left _ (List.mem_append_left _ (List.mem_append_left _ (List.mem_append_left _ (List.mem_append_left _ (List.mem_append_right _ (List.mem_of_getElem? (i := 55) rfl)))))))
theorem hw_296 : (Jvm.Cond.code ({ cls := "HistoryJudgeModel", name := "smaller", desc := "(JI)Z" } : Jvm.MethodName) prog_9_method_43_code (7 : Nat) (Option.some Jvm.ClassFile.FieldType.boolean)) ∈ lg := List.mem_append_left _ (List.mem_append_left _ (List.mem_append_left _ (List.mem_append_left _ (List.mem_append_left _ (List.mem_append_left _ (List.mem_append_right _ (List.mem_of_getElem? (i := 56) rfl)))))))
theorem hw_297 : (Jvm.Cond.methodLink "HistoryJudgeModel" (218 : Nat) ({ cls := "HistoryJudgeModel", name := "smaller", desc := "(JI)Z" } : Jvm.MethodName)) ∈ lg := List.mem_append_left _ (List.mem_append_left _ (List.mem_append_left _ (List.mem_append_left _ (List.mem_append_left _ (List.mem_append_left _ (List.mem_append_right _ (List.mem_of_getElem? (i := 57) rfl)))))))
theorem hw_298 : (Jvm.Cond.instanceMethod ({ cls := "HistoryJudgeModel", name := "smaller", desc := "(JI)Z" } : Jvm.MethodName)) ∈ lg := List.mem_append_left _ (List.mem_append_left _ (List.mem_append_left _ (List.mem_append_left _ (List.mem_append_left _ (List.mem_append_left _ (List.mem_append_right _ (List.mem_of_getElem? (i := 58) rfl)))))))
theorem hw_299 : (Jvm.Cond.selects "HistoryJudgeModel" ({ cls := "HistoryJudgeModel", name := "smaller", desc := "(JI)Z" } : Jvm.MethodName) ({ cls := "HistoryJudgeModel", name := "smaller", desc := "(JI)Z" } : Jvm.MethodName)) ∈ lg := List.mem_append_left _ (List.mem_append_left _ (List.mem_append_left _ (List.mem_append_left _ (List.mem_append_left _ (List.mem_append_left _ (List.mem_append_right _ (List.mem_of_getElem? (i := 59) rfl)))))))
theorem hw_300 : (Jvm.Cond.fieldLink "HistoryJudgeModel" (222 : Nat) "HistoryJudgeModel" "taken" "I") ∈ lg := List.mem_append_left _ (List.mem_append_left _ (List.mem_append_left _ (List.mem_append_left _ (List.mem_append_left _ (List.mem_append_right _ (List.mem_of_getElem? (i := 0) rfl))))))
theorem hw_301 : (Jvm.Cond.fieldLink "HistoryJudge$Tester" (39 : Nat) "HistoryJudge$Tester" "schedule" "I") ∈ lg := List.mem_append_left _ (List.mem_append_left _ (List.mem_append_left _ (List.mem_append_left _ (List.mem_append_left _ (List.mem_append_right _ (List.mem_of_getElem? (i := 1) rfl))))))
theorem hw_302 : (Jvm.Cond.fieldLink "HistoryJudge$Tester" (12 : Nat) "HistoryJudge$Tester" "machine" "LHistoryJudge$Machine;") ∈ lg := List.mem_append_left _ (List.mem_append_left _ (List.mem_append_left _ (List.mem_append_left _ (List.mem_append_left _ (List.mem_append_right _ (List.mem_of_getElem? (i := 2) rfl))))))
theorem hw_303 : (Jvm.Cond.fieldLink "HistoryJudge$Tester" (29 : Nat) "HistoryJudge$Tester" "flawBits" "I") ∈ lg := List.mem_append_left _ (List.mem_append_left _ (List.mem_append_left _ (List.mem_append_left _ (List.mem_append_left _ (List.mem_append_right _ (List.mem_of_getElem? (i := 3) rfl))))))
theorem hw_304 : (Jvm.Cond.fieldLink "HistoryJudge$Machine" (39 : Nat) "HistoryJudge$Machine" "flawBits" "I") ∈ lg := List.mem_append_left _ (List.mem_append_left _ (List.mem_append_left _ (List.mem_append_left _ (List.mem_append_left _ (List.mem_append_right _ (List.mem_of_getElem? (i := 4) rfl))))))
theorem hw_305 : (Jvm.Cond.fieldLink "HistoryJudge$Machine" (26 : Nat) "HistoryJudge$Machine" "cells" "I") ∈ lg := List.mem_append_left _ (List.mem_append_left _ (List.mem_append_left _ (List.mem_append_left _ (List.mem_append_left _ (List.mem_append_right _ (List.mem_of_getElem? (i := 5) rfl))))))
theorem hw_306 : (Jvm.Cond.methodLink "HistoryJudge$Machine" (48 : Nat) ({ cls := "HistoryJudge$Program", name := "end", desc := "(I)I" } : Jvm.MethodName)) ∈ lg := List.mem_append_left _ (List.mem_append_left _ (List.mem_append_left _ (List.mem_append_left _ (List.mem_append_left _ (List.mem_append_right _ (List.mem_of_getElem? (i := 6) rfl))))))
theorem hw_307 : (Jvm.Cond.fieldLink "HistoryJudge$Machine" (30 : Nat) "HistoryJudge$Machine" "nextCommand" "[I") ∈ lg := List.mem_append_left _ (List.mem_append_left _ (List.mem_append_left _ (List.mem_append_left _ (List.mem_append_left _ (List.mem_append_right _ (List.mem_of_getElem? (i := 7) rfl))))))
theorem hw_308 : (Jvm.Cond.fieldLink "HistoryJudge$Machine" (55 : Nat) "HistoryJudge$Program" "kinds" "[I") ∈ lg := List.mem_append_left _ (List.mem_append_left _ (List.mem_append_left _ (List.mem_append_left _ (List.mem_append_left _ (List.mem_append_right _ (List.mem_of_getElem? (i := 8) rfl))))))
theorem hw_309 : (Jvm.Cond.fieldLink "HistoryJudge$Machine" (58 : Nat) "HistoryJudge$Program" "cells" "[I") ∈ lg := List.mem_append_left _ (List.mem_append_left _ (List.mem_append_left _ (List.mem_append_left _ (List.mem_append_left _ (List.mem_append_right _ (List.mem_of_getElem? (i := 9) rfl))))))
theorem hw_310 : (Jvm.Cond.fieldLink "HistoryJudge$Machine" (33 : Nat) "HistoryJudge$Machine" "nextEvent" "[I") ∈ lg := List.mem_append_left _ (List.mem_append_left _ (List.mem_append_left _ (List.mem_append_left _ (List.mem_append_left _ (List.mem_append_right _ (List.mem_of_getElem? (i := 10) rfl))))))
theorem hw_311 : (Jvm.Cond.fieldLink "HistoryJudge$Machine" (18 : Nat) "HistoryJudge$Machine" "calls" "[I") ∈ lg := List.mem_append_left _ (List.mem_append_left _ (List.mem_append_left _ (List.mem_append_left _ (List.mem_append_left _ (List.mem_append_right _ (List.mem_of_getElem? (i := 11) rfl))))))
theorem hw_312 : (Jvm.Cond.fieldLink "HistoryJudge$Machine" (15 : Nat) "HistoryJudge$Machine" "numbers" "[I") ∈ lg := List.mem_append_left _ (List.mem_append_left _ (List.mem_append_left _ (List.mem_append_left _ (List.mem_append_left _ (List.mem_append_right _ (List.mem_of_getElem? (i := 12) rfl))))))
theorem hw_313 : (Jvm.Cond.fieldLink "HistoryJudge$Machine" (60 : Nat) "HistoryJudge$Program" "arguments" "[I") ∈ lg := List.mem_append_left _ (List.mem_append_left _ (List.mem_append_left _ (List.mem_append_left _ (List.mem_append_left _ (List.mem_append_right _ (List.mem_of_getElem? (i := 13) rfl))))))
theorem hw_314 : (Jvm.Cond.fieldLink "HistoryJudge$Machine" (9 : Nat) "HistoryJudge$Machine" "answers" "[I") ∈ lg := List.mem_append_left _ (List.mem_append_left _ (List.mem_append_left _ (List.mem_append_left _ (List.mem_append_left _ (List.mem_append_right _ (List.mem_of_getElem? (i := 14) rfl))))))
theorem hw_315 : (Jvm.Cond.code ({ cls := "HistoryJudge$Machine", name := "numberOf", desc := "(I)I" } : Jvm.MethodName) prog_4_method_4_code (2 : Nat) (Option.some Jvm.ClassFile.FieldType.int)) ∈ lg := List.mem_append_left _ (List.mem_append_left _ (List.mem_append_left _ (List.mem_append_left _ (List.mem_append_left _ (List.mem_append_right _ (List.mem_of_getElem? (i := 15) rfl))))))
theorem hw_316 : (Jvm.Cond.methodLink "HistoryJudge$Machine" (63 : Nat) ({ cls := "HistoryJudge$Machine", name := "numberOf", desc := "(I)I" } : Jvm.MethodName)) ∈ lg := List.mem_append_left _ (List.mem_append_left _ (List.mem_append_left _ (List.mem_append_left _ (List.mem_append_left _ (List.mem_append_right _ (List.mem_of_getElem? (i := 16) rfl))))))
theorem hw_317 : (Jvm.Cond.instanceMethod ({ cls := "HistoryJudge$Machine", name := "numberOf", desc := "(I)I" } : Jvm.MethodName)) ∈ lg := List.mem_append_left _ (List.mem_append_left _ (List.mem_append_left _ (List.mem_append_left _ (List.mem_append_left _ (List.mem_append_right _ (List.mem_of_getElem? (i := 17) rfl))))))
theorem hw_318 : (Jvm.Cond.selects "HistoryJudge$Machine" ({ cls := "HistoryJudge$Machine", name := "numberOf", desc := "(I)I" } : Jvm.MethodName) ({ cls := "HistoryJudge$Machine", name := "numberOf", desc := "(I)I" } : Jvm.MethodName)) ∈ lg := List.mem_append_left _ (List.mem_append_left _ (List.mem_append_left _ (List.mem_append_left _ (List.mem_append_left _ (List.mem_append_right _ (List.mem_of_getElem? (i := 18) rfl))))))
theorem hw_319 : (Jvm.Cond.initialized "HistoryJudge$Machine") ∈ lg := List.mem_append_left _ (List.mem_append_left _ (List.mem_append_left _ (List.mem_append_left _ (List.mem_append_left _ (List.mem_append_right _ (List.mem_of_getElem? (i := 19) rfl))))))
theorem hw_320 : (Jvm.Cond.code ({ cls := "HistoryJudge$Machine", name := "isSplit", desc := "(I)Z" } : Jvm.MethodName) prog_4_method_5_code (2 : Nat) (Option.some Jvm.ClassFile.FieldType.boolean)) ∈ lg := List.mem_append_left _ (List.mem_append_left _ (List.mem_append_left _ (List.mem_append_left _ (List.mem_append_left _ (List.mem_append_right _ (List.mem_of_getElem? (i := 20) rfl))))))
theorem hw_321 : (Jvm.Cond.methodLink "HistoryJudge$Machine" (66 : Nat) ({ cls := "HistoryJudge$Machine", name := "isSplit", desc := "(I)Z" } : Jvm.MethodName)) ∈ lg := List.mem_append_left _ (List.mem_append_left _ (List.mem_append_left _ (List.mem_append_left _ (List.mem_append_left _ (List.mem_append_right _ (List.mem_of_getElem? (i := 21) rfl))))))
theorem hw_322 : (Jvm.Cond.instanceMethod ({ cls := "HistoryJudge$Machine", name := "isSplit", desc := "(I)Z" } : Jvm.MethodName)) ∈ lg := List.mem_append_left _ (List.mem_append_left _ (List.mem_append_left _ (List.mem_append_left _ (List.mem_append_left _ (List.mem_append_right _ (List.mem_of_getElem? (i := 22) rfl))))))
theorem hw_323 : (Jvm.Cond.selects "HistoryJudge$Machine" ({ cls := "HistoryJudge$Machine", name := "isSplit", desc := "(I)Z" } : Jvm.MethodName) ({ cls := "HistoryJudge$Machine", name := "isSplit", desc := "(I)Z" } : Jvm.MethodName)) ∈ lg := List.mem_append_left _ (List.mem_append_left _ (List.mem_append_left _ (List.mem_append_left _ (List.mem_append_left _ (List.mem_append_right _ (List.mem_of_getElem? (i := 23) rfl))))))
theorem hw_324 : (Jvm.Cond.fieldLink "HistoryJudge$Machine" (36 : Nat) "HistoryJudge$Machine" "noted" "[I") ∈ lg := List.mem_append_left _ (List.mem_append_left _ (List.mem_append_left _ (List.mem_append_left _ (List.mem_append_left _ (List.mem_append_right _ (List.mem_of_getElem? (i := 24) rfl))))))
theorem hw_325 : (Jvm.Cond.methodLink "HistoryJudge$Machine" (73 : Nat) ({ cls := "HistoryJudge$Model", name := "held", desc := "(II)I" } : Jvm.MethodName)) ∈ lg := List.mem_append_left _ (List.mem_append_left _ (List.mem_append_left _ (List.mem_append_left _ (List.mem_append_left _ (List.mem_append_right _ (List.mem_of_getElem? (i := 25) rfl))))))
theorem hw_326 : (Jvm.Cond.methodLink "HistoryJudge$Machine" (70 : Nat) ({ cls := "HistoryJudge$Model", name := "source", desc := "(I)I" } : Jvm.MethodName)) ∈ lg := List.mem_append_left _ (List.mem_append_left _ (List.mem_append_left _ (List.mem_append_left _ (List.mem_append_left _ (List.mem_append_right _ (List.mem_of_getElem? (i := 26) rfl))))))
theorem hw_327 : (Jvm.Cond.code ({ cls := "HistoryJudge$Model", name := "answer", desc := "(IIII)I" } : Jvm.MethodName) prog_5_method_7_code (4 : Nat) (Option.some Jvm.ClassFile.FieldType.int)) ∈ lg := List.mem_append_left _ (List.mem_append_left _ (List.mem_append_left _ (List.mem_append_left _ (List.mem_append_left _ (List.mem_append_right _ (List.mem_of_getElem? (i := 27) rfl))))))
theorem hw_328 : (Jvm.Cond.methodLink "HistoryJudge$Machine" (92 : Nat) ({ cls := "HistoryJudge$Model", name := "answer", desc := "(IIII)I" } : Jvm.MethodName)) ∈ lg := List.mem_append_left _ (List.mem_append_left _ (List.mem_append_left _ (List.mem_append_left _ (List.mem_append_left _ (List.mem_append_right _ (List.mem_of_getElem? (i := 28) rfl))))))
theorem hw_329 : (Jvm.Cond.static ({ cls := "HistoryJudge$Model", name := "answer", desc := "(IIII)I" } : Jvm.MethodName)) ∈ lg := List.mem_append_left _ (List.mem_append_left _ (List.mem_append_left _ (List.mem_append_left _ (List.mem_append_left _ (List.mem_append_right _ (List.mem_of_getElem? (i := 29) rfl))))))
theorem hw_330 : (Jvm.Cond.code ({ cls := "HistoryJudge$Machine", name := "isLate", desc := "(I)Z" } : Jvm.MethodName) prog_4_method_6_code (2 : Nat) (Option.some Jvm.ClassFile.FieldType.boolean)) ∈ lg := List.mem_append_left _ (List.mem_append_left _ (List.mem_append_left _ (List.mem_append_left _ (List.mem_append_left _ (List.mem_append_right _ (List.mem_of_getElem? (i := 30) rfl))))))
theorem hw_331 : (Jvm.Cond.methodLink "HistoryJudge$Machine" (85 : Nat) ({ cls := "HistoryJudge$Machine", name := "isLate", desc := "(I)Z" } : Jvm.MethodName)) ∈ lg := List.mem_append_left _ (List.mem_append_left _ (List.mem_append_left _ (List.mem_append_left _ (List.mem_append_left _ (List.mem_append_right _ (List.mem_of_getElem? (i := 31) rfl))))))
theorem hw_332 : (Jvm.Cond.instanceMethod ({ cls := "HistoryJudge$Machine", name := "isLate", desc := "(I)Z" } : Jvm.MethodName)) ∈ lg := List.mem_append_left _ (List.mem_append_left _ (List.mem_append_left _ (List.mem_append_left _ (List.mem_append_left _ (List.mem_append_right _ (List.mem_of_getElem? (i := 32) rfl))))))
theorem hw_333 : (Jvm.Cond.selects "HistoryJudge$Machine" ({ cls := "HistoryJudge$Machine", name := "isLate", desc := "(I)Z" } : Jvm.MethodName) ({ cls := "HistoryJudge$Machine", name := "isLate", desc := "(I)Z" } : Jvm.MethodName)) ∈ lg := List.mem_append_left _ (List.mem_append_left _ (List.mem_append_left _ (List.mem_append_left _ (List.mem_append_left _ (List.mem_append_right _ (List.mem_of_getElem? (i := 33) rfl))))))
theorem hw_334 : (Jvm.Cond.methodLink "HistoryJudge$Machine" (88 : Nat) ({ cls := "HistoryJudge$Model", name := "after", desc := "(IIII)I" } : Jvm.MethodName)) ∈ lg := List.mem_append_left _ (List.mem_append_left _ (List.mem_append_left _ (List.mem_append_left _ (List.mem_append_left _ (List.mem_append_right _ (List.mem_of_getElem? (i := 34) rfl))))))
theorem hw_335 : (Jvm.Cond.code ({ cls := "HistoryJudge$Machine", name := "act", desc := "(III)V" } : Jvm.MethodName) prog_4_method_7_code (4 : Nat) (Option.none : Option Jvm.ClassFile.FieldType)) ∈ lg := List.mem_append_left _ (List.mem_append_left _ (List.mem_append_left _ (List.mem_append_left _ (List.mem_append_left _ (List.mem_append_right _ (List.mem_of_getElem? (i := 35) rfl))))))
theorem hw_336 : (Jvm.Cond.methodLink "HistoryJudge$Machine" (81 : Nat) ({ cls := "HistoryJudge$Machine", name := "act", desc := "(III)V" } : Jvm.MethodName)) ∈ lg := List.mem_append_left _ (List.mem_append_left _ (List.mem_append_left _ (List.mem_append_left _ (List.mem_append_left _ (List.mem_append_right _ (List.mem_of_getElem? (i := 36) rfl))))))
theorem hw_337 : (Jvm.Cond.instanceMethod ({ cls := "HistoryJudge$Machine", name := "act", desc := "(III)V" } : Jvm.MethodName)) ∈ lg := List.mem_append_left _ (List.mem_append_left _ (List.mem_append_left _ (List.mem_append_left _ (List.mem_append_left _ (List.mem_append_right _ (List.mem_of_getElem? (i := 37) rfl))))))
theorem hw_338 : (Jvm.Cond.selects "HistoryJudge$Machine" ({ cls := "HistoryJudge$Machine", name := "act", desc := "(III)V" } : Jvm.MethodName) ({ cls := "HistoryJudge$Machine", name := "act", desc := "(III)V" } : Jvm.MethodName)) ∈ lg := List.mem_append_left _ (List.mem_append_left _ (List.mem_append_left _ (List.mem_append_left _ (List.mem_append_left _ (List.mem_append_right _ (List.mem_of_getElem? (i := 38) rfl))))))
theorem hw_339 : (Jvm.Cond.code ({ cls := "HistoryJudge$Machine", name := "actByNote", desc := "(IIII)V" } : Jvm.MethodName) prog_4_method_8_code (6 : Nat) (Option.none : Option Jvm.ClassFile.FieldType)) ∈ lg := List.mem_append_left _ (List.mem_append_left _ (List.mem_append_left _ (List.mem_append_left _ (List.mem_append_left _ (List.mem_append_right _ (List.mem_of_getElem? (i := 39) rfl))))))
theorem hw_340 : (Jvm.Cond.methodLink "HistoryJudge$Machine" (77 : Nat) ({ cls := "HistoryJudge$Machine", name := "actByNote", desc := "(IIII)V" } : Jvm.MethodName)) ∈ lg := List.mem_append_left _ (List.mem_append_left _ (List.mem_append_left _ (List.mem_append_left _ (List.mem_append_left _ (List.mem_append_right _ (List.mem_of_getElem? (i := 40) rfl))))))
theorem hw_341 : (Jvm.Cond.instanceMethod ({ cls := "HistoryJudge$Machine", name := "actByNote", desc := "(IIII)V" } : Jvm.MethodName)) ∈ lg := List.mem_append_left _ (List.mem_append_left _ (List.mem_append_left _ (List.mem_append_left _ (List.mem_append_left _ (List.mem_append_right _ (List.mem_of_getElem? (i := 41) rfl))))))
theorem hw_342 : (Jvm.Cond.selects "HistoryJudge$Machine" ({ cls := "HistoryJudge$Machine", name := "actByNote", desc := "(IIII)V" } : Jvm.MethodName) ({ cls := "HistoryJudge$Machine", name := "actByNote", desc := "(IIII)V" } : Jvm.MethodName)) ∈ lg := List.mem_append_left _ (List.mem_append_left _ (List.mem_append_left _ (List.mem_append_left _ (List.mem_append_left _ (List.mem_append_right _ (List.mem_of_getElem? (i := 42) rfl))))))
theorem hw_343 : (Jvm.Cond.fieldLink "HistoryJudge$Machine" (21 : Nat) "HistoryJudge$Machine" "returns" "[I") ∈ lg := List.mem_append_left _ (List.mem_append_left _ (List.mem_append_left _ (List.mem_append_left _ (List.mem_append_left _ (List.mem_append_right _ (List.mem_of_getElem? (i := 43) rfl))))))
theorem hw_344 : (Jvm.Cond.code ({ cls := "HistoryJudge$Machine", name := "step", desc := "(LHistoryJudge$Program;II)V" } : Jvm.MethodName) prog_4_method_3_code (7 : Nat) (Option.none : Option Jvm.ClassFile.FieldType)) ∈ lg := List.mem_append_left _ (List.mem_append_left _ (List.mem_append_left _ (List.mem_append_left _ (List.mem_append_left _ (List.mem_append_right _ (List.mem_of_getElem? (i := 44) rfl))))))
theorem hw_345 : (Jvm.Cond.methodLink "HistoryJudge$Machine" (51 : Nat) ({ cls := "HistoryJudge$Machine", name := "step", desc := "(LHistoryJudge$Program;II)V" } : Jvm.MethodName)) ∈ lg := List.mem_append_left _ (List.mem_append_left _ (List.mem_append_left _ (List.mem_append_left _ (List.mem_append_left _ (List.mem_append_right _ (List.mem_of_getElem? (i := 45) rfl))))))
theorem hw_346 : (Jvm.Cond.instanceMethod ({ cls := "HistoryJudge$Machine", name := "step", desc := "(LHistoryJudge$Program;II)V" } : Jvm.MethodName)) ∈ lg := List.mem_append_left _ (List.mem_append_left _ (List.mem_append_left _ (List.mem_append_left _ (List.mem_append_left _ (List.mem_append_right _ (List.mem_of_getElem? (i := 46) rfl))))))
theorem hw_347 : (Jvm.Cond.selects "HistoryJudge$Machine" ({ cls := "HistoryJudge$Machine", name := "step", desc := "(LHistoryJudge$Program;II)V" } : Jvm.MethodName) ({ cls := "HistoryJudge$Machine", name := "step", desc := "(LHistoryJudge$Program;II)V" } : Jvm.MethodName)) ∈ lg := List.mem_append_left _ (List.mem_append_left _ (List.mem_append_left _ (List.mem_append_left _ (List.mem_append_left _ (List.mem_append_right _ (List.mem_of_getElem? (i := 47) rfl))))))
theorem hw_348 : (Jvm.Cond.methodLink "HistoryJudge$Machine" (42 : Nat) ({ cls := "HistoryJudge$Program", name := "start", desc := "(I)I" } : Jvm.MethodName)) ∈ lg := List.mem_append_left _ (List.mem_append_left _ (List.mem_append_left _ (List.mem_append_left _ (List.mem_append_left _ (List.mem_append_right _ (List.mem_of_getElem? (i := 48) rfl))))))
theorem hw_349 : (Jvm.Cond.code ({ cls := "HistoryJudge$Machine", name := "perform", desc := "(LHistoryJudge$Program;II)V" } : Jvm.MethodName) prog_4_method_2_code (11 : Nat) (Option.none : Option Jvm.ClassFile.FieldType)) ∈ lg := List.mem_append_left _ (List.mem_append_left _ (List.mem_append_left _ (List.mem_append_left _ (List.mem_append_left _ (List.mem_append_right _ (List.mem_of_getElem? (i := 49) rfl))))))
theorem hw_350 : (Jvm.Cond.methodLink "HistoryJudge$Tester" (53 : Nat) ({ cls := "HistoryJudge$Machine", name := "perform", desc := "(LHistoryJudge$Program;II)V" } : Jvm.MethodName)) ∈ lg := List.mem_append_left _ (List.mem_append_left _ (List.mem_append_left _ (List.mem_append_left _ (List.mem_append_left _ (List.mem_append_right _ (List.mem_of_getElem? (i := 50) rfl))))))
theorem hw_351 : (Jvm.Cond.instanceMethod ({ cls := "HistoryJudge$Machine", name := "perform", desc := "(LHistoryJudge$Program;II)V" } : Jvm.MethodName)) ∈ lg := List.mem_append_left _ (List.mem_append_left _ (List.mem_append_left _ (List.mem_append_left _ (List.mem_append_left _ (List.mem_append_right _ (List.mem_of_getElem? (i := 51) rfl))))))
theorem hw_352 : (Jvm.Cond.selects "HistoryJudge$Machine" ({ cls := "HistoryJudge$Machine", name := "perform", desc := "(LHistoryJudge$Program;II)V" } : Jvm.MethodName) ({ cls := "HistoryJudge$Machine", name := "perform", desc := "(LHistoryJudge$Program;II)V" } : Jvm.MethodName)) ∈ lg := List.mem_append_left _ (List.mem_append_left _ (List.mem_append_left _ (List.mem_append_left _ (List.mem_append_left _ (List.mem_append_right _ (List.mem_of_getElem? (i := 52) rfl))))))
theorem hw_353 : (Jvm.Cond.fieldLink "HistoryJudge$Tester" (21 : Nat) "HistoryJudge$Tester" "judge" "LHistoryJudge$Judge;") ∈ lg := List.mem_append_left _ (List.mem_append_left _ (List.mem_append_left _ (List.mem_append_left _ (List.mem_append_left _ (List.mem_append_right _ (List.mem_of_getElem? (i := 53) rfl))))))
theorem hw_354 : (Jvm.Cond.methodLink "HistoryJudge$Judge" (17 : Nat) ({ cls := "HistoryJudge$Program", name := "end", desc := "(I)I" } : Jvm.MethodName)) ∈ lg := List.mem_append_left _ (List.mem_append_left _ (List.mem_append_left _ (List.mem_append_left _ (List.mem_append_left _ (List.mem_append_right _ (List.mem_of_getElem? (i := 54) rfl))))))
theorem hw_355 : (Jvm.Cond.methodLink "HistoryJudge$Judge" (31 : Nat) ({ cls := "HistoryJudge$Program", name := "start", desc := "(I)I" } : Jvm.MethodName)) ∈ lg := List.mem_append_left _ (List.mem_append_left _ (List.mem_append_left _ (List.mem_append_left _ (List.mem_append_left _ (List.mem_append_right _ (List.mem_of_getElem? (i := 55) rfl))))))
theorem hw_356 : (Jvm.Cond.fieldLink "HistoryJudge$Judge" (9 : Nat) "HistoryJudge$Judge" "witness" "[I") ∈ lg := List.mem_append_left _ (List.mem_append_left _ (List.mem_append_left _ (List.mem_append_left _ (List.mem_append_left _ (List.mem_append_right _ (List.mem_of_getElem? (i := 56) rfl))))))
theorem hw_357 : (Jvm.Cond.fieldLink "HistoryJudge$Judge" (46 : Nat) "HistoryJudge$Program" "kinds" "[I") ∈ lg := List.mem_append_left _ (List.mem_append_left _ (List.mem_append_left _ (List.mem_append_left _ (List.mem_append_left _ (List.mem_append_right _ (List.mem_of_getElem? (i := 57) rfl))))))
theorem hw_358 : (Jvm.Cond.fieldLink "HistoryJudge$Judge" (49 : Nat) "HistoryJudge$Program" "cells" "[I") ∈ lg := List.mem_append_left _ (List.mem_append_left _ (List.mem_append_left _ (List.mem_append_left _ (List.mem_append_left _ (List.mem_append_right _ (List.mem_of_getElem? (i := 58) rfl))))))
theorem hw_359 : (Jvm.Cond.fieldLink "HistoryJudge$Judge" (52 : Nat) "HistoryJudge$Machine" "numbers" "[I") ∈ lg := List.mem_append_left _ (List.mem_append_left _ (List.mem_append_left _ (List.mem_append_left _ (List.mem_append_left _ (List.mem_append_right _ (List.mem_of_getElem? (i := 59) rfl))))))
theorem hw_360 : (Jvm.Cond.methodLink "HistoryJudge$Judge" (55 : Nat) ({ cls := "HistoryJudge$Model", name := "answer", desc := "(IIII)I" } : Jvm.MethodName)) ∈ lg := List.mem_append_left _ (List.mem_append_left _ (List.mem_append_left _ (List.mem_append_left _ (List.mem_append_right _ (List.mem_of_getElem? (i := 0) rfl)))))
theorem hw_361 : (Jvm.Cond.fieldLink "HistoryJudge$Judge" (59 : Nat) "HistoryJudge$Machine" "answers" "[I") ∈ lg := List.mem_append_left _ (List.mem_append_left _ (List.mem_append_left _ (List.mem_append_left _ (List.mem_append_right _ (List.mem_of_getElem? (i := 1) rfl)))))
theorem hw_362 : (Jvm.Cond.code ({ cls := "HistoryJudge$Judge", name := "answersSo", desc := "(LHistoryJudge$Program;LHistoryJudge$Machine;II)Z" } : Jvm.MethodName) prog_3_method_4_code (5 : Nat) (Option.some Jvm.ClassFile.FieldType.boolean)) ∈ lg := List.mem_append_left _ (List.mem_append_left _ (List.mem_append_left _ (List.mem_append_left _ (List.mem_append_right _ (List.mem_of_getElem? (i := 2) rfl)))))
theorem hw_363 : (Jvm.Cond.methodLink "HistoryJudge$Judge" (23 : Nat) ({ cls := "HistoryJudge$Judge", name := "answersSo", desc := "(LHistoryJudge$Program;LHistoryJudge$Machine;II)Z" } : Jvm.MethodName)) ∈ lg := List.mem_append_left _ (List.mem_append_left _ (List.mem_append_left _ (List.mem_append_left _ (List.mem_append_right _ (List.mem_of_getElem? (i := 3) rfl)))))
theorem hw_364 : (Jvm.Cond.static ({ cls := "HistoryJudge$Judge", name := "answersSo", desc := "(LHistoryJudge$Program;LHistoryJudge$Machine;II)Z" } : Jvm.MethodName)) ∈ lg := List.mem_append_left _ (List.mem_append_left _ (List.mem_append_left _ (List.mem_append_left _ (List.mem_append_right _ (List.mem_of_getElem? (i := 4) rfl)))))
theorem hw_365 : (Jvm.Cond.initialized "HistoryJudge$Judge") ∈ lg := List.mem_append_left _ (List.mem_append_left _ (List.mem_append_left _ (List.mem_append_left _ (List.mem_append_right _ (List.mem_of_getElem? (i := 5) rfl)))))
theorem hw_366 : (Jvm.Cond.methodLink "HistoryJudge$Judge" (62 : Nat) ({ cls := "HistoryJudge$Model", name := "after", desc := "(IIII)I" } : Jvm.MethodName)) ∈ lg := List.mem_append_left _ (List.mem_append_left _ (List.mem_append_left _ (List.mem_append_left _ (List.mem_append_right _ (List.mem_of_getElem? (i := 6) rfl)))))
theorem hw_367 : (Jvm.Cond.code ({ cls := "HistoryJudge$Judge", name := "after", desc := "(LHistoryJudge$Program;LHistoryJudge$Machine;II)I" } : Jvm.MethodName) prog_3_method_5_code (4 : Nat) (Option.some Jvm.ClassFile.FieldType.int)) ∈ lg := List.mem_append_left _ (List.mem_append_left _ (List.mem_append_left _ (List.mem_append_left _ (List.mem_append_right _ (List.mem_of_getElem? (i := 7) rfl)))))
theorem hw_368 : (Jvm.Cond.methodLink "HistoryJudge$Judge" (27 : Nat) ({ cls := "HistoryJudge$Judge", name := "after", desc := "(LHistoryJudge$Program;LHistoryJudge$Machine;II)I" } : Jvm.MethodName)) ∈ lg := List.mem_append_left _ (List.mem_append_left _ (List.mem_append_left _ (List.mem_append_left _ (List.mem_append_right _ (List.mem_of_getElem? (i := 8) rfl)))))
theorem hw_369 : (Jvm.Cond.static ({ cls := "HistoryJudge$Judge", name := "after", desc := "(LHistoryJudge$Program;LHistoryJudge$Machine;II)I" } : Jvm.MethodName)) ∈ lg := List.mem_append_left _ (List.mem_append_left _ (List.mem_append_left _ (List.mem_append_left _ (List.mem_append_right _ (List.mem_of_getElem? (i := 9) rfl)))))
theorem hw_370 : (Jvm.Cond.code ({ cls := "HistoryJudge$Judge", name := "search", desc := "(LHistoryJudge$Program;LHistoryJudge$Machine;IIII)Z" } : Jvm.MethodName) prog_3_method_3_code (12 : Nat) (Option.some Jvm.ClassFile.FieldType.boolean)) ∈ lg := List.mem_append_left _ (List.mem_append_left _ (List.mem_append_left _ (List.mem_append_left _ (List.mem_append_right _ (List.mem_of_getElem? (i := 10) rfl)))))
theorem hw_371 : (Jvm.Cond.methodLink "HistoryJudge$Judge" (34 : Nat) ({ cls := "HistoryJudge$Judge", name := "search", desc := "(LHistoryJudge$Program;LHistoryJudge$Machine;IIII)Z" } : Jvm.MethodName)) ∈ lg := List.mem_append_left _ (List.mem_append_left _ (List.mem_append_left _ (List.mem_append_left _ (List.mem_append_right _ (List.mem_of_getElem? (i := 11) rfl)))))
theorem hw_372 : (Jvm.Cond.instanceMethod ({ cls := "HistoryJudge$Judge", name := "search", desc := "(LHistoryJudge$Program;LHistoryJudge$Machine;IIII)Z" } : Jvm.MethodName)) ∈ lg := List.mem_append_left _ (List.mem_append_left _ (List.mem_append_left _ (List.mem_append_left _ (List.mem_append_right _ (List.mem_of_getElem? (i := 12) rfl)))))
theorem hw_373 : (Jvm.Cond.selects "HistoryJudge$Judge" ({ cls := "HistoryJudge$Judge", name := "search", desc := "(LHistoryJudge$Program;LHistoryJudge$Machine;IIII)Z" } : Jvm.MethodName) ({ cls := "HistoryJudge$Judge", name := "search", desc := "(LHistoryJudge$Program;LHistoryJudge$Machine;IIII)Z" } : Jvm.MethodName)) ∈ lg := List.mem_append_left _ (List.mem_append_left _ (List.mem_append_left _ (List.mem_append_left _ (List.mem_append_right _ (List.mem_of_getElem? (i := 13) rfl)))))
theorem hw_374 : (Jvm.Cond.fieldLink "HistoryJudge$Judge" (38 : Nat) "HistoryJudge$Machine" "returns" "[I") ∈ lg := List.mem_append_left _ (List.mem_append_left _ (List.mem_append_left _ (List.mem_append_left _ (List.mem_append_right _ (List.mem_of_getElem? (i := 14) rfl)))))
theorem hw_375 : (Jvm.Cond.fieldLink "HistoryJudge$Judge" (43 : Nat) "HistoryJudge$Machine" "calls" "[I") ∈ lg := List.mem_append_left _ (List.mem_append_left _ (List.mem_append_left _ (List.mem_append_left _ (List.mem_append_right _ (List.mem_of_getElem? (i := 15) rfl)))))
theorem hw_376 : (Jvm.Cond.code ({ cls := "HistoryJudge$Judge", name := "explains", desc := "(LHistoryJudge$Program;LHistoryJudge$Machine;)Z" } : Jvm.MethodName) prog_3_method_2_code (6 : Nat) (Option.some Jvm.ClassFile.FieldType.boolean)) ∈ lg := List.mem_append_left _ (List.mem_append_left _ (List.mem_append_left _ (List.mem_append_left _ (List.mem_append_right _ (List.mem_of_getElem? (i := 16) rfl)))))
theorem hw_377 : (Jvm.Cond.methodLink "HistoryJudge$Tester" (57 : Nat) ({ cls := "HistoryJudge$Judge", name := "explains", desc := "(LHistoryJudge$Program;LHistoryJudge$Machine;)Z" } : Jvm.MethodName)) ∈ lg := List.mem_append_left _ (List.mem_append_left _ (List.mem_append_left _ (List.mem_append_left _ (List.mem_append_right _ (List.mem_of_getElem? (i := 17) rfl)))))
theorem hw_378 : (Jvm.Cond.instanceMethod ({ cls := "HistoryJudge$Judge", name := "explains", desc := "(LHistoryJudge$Program;LHistoryJudge$Machine;)Z" } : Jvm.MethodName)) ∈ lg := List.mem_append_left _ (List.mem_append_left _ (List.mem_append_left _ (List.mem_append_left _ (List.mem_append_right _ (List.mem_of_getElem? (i := 18) rfl)))))
theorem hw_379 : (Jvm.Cond.selects "HistoryJudge$Judge" ({ cls := "HistoryJudge$Judge", name := "explains", desc := "(LHistoryJudge$Program;LHistoryJudge$Machine;)Z" } : Jvm.MethodName) ({ cls := "HistoryJudge$Judge", name := "explains", desc := "(LHistoryJudge$Program;LHistoryJudge$Machine;)Z" } : Jvm.MethodName)) ∈ lg := List.mem_append_left _ (List.mem_append_left _ (List.mem_append_left _ (List.mem_append_left _ (List.mem_append_right _ (List.mem_of_getElem? (i := 19) rfl)))))
theorem hw_380 : (Jvm.Cond.fieldLink "HistoryJudge$Tester" (42 : Nat) "HistoryJudge$Tester" "explained" "Z") ∈ lg := List.mem_append_left _ (List.mem_append_left _ (List.mem_append_left _ (List.mem_append_left _ (List.mem_append_right _ (List.mem_of_getElem? (i := 20) rfl)))))
theorem hw_381 : (Jvm.Cond.fieldLink "HistoryJudge$Tester" (33 : Nat) "HistoryJudge$Tester" "runs" "I") ∈ lg := List.mem_append_left _ (List.mem_append_left _ (List.mem_append_left _ (List.mem_append_left _ (List.mem_append_right _ (List.mem_of_getElem? (i := 21) rfl)))))
theorem hw_382 : (Jvm.Cond.methodLink "HistoryJudge$Tester" (61 : Nat) ({ cls := "HistoryJudge$Program", name := "size", desc := "()I" } : Jvm.MethodName)) ∈ lg := List.mem_append_left _ (List.mem_append_left _ (List.mem_append_left _ (List.mem_append_left _ (List.mem_append_right _ (List.mem_of_getElem? (i := 22) rfl)))))
theorem hw_383 : (Jvm.Cond.fieldLink "HistoryJudge$Tester" (25 : Nat) "HistoryJudge$Tester" "tallies" "[I") ∈ lg := List.mem_append_left _ (List.mem_append_left _ (List.mem_append_left _ (List.mem_append_left _ (List.mem_append_right _ (List.mem_of_getElem? (i := 23) rfl)))))
theorem hw_384 : (Jvm.Cond.fieldLink "HistoryJudge$Tester" (67 : Nat) "HistoryJudge$Program" "kinds" "[I") ∈ lg := List.mem_append_left _ (List.mem_append_left _ (List.mem_append_left _ (List.mem_append_left _ (List.mem_append_right _ (List.mem_of_getElem? (i := 24) rfl)))))
theorem hw_385 : (Jvm.Cond.fieldLink "HistoryJudge$Tester" (36 : Nat) "HistoryJudge$Tester" "unexplained" "I") ∈ lg := List.mem_append_left _ (List.mem_append_left _ (List.mem_append_left _ (List.mem_append_left _ (List.mem_append_right _ (List.mem_of_getElem? (i := 25) rfl)))))
theorem hw_386 : (Jvm.Cond.fieldLink "HistoryJudge$Tester" (49 : Nat) "HistoryJudge$Tester" "draws" "LHistoryJudge$Draws;") ∈ lg := List.mem_append_left _ (List.mem_append_left _ (List.mem_append_left _ (List.mem_append_left _ (List.mem_append_right _ (List.mem_of_getElem? (i := 26) rfl)))))
theorem hw_387 : (Jvm.Cond.code ({ cls := "HistoryJudge$Draws", name := "restart", desc := "(J)V" } : Jvm.MethodName) prog_2_method_2_code (3 : Nat) (Option.none : Option Jvm.ClassFile.FieldType)) ∈ lg := List.mem_append_left _ (List.mem_append_left _ (List.mem_append_left _ (List.mem_append_left _ (List.mem_append_right _ (List.mem_of_getElem? (i := 27) rfl)))))
theorem hw_388 : (Jvm.Cond.methodLink "HistoryJudge$Tester" (70 : Nat) ({ cls := "HistoryJudge$Draws", name := "restart", desc := "(J)V" } : Jvm.MethodName)) ∈ lg := List.mem_append_left _ (List.mem_append_left _ (List.mem_append_left _ (List.mem_append_left _ (List.mem_append_right _ (List.mem_of_getElem? (i := 28) rfl)))))
theorem hw_389 : (Jvm.Cond.instanceMethod ({ cls := "HistoryJudge$Draws", name := "restart", desc := "(J)V" } : Jvm.MethodName)) ∈ lg := List.mem_append_left _ (List.mem_append_left _ (List.mem_append_left _ (List.mem_append_left _ (List.mem_append_right _ (List.mem_of_getElem? (i := 29) rfl)))))
theorem hw_390 : (Jvm.Cond.selects "HistoryJudge$Draws" ({ cls := "HistoryJudge$Draws", name := "restart", desc := "(J)V" } : Jvm.MethodName) ({ cls := "HistoryJudge$Draws", name := "restart", desc := "(J)V" } : Jvm.MethodName)) ∈ lg := List.mem_append_left _ (List.mem_append_left _ (List.mem_append_left _ (List.mem_append_left _ (List.mem_append_right _ (List.mem_of_getElem? (i := 30) rfl)))))
theorem hw_391 : (Jvm.Cond.constant "HistoryJudge$Tester" (74 : Nat) (2147483647 : Int32)) ∈ lg := List.mem_append_left _ (List.mem_append_left _ (List.mem_append_left _ (List.mem_append_left _ (List.mem_append_right _ (List.mem_of_getElem? (i := 31) rfl)))))
theorem hw_392 : (Jvm.Cond.methodLink "HistoryJudge$Tester" (75 : Nat) ({ cls := "HistoryJudge$Draws", name := "below", desc := "(I)I" } : Jvm.MethodName)) ∈ lg := List.mem_append_left _ (List.mem_append_left _ (List.mem_append_left _ (List.mem_append_left _ (List.mem_append_right _ (List.mem_of_getElem? (i := 32) rfl)))))
theorem hw_393 : (Jvm.Cond.code ({ cls := "HistoryJudge$Tester", name := "test", desc := "(LHistoryJudge$Program;I)Z" } : Jvm.MethodName) prog_7_method_2_code (5 : Nat) (Option.some Jvm.ClassFile.FieldType.boolean)) ∈ lg := List.mem_append_left _ (List.mem_append_left _ (List.mem_append_left _ (List.mem_append_left _ (List.mem_append_right _ (List.mem_of_getElem? (i := 33) rfl)))))
theorem hw_394 : (Jvm.Cond.methodLink "HistoryJudge$Tester" (79 : Nat) ({ cls := "HistoryJudge$Tester", name := "test", desc := "(LHistoryJudge$Program;I)Z" } : Jvm.MethodName)) ∈ lg := List.mem_append_left _ (List.mem_append_left _ (List.mem_append_left _ (List.mem_append_left _ (List.mem_append_right _ (List.mem_of_getElem? (i := 34) rfl)))))
theorem hw_395 : (Jvm.Cond.instanceMethod ({ cls := "HistoryJudge$Tester", name := "test", desc := "(LHistoryJudge$Program;I)Z" } : Jvm.MethodName)) ∈ lg := List.mem_append_left _ (List.mem_append_left _ (List.mem_append_left _ (List.mem_append_left _ (List.mem_append_right _ (List.mem_of_getElem? (i := 35) rfl)))))
theorem hw_396 : (Jvm.Cond.selects "HistoryJudge$Tester" ({ cls := "HistoryJudge$Tester", name := "test", desc := "(LHistoryJudge$Program;I)Z" } : Jvm.MethodName) ({ cls := "HistoryJudge$Tester", name := "test", desc := "(LHistoryJudge$Program;I)Z" } : Jvm.MethodName)) ∈ lg := List.mem_append_left _ (List.mem_append_left _ (List.mem_append_left _ (List.mem_append_left _ (List.mem_append_right _ (List.mem_of_getElem? (i := 36) rfl)))))
theorem hw_397 : (Jvm.Cond.initialized "HistoryJudge$Tester") ∈ lg := List.mem_append_left _ (List.mem_append_left _ (List.mem_append_left _ (List.mem_append_left _ (List.mem_append_right _ (List.mem_of_getElem? (i := 37) rfl)))))
theorem hw_398 : (Jvm.Cond.code ({ cls := "HistoryJudge", name := "isBelow", desc := "(II)Z" } : Jvm.MethodName) prog_1_method_15_code (2 : Nat) (Option.some Jvm.ClassFile.FieldType.boolean)) ∈ lg := List.mem_append_left _ (List.mem_append_left _ (List.mem_append_left _ (List.mem_append_left _ (List.mem_append_right _ (List.mem_of_getElem? (i := 38) rfl)))))
theorem hw_399 : (Jvm.Cond.methodLink "HistoryJudge" (41 : Nat) ({ cls := "HistoryJudge", name := "isBelow", desc := "(II)Z" } : Jvm.MethodName)) ∈ lg := List.mem_append_left _ (List.mem_append_left _ (List.mem_append_left _ (List.mem_append_left _ (List.mem_append_right _ (List.mem_of_getElem? (i := 39) rfl)))))
theorem hw_400 : (Jvm.Cond.static ({ cls := "HistoryJudge", name := "isBelow", desc := "(II)Z" } : Jvm.MethodName)) ∈ lg := List.mem_append_left _ (List.mem_append_left _ (List.mem_append_left _ (List.mem_append_left _ (List.mem_append_right _ (List.mem_of_getElem? (i := 40) rfl)))))
theorem hw_401 : (Jvm.Cond.classLink "HistoryJudge" (45 : Nat) "java/lang/IllegalArgumentException") ∈ lg := List.mem_append_left _ (List.mem_append_left _ (List.mem_append_left _ (List.mem_append_left _ (List.mem_append_right _ (List.mem_of_getElem? (i := 41) rfl)))))
theorem hw_402 : (Jvm.Cond.initialized "java/lang/IllegalArgumentException") ∈ lg := List.mem_append_left _ (List.mem_append_left _ (List.mem_append_left _ (List.mem_append_left _ (List.mem_append_right _ (List.mem_of_getElem? (i := 42) rfl)))))
theorem hw_403 : (Jvm.Cond.code ({ cls := "HistoryJudge$Program", name := "mayTake", desc := "(II)Z" } : Jvm.MethodName) prog_6_method_9_code (4 : Nat) (Option.some Jvm.ClassFile.FieldType.boolean)) ∈ lg := List.mem_append_left _ (List.mem_append_left _ (List.mem_append_left _ (List.mem_append_left _ (List.mem_append_right _ (List.mem_of_getElem? (i := 43) rfl)))))
theorem hw_404 : (Jvm.Cond.methodLink "HistoryJudge" (52 : Nat) ({ cls := "HistoryJudge$Program", name := "mayTake", desc := "(II)Z" } : Jvm.MethodName)) ∈ lg := List.mem_append_left _ (List.mem_append_left _ (List.mem_append_left _ (List.mem_append_left _ (List.mem_append_right _ (List.mem_of_getElem? (i := 44) rfl)))))
theorem hw_405 : (Jvm.Cond.instanceMethod ({ cls := "HistoryJudge$Program", name := "mayTake", desc := "(II)Z" } : Jvm.MethodName)) ∈ lg := List.mem_append_left _ (List.mem_append_left _ (List.mem_append_left _ (List.mem_append_left _ (List.mem_append_right _ (List.mem_of_getElem? (i := 45) rfl)))))
theorem hw_406 : (Jvm.Cond.selects "HistoryJudge$Program" ({ cls := "HistoryJudge$Program", name := "mayTake", desc := "(II)Z" } : Jvm.MethodName) ({ cls := "HistoryJudge$Program", name := "mayTake", desc := "(II)Z" } : Jvm.MethodName)) ∈ lg := List.mem_append_left _ (List.mem_append_left _ (List.mem_append_left _ (List.mem_append_left _ (List.mem_append_right _ (List.mem_of_getElem? (i := 46) rfl)))))
theorem hw_407 : (Jvm.Cond.methodLink "HistoryJudge" (57 : Nat) ({ cls := "HistoryJudge$Program", name := "hasRoom", desc := "(I)Z" } : Jvm.MethodName)) ∈ lg := List.mem_append_left _ (List.mem_append_left _ (List.mem_append_left _ (List.mem_append_left _ (List.mem_append_right _ (List.mem_of_getElem? (i := 47) rfl)))))
theorem hw_408 : (Jvm.Cond.methodLink "HistoryJudge" (66 : Nat) ({ cls := "HistoryJudge$Program", name := "end", desc := "(I)I" } : Jvm.MethodName)) ∈ lg := List.mem_append_left _ (List.mem_append_left _ (List.mem_append_left _ (List.mem_append_left _ (List.mem_append_right _ (List.mem_of_getElem? (i := 48) rfl)))))
theorem hw_409 : (Jvm.Cond.classLink "HistoryJudge" (74 : Nat) "java/lang/UnsupportedOperationException") ∈ lg := List.mem_append_left _ (List.mem_append_left _ (List.mem_append_left _ (List.mem_append_left _ (List.mem_append_right _ (List.mem_of_getElem? (i := 49) rfl)))))
theorem hw_410 : (Jvm.Cond.initialized "java/lang/UnsupportedOperationException") ∈ lg := List.mem_append_left _ (List.mem_append_left _ (List.mem_append_left _ (List.mem_append_left _ (List.mem_append_right _ (List.mem_of_getElem? (i := 50) rfl)))))
theorem hw_411 : (Jvm.Cond.classLink "HistoryJudge" (61 : Nat) "java/lang/IllegalStateException") ∈ lg := List.mem_append_left _ (List.mem_append_left _ (List.mem_append_left _ (List.mem_append_left _ (List.mem_append_right _ (List.mem_of_getElem? (i := 51) rfl)))))
theorem hw_412 : (Jvm.Cond.initialized "java/lang/IllegalStateException") ∈ lg := List.mem_append_left _ (List.mem_append_left _ (List.mem_append_left _ (List.mem_append_left _ (List.mem_append_right _ (List.mem_of_getElem? (i := 52) rfl)))))
theorem hw_413 : (Jvm.Cond.methodLink "HistoryJudge" (88 : Nat) ({ cls := "HistoryJudge$Draws", name := "restart", desc := "(J)V" } : Jvm.MethodName)) ∈ lg := List.mem_append_left _ (List.mem_append_left _ (List.mem_append_left _ (List.mem_append_left _ (List.mem_append_right _ (List.mem_of_getElem? (i := 53) rfl)))))
theorem hw_414 : (Jvm.Cond.code ({ cls := "HistoryJudge", name := "drawBranch", desc := "(II)V" } : Jvm.MethodName) prog_1_method_17_code (6 : Nat) (Option.none : Option Jvm.ClassFile.FieldType)) ∈ lg := List.mem_append_left _ (List.mem_append_left _ (List.mem_append_left _ (List.mem_append_left _ (List.mem_append_right _ (List.mem_of_getElem? (i := 54) rfl)))))
theorem hw_415 : (Jvm.Cond.methodLink "HistoryJudge" (92 : Nat) ({ cls := "HistoryJudge", name := "drawBranch", desc := "(II)V" } : Jvm.MethodName)) ∈ lg := List.mem_append_left _ (List.mem_append_left _ (List.mem_append_left _ (List.mem_append_left _ (List.mem_append_right _ (List.mem_of_getElem? (i := 55) rfl)))))
theorem hw_416 : (Jvm.Cond.instanceMethod ({ cls := "HistoryJudge", name := "drawBranch", desc := "(II)V" } : Jvm.MethodName)) ∈ lg := List.mem_append_left _ (List.mem_append_left _ (List.mem_append_left _ (List.mem_append_left _ (List.mem_append_right _ (List.mem_of_getElem? (i := 56) rfl)))))
theorem hw_417 : (Jvm.Cond.selects "HistoryJudge" ({ cls := "HistoryJudge", name := "drawBranch", desc := "(II)V" } : Jvm.MethodName) ({ cls := "HistoryJudge", name := "drawBranch", desc := "(II)V" } : Jvm.MethodName)) ∈ lg := List.mem_append_left _ (List.mem_append_left _ (List.mem_append_left _ (List.mem_append_left _ (List.mem_append_right _ (List.mem_of_getElem? (i := 57) rfl)))))
theorem hw_418 : (Jvm.Cond.fieldLink "HistoryJudge" (22 : Nat) "HistoryJudge" "tester" "LHistoryJudge$Tester;") ∈ lg := List.mem_append_left _ (List.mem_append_left _ (List.mem_append_left _ (List.mem_append_left _ (List.mem_append_right _ (List.mem_of_getElem? (i := 58) rfl)))))
theorem hw_419 : (Jvm.Cond.fieldLink "HistoryJudge" (98 : Nat) "HistoryJudge$Tester" "flawBits" "I") ∈ lg := List.mem_append_left _ (List.mem_append_left _ (List.mem_append_left _ (List.mem_append_left _ (List.mem_append_right _ (List.mem_of_getElem? (i := 59) rfl)))))
theorem hw_420 : (Jvm.Cond.methodLink "HistoryJudge" (103 : Nat) ({ cls := "HistoryJudge$Tester", name := "test", desc := "(LHistoryJudge$Program;I)Z" } : Jvm.MethodName)) ∈ lg := List.mem_append_left _ (List.mem_append_left _ (List.mem_append_left _ (List.mem_append_right _ (List.mem_of_getElem? (i := 0) rfl))))
theorem hw_421 : (Jvm.Cond.code ({ cls := "HistoryJudge$Tester", name := "firstFailure", desc := "(LHistoryJudge$Program;JI)I" } : Jvm.MethodName) prog_7_method_3_code (6 : Nat) (Option.some Jvm.ClassFile.FieldType.int)) ∈ lg := List.mem_append_left _ (List.mem_append_left _ (List.mem_append_left _ (List.mem_append_right _ (List.mem_of_getElem? (i := 1) rfl))))
theorem hw_422 : (Jvm.Cond.methodLink "HistoryJudge" (109 : Nat) ({ cls := "HistoryJudge$Tester", name := "firstFailure", desc := "(LHistoryJudge$Program;JI)I" } : Jvm.MethodName)) ∈ lg := List.mem_append_left _ (List.mem_append_left _ (List.mem_append_left _ (List.mem_append_right _ (List.mem_of_getElem? (i := 2) rfl))))
theorem hw_423 : (Jvm.Cond.instanceMethod ({ cls := "HistoryJudge$Tester", name := "firstFailure", desc := "(LHistoryJudge$Program;JI)I" } : Jvm.MethodName)) ∈ lg := List.mem_append_left _ (List.mem_append_left _ (List.mem_append_left _ (List.mem_append_right _ (List.mem_of_getElem? (i := 3) rfl))))
theorem hw_424 : (Jvm.Cond.selects "HistoryJudge$Tester" ({ cls := "HistoryJudge$Tester", name := "firstFailure", desc := "(LHistoryJudge$Program;JI)I" } : Jvm.MethodName) ({ cls := "HistoryJudge$Tester", name := "firstFailure", desc := "(LHistoryJudge$Program;JI)I" } : Jvm.MethodName)) ∈ lg := List.mem_append_left _ (List.mem_append_left _ (List.mem_append_left _ (List.mem_append_right _ (List.mem_of_getElem? (i := 4) rfl))))
theorem hw_425 : (Jvm.Cond.fieldLink "HistoryJudge" (115 : Nat) "HistoryJudge$Tester" "schedule" "I") ∈ lg := List.mem_append_left _ (List.mem_append_left _ (List.mem_append_left _ (List.mem_append_right _ (List.mem_of_getElem? (i := 5) rfl))))
theorem hw_426 : (Jvm.Cond.fieldLink "HistoryJudge" (33 : Nat) "HistoryJudge" "taken" "I") ∈ lg := List.mem_append_left _ (List.mem_append_left _ (List.mem_append_left _ (List.mem_append_right _ (List.mem_of_getElem? (i := 6) rfl))))
theorem hw_427 : (Jvm.Cond.code ({ cls := "HistoryJudge", name := "prepareCandidate", desc := "(I)Z" } : Jvm.MethodName) prog_1_method_19_code (3 : Nat) (Option.some Jvm.ClassFile.FieldType.boolean)) ∈ lg := List.mem_append_left _ (List.mem_append_left _ (List.mem_append_left _ (List.mem_append_right _ (List.mem_of_getElem? (i := 7) rfl))))
theorem hw_428 : (Jvm.Cond.methodLink "HistoryJudge" (118 : Nat) ({ cls := "HistoryJudge", name := "prepareCandidate", desc := "(I)Z" } : Jvm.MethodName)) ∈ lg := List.mem_append_left _ (List.mem_append_left _ (List.mem_append_left _ (List.mem_append_right _ (List.mem_of_getElem? (i := 8) rfl))))
theorem hw_429 : (Jvm.Cond.instanceMethod ({ cls := "HistoryJudge", name := "prepareCandidate", desc := "(I)Z" } : Jvm.MethodName)) ∈ lg := List.mem_append_left _ (List.mem_append_left _ (List.mem_append_left _ (List.mem_append_right _ (List.mem_of_getElem? (i := 9) rfl))))
theorem hw_430 : (Jvm.Cond.selects "HistoryJudge" ({ cls := "HistoryJudge", name := "prepareCandidate", desc := "(I)Z" } : Jvm.MethodName) ({ cls := "HistoryJudge", name := "prepareCandidate", desc := "(I)Z" } : Jvm.MethodName)) ∈ lg := List.mem_append_left _ (List.mem_append_left _ (List.mem_append_left _ (List.mem_append_right _ (List.mem_of_getElem? (i := 10) rfl))))
theorem hw_431 : (Jvm.Cond.classLink "HistoryJudge" (129 : Nat) "java/lang/IndexOutOfBoundsException") ∈ lg := List.mem_append_left _ (List.mem_append_left _ (List.mem_append_left _ (List.mem_append_right _ (List.mem_of_getElem? (i := 11) rfl))))
theorem hw_432 : (Jvm.Cond.initialized "java/lang/IndexOutOfBoundsException") ∈ lg := List.mem_append_left _ (List.mem_append_left _ (List.mem_append_left _ (List.mem_append_right _ (List.mem_of_getElem? (i := 12) rfl))))
theorem hw_433 : (Jvm.Cond.methodLink "HistoryJudge" (134 : Nat) ({ cls := "HistoryJudge$Program", name := "branchOf", desc := "(I)I" } : Jvm.MethodName)) ∈ lg := List.mem_append_left _ (List.mem_append_left _ (List.mem_append_left _ (List.mem_append_right _ (List.mem_of_getElem? (i := 13) rfl))))
theorem hw_434 : (Jvm.Cond.fieldLink "HistoryJudge" (137 : Nat) "HistoryJudge$Program" "kinds" "[I") ∈ lg := List.mem_append_left _ (List.mem_append_left _ (List.mem_append_left _ (List.mem_append_right _ (List.mem_of_getElem? (i := 14) rfl))))
theorem hw_435 : (Jvm.Cond.fieldLink "HistoryJudge" (141 : Nat) "HistoryJudge$Program" "cells" "[I") ∈ lg := List.mem_append_left _ (List.mem_append_left _ (List.mem_append_left _ (List.mem_append_right _ (List.mem_of_getElem? (i := 15) rfl))))
theorem hw_436 : (Jvm.Cond.fieldLink "HistoryJudge" (144 : Nat) "HistoryJudge$Program" "arguments" "[I") ∈ lg := List.mem_append_left _ (List.mem_append_left _ (List.mem_append_left _ (List.mem_append_right _ (List.mem_of_getElem? (i := 16) rfl))))
theorem hw_437 : (Jvm.Cond.fieldLink "HistoryJudge" (151 : Nat) "HistoryJudge$Tester" "machine" "LHistoryJudge$Machine;") ∈ lg := List.mem_append_left _ (List.mem_append_left _ (List.mem_append_left _ (List.mem_append_right _ (List.mem_of_getElem? (i := 17) rfl))))
theorem hw_438 : (Jvm.Cond.fieldLink "HistoryJudge" (155 : Nat) "HistoryJudge$Machine" "answers" "[I") ∈ lg := List.mem_append_left _ (List.mem_append_left _ (List.mem_append_left _ (List.mem_append_right _ (List.mem_of_getElem? (i := 18) rfl))))
theorem hw_439 : (Jvm.Cond.fieldLink "HistoryJudge" (160 : Nat) "HistoryJudge$Machine" "numbers" "[I") ∈ lg := List.mem_append_left _ (List.mem_append_left _ (List.mem_append_left _ (List.mem_append_right _ (List.mem_of_getElem? (i := 19) rfl))))
theorem hw_440 : (Jvm.Cond.fieldLink "HistoryJudge" (163 : Nat) "HistoryJudge$Machine" "calls" "[I") ∈ lg := List.mem_append_left _ (List.mem_append_left _ (List.mem_append_left _ (List.mem_append_right _ (List.mem_of_getElem? (i := 20) rfl))))
theorem hw_441 : (Jvm.Cond.fieldLink "HistoryJudge" (166 : Nat) "HistoryJudge$Machine" "returns" "[I") ∈ lg := List.mem_append_left _ (List.mem_append_left _ (List.mem_append_left _ (List.mem_append_right _ (List.mem_of_getElem? (i := 21) rfl))))
theorem hw_442 : (Jvm.Cond.fieldLink "HistoryJudge" (191 : Nat) "HistoryJudge$Machine" "cells" "I") ∈ lg := List.mem_append_left _ (List.mem_append_left _ (List.mem_append_left _ (List.mem_append_right _ (List.mem_of_getElem? (i := 22) rfl))))
theorem hw_443 : (Jvm.Cond.methodLink "HistoryJudge" (193 : Nat) ({ cls := "HistoryJudge$Model", name := "content", desc := "(II)I" } : Jvm.MethodName)) ∈ lg := List.mem_append_left _ (List.mem_append_left _ (List.mem_append_left _ (List.mem_append_right _ (List.mem_of_getElem? (i := 23) rfl))))
theorem hw_444 : (Jvm.Cond.fieldLink "HistoryJudge" (199 : Nat) "HistoryJudge$Tester" "runs" "I") ∈ lg := List.mem_append_left _ (List.mem_append_left _ (List.mem_append_left _ (List.mem_append_right _ (List.mem_of_getElem? (i := 24) rfl))))
theorem hw_445 : (Jvm.Cond.fieldLink "HistoryJudge" (202 : Nat) "HistoryJudge$Tester" "unexplained" "I") ∈ lg := List.mem_append_left _ (List.mem_append_left _ (List.mem_append_left _ (List.mem_append_right _ (List.mem_of_getElem? (i := 25) rfl))))
theorem hw_446 : (Jvm.Cond.fieldLink "HistoryJudge" (209 : Nat) "HistoryJudge$Tester" "tallies" "[I") ∈ lg := List.mem_append_left _ (List.mem_append_left _ (List.mem_append_left _ (List.mem_append_right _ (List.mem_of_getElem? (i := 26) rfl))))
theorem hw_447 : (Jvm.Cond.initialized "java/lang/Throwable") ∈ lg := List.mem_append_left _ (List.mem_append_left _ (List.mem_append_left _ (List.mem_append_right _ (List.mem_of_getElem? (i := 27) rfl))))
theorem hw_448 : (Jvm.Cond.initialized "java/lang/Exception") ∈ lg := List.mem_append_left _ (List.mem_append_left _ (List.mem_append_left _ (List.mem_append_right _ (List.mem_of_getElem? (i := 28) rfl))))
theorem hw_449 : (Jvm.Cond.initialized "java/lang/RuntimeException") ∈ lg := List.mem_append_left _ (List.mem_append_left _ (List.mem_append_left _ (List.mem_append_right _ (List.mem_of_getElem? (i := 29) rfl))))
theorem hw_450 : (Jvm.Cond.initialized "java/util/NoSuchElementException") ∈ lg := List.mem_append_left _ (List.mem_append_left _ (List.mem_append_left _ (List.mem_append_right _ (List.mem_of_getElem? (i := 30) rfl))))
theorem hw_451 : (Jvm.Cond.methodLink "HistoryJudge" (3 : Nat) ({ cls := "java/lang/Object", name := "<init>", desc := "()V" } : Jvm.MethodName)) ∈ lg := List.mem_append_left _ (List.mem_append_left _ (List.mem_append_left _ (List.mem_append_right _ (List.mem_of_getElem? (i := 31) rfl))))
theorem hw_452 : (Jvm.Cond.instanceMethod ({ cls := "java/lang/Object", name := "<init>", desc := "()V" } : Jvm.MethodName)) ∈ lg := List.mem_append_left _ (List.mem_append_left _ (List.mem_append_left _ (List.mem_append_right _ (List.mem_of_getElem? (i := 32) rfl))))
theorem hw_453 : (Jvm.Cond.code ({ cls := "java/lang/Object", name := "<init>", desc := "()V" } : Jvm.MethodName) object_method_1_code (1 : Nat) (Option.none : Option Jvm.ClassFile.FieldType)) ∈ lg := List.mem_append_left _ (List.mem_append_left _ (List.mem_append_left _ (List.mem_append_right _ (List.mem_of_getElem? (i := 33) rfl))))
theorem hw_454 : (Jvm.Cond.methodLink "HistoryJudge$Program" (3 : Nat) ({ cls := "java/lang/Object", name := "<init>", desc := "()V" } : Jvm.MethodName)) ∈ lg := List.mem_append_left _ (List.mem_append_left _ (List.mem_append_left _ (List.mem_append_right _ (List.mem_of_getElem? (i := 34) rfl))))
theorem hw_455 : (Jvm.Cond.superclass "HistoryJudge$Program" "java/lang/Object") ∈ lg := List.mem_append_left _ (List.mem_append_left _ (List.mem_append_left _ (List.mem_append_right _ (List.mem_of_getElem? (i := 35) rfl))))
theorem hw_456 : (Jvm.Cond.methodLink "HistoryJudge$Tester" (3 : Nat) ({ cls := "java/lang/Object", name := "<init>", desc := "()V" } : Jvm.MethodName)) ∈ lg := List.mem_append_left _ (List.mem_append_left _ (List.mem_append_left _ (List.mem_append_right _ (List.mem_of_getElem? (i := 36) rfl))))
theorem hw_457 : (Jvm.Cond.methodLink "HistoryJudge$Machine" (3 : Nat) ({ cls := "java/lang/Object", name := "<init>", desc := "()V" } : Jvm.MethodName)) ∈ lg := List.mem_append_left _ (List.mem_append_left _ (List.mem_append_left _ (List.mem_append_right _ (List.mem_of_getElem? (i := 37) rfl))))
theorem hw_458 : (Jvm.Cond.superclass "HistoryJudge$Machine" "java/lang/Object") ∈ lg := List.mem_append_left _ (List.mem_append_left _ (List.mem_append_left _ (List.mem_append_right _ (List.mem_of_getElem? (i := 38) rfl))))
theorem hw_459 : (Jvm.Cond.methodLink "HistoryJudge$Judge" (3 : Nat) ({ cls := "java/lang/Object", name := "<init>", desc := "()V" } : Jvm.MethodName)) ∈ lg := List.mem_append_left _ (List.mem_append_left _ (List.mem_append_left _ (List.mem_append_right _ (List.mem_of_getElem? (i := 39) rfl))))
theorem hw_460 : (Jvm.Cond.superclass "HistoryJudge$Judge" "java/lang/Object") ∈ lg := List.mem_append_left _ (List.mem_append_left _ (List.mem_append_left _ (List.mem_append_right _ (List.mem_of_getElem? (i := 40) rfl))))
theorem hw_461 : (Jvm.Cond.methodLink "HistoryJudge$Draws" (1 : Nat) ({ cls := "java/lang/Object", name := "<init>", desc := "()V" } : Jvm.MethodName)) ∈ lg := List.mem_append_left _ (List.mem_append_left _ (List.mem_append_left _ (List.mem_append_right _ (List.mem_of_getElem? (i := 41) rfl))))
theorem hw_462 : (Jvm.Cond.superclass "HistoryJudge$Draws" "java/lang/Object") ∈ lg := List.mem_append_left _ (List.mem_append_left _ (List.mem_append_left _ (List.mem_append_right _ (List.mem_of_getElem? (i := 42) rfl))))
theorem hw_463 : (Jvm.Cond.superclass "HistoryJudge$Tester" "java/lang/Object") ∈ lg := List.mem_append_left _ (List.mem_append_left _ (List.mem_append_left _ (List.mem_append_right _ (List.mem_of_getElem? (i := 43) rfl))))
theorem hw_464 : (Jvm.Cond.superclass "HistoryJudge" "java/lang/Object") ∈ lg := List.mem_append_left _ (List.mem_append_left _ (List.mem_append_left _ (List.mem_append_right _ (List.mem_of_getElem? (i := 44) rfl))))
theorem hw_465 : (Jvm.Cond.instantiable "java/lang/IllegalArgumentException" (6 : Nat)) ∈ lg := List.mem_append_left _ (List.mem_append_left _ (List.mem_append_left _ (List.mem_append_right _ (List.mem_of_getElem? (i := 45) rfl))))
theorem hw_466 : (Jvm.Cond.selects "java/lang/IllegalArgumentException" ({ cls := "java/lang/Throwable", name := "fillInStackTrace", desc := "(I)Ljava/lang/Throwable;" } : Jvm.MethodName) ({ cls := "java/lang/Throwable", name := "fillInStackTrace", desc := "(I)Ljava/lang/Throwable;" } : Jvm.MethodName)) ∈ lg := List.mem_append_left _ (List.mem_append_left _ (List.mem_append_left _ (List.mem_append_right _ (List.mem_of_getElem? (i := 46) rfl))))
theorem hw_467 : (Jvm.Cond.selects "java/lang/IllegalArgumentException" ({ cls := "java/lang/Throwable", name := "fillInStackTrace", desc := "()Ljava/lang/Throwable;" } : Jvm.MethodName) ({ cls := "java/lang/Throwable", name := "fillInStackTrace", desc := "()Ljava/lang/Throwable;" } : Jvm.MethodName)) ∈ lg := List.mem_append_left _ (List.mem_append_left _ (List.mem_append_left _ (List.mem_append_right _ (List.mem_of_getElem? (i := 47) rfl))))
theorem hw_468 : (Jvm.Cond.lays "java/lang/IllegalArgumentException" "java/lang/Throwable" "cause" "Ljava/lang/Throwable;") ∈ lg := List.mem_append_left _ (List.mem_append_left _ (List.mem_append_left _ (List.mem_append_right _ (List.mem_of_getElem? (i := 48) rfl))))
theorem hw_469 : (Jvm.Cond.lays "java/lang/Throwable" "java/lang/Throwable" "cause" "Ljava/lang/Throwable;") ∈ lg := List.mem_append_left _ (List.mem_append_left _ (List.mem_append_left _ (List.mem_append_right _ (List.mem_of_getElem? (i := 49) rfl))))
theorem hw_470 : (Jvm.Cond.lays "java/lang/IllegalArgumentException" "java/lang/Throwable" "stackTrace" "[Ljava/lang/StackTraceElement;") ∈ lg := List.mem_append_left _ (List.mem_append_left _ (List.mem_append_left _ (List.mem_append_right _ (List.mem_of_getElem? (i := 50) rfl))))
theorem hw_471 : (Jvm.Cond.lays "java/lang/Throwable" "java/lang/Throwable" "stackTrace" "[Ljava/lang/StackTraceElement;") ∈ lg := List.mem_append_left _ (List.mem_append_left _ (List.mem_append_left _ (List.mem_append_right _ (List.mem_of_getElem? (i := 51) rfl))))
theorem hw_472 : (Jvm.Cond.lays "java/lang/IllegalArgumentException" "java/lang/Throwable" "suppressedExceptions" "Ljava/util/List;") ∈ lg := List.mem_append_left _ (List.mem_append_left _ (List.mem_append_left _ (List.mem_append_right _ (List.mem_of_getElem? (i := 52) rfl))))
theorem hw_473 : (Jvm.Cond.lays "java/lang/Throwable" "java/lang/Throwable" "suppressedExceptions" "Ljava/util/List;") ∈ lg := List.mem_append_left _ (List.mem_append_left _ (List.mem_append_left _ (List.mem_append_right _ (List.mem_of_getElem? (i := 53) rfl))))
theorem hw_474 : (Jvm.Cond.lays "java/lang/IllegalArgumentException" "java/lang/Throwable" "detailMessage" "Ljava/lang/String;") ∈ lg := List.mem_append_left _ (List.mem_append_left _ (List.mem_append_left _ (List.mem_append_right _ (List.mem_of_getElem? (i := 54) rfl))))
theorem hw_475 : (Jvm.Cond.lays "java/lang/Throwable" "java/lang/Throwable" "detailMessage" "Ljava/lang/String;") ∈ lg := List.mem_append_left _ (List.mem_append_left _ (List.mem_append_left _ (List.mem_append_right _ (List.mem_of_getElem? (i := 55) rfl))))
theorem hw_476 : (Jvm.Cond.lays "java/lang/IllegalArgumentException" "java/lang/Throwable" "backtrace" "Ljava/lang/Object;") ∈ lg := List.mem_append_left _ (List.mem_append_left _ (List.mem_append_left _ (List.mem_append_right _ (List.mem_of_getElem? (i := 56) rfl))))
theorem hw_477 : (Jvm.Cond.lays "java/lang/Throwable" "java/lang/Throwable" "backtrace" "Ljava/lang/Object;") ∈ lg := List.mem_append_left _ (List.mem_append_left _ (List.mem_append_left _ (List.mem_append_right _ (List.mem_of_getElem? (i := 57) rfl))))
theorem hw_478 : (Jvm.Cond.fieldLink "java/lang/Throwable" (198 : Nat) "java/lang/Throwable" "backtrace" "Ljava/lang/Object;") ∈ lg := List.mem_append_left _ (List.mem_append_left _ (List.mem_append_left _ (List.mem_append_right _ (List.mem_of_getElem? (i := 58) rfl))))
theorem hw_479 : (Jvm.Cond.superclass "java/lang/Throwable" "java/lang/Object") ∈ lg := List.mem_append_left _ (List.mem_append_left _ (List.mem_append_left _ (List.mem_append_right _ (List.mem_of_getElem? (i := 59) rfl))))
theorem hw_480 : (Jvm.Cond.instanceMethod ({ cls := "java/lang/Throwable", name := "<init>", desc := "()V" } : Jvm.MethodName)) ∈ lg := List.mem_append_left _ (List.mem_append_left _ (List.mem_append_right _ (List.mem_of_getElem? (i := 0) rfl)))
theorem hw_481 : (Jvm.Cond.code ({ cls := "java/lang/Throwable", name := "<init>", desc := "()V" } : Jvm.MethodName) prog_17_method_1_code (1 : Nat) (Option.none : Option Jvm.ClassFile.FieldType)) ∈ lg := List.mem_append_left _ (List.mem_append_left _ (List.mem_append_right _ (List.mem_of_getElem? (i := 1) rfl)))
theorem hw_482 : (Jvm.Cond.methodLink "java/lang/Throwable" (1 : Nat) ({ cls := "java/lang/Object", name := "<init>", desc := "()V" } : Jvm.MethodName)) ∈ lg := List.mem_append_left _ (List.mem_append_left _ (List.mem_append_right _ (List.mem_of_getElem? (i := 2) rfl)))
theorem hw_483 : (Jvm.Cond.fieldLink "java/lang/Throwable" (13 : Nat) "java/lang/Throwable" "UNASSIGNED_STACK" "[Ljava/lang/StackTraceElement;") ∈ lg := List.mem_append_left _ (List.mem_append_left _ (List.mem_append_right _ (List.mem_of_getElem? (i := 3) rfl)))
theorem hw_484 : (Jvm.Cond.fieldLink "java/lang/Throwable" (20 : Nat) "java/lang/Throwable" "SUPPRESSED_SENTINEL" "Ljava/util/List;") ∈ lg := List.mem_append_left _ (List.mem_append_left _ (List.mem_append_right _ (List.mem_of_getElem? (i := 4) rfl)))
theorem hw_485 : (Jvm.Cond.methodLink "java/lang/Throwable" (27 : Nat) ({ cls := "java/lang/Throwable", name := "fillInStackTrace", desc := "()Ljava/lang/Throwable;" } : Jvm.MethodName)) ∈ lg := List.mem_append_left _ (List.mem_append_left _ (List.mem_append_right _ (List.mem_of_getElem? (i := 5) rfl)))
theorem hw_486 : (Jvm.Cond.instanceMethod ({ cls := "java/lang/Throwable", name := "fillInStackTrace", desc := "()Ljava/lang/Throwable;" } : Jvm.MethodName)) ∈ lg := List.mem_append_left _ (List.mem_append_left _ (List.mem_append_right _ (List.mem_of_getElem? (i := 6) rfl)))
theorem hw_487 : (Jvm.Cond.selects "java/lang/IllegalStateException" ({ cls := "java/lang/Throwable", name := "fillInStackTrace", desc := "()Ljava/lang/Throwable;" } : Jvm.MethodName) ({ cls := "java/lang/Throwable", name := "fillInStackTrace", desc := "()Ljava/lang/Throwable;" } : Jvm.MethodName)) ∈ lg := List.mem_append_left _ (List.mem_append_left _ (List.mem_append_right _ (List.mem_of_getElem? (i := 7) rfl)))
theorem hw_488 : (Jvm.Cond.selects "java/lang/IndexOutOfBoundsException" ({ cls := "java/lang/Throwable", name := "fillInStackTrace", desc := "()Ljava/lang/Throwable;" } : Jvm.MethodName) ({ cls := "java/lang/Throwable", name := "fillInStackTrace", desc := "()Ljava/lang/Throwable;" } : Jvm.MethodName)) ∈ lg := List.mem_append_left _ (List.mem_append_left _ (List.mem_append_right _ (List.mem_of_getElem? (i := 8) rfl)))
theorem hw_489 : (Jvm.Cond.selects "java/lang/UnsupportedOperationException" ({ cls := "java/lang/Throwable", name := "fillInStackTrace", desc := "()Ljava/lang/Throwable;" } : Jvm.MethodName) ({ cls := "java/lang/Throwable", name := "fillInStackTrace", desc := "()Ljava/lang/Throwable;" } : Jvm.MethodName)) ∈ lg := List.mem_append_left _ (List.mem_append_left _ (List.mem_append_right _ (List.mem_of_getElem? (i := 9) rfl)))
theorem hw_490 : (Jvm.Cond.selects "java/util/NoSuchElementException" ({ cls := "java/lang/Throwable", name := "fillInStackTrace", desc := "()Ljava/lang/Throwable;" } : Jvm.MethodName) ({ cls := "java/lang/Throwable", name := "fillInStackTrace", desc := "()Ljava/lang/Throwable;" } : Jvm.MethodName)) ∈ lg := List.mem_append_left _ (List.mem_append_left _ (List.mem_append_right _ (List.mem_of_getElem? (i := 10) rfl)))
theorem hw_491 : (Jvm.Cond.codeSync ({ cls := "java/lang/Throwable", name := "fillInStackTrace", desc := "()Ljava/lang/Throwable;" } : Jvm.MethodName) prog_17_method_18_code (1 : Nat) (Option.some (Jvm.ClassFile.FieldType.object "java/lang/Throwable"))) ∈ lg := List.mem_append_left _ (List.mem_append_left _ (List.mem_append_right _ (List.mem_of_getElem? (i := 11) rfl)))
theorem hw_492 : (Jvm.Cond.methodLink "java/lang/Throwable" (202 : Nat) ({ cls := "java/lang/Throwable", name := "fillInStackTrace", desc := "(I)Ljava/lang/Throwable;" } : Jvm.MethodName)) ∈ lg := List.mem_append_left _ (List.mem_append_left _ (List.mem_append_right _ (List.mem_of_getElem? (i := 12) rfl)))
theorem hw_493 : (Jvm.Cond.instanceMethod ({ cls := "java/lang/Throwable", name := "fillInStackTrace", desc := "(I)Ljava/lang/Throwable;" } : Jvm.MethodName)) ∈ lg := List.mem_append_left _ (List.mem_append_left _ (List.mem_append_right _ (List.mem_of_getElem? (i := 13) rfl)))
theorem hw_494 : (Jvm.Cond.instantiable "java/lang/Throwable" (6 : Nat)) ∈ lg := List.mem_append_left _ (List.mem_append_left _ (List.mem_append_right _ (List.mem_of_getElem? (i := 14) rfl)))
theorem hw_495 : (Jvm.Cond.native ({ cls := "java/lang/Throwable", name := "fillInStackTrace", desc := "(I)Ljava/lang/Throwable;" } : Jvm.MethodName)) ∈ lg := List.mem_append_left _ (List.mem_append_left _ (List.mem_append_right _ (List.mem_of_getElem? (i := 15) rfl)))
theorem hw_496 : (Jvm.Cond.methodLink "HistoryJudge" (49 : Nat) ({ cls := "java/lang/IllegalArgumentException", name := "<init>", desc := "(Ljava/lang/String;)V" } : Jvm.MethodName)) ∈ lg := List.mem_append_left _ (List.mem_append_left _ (List.mem_append_right _ (List.mem_of_getElem? (i := 16) rfl)))
theorem hw_497 : (Jvm.Cond.instanceMethod ({ cls := "java/lang/IllegalArgumentException", name := "<init>", desc := "(Ljava/lang/String;)V" } : Jvm.MethodName)) ∈ lg := List.mem_append_left _ (List.mem_append_left _ (List.mem_append_right _ (List.mem_of_getElem? (i := 17) rfl)))
theorem hw_498 : (Jvm.Cond.code ({ cls := "java/lang/IllegalArgumentException", name := "<init>", desc := "(Ljava/lang/String;)V" } : Jvm.MethodName) prog_11_method_2_code (2 : Nat) (Option.none : Option Jvm.ClassFile.FieldType)) ∈ lg := List.mem_append_left _ (List.mem_append_left _ (List.mem_append_right _ (List.mem_of_getElem? (i := 18) rfl)))
theorem hw_499 : (Jvm.Cond.methodLink "java/lang/IllegalArgumentException" (7 : Nat) ({ cls := "java/lang/RuntimeException", name := "<init>", desc := "(Ljava/lang/String;)V" } : Jvm.MethodName)) ∈ lg := List.mem_append_left _ (List.mem_append_left _ (List.mem_append_right _ (List.mem_of_getElem? (i := 19) rfl)))
theorem hw_500 : (Jvm.Cond.instanceMethod ({ cls := "java/lang/RuntimeException", name := "<init>", desc := "(Ljava/lang/String;)V" } : Jvm.MethodName)) ∈ lg := List.mem_append_left _ (List.mem_append_left _ (List.mem_append_right _ (List.mem_of_getElem? (i := 20) rfl)))
theorem hw_501 : (Jvm.Cond.code ({ cls := "java/lang/RuntimeException", name := "<init>", desc := "(Ljava/lang/String;)V" } : Jvm.MethodName) prog_14_method_2_code (2 : Nat) (Option.none : Option Jvm.ClassFile.FieldType)) ∈ lg := List.mem_append_left _ (List.mem_append_left _ (List.mem_append_right _ (List.mem_of_getElem? (i := 21) rfl)))
theorem hw_502 : (Jvm.Cond.methodLink "java/lang/RuntimeException" (7 : Nat) ({ cls := "java/lang/Exception", name := "<init>", desc := "(Ljava/lang/String;)V" } : Jvm.MethodName)) ∈ lg := List.mem_append_left _ (List.mem_append_left _ (List.mem_append_right _ (List.mem_of_getElem? (i := 22) rfl)))
theorem hw_503 : (Jvm.Cond.instanceMethod ({ cls := "java/lang/Exception", name := "<init>", desc := "(Ljava/lang/String;)V" } : Jvm.MethodName)) ∈ lg := List.mem_append_left _ (List.mem_append_left _ (List.mem_append_right _ (List.mem_of_getElem? (i := 23) rfl)))
theorem hw_504 : (Jvm.Cond.code ({ cls := "java/lang/Exception", name := "<init>", desc := "(Ljava/lang/String;)V" } : Jvm.MethodName) prog_10_method_2_code (2 : Nat) (Option.none : Option Jvm.ClassFile.FieldType)) ∈ lg := List.mem_append_left _ (List.mem_append_left _ (List.mem_append_right _ (List.mem_of_getElem? (i := 24) rfl)))
theorem hw_505 : (Jvm.Cond.methodLink "java/lang/Exception" (7 : Nat) ({ cls := "java/lang/Throwable", name := "<init>", desc := "(Ljava/lang/String;)V" } : Jvm.MethodName)) ∈ lg := List.mem_append_left _ (List.mem_append_left _ (List.mem_append_right _ (List.mem_of_getElem? (i := 25) rfl)))
theorem hw_506 : (Jvm.Cond.instanceMethod ({ cls := "java/lang/Throwable", name := "<init>", desc := "(Ljava/lang/String;)V" } : Jvm.MethodName)) ∈ lg := List.mem_append_left _ (List.mem_append_left _ (List.mem_append_right _ (List.mem_of_getElem? (i := 26) rfl)))
theorem hw_507 : (Jvm.Cond.code ({ cls := "java/lang/Throwable", name := "<init>", desc := "(Ljava/lang/String;)V" } : Jvm.MethodName) prog_17_method_2_code (2 : Nat) (Option.none : Option Jvm.ClassFile.FieldType)) ∈ lg := List.mem_append_left _ (List.mem_append_left _ (List.mem_append_right _ (List.mem_of_getElem? (i := 27) rfl)))
theorem hw_508 : (Jvm.Cond.fieldLink "java/lang/Throwable" (31 : Nat) "java/lang/Throwable" "detailMessage" "Ljava/lang/String;") ∈ lg := List.mem_append_left _ (List.mem_append_left _ (List.mem_append_right _ (List.mem_of_getElem? (i := 28) rfl)))
theorem hw_509 : (Jvm.Cond.fieldLink "java/lang/Throwable" (7 : Nat) "java/lang/Throwable" "cause" "Ljava/lang/Throwable;") ∈ lg := List.mem_append_left _ (List.mem_append_left _ (List.mem_append_right _ (List.mem_of_getElem? (i := 29) rfl)))
theorem hw_510 : (Jvm.Cond.fieldLink "java/lang/Throwable" (17 : Nat) "java/lang/Throwable" "stackTrace" "[Ljava/lang/StackTraceElement;") ∈ lg := List.mem_append_left _ (List.mem_append_left _ (List.mem_append_right _ (List.mem_of_getElem? (i := 30) rfl)))
theorem hw_511 : (Jvm.Cond.fieldLink "java/lang/Throwable" (24 : Nat) "java/lang/Throwable" "suppressedExceptions" "Ljava/util/List;") ∈ lg := List.mem_append_left _ (List.mem_append_left _ (List.mem_append_right _ (List.mem_of_getElem? (i := 31) rfl)))
theorem hw_512 : (Jvm.Cond.lays "java/lang/IllegalArgumentException" "java/lang/Throwable" "depth" "I") ∈ lg := List.mem_append_left _ (List.mem_append_left _ (List.mem_append_right _ (List.mem_of_getElem? (i := 32) rfl)))
theorem hw_513 : (Jvm.Cond.superclass "java/lang/IllegalArgumentException" "java/lang/RuntimeException") ∈ lg := List.mem_append_left _ (List.mem_append_left _ (List.mem_append_right _ (List.mem_of_getElem? (i := 33) rfl)))
theorem hw_514 : (Jvm.Cond.instantiable "java/lang/IllegalStateException" (6 : Nat)) ∈ lg := List.mem_append_left _ (List.mem_append_left _ (List.mem_append_right _ (List.mem_of_getElem? (i := 34) rfl)))
theorem hw_515 : (Jvm.Cond.selects "java/lang/IllegalStateException" ({ cls := "java/lang/Throwable", name := "fillInStackTrace", desc := "(I)Ljava/lang/Throwable;" } : Jvm.MethodName) ({ cls := "java/lang/Throwable", name := "fillInStackTrace", desc := "(I)Ljava/lang/Throwable;" } : Jvm.MethodName)) ∈ lg := List.mem_append_left _ (List.mem_append_left _ (List.mem_append_right _ (List.mem_of_getElem? (i := 35) rfl)))
theorem hw_516 : (Jvm.Cond.lays "java/lang/IllegalStateException" "java/lang/Throwable" "cause" "Ljava/lang/Throwable;") ∈ lg := List.mem_append_left _ (List.mem_append_left _ (List.mem_append_right _ (List.mem_of_getElem? (i := 36) rfl)))
theorem hw_517 : (Jvm.Cond.lays "java/lang/IllegalStateException" "java/lang/Throwable" "stackTrace" "[Ljava/lang/StackTraceElement;") ∈ lg := List.mem_append_left _ (List.mem_append_left _ (List.mem_append_right _ (List.mem_of_getElem? (i := 37) rfl)))
theorem hw_518 : (Jvm.Cond.lays "java/lang/IllegalStateException" "java/lang/Throwable" "suppressedExceptions" "Ljava/util/List;") ∈ lg := List.mem_append_left _ (List.mem_append_left _ (List.mem_append_right _ (List.mem_of_getElem? (i := 38) rfl)))
theorem hw_519 : (Jvm.Cond.lays "java/lang/IllegalStateException" "java/lang/Throwable" "detailMessage" "Ljava/lang/String;") ∈ lg := List.mem_append_left _ (List.mem_append_left _ (List.mem_append_right _ (List.mem_of_getElem? (i := 39) rfl)))
theorem hw_520 : (Jvm.Cond.lays "java/lang/IllegalStateException" "java/lang/Throwable" "backtrace" "Ljava/lang/Object;") ∈ lg := List.mem_append_left _ (List.mem_append_left _ (List.mem_append_right _ (List.mem_of_getElem? (i := 40) rfl)))
theorem hw_521 : (Jvm.Cond.methodLink "HistoryJudge" (65 : Nat) ({ cls := "java/lang/IllegalStateException", name := "<init>", desc := "(Ljava/lang/String;)V" } : Jvm.MethodName)) ∈ lg := List.mem_append_left _ (List.mem_append_left _ (List.mem_append_right _ (List.mem_of_getElem? (i := 41) rfl)))
theorem hw_522 : (Jvm.Cond.instanceMethod ({ cls := "java/lang/IllegalStateException", name := "<init>", desc := "(Ljava/lang/String;)V" } : Jvm.MethodName)) ∈ lg := List.mem_append_left _ (List.mem_append_left _ (List.mem_append_right _ (List.mem_of_getElem? (i := 42) rfl)))
theorem hw_523 : (Jvm.Cond.code ({ cls := "java/lang/IllegalStateException", name := "<init>", desc := "(Ljava/lang/String;)V" } : Jvm.MethodName) prog_12_method_2_code (2 : Nat) (Option.none : Option Jvm.ClassFile.FieldType)) ∈ lg := List.mem_append_left _ (List.mem_append_left _ (List.mem_append_right _ (List.mem_of_getElem? (i := 43) rfl)))
theorem hw_524 : (Jvm.Cond.methodLink "java/lang/IllegalStateException" (7 : Nat) ({ cls := "java/lang/RuntimeException", name := "<init>", desc := "(Ljava/lang/String;)V" } : Jvm.MethodName)) ∈ lg := List.mem_append_left _ (List.mem_append_left _ (List.mem_append_right _ (List.mem_of_getElem? (i := 44) rfl)))
theorem hw_525 : (Jvm.Cond.lays "java/lang/IllegalStateException" "java/lang/Throwable" "depth" "I") ∈ lg := List.mem_append_left _ (List.mem_append_left _ (List.mem_append_right _ (List.mem_of_getElem? (i := 45) rfl)))
theorem hw_526 : (Jvm.Cond.superclass "java/lang/IllegalStateException" "java/lang/RuntimeException") ∈ lg := List.mem_append_left _ (List.mem_append_left _ (List.mem_append_right _ (List.mem_of_getElem? (i := 46) rfl)))
theorem hw_527 : (Jvm.Cond.instantiable "java/lang/UnsupportedOperationException" (6 : Nat)) ∈ lg := List.mem_append_left _ (List.mem_append_left _ (List.mem_append_right _ (List.mem_of_getElem? (i := 47) rfl)))
theorem hw_528 : (Jvm.Cond.selects "java/lang/UnsupportedOperationException" ({ cls := "java/lang/Throwable", name := "fillInStackTrace", desc := "(I)Ljava/lang/Throwable;" } : Jvm.MethodName) ({ cls := "java/lang/Throwable", name := "fillInStackTrace", desc := "(I)Ljava/lang/Throwable;" } : Jvm.MethodName)) ∈ lg := List.mem_append_left _ (List.mem_append_left _ (List.mem_append_right _ (List.mem_of_getElem? (i := 48) rfl)))
theorem hw_529 : (Jvm.Cond.lays "java/lang/UnsupportedOperationException" "java/lang/Throwable" "cause" "Ljava/lang/Throwable;") ∈ lg := List.mem_append_left _ (List.mem_append_left _ (List.mem_append_right _ (List.mem_of_getElem? (i := 49) rfl)))
theorem hw_530 : (Jvm.Cond.lays "java/lang/UnsupportedOperationException" "java/lang/Throwable" "stackTrace" "[Ljava/lang/StackTraceElement;") ∈ lg := List.mem_append_left _ (List.mem_append_left _ (List.mem_append_right _ (List.mem_of_getElem? (i := 50) rfl)))
theorem hw_531 : (Jvm.Cond.lays "java/lang/UnsupportedOperationException" "java/lang/Throwable" "suppressedExceptions" "Ljava/util/List;") ∈ lg := List.mem_append_left _ (List.mem_append_left _ (List.mem_append_right _ (List.mem_of_getElem? (i := 51) rfl)))
theorem hw_532 : (Jvm.Cond.lays "java/lang/UnsupportedOperationException" "java/lang/Throwable" "detailMessage" "Ljava/lang/String;") ∈ lg := List.mem_append_left _ (List.mem_append_left _ (List.mem_append_right _ (List.mem_of_getElem? (i := 52) rfl)))
theorem hw_533 : (Jvm.Cond.lays "java/lang/UnsupportedOperationException" "java/lang/Throwable" "backtrace" "Ljava/lang/Object;") ∈ lg := List.mem_append_left _ (List.mem_append_left _ (List.mem_append_right _ (List.mem_of_getElem? (i := 53) rfl)))
theorem hw_534 : (Jvm.Cond.methodLink "HistoryJudge" (78 : Nat) ({ cls := "java/lang/UnsupportedOperationException", name := "<init>", desc := "(Ljava/lang/String;)V" } : Jvm.MethodName)) ∈ lg := List.mem_append_left _ (List.mem_append_left _ (List.mem_append_right _ (List.mem_of_getElem? (i := 54) rfl)))
theorem hw_535 : (Jvm.Cond.instanceMethod ({ cls := "java/lang/UnsupportedOperationException", name := "<init>", desc := "(Ljava/lang/String;)V" } : Jvm.MethodName)) ∈ lg := List.mem_append_left _ (List.mem_append_left _ (List.mem_append_right _ (List.mem_of_getElem? (i := 55) rfl)))
theorem hw_536 : (Jvm.Cond.code ({ cls := "java/lang/UnsupportedOperationException", name := "<init>", desc := "(Ljava/lang/String;)V" } : Jvm.MethodName) prog_18_method_2_code (2 : Nat) (Option.none : Option Jvm.ClassFile.FieldType)) ∈ lg := List.mem_append_left _ (List.mem_append_left _ (List.mem_append_right _ (List.mem_of_getElem? (i := 56) rfl)))
theorem hw_537 : (Jvm.Cond.methodLink "java/lang/UnsupportedOperationException" (7 : Nat) ({ cls := "java/lang/RuntimeException", name := "<init>", desc := "(Ljava/lang/String;)V" } : Jvm.MethodName)) ∈ lg := List.mem_append_left _ (List.mem_append_left _ (List.mem_append_right _ (List.mem_of_getElem? (i := 57) rfl)))
theorem hw_538 : (Jvm.Cond.lays "java/lang/UnsupportedOperationException" "java/lang/Throwable" "depth" "I") ∈ lg := List.mem_append_left _ (List.mem_append_left _ (List.mem_append_right _ (List.mem_of_getElem? (i := 58) rfl)))
theorem hw_539 : (Jvm.Cond.superclass "java/lang/UnsupportedOperationException" "java/lang/RuntimeException") ∈ lg := List.mem_append_left _ (List.mem_append_left _ (List.mem_append_right _ (List.mem_of_getElem? (i := 59) rfl)))
theorem hw_540 : (Jvm.Cond.instantiable "java/lang/IndexOutOfBoundsException" (6 : Nat)) ∈ lg := List.mem_append_left _ (List.mem_append_right _ (List.mem_of_getElem? (i := 0) rfl))
theorem hw_541 : (Jvm.Cond.selects "java/lang/IndexOutOfBoundsException" ({ cls := "java/lang/Throwable", name := "fillInStackTrace", desc := "(I)Ljava/lang/Throwable;" } : Jvm.MethodName) ({ cls := "java/lang/Throwable", name := "fillInStackTrace", desc := "(I)Ljava/lang/Throwable;" } : Jvm.MethodName)) ∈ lg := List.mem_append_left _ (List.mem_append_right _ (List.mem_of_getElem? (i := 1) rfl))
theorem hw_542 : (Jvm.Cond.lays "java/lang/IndexOutOfBoundsException" "java/lang/Throwable" "cause" "Ljava/lang/Throwable;") ∈ lg := List.mem_append_left _ (List.mem_append_right _ (List.mem_of_getElem? (i := 2) rfl))
theorem hw_543 : (Jvm.Cond.lays "java/lang/IndexOutOfBoundsException" "java/lang/Throwable" "stackTrace" "[Ljava/lang/StackTraceElement;") ∈ lg := List.mem_append_left _ (List.mem_append_right _ (List.mem_of_getElem? (i := 3) rfl))
theorem hw_544 : (Jvm.Cond.lays "java/lang/IndexOutOfBoundsException" "java/lang/Throwable" "suppressedExceptions" "Ljava/util/List;") ∈ lg := List.mem_append_left _ (List.mem_append_right _ (List.mem_of_getElem? (i := 4) rfl))
theorem hw_545 : (Jvm.Cond.lays "java/lang/IndexOutOfBoundsException" "java/lang/Throwable" "detailMessage" "Ljava/lang/String;") ∈ lg := List.mem_append_left _ (List.mem_append_right _ (List.mem_of_getElem? (i := 5) rfl))
theorem hw_546 : (Jvm.Cond.lays "java/lang/IndexOutOfBoundsException" "java/lang/Throwable" "backtrace" "Ljava/lang/Object;") ∈ lg := List.mem_append_left _ (List.mem_append_right _ (List.mem_of_getElem? (i := 6) rfl))
theorem hw_547 : (Jvm.Cond.methodLink "HistoryJudge" (133 : Nat) ({ cls := "java/lang/IndexOutOfBoundsException", name := "<init>", desc := "(Ljava/lang/String;)V" } : Jvm.MethodName)) ∈ lg := List.mem_append_left _ (List.mem_append_right _ (List.mem_of_getElem? (i := 7) rfl))
theorem hw_548 : (Jvm.Cond.instanceMethod ({ cls := "java/lang/IndexOutOfBoundsException", name := "<init>", desc := "(Ljava/lang/String;)V" } : Jvm.MethodName)) ∈ lg := List.mem_append_left _ (List.mem_append_right _ (List.mem_of_getElem? (i := 8) rfl))
theorem hw_549 : (Jvm.Cond.code ({ cls := "java/lang/IndexOutOfBoundsException", name := "<init>", desc := "(Ljava/lang/String;)V" } : Jvm.MethodName) prog_13_method_2_code (2 : Nat) (Option.none : Option Jvm.ClassFile.FieldType)) ∈ lg := List.mem_append_left _ (List.mem_append_right _ (List.mem_of_getElem? (i := 9) rfl))
theorem hw_550 : (Jvm.Cond.methodLink "java/lang/IndexOutOfBoundsException" (7 : Nat) ({ cls := "java/lang/RuntimeException", name := "<init>", desc := "(Ljava/lang/String;)V" } : Jvm.MethodName)) ∈ lg := List.mem_append_left _ (List.mem_append_right _ (List.mem_of_getElem? (i := 10) rfl))
theorem hw_551 : (Jvm.Cond.lays "java/lang/IndexOutOfBoundsException" "java/lang/Throwable" "depth" "I") ∈ lg := List.mem_append_left _ (List.mem_append_right _ (List.mem_of_getElem? (i := 11) rfl))
theorem hw_552 : (Jvm.Cond.superclass "java/lang/IndexOutOfBoundsException" "java/lang/RuntimeException") ∈ lg := List.mem_append_left _ (List.mem_append_right _ (List.mem_of_getElem? (i := 12) rfl))
theorem hw_553 : (Jvm.Cond.instantiable "java/util/NoSuchElementException" (6 : Nat)) ∈ lg := List.mem_append_left _ (List.mem_append_right _ (List.mem_of_getElem? (i := 13) rfl))
theorem hw_554 : (Jvm.Cond.selects "java/util/NoSuchElementException" ({ cls := "java/lang/Throwable", name := "fillInStackTrace", desc := "(I)Ljava/lang/Throwable;" } : Jvm.MethodName) ({ cls := "java/lang/Throwable", name := "fillInStackTrace", desc := "(I)Ljava/lang/Throwable;" } : Jvm.MethodName)) ∈ lg := List.mem_append_left _ (List.mem_append_right _ (List.mem_of_getElem? (i := 14) rfl))
theorem hw_555 : (Jvm.Cond.lays "java/util/NoSuchElementException" "java/lang/Throwable" "cause" "Ljava/lang/Throwable;") ∈ lg := List.mem_append_left _ (List.mem_append_right _ (List.mem_of_getElem? (i := 15) rfl))
theorem hw_556 : (Jvm.Cond.lays "java/util/NoSuchElementException" "java/lang/Throwable" "stackTrace" "[Ljava/lang/StackTraceElement;") ∈ lg := List.mem_append_left _ (List.mem_append_right _ (List.mem_of_getElem? (i := 16) rfl))
theorem hw_557 : (Jvm.Cond.lays "java/util/NoSuchElementException" "java/lang/Throwable" "suppressedExceptions" "Ljava/util/List;") ∈ lg := List.mem_append_left _ (List.mem_append_right _ (List.mem_of_getElem? (i := 17) rfl))
theorem hw_558 : (Jvm.Cond.lays "java/util/NoSuchElementException" "java/lang/Throwable" "detailMessage" "Ljava/lang/String;") ∈ lg := List.mem_append_left _ (List.mem_append_right _ (List.mem_of_getElem? (i := 18) rfl))
theorem hw_559 : (Jvm.Cond.lays "java/util/NoSuchElementException" "java/lang/Throwable" "backtrace" "Ljava/lang/Object;") ∈ lg := List.mem_append_left _ (List.mem_append_right _ (List.mem_of_getElem? (i := 19) rfl))
theorem hw_560 : (Jvm.Cond.methodLink "HistoryJudge" (179 : Nat) ({ cls := "java/util/NoSuchElementException", name := "<init>", desc := "(Ljava/lang/String;)V" } : Jvm.MethodName)) ∈ lg := List.mem_append_left _ (List.mem_append_right _ (List.mem_of_getElem? (i := 20) rfl))
theorem hw_561 : (Jvm.Cond.instanceMethod ({ cls := "java/util/NoSuchElementException", name := "<init>", desc := "(Ljava/lang/String;)V" } : Jvm.MethodName)) ∈ lg := List.mem_append_left _ (List.mem_append_right _ (List.mem_of_getElem? (i := 21) rfl))
theorem hw_562 : (Jvm.Cond.code ({ cls := "java/util/NoSuchElementException", name := "<init>", desc := "(Ljava/lang/String;)V" } : Jvm.MethodName) prog_19_method_4_code (2 : Nat) (Option.none : Option Jvm.ClassFile.FieldType)) ∈ lg := List.mem_append_left _ (List.mem_append_right _ (List.mem_of_getElem? (i := 22) rfl))
theorem hw_563 : (Jvm.Cond.methodLink "java/util/NoSuchElementException" (13 : Nat) ({ cls := "java/lang/RuntimeException", name := "<init>", desc := "(Ljava/lang/String;)V" } : Jvm.MethodName)) ∈ lg := List.mem_append_left _ (List.mem_append_right _ (List.mem_of_getElem? (i := 23) rfl))
theorem hw_564 : (Jvm.Cond.lays "java/util/NoSuchElementException" "java/lang/Throwable" "depth" "I") ∈ lg := List.mem_append_left _ (List.mem_append_right _ (List.mem_of_getElem? (i := 24) rfl))
theorem hw_565 : (Jvm.Cond.superclass "java/util/NoSuchElementException" "java/lang/RuntimeException") ∈ lg := List.mem_append_left _ (List.mem_append_right _ (List.mem_of_getElem? (i := 25) rfl))
theorem hw_566 : (Jvm.Cond.methodLink "HistoryJudgeModel" (1 : Nat) ({ cls := "java/lang/Object", name := "<init>", desc := "()V" } : Jvm.MethodName)) ∈ lg := List.mem_append_left _ (List.mem_append_right _ (List.mem_of_getElem? (i := 26) rfl))
theorem hw_567 : (Jvm.Cond.superclass "HistoryJudgeModel" "java/lang/Object") ∈ lg := List.mem_append_left _ (List.mem_append_right _ (List.mem_of_getElem? (i := 27) rfl))
theorem hw_568 : (Jvm.Cond.classLink "HistoryJudge" (9 : Nat) "HistoryJudge$Program") ∈ lg := List.mem_append_left _ (List.mem_append_right _ (List.mem_of_getElem? (i := 28) rfl))
theorem hw_569 : (Jvm.Cond.instantiable "HistoryJudge$Program" (4 : Nat)) ∈ lg := List.mem_append_left _ (List.mem_append_right _ (List.mem_of_getElem? (i := 29) rfl))
theorem hw_570 : (Jvm.Cond.arrayClass Jvm.ClassFile.FieldType.int) ∈ lg := List.mem_append_left _ (List.mem_append_right _ (List.mem_of_getElem? (i := 30) rfl))
theorem hw_571 : (Jvm.Cond.instanceMethod ({ cls := "HistoryJudge$Program", name := "<init>", desc := "()V" } : Jvm.MethodName)) ∈ lg := List.mem_append_left _ (List.mem_append_right _ (List.mem_of_getElem? (i := 31) rfl))
theorem hw_572 : (Jvm.Cond.code ({ cls := "HistoryJudge$Program", name := "<init>", desc := "()V" } : Jvm.MethodName) prog_6_method_1_code (1 : Nat) (Option.none : Option Jvm.ClassFile.FieldType)) ∈ lg := List.mem_append_left _ (List.mem_append_right _ (List.mem_of_getElem? (i := 32) rfl))
theorem hw_573 : (Jvm.Cond.classLink "HistoryJudge" (19 : Nat) "HistoryJudge$Tester") ∈ lg := List.mem_append_left _ (List.mem_append_right _ (List.mem_of_getElem? (i := 33) rfl))
theorem hw_574 : (Jvm.Cond.instantiable "HistoryJudge$Tester" (9 : Nat)) ∈ lg := List.mem_append_left _ (List.mem_append_right _ (List.mem_of_getElem? (i := 34) rfl))
theorem hw_575 : (Jvm.Cond.classLink "HistoryJudge$Tester" (9 : Nat) "HistoryJudge$Machine") ∈ lg := List.mem_append_left _ (List.mem_append_right _ (List.mem_of_getElem? (i := 35) rfl))
theorem hw_576 : (Jvm.Cond.instantiable "HistoryJudge$Machine" (9 : Nat)) ∈ lg := List.mem_append_left _ (List.mem_append_right _ (List.mem_of_getElem? (i := 36) rfl))
theorem hw_577 : (Jvm.Cond.instanceMethod ({ cls := "HistoryJudge$Machine", name := "<init>", desc := "()V" } : Jvm.MethodName)) ∈ lg := List.mem_append_left _ (List.mem_append_right _ (List.mem_of_getElem? (i := 37) rfl))
theorem hw_578 : (Jvm.Cond.code ({ cls := "HistoryJudge$Machine", name := "<init>", desc := "()V" } : Jvm.MethodName) prog_4_method_1_code (1 : Nat) (Option.none : Option Jvm.ClassFile.FieldType)) ∈ lg := List.mem_append_left _ (List.mem_append_right _ (List.mem_of_getElem? (i := 38) rfl))
theorem hw_579 : (Jvm.Cond.classLink "HistoryJudge$Tester" (18 : Nat) "HistoryJudge$Judge") ∈ lg := List.mem_append_left _ (List.mem_append_right _ (List.mem_of_getElem? (i := 39) rfl))
theorem hw_580 : (Jvm.Cond.instantiable "HistoryJudge$Judge" (1 : Nat)) ∈ lg := List.mem_append_left _ (List.mem_append_right _ (List.mem_of_getElem? (i := 40) rfl))
theorem hw_581 : (Jvm.Cond.instanceMethod ({ cls := "HistoryJudge$Judge", name := "<init>", desc := "()V" } : Jvm.MethodName)) ∈ lg := List.mem_append_left _ (List.mem_append_right _ (List.mem_of_getElem? (i := 41) rfl))
theorem hw_582 : (Jvm.Cond.code ({ cls := "HistoryJudge$Judge", name := "<init>", desc := "()V" } : Jvm.MethodName) prog_3_method_1_code (1 : Nat) (Option.none : Option Jvm.ClassFile.FieldType)) ∈ lg := List.mem_append_left _ (List.mem_append_right _ (List.mem_of_getElem? (i := 42) rfl))
theorem hw_583 : (Jvm.Cond.classLink "HistoryJudge$Tester" (46 : Nat) "HistoryJudge$Draws") ∈ lg := List.mem_append_left _ (List.mem_append_right _ (List.mem_of_getElem? (i := 43) rfl))
theorem hw_584 : (Jvm.Cond.instantiable "HistoryJudge$Draws" (1 : Nat)) ∈ lg := List.mem_append_left _ (List.mem_append_right _ (List.mem_of_getElem? (i := 44) rfl))
theorem hw_585 : (Jvm.Cond.instanceMethod ({ cls := "HistoryJudge$Draws", name := "<init>", desc := "()V" } : Jvm.MethodName)) ∈ lg := List.mem_append_left _ (List.mem_append_right _ (List.mem_of_getElem? (i := 45) rfl))
theorem hw_586 : (Jvm.Cond.code ({ cls := "HistoryJudge$Draws", name := "<init>", desc := "()V" } : Jvm.MethodName) prog_2_method_1_code (1 : Nat) (Option.none : Option Jvm.ClassFile.FieldType)) ∈ lg := List.mem_append_left _ (List.mem_append_right _ (List.mem_of_getElem? (i := 46) rfl))
theorem hw_587 : (Jvm.Cond.instanceMethod ({ cls := "HistoryJudge$Tester", name := "<init>", desc := "()V" } : Jvm.MethodName)) ∈ lg := List.mem_append_left _ (List.mem_append_right _ (List.mem_of_getElem? (i := 47) rfl))
theorem hw_588 : (Jvm.Cond.code ({ cls := "HistoryJudge$Tester", name := "<init>", desc := "()V" } : Jvm.MethodName) prog_7_method_1_code (1 : Nat) (Option.none : Option Jvm.ClassFile.FieldType)) ∈ lg := List.mem_append_left _ (List.mem_append_right _ (List.mem_of_getElem? (i := 48) rfl))
theorem hw_589 : (Jvm.Cond.classLink "HistoryJudge" (26 : Nat) "HistoryJudge$Draws") ∈ lg := List.mem_append_left _ (List.mem_append_right _ (List.mem_of_getElem? (i := 49) rfl))
theorem hw_590 : (Jvm.Cond.arrayClass Jvm.ClassFile.FieldType.boolean) ∈ lg := List.mem_append_left _ (List.mem_append_right _ (List.mem_of_getElem? (i := 50) rfl))
theorem hw_591 : (Jvm.Cond.laysFinal "HistoryJudge" "HistoryJudge" "program" "LHistoryJudge$Program;") ∈ lg := List.mem_append_left _ (List.mem_append_right _ (List.mem_of_getElem? (i := 51) rfl))
theorem hw_592 : (Jvm.Cond.laysFinal "HistoryJudge" "HistoryJudge" "trial" "LHistoryJudge$Program;") ∈ lg := List.mem_append_left _ (List.mem_append_right _ (List.mem_of_getElem? (i := 52) rfl))
theorem hw_593 : (Jvm.Cond.laysFinal "HistoryJudge" "HistoryJudge" "tester" "LHistoryJudge$Tester;") ∈ lg := List.mem_append_left _ (List.mem_append_right _ (List.mem_of_getElem? (i := 53) rfl))
theorem hw_594 : (Jvm.Cond.laysFinal "HistoryJudge" "HistoryJudge" "draws" "LHistoryJudge$Draws;") ∈ lg := List.mem_append_left _ (List.mem_append_right _ (List.mem_of_getElem? (i := 54) rfl))
theorem hw_595 : (Jvm.Cond.lays "HistoryJudge" "HistoryJudge" "taken" "I") ∈ lg := List.mem_append_left _ (List.mem_append_right _ (List.mem_of_getElem? (i := 55) rfl))
theorem hw_596 : (Jvm.Cond.lays "HistoryJudge" "HistoryJudge" "runIsCurrent" "Z") ∈ lg := List.mem_append_left _ (List.mem_append_right _ (List.mem_of_getElem? (i := 56) rfl))
theorem hw_597 : (Jvm.Cond.laysFinal "HistoryJudge$Program" "HistoryJudge$Program" "sizes" "[I") ∈ lg := List.mem_append_left _ (List.mem_append_right _ (List.mem_of_getElem? (i := 57) rfl))
theorem hw_598 : (Jvm.Cond.laysFinal "HistoryJudge$Program" "HistoryJudge$Program" "kinds" "[I") ∈ lg := List.mem_append_left _ (List.mem_append_right _ (List.mem_of_getElem? (i := 58) rfl))
theorem hw_599 : (Jvm.Cond.laysFinal "HistoryJudge$Program" "HistoryJudge$Program" "cells" "[I") ∈ lg := List.mem_append_left _ (List.mem_append_right _ (List.mem_of_getElem? (i := 59) rfl))
theorem hw_600 : (Jvm.Cond.laysFinal "HistoryJudge$Program" "HistoryJudge$Program" "arguments" "[I") ∈ lg := List.mem_append_right _ (List.mem_of_getElem? (i := 0) rfl)
theorem hw_601 : (Jvm.Cond.laysFinal "HistoryJudge$Tester" "HistoryJudge$Tester" "machine" "LHistoryJudge$Machine;") ∈ lg := List.mem_append_right _ (List.mem_of_getElem? (i := 1) rfl)
theorem hw_602 : (Jvm.Cond.laysFinal "HistoryJudge$Tester" "HistoryJudge$Tester" "judge" "LHistoryJudge$Judge;") ∈ lg := List.mem_append_right _ (List.mem_of_getElem? (i := 2) rfl)
theorem hw_603 : (Jvm.Cond.laysFinal "HistoryJudge$Tester" "HistoryJudge$Tester" "tallies" "[I") ∈ lg := List.mem_append_right _ (List.mem_of_getElem? (i := 3) rfl)
theorem hw_604 : (Jvm.Cond.lays "HistoryJudge$Tester" "HistoryJudge$Tester" "flawBits" "I") ∈ lg := List.mem_append_right _ (List.mem_of_getElem? (i := 4) rfl)
theorem hw_605 : (Jvm.Cond.lays "HistoryJudge$Tester" "HistoryJudge$Tester" "runs" "I") ∈ lg := List.mem_append_right _ (List.mem_of_getElem? (i := 5) rfl)
theorem hw_606 : (Jvm.Cond.lays "HistoryJudge$Tester" "HistoryJudge$Tester" "unexplained" "I") ∈ lg := List.mem_append_right _ (List.mem_of_getElem? (i := 6) rfl)
theorem hw_607 : (Jvm.Cond.lays "HistoryJudge$Tester" "HistoryJudge$Tester" "schedule" "I") ∈ lg := List.mem_append_right _ (List.mem_of_getElem? (i := 7) rfl)
theorem hw_608 : (Jvm.Cond.lays "HistoryJudge$Tester" "HistoryJudge$Tester" "explained" "Z") ∈ lg := List.mem_append_right _ (List.mem_of_getElem? (i := 8) rfl)
theorem hw_609 : (Jvm.Cond.laysFinal "HistoryJudge$Tester" "HistoryJudge$Tester" "draws" "LHistoryJudge$Draws;") ∈ lg := List.mem_append_right _ (List.mem_of_getElem? (i := 9) rfl)
theorem hw_610 : (Jvm.Cond.laysFinal "HistoryJudge$Machine" "HistoryJudge$Machine" "answers" "[I") ∈ lg := List.mem_append_right _ (List.mem_of_getElem? (i := 10) rfl)
theorem hw_611 : (Jvm.Cond.laysFinal "HistoryJudge$Machine" "HistoryJudge$Machine" "numbers" "[I") ∈ lg := List.mem_append_right _ (List.mem_of_getElem? (i := 11) rfl)
theorem hw_612 : (Jvm.Cond.laysFinal "HistoryJudge$Machine" "HistoryJudge$Machine" "calls" "[I") ∈ lg := List.mem_append_right _ (List.mem_of_getElem? (i := 12) rfl)
theorem hw_613 : (Jvm.Cond.laysFinal "HistoryJudge$Machine" "HistoryJudge$Machine" "returns" "[I") ∈ lg := List.mem_append_right _ (List.mem_of_getElem? (i := 13) rfl)
theorem hw_614 : (Jvm.Cond.lays "HistoryJudge$Machine" "HistoryJudge$Machine" "cells" "I") ∈ lg := List.mem_append_right _ (List.mem_of_getElem? (i := 14) rfl)
theorem hw_615 : (Jvm.Cond.laysFinal "HistoryJudge$Machine" "HistoryJudge$Machine" "nextCommand" "[I") ∈ lg := List.mem_append_right _ (List.mem_of_getElem? (i := 15) rfl)
theorem hw_616 : (Jvm.Cond.laysFinal "HistoryJudge$Machine" "HistoryJudge$Machine" "nextEvent" "[I") ∈ lg := List.mem_append_right _ (List.mem_of_getElem? (i := 16) rfl)
theorem hw_617 : (Jvm.Cond.laysFinal "HistoryJudge$Machine" "HistoryJudge$Machine" "noted" "[I") ∈ lg := List.mem_append_right _ (List.mem_of_getElem? (i := 17) rfl)
theorem hw_618 : (Jvm.Cond.lays "HistoryJudge$Machine" "HistoryJudge$Machine" "flawBits" "I") ∈ lg := List.mem_append_right _ (List.mem_of_getElem? (i := 18) rfl)
theorem hw_619 : (Jvm.Cond.laysFinal "HistoryJudge$Judge" "HistoryJudge$Judge" "witness" "[I") ∈ lg := List.mem_append_right _ (List.mem_of_getElem? (i := 19) rfl)
theorem hw_620 : (Jvm.Cond.lays "HistoryJudge$Draws" "HistoryJudge$Draws" "state" "J") ∈ lg := List.mem_append_right _ (List.mem_of_getElem? (i := 20) rfl)
theorem hw_621 : (Jvm.Cond.lays "HistoryJudgeModel" "HistoryJudgeModel" "thrown" "I") ∈ lg := List.mem_append_right _ (List.mem_of_getElem? (i := 21) rfl)
theorem hw_622 : (Jvm.Cond.laysFinal "HistoryJudgeModel" "HistoryJudgeModel" "sizes" "[I") ∈ lg := List.mem_append_right _ (List.mem_of_getElem? (i := 22) rfl)
theorem hw_623 : (Jvm.Cond.laysFinal "HistoryJudgeModel" "HistoryJudgeModel" "kind" "[I") ∈ lg := List.mem_append_right _ (List.mem_of_getElem? (i := 23) rfl)
theorem hw_624 : (Jvm.Cond.laysFinal "HistoryJudgeModel" "HistoryJudgeModel" "cell" "[I") ∈ lg := List.mem_append_right _ (List.mem_of_getElem? (i := 24) rfl)
theorem hw_625 : (Jvm.Cond.laysFinal "HistoryJudgeModel" "HistoryJudgeModel" "argument" "[I") ∈ lg := List.mem_append_right _ (List.mem_of_getElem? (i := 25) rfl)
theorem hw_626 : (Jvm.Cond.laysFinal "HistoryJudgeModel" "HistoryJudgeModel" "keptSizes" "[I") ∈ lg := List.mem_append_right _ (List.mem_of_getElem? (i := 26) rfl)
theorem hw_627 : (Jvm.Cond.laysFinal "HistoryJudgeModel" "HistoryJudgeModel" "kept" "[I") ∈ lg := List.mem_append_right _ (List.mem_of_getElem? (i := 27) rfl)
theorem hw_628 : (Jvm.Cond.lays "HistoryJudgeModel" "HistoryJudgeModel" "flaws" "I") ∈ lg := List.mem_append_right _ (List.mem_of_getElem? (i := 28) rfl)
theorem hw_629 : (Jvm.Cond.lays "HistoryJudgeModel" "HistoryJudgeModel" "g" "J") ∈ lg := List.mem_append_right _ (List.mem_of_getElem? (i := 29) rfl)
theorem hw_630 : (Jvm.Cond.laysFinal "HistoryJudgeModel" "HistoryJudgeModel" "holds" "[I") ∈ lg := List.mem_append_right _ (List.mem_of_getElem? (i := 30) rfl)
theorem hw_631 : (Jvm.Cond.laysFinal "HistoryJudgeModel" "HistoryJudgeModel" "open" "[Z") ∈ lg := List.mem_append_right _ (List.mem_of_getElem? (i := 31) rfl)
theorem hw_632 : (Jvm.Cond.laysFinal "HistoryJudgeModel" "HistoryJudgeModel" "has" "[I") ∈ lg := List.mem_append_right _ (List.mem_of_getElem? (i := 32) rfl)
theorem hw_633 : (Jvm.Cond.laysFinal "HistoryJudgeModel" "HistoryJudgeModel" "isOpen" "[Z") ∈ lg := List.mem_append_right _ (List.mem_of_getElem? (i := 33) rfl)
theorem hw_634 : (Jvm.Cond.lays "HistoryJudgeModel" "HistoryJudgeModel" "ran" "Z") ∈ lg := List.mem_append_right _ (List.mem_of_getElem? (i := 34) rfl)
theorem hw_635 : (Jvm.Cond.lays "HistoryJudgeModel" "HistoryJudgeModel" "explained" "Z") ∈ lg := List.mem_append_right _ (List.mem_of_getElem? (i := 35) rfl)
theorem hw_636 : (Jvm.Cond.laysFinal "HistoryJudgeModel" "HistoryJudgeModel" "answer" "[I") ∈ lg := List.mem_append_right _ (List.mem_of_getElem? (i := 36) rfl)
theorem hw_637 : (Jvm.Cond.laysFinal "HistoryJudgeModel" "HistoryJudgeModel" "number" "[I") ∈ lg := List.mem_append_right _ (List.mem_of_getElem? (i := 37) rfl)
theorem hw_638 : (Jvm.Cond.laysFinal "HistoryJudgeModel" "HistoryJudgeModel" "call" "[I") ∈ lg := List.mem_append_right _ (List.mem_of_getElem? (i := 38) rfl)
theorem hw_639 : (Jvm.Cond.laysFinal "HistoryJudgeModel" "HistoryJudgeModel" "back" "[I") ∈ lg := List.mem_append_right _ (List.mem_of_getElem? (i := 39) rfl)
theorem hw_640 : (Jvm.Cond.laysFinal "HistoryJudgeModel" "HistoryJudgeModel" "noted" "[I") ∈ lg := List.mem_append_right _ (List.mem_of_getElem? (i := 40) rfl)
theorem hw_641 : (Jvm.Cond.laysFinal "HistoryJudgeModel" "HistoryJudgeModel" "at" "[I") ∈ lg := List.mem_append_right _ (List.mem_of_getElem? (i := 41) rfl)
theorem hw_642 : (Jvm.Cond.laysFinal "HistoryJudgeModel" "HistoryJudgeModel" "event" "[I") ∈ lg := List.mem_append_right _ (List.mem_of_getElem? (i := 42) rfl)
theorem hw_643 : (Jvm.Cond.lays "HistoryJudgeModel" "HistoryJudgeModel" "witness" "I") ∈ lg := List.mem_append_right _ (List.mem_of_getElem? (i := 43) rfl)
theorem hw_644 : (Jvm.Cond.lays "HistoryJudgeModel" "HistoryJudgeModel" "runs" "I") ∈ lg := List.mem_append_right _ (List.mem_of_getElem? (i := 44) rfl)
theorem hw_645 : (Jvm.Cond.lays "HistoryJudgeModel" "HistoryJudgeModel" "wrong" "I") ∈ lg := List.mem_append_right _ (List.mem_of_getElem? (i := 45) rfl)
theorem hw_646 : (Jvm.Cond.lays "HistoryJudgeModel" "HistoryJudgeModel" "taken" "I") ∈ lg := List.mem_append_right _ (List.mem_of_getElem? (i := 46) rfl)
theorem hw_647 : (Jvm.Cond.lays "HistoryJudgeModel" "HistoryJudgeModel" "failing" "I") ∈ lg := List.mem_append_right _ (List.mem_of_getElem? (i := 47) rfl)
theorem hw_648 : (Jvm.Cond.laysFinal "HistoryJudgeModel" "HistoryJudgeModel" "tallies" "[I") ∈ lg := List.mem_append_right _ (List.mem_of_getElem? (i := 48) rfl)
theorem lg_all : lg.all goodWord = true := by decide +kernel
theorem lg_good (w : Jvm.Cond) (h : w ∈ lg) : (w.onTables && w.keeps) = true ∨ ∃ ty, w = .arrayClass ty := by
  have h1 := List.all_eq_true.mp lg_all w h
  unfold goodWord at h1
  split at h1
  · exact Or.inr ⟨_, rfl⟩
  · exact Or.inl h1
theorem ev_good1 {w : Jvm.Cond} (h : w ∈ lg) : w ∈ lg ∧ ((w.onTables && w.keeps) = true ∨ ∃ ty, w = .arrayClass ty) := ⟨h, lg_good w h⟩
theorem ev_goodI {cw : Jvm.Cond} (h : cw ∈ lg) : GoodIn lg (cw :: lg) := by
  intro w hw
  rcases List.mem_cons.mp hw with rfl | hw
  · exact ev_good1 h
  · exact ev_good1 hw
theorem ev_goodV {cw : Jvm.Cond} {own : String} {idx : Nat} {C : String} {y : MethodName} (h1 : Jvm.Cond.methodLink own idx y ∈ lg) (h2 : Jvm.Cond.instanceMethod y ∈ lg) (h3 : Jvm.Cond.selects C y y ∈ lg) (h4 : Jvm.Cond.initialized C ∈ lg) (h5 : cw ∈ lg) : GoodIn lg (wsV own idx C y (cw :: lg)) := by
  intro w hw
  unfold wsV at hw
  rcases List.mem_append.mp hw with hw | hw
  · simp only [List.mem_cons, List.not_mem_nil, or_false] at hw
    rcases hw with rfl | rfl | rfl | rfl
    · exact ev_good1 h1
    · exact ev_good1 h2
    · exact ev_good1 h3
    · exact ev_good1 h4
  · exact ev_goodI h5 w hw
theorem ev_goodS {cw : Jvm.Cond} {own : String} {idx : Nat} {y : MethodName} (h1 : Jvm.Cond.methodLink own idx y ∈ lg) (h2 : Jvm.Cond.static y ∈ lg) (h4 : Jvm.Cond.initialized y.cls ∈ lg) (h5 : cw ∈ lg) : GoodIn lg (va_wsS own idx y (cw :: lg)) := by
  intro w hw
  unfold va_wsS at hw
  rcases List.mem_append.mp hw with hw | hw
  · simp only [List.mem_cons, List.not_mem_nil, or_false] at hw
    rcases hw with rfl | rfl | rfl
    · exact ev_good1 h1
    · exact ev_good1 h2
    · exact ev_good1 h4
  · exact ev_goodI h5 w hw
theorem hCw_H : ∀ w ∈ u_ws RX_H TX_H 6, w ∈ lg := List.forall_mem_cons.mpr ⟨hw_591, List.forall_mem_cons.mpr ⟨hw_592, List.forall_mem_cons.mpr ⟨hw_593, List.forall_mem_cons.mpr ⟨hw_594, List.forall_mem_cons.mpr ⟨hw_595, List.forall_mem_cons.mpr ⟨hw_596, fun _ h => nomatch h⟩⟩⟩⟩⟩⟩
theorem hC_H : ev_C gaX 0 RX_H TX_H 6 tyX_H := ⟨rfl, hCw_H, by decide +kernel, by decide +kernel⟩
theorem hCw_P : ∀ w ∈ u_ws RX_P TX_P 4, w ∈ lg := List.forall_mem_cons.mpr ⟨hw_597, List.forall_mem_cons.mpr ⟨hw_598, List.forall_mem_cons.mpr ⟨hw_599, List.forall_mem_cons.mpr ⟨hw_600, fun _ h => nomatch h⟩⟩⟩⟩
theorem hC_P : ev_C gaX 1 RX_P TX_P 4 tyX_P := ⟨rfl, hCw_P, by decide +kernel, by decide +kernel⟩
theorem hCw_T : ∀ w ∈ u_ws RX_T TX_T 9, w ∈ lg := List.forall_mem_cons.mpr ⟨hw_601, List.forall_mem_cons.mpr ⟨hw_602, List.forall_mem_cons.mpr ⟨hw_603, List.forall_mem_cons.mpr ⟨hw_604, List.forall_mem_cons.mpr ⟨hw_605, List.forall_mem_cons.mpr ⟨hw_606, List.forall_mem_cons.mpr ⟨hw_607, List.forall_mem_cons.mpr ⟨hw_608, List.forall_mem_cons.mpr ⟨hw_609, fun _ h => nomatch h⟩⟩⟩⟩⟩⟩⟩⟩⟩
theorem hC_T : ev_C gaX 2 RX_T TX_T 9 tyX_T := ⟨rfl, hCw_T, by decide +kernel, by decide +kernel⟩
theorem hCw_M : ∀ w ∈ u_ws RX_M TX_M 9, w ∈ lg := List.forall_mem_cons.mpr ⟨hw_610, List.forall_mem_cons.mpr ⟨hw_611, List.forall_mem_cons.mpr ⟨hw_612, List.forall_mem_cons.mpr ⟨hw_613, List.forall_mem_cons.mpr ⟨hw_614, List.forall_mem_cons.mpr ⟨hw_615, List.forall_mem_cons.mpr ⟨hw_616, List.forall_mem_cons.mpr ⟨hw_617, List.forall_mem_cons.mpr ⟨hw_618, fun _ h => nomatch h⟩⟩⟩⟩⟩⟩⟩⟩⟩
theorem hC_M : ev_C gaX 3 RX_M TX_M 9 tyX_M := ⟨rfl, hCw_M, by decide +kernel, by decide +kernel⟩
theorem hCw_J : ∀ w ∈ u_ws RX_J TX_J 1, w ∈ lg := List.forall_mem_cons.mpr ⟨hw_619, fun _ h => nomatch h⟩
theorem hC_J : ev_C gaX 4 RX_J TX_J 1 tyX_J := ⟨rfl, hCw_J, by decide +kernel, by decide +kernel⟩
theorem hCw_D : ∀ w ∈ u_ws RX_D TX_D 1, w ∈ lg := List.forall_mem_cons.mpr ⟨hw_620, fun _ h => nomatch h⟩
theorem hC_D : ev_C gaX 5 RX_D TX_D 1 tyX_D := ⟨rfl, hCw_D, by decide +kernel, by decide +kernel⟩
theorem hCw_R : ∀ w ∈ u_ws RX_R TX_R 28, w ∈ lg := List.forall_mem_cons.mpr ⟨hw_621, List.forall_mem_cons.mpr ⟨hw_622, List.forall_mem_cons.mpr ⟨hw_623, List.forall_mem_cons.mpr ⟨hw_624, List.forall_mem_cons.mpr ⟨hw_625, List.forall_mem_cons.mpr ⟨hw_626, List.forall_mem_cons.mpr ⟨hw_627, List.forall_mem_cons.mpr ⟨hw_628, List.forall_mem_cons.mpr ⟨hw_629, List.forall_mem_cons.mpr ⟨hw_630, List.forall_mem_cons.mpr ⟨hw_631, List.forall_mem_cons.mpr ⟨hw_632, List.forall_mem_cons.mpr ⟨hw_633, List.forall_mem_cons.mpr ⟨hw_634, List.forall_mem_cons.mpr ⟨hw_635, List.forall_mem_cons.mpr ⟨hw_636, List.forall_mem_cons.mpr ⟨hw_637, List.forall_mem_cons.mpr ⟨hw_638, List.forall_mem_cons.mpr ⟨hw_639, List.forall_mem_cons.mpr ⟨hw_640, List.forall_mem_cons.mpr ⟨hw_641, List.forall_mem_cons.mpr ⟨hw_642, List.forall_mem_cons.mpr ⟨hw_643, List.forall_mem_cons.mpr ⟨hw_644, List.forall_mem_cons.mpr ⟨hw_645, List.forall_mem_cons.mpr ⟨hw_646, List.forall_mem_cons.mpr ⟨hw_647, List.forall_mem_cons.mpr ⟨hw_648, fun _ h => nomatch h⟩⟩⟩⟩⟩⟩⟩⟩⟩⟩⟩⟩⟩⟩⟩⟩⟩⟩⟩⟩⟩⟩⟩⟩⟩⟩⟩⟩
theorem hC_R : ev_C gaX 6 RX_R TX_R 28 tyX_R := ⟨rfl, hCw_R, by decide +kernel, by decide +kernel⟩
theorem hy_P_size : y_P_size.cls = "HistoryJudge$Program" ∧ y_P_size.cls ≠ "java/lang/invoke/MethodHandle" ∧ y_P_size.cls ≠ "java/lang/invoke/VarHandle" ∧ (parseMethodDescriptor y_P_size.desc).map (fun d => d.parameters.length) = some 0 := by decide +kernel
theorem hy_P_empty : y_P_empty.cls = "HistoryJudge$Program" ∧ y_P_empty.cls ≠ "java/lang/invoke/MethodHandle" ∧ y_P_empty.cls ≠ "java/lang/invoke/VarHandle" ∧ (parseMethodDescriptor y_P_empty.desc).map (fun d => d.parameters.length) = some 0 := by decide +kernel
theorem hy_H_clear : y_H_clear.cls = "HistoryJudge" ∧ y_H_clear.cls ≠ "java/lang/invoke/MethodHandle" ∧ y_H_clear.cls ≠ "java/lang/invoke/VarHandle" ∧ (parseMethodDescriptor y_H_clear.desc).map (fun d => d.parameters.length) = some 0 := by decide +kernel
theorem hy_H_isBelow : y_H_isBelow.cls = "HistoryJudge" ∧ y_H_isBelow.cls ≠ "java/lang/invoke/MethodHandle" ∧ y_H_isBelow.cls ≠ "java/lang/invoke/VarHandle" ∧ (parseMethodDescriptor y_H_isBelow.desc).map (fun d => d.parameters.length) = some 2 := by decide +kernel
theorem hy_P_copyFrom : y_P_copyFrom.cls = "HistoryJudge$Program" ∧ y_P_copyFrom.cls ≠ "java/lang/invoke/MethodHandle" ∧ y_P_copyFrom.cls ≠ "java/lang/invoke/VarHandle" ∧ (parseMethodDescriptor y_P_copyFrom.desc).map (fun d => d.parameters.length) = some 1 := by decide +kernel
theorem hy_P_start : y_P_start.cls = "HistoryJudge$Program" ∧ y_P_start.cls ≠ "java/lang/invoke/MethodHandle" ∧ y_P_start.cls ≠ "java/lang/invoke/VarHandle" ∧ (parseMethodDescriptor y_P_start.desc).map (fun d => d.parameters.length) = some 1 := by decide +kernel
theorem hy_P_end : y_P_end.cls = "HistoryJudge$Program" ∧ y_P_end.cls ≠ "java/lang/invoke/MethodHandle" ∧ y_P_end.cls ≠ "java/lang/invoke/VarHandle" ∧ (parseMethodDescriptor y_P_end.desc).map (fun d => d.parameters.length) = some 1 := by decide +kernel
theorem hy_P_put : y_P_put.cls = "HistoryJudge$Program" ∧ y_P_put.cls ≠ "java/lang/invoke/MethodHandle" ∧ y_P_put.cls ≠ "java/lang/invoke/VarHandle" ∧ (parseMethodDescriptor y_P_put.desc).map (fun d => d.parameters.length) = some 4 := by decide +kernel
theorem hy_P_shiftUp : y_P_shiftUp.cls = "HistoryJudge$Program" ∧ y_P_shiftUp.cls ≠ "java/lang/invoke/MethodHandle" ∧ y_P_shiftUp.cls ≠ "java/lang/invoke/VarHandle" ∧ (parseMethodDescriptor y_P_shiftUp.desc).map (fun d => d.parameters.length) = some 2 := by decide +kernel
theorem hy_P_renumber : y_P_renumber.cls = "HistoryJudge$Program" ∧ y_P_renumber.cls ≠ "java/lang/invoke/MethodHandle" ∧ y_P_renumber.cls ≠ "java/lang/invoke/VarHandle" ∧ (parseMethodDescriptor y_P_renumber.desc).map (fun d => d.parameters.length) = some 2 := by decide +kernel
theorem hy_P_append : y_P_append.cls = "HistoryJudge$Program" ∧ y_P_append.cls ≠ "java/lang/invoke/MethodHandle" ∧ y_P_append.cls ≠ "java/lang/invoke/VarHandle" ∧ (parseMethodDescriptor y_P_append.desc).map (fun d => d.parameters.length) = some 4 := by decide +kernel
theorem hy_O_isOpen : y_O_isOpen.cls = "HistoryJudge$Model" ∧ y_O_isOpen.cls ≠ "java/lang/invoke/MethodHandle" ∧ y_O_isOpen.cls ≠ "java/lang/invoke/VarHandle" ∧ (parseMethodDescriptor y_O_isOpen.desc).map (fun d => d.parameters.length) = some 2 := by decide +kernel
theorem hy_O_source : y_O_source.cls = "HistoryJudge$Model" ∧ y_O_source.cls ≠ "java/lang/invoke/MethodHandle" ∧ y_O_source.cls ≠ "java/lang/invoke/VarHandle" ∧ (parseMethodDescriptor y_O_source.desc).map (fun d => d.parameters.length) = some 1 := by decide +kernel
theorem hy_O_allows : y_O_allows.cls = "HistoryJudge$Model" ∧ y_O_allows.cls ≠ "java/lang/invoke/MethodHandle" ∧ y_O_allows.cls ≠ "java/lang/invoke/VarHandle" ∧ (parseMethodDescriptor y_O_allows.desc).map (fun d => d.parameters.length) = some 3 := by decide +kernel
theorem hy_O_content : y_O_content.cls = "HistoryJudge$Model" ∧ y_O_content.cls ≠ "java/lang/invoke/MethodHandle" ∧ y_O_content.cls ≠ "java/lang/invoke/VarHandle" ∧ (parseMethodDescriptor y_O_content.desc).map (fun d => d.parameters.length) = some 2 := by decide +kernel
theorem hy_O_held : y_O_held.cls = "HistoryJudge$Model" ∧ y_O_held.cls ≠ "java/lang/invoke/MethodHandle" ∧ y_O_held.cls ≠ "java/lang/invoke/VarHandle" ∧ (parseMethodDescriptor y_O_held.desc).map (fun d => d.parameters.length) = some 2 := by decide +kernel
theorem hy_O_after : y_O_after.cls = "HistoryJudge$Model" ∧ y_O_after.cls ≠ "java/lang/invoke/MethodHandle" ∧ y_O_after.cls ≠ "java/lang/invoke/VarHandle" ∧ (parseMethodDescriptor y_O_after.desc).map (fun d => d.parameters.length) = some 4 := by decide +kernel
theorem hy_P_isValidBeside : y_P_isValidBeside.cls = "HistoryJudge$Program" ∧ y_P_isValidBeside.cls ≠ "java/lang/invoke/MethodHandle" ∧ y_P_isValidBeside.cls ≠ "java/lang/invoke/VarHandle" ∧ (parseMethodDescriptor y_P_isValidBeside.desc).map (fun d => d.parameters.length) = some 2 := by decide +kernel
theorem hy_P_isValid : y_P_isValid.cls = "HistoryJudge$Program" ∧ y_P_isValid.cls ≠ "java/lang/invoke/MethodHandle" ∧ y_P_isValid.cls ≠ "java/lang/invoke/VarHandle" ∧ (parseMethodDescriptor y_P_isValid.desc).map (fun d => d.parameters.length) = some 0 := by decide +kernel
theorem hy_H_appendIfValid : y_H_appendIfValid.cls = "HistoryJudge" ∧ y_H_appendIfValid.cls ≠ "java/lang/invoke/MethodHandle" ∧ y_H_appendIfValid.cls ≠ "java/lang/invoke/VarHandle" ∧ (parseMethodDescriptor y_H_appendIfValid.desc).map (fun d => d.parameters.length) = some 4 := by decide +kernel
theorem hy_D_below : y_D_below.cls = "HistoryJudge$Draws" ∧ y_D_below.cls ≠ "java/lang/invoke/MethodHandle" ∧ y_D_below.cls ≠ "java/lang/invoke/VarHandle" ∧ (parseMethodDescriptor y_D_below.desc).map (fun d => d.parameters.length) = some 1 := by decide +kernel
theorem hy_P_known : y_P_known.cls = "HistoryJudge$Program" ∧ y_P_known.cls ≠ "java/lang/invoke/MethodHandle" ∧ y_P_known.cls ≠ "java/lang/invoke/VarHandle" ∧ (parseMethodDescriptor y_P_known.desc).map (fun d => d.parameters.length) = some 1 := by decide +kernel
theorem hy_P_knownAt : y_P_knownAt.cls = "HistoryJudge$Program" ∧ y_P_knownAt.cls ≠ "java/lang/invoke/MethodHandle" ∧ y_P_knownAt.cls ≠ "java/lang/invoke/VarHandle" ∧ (parseMethodDescriptor y_P_knownAt.desc).map (fun d => d.parameters.length) = some 2 := by decide +kernel
theorem hy_H_drawCommand : y_H_drawCommand.cls = "HistoryJudge" ∧ y_H_drawCommand.cls ≠ "java/lang/invoke/MethodHandle" ∧ y_H_drawCommand.cls ≠ "java/lang/invoke/VarHandle" ∧ (parseMethodDescriptor y_H_drawCommand.desc).map (fun d => d.parameters.length) = some 1 := by decide +kernel
theorem hy_H_drawBranch : y_H_drawBranch.cls = "HistoryJudge" ∧ y_H_drawBranch.cls ≠ "java/lang/invoke/MethodHandle" ∧ y_H_drawBranch.cls ≠ "java/lang/invoke/VarHandle" ∧ (parseMethodDescriptor y_H_drawBranch.desc).map (fun d => d.parameters.length) = some 2 := by decide +kernel
theorem hy_P_lower : y_P_lower.cls = "HistoryJudge$Program" ∧ y_P_lower.cls ≠ "java/lang/invoke/MethodHandle" ∧ y_P_lower.cls ≠ "java/lang/invoke/VarHandle" ∧ (parseMethodDescriptor y_P_lower.desc).map (fun d => d.parameters.length) = some 2 := by decide +kernel
theorem hy_P_hasRoom : y_P_hasRoom.cls = "HistoryJudge$Program" ∧ y_P_hasRoom.cls ≠ "java/lang/invoke/MethodHandle" ∧ y_P_hasRoom.cls ≠ "java/lang/invoke/VarHandle" ∧ (parseMethodDescriptor y_P_hasRoom.desc).map (fun d => d.parameters.length) = some 1 := by decide +kernel
theorem hy_P_promote : y_P_promote.cls = "HistoryJudge$Program" ∧ y_P_promote.cls ≠ "java/lang/invoke/MethodHandle" ∧ y_P_promote.cls ≠ "java/lang/invoke/VarHandle" ∧ (parseMethodDescriptor y_P_promote.desc).map (fun d => d.parameters.length) = some 1 := by decide +kernel
theorem hy_P_isNeeded : y_P_isNeeded.cls = "HistoryJudge$Program" ∧ y_P_isNeeded.cls ≠ "java/lang/invoke/MethodHandle" ∧ y_P_isNeeded.cls ≠ "java/lang/invoke/VarHandle" ∧ (parseMethodDescriptor y_P_isNeeded.desc).map (fun d => d.parameters.length) = some 1 := by decide +kernel
theorem hy_P_branchOf : y_P_branchOf.cls = "HistoryJudge$Program" ∧ y_P_branchOf.cls ≠ "java/lang/invoke/MethodHandle" ∧ y_P_branchOf.cls ≠ "java/lang/invoke/VarHandle" ∧ (parseMethodDescriptor y_P_branchOf.desc).map (fun d => d.parameters.length) = some 1 := by decide +kernel
theorem hy_P_remove : y_P_remove.cls = "HistoryJudge$Program" ∧ y_P_remove.cls ≠ "java/lang/invoke/MethodHandle" ∧ y_P_remove.cls ≠ "java/lang/invoke/VarHandle" ∧ (parseMethodDescriptor y_P_remove.desc).map (fun d => d.parameters.length) = some 1 := by decide +kernel
theorem hy_H_prepareCandidate : y_H_prepareCandidate.cls = "HistoryJudge" ∧ y_H_prepareCandidate.cls ≠ "java/lang/invoke/MethodHandle" ∧ y_H_prepareCandidate.cls ≠ "java/lang/invoke/VarHandle" ∧ (parseMethodDescriptor y_H_prepareCandidate.desc).map (fun d => d.parameters.length) = some 1 := by decide +kernel
theorem hy_P_mayTake : y_P_mayTake.cls = "HistoryJudge$Program" ∧ y_P_mayTake.cls ≠ "java/lang/invoke/MethodHandle" ∧ y_P_mayTake.cls ≠ "java/lang/invoke/VarHandle" ∧ (parseMethodDescriptor y_P_mayTake.desc).map (fun d => d.parameters.length) = some 2 := by decide +kernel
theorem hy_O_answer : y_O_answer.cls = "HistoryJudge$Model" ∧ y_O_answer.cls ≠ "java/lang/invoke/MethodHandle" ∧ y_O_answer.cls ≠ "java/lang/invoke/VarHandle" ∧ (parseMethodDescriptor y_O_answer.desc).map (fun d => d.parameters.length) = some 4 := by decide +kernel
theorem hy_R_thrown : y_R_thrown.cls = "HistoryJudgeModel" ∧ y_R_thrown.cls ≠ "java/lang/invoke/MethodHandle" ∧ y_R_thrown.cls ≠ "java/lang/invoke/VarHandle" ∧ (parseMethodDescriptor y_R_thrown.desc).map (fun d => d.parameters.length) = some 0 := by decide +kernel
theorem hy_R_fail : y_R_fail.cls = "HistoryJudgeModel" ∧ y_R_fail.cls ≠ "java/lang/invoke/MethodHandle" ∧ y_R_fail.cls ≠ "java/lang/invoke/VarHandle" ∧ (parseMethodDescriptor y_R_fail.desc).map (fun d => d.parameters.length) = some 1 := by decide +kernel
theorem hy_R_within : y_R_within.cls = "HistoryJudgeModel" ∧ y_R_within.cls ≠ "java/lang/invoke/MethodHandle" ∧ y_R_within.cls ≠ "java/lang/invoke/VarHandle" ∧ (parseMethodDescriptor y_R_within.desc).map (fun d => d.parameters.length) = some 3 := by decide +kernel
theorem hy_R_many : y_R_many.cls = "HistoryJudgeModel" ∧ y_R_many.cls ≠ "java/lang/invoke/MethodHandle" ∧ y_R_many.cls ≠ "java/lang/invoke/VarHandle" ∧ (parseMethodDescriptor y_R_many.desc).map (fun d => d.parameters.length) = some 0 := by decide +kernel
theorem hy_R_branch : y_R_branch.cls = "HistoryJudgeModel" ∧ y_R_branch.cls ≠ "java/lang/invoke/MethodHandle" ∧ y_R_branch.cls ≠ "java/lang/invoke/VarHandle" ∧ (parseMethodDescriptor y_R_branch.desc).map (fun d => d.parameters.length) = some 1 := by decide +kernel
theorem hy_R_first : y_R_first.cls = "HistoryJudgeModel" ∧ y_R_first.cls ≠ "java/lang/invoke/MethodHandle" ∧ y_R_first.cls ≠ "java/lang/invoke/VarHandle" ∧ (parseMethodDescriptor y_R_first.desc).map (fun d => d.parameters.length) = some 1 := by decide +kernel
theorem hy_R_mayStand : y_R_mayStand.cls = "HistoryJudgeModel" ∧ y_R_mayStand.cls ≠ "java/lang/invoke/MethodHandle" ∧ y_R_mayStand.cls ≠ "java/lang/invoke/VarHandle" ∧ (parseMethodDescriptor y_R_mayStand.desc).map (fun d => d.parameters.length) = some 3 := by decide +kernel
theorem hy_R_placed : y_R_placed.cls = "HistoryJudgeModel" ∧ y_R_placed.cls ≠ "java/lang/invoke/MethodHandle" ∧ y_R_placed.cls ≠ "java/lang/invoke/VarHandle" ∧ (parseMethodDescriptor y_R_placed.desc).map (fun d => d.parameters.length) = some 2 := by decide +kernel
theorem hy_R_isOrder : y_R_isOrder.cls = "HistoryJudgeModel" ∧ y_R_isOrder.cls ≠ "java/lang/invoke/MethodHandle" ∧ y_R_isOrder.cls ≠ "java/lang/invoke/VarHandle" ∧ (parseMethodDescriptor y_R_isOrder.desc).map (fun d => d.parameters.length) = some 1 := by decide +kernel
theorem hy_R_finds : y_R_finds.cls = "HistoryJudgeModel" ∧ y_R_finds.cls ≠ "java/lang/invoke/MethodHandle" ∧ y_R_finds.cls ≠ "java/lang/invoke/VarHandle" ∧ (parseMethodDescriptor y_R_finds.desc).map (fun d => d.parameters.length) = some 1 := by decide +kernel
theorem hy_R_fits : y_R_fits.cls = "HistoryJudgeModel" ∧ y_R_fits.cls ≠ "java/lang/invoke/MethodHandle" ∧ y_R_fits.cls ≠ "java/lang/invoke/VarHandle" ∧ (parseMethodDescriptor y_R_fits.desc).map (fun d => d.parameters.length) = some 1 := by decide +kernel
theorem hy_R_valid : y_R_valid.cls = "HistoryJudgeModel" ∧ y_R_valid.cls ≠ "java/lang/invoke/MethodHandle" ∧ y_R_valid.cls ≠ "java/lang/invoke/VarHandle" ∧ (parseMethodDescriptor y_R_valid.desc).map (fun d => d.parameters.length) = some 0 := by decide +kernel
theorem hy_R_keep : y_R_keep.cls = "HistoryJudgeModel" ∧ y_R_keep.cls ≠ "java/lang/invoke/MethodHandle" ∧ y_R_keep.cls ≠ "java/lang/invoke/VarHandle" ∧ (parseMethodDescriptor y_R_keep.desc).map (fun d => d.parameters.length) = some 0 := by decide +kernel
theorem hy_R_putBack : y_R_putBack.cls = "HistoryJudgeModel" ∧ y_R_putBack.cls ≠ "java/lang/invoke/MethodHandle" ∧ y_R_putBack.cls ≠ "java/lang/invoke/VarHandle" ∧ (parseMethodDescriptor y_R_putBack.desc).map (fun d => d.parameters.length) = some 0 := by decide +kernel
theorem hy_R_copy : y_R_copy.cls = "HistoryJudgeModel" ∧ y_R_copy.cls ≠ "java/lang/invoke/MethodHandle" ∧ y_R_copy.cls ≠ "java/lang/invoke/VarHandle" ∧ (parseMethodDescriptor y_R_copy.desc).map (fun d => d.parameters.length) = some 2 := by decide +kernel
theorem hy_R_insert : y_R_insert.cls = "HistoryJudgeModel" ∧ y_R_insert.cls ≠ "java/lang/invoke/MethodHandle" ∧ y_R_insert.cls ≠ "java/lang/invoke/VarHandle" ∧ (parseMethodDescriptor y_R_insert.desc).map (fun d => d.parameters.length) = some 4 := by decide +kernel
theorem hy_R_leaveOut : y_R_leaveOut.cls = "HistoryJudgeModel" ∧ y_R_leaveOut.cls ≠ "java/lang/invoke/MethodHandle" ∧ y_R_leaveOut.cls ≠ "java/lang/invoke/VarHandle" ∧ (parseMethodDescriptor y_R_leaveOut.desc).map (fun d => d.parameters.length) = some 1 := by decide +kernel
theorem hy_R_raise : y_R_raise.cls = "HistoryJudgeModel" ∧ y_R_raise.cls ≠ "java/lang/invoke/MethodHandle" ∧ y_R_raise.cls ≠ "java/lang/invoke/VarHandle" ∧ (parseMethodDescriptor y_R_raise.desc).map (fun d => d.parameters.length) = some 1 := by decide +kernel
theorem hy_R_add : y_R_add.cls = "HistoryJudgeModel" ∧ y_R_add.cls ≠ "java/lang/invoke/MethodHandle" ∧ y_R_add.cls ≠ "java/lang/invoke/VarHandle" ∧ (parseMethodDescriptor y_R_add.desc).map (fun d => d.parameters.length) = some 4 := by decide +kernel
theorem hy_R_clear : y_R_clear.cls = "HistoryJudgeModel" ∧ y_R_clear.cls ≠ "java/lang/invoke/MethodHandle" ∧ y_R_clear.cls ≠ "java/lang/invoke/VarHandle" ∧ (parseMethodDescriptor y_R_clear.desc).map (fun d => d.parameters.length) = some 0 := by decide +kernel
theorem hy_R_drawn : y_R_drawn.cls = "HistoryJudgeModel" ∧ y_R_drawn.cls ≠ "java/lang/invoke/MethodHandle" ∧ y_R_drawn.cls ≠ "java/lang/invoke/VarHandle" ∧ (parseMethodDescriptor y_R_drawn.desc).map (fun d => d.parameters.length) = some 1 := by decide +kernel
theorem hy_R_before : y_R_before.cls = "HistoryJudgeModel" ∧ y_R_before.cls ≠ "java/lang/invoke/MethodHandle" ∧ y_R_before.cls ≠ "java/lang/invoke/VarHandle" ∧ (parseMethodDescriptor y_R_before.desc).map (fun d => d.parameters.length) = some 3 := by decide +kernel
theorem hy_R_tried : y_R_tried.cls = "HistoryJudgeModel" ∧ y_R_tried.cls ≠ "java/lang/invoke/MethodHandle" ∧ y_R_tried.cls ≠ "java/lang/invoke/VarHandle" ∧ (parseMethodDescriptor y_R_tried.desc).map (fun d => d.parameters.length) = some 1 := by decide +kernel
theorem hy_R_make : y_R_make.cls = "HistoryJudgeModel" ∧ y_R_make.cls ≠ "java/lang/invoke/MethodHandle" ∧ y_R_make.cls ≠ "java/lang/invoke/VarHandle" ∧ (parseMethodDescriptor y_R_make.desc).map (fun d => d.parameters.length) = some 4 := by decide +kernel
theorem hy_R_flaws : y_R_flaws.cls = "HistoryJudgeModel" ∧ y_R_flaws.cls ≠ "java/lang/invoke/MethodHandle" ∧ y_R_flaws.cls ≠ "java/lang/invoke/VarHandle" ∧ (parseMethodDescriptor y_R_flaws.desc).map (fun d => d.parameters.length) = some 1 := by decide +kernel
theorem hy_R_twoParts : y_R_twoParts.cls = "HistoryJudgeModel" ∧ y_R_twoParts.cls ≠ "java/lang/invoke/MethodHandle" ∧ y_R_twoParts.cls ≠ "java/lang/invoke/VarHandle" ∧ (parseMethodDescriptor y_R_twoParts.desc).map (fun d => d.parameters.length) = some 1 := by decide +kernel
theorem hy_R_isLate : y_R_isLate.cls = "HistoryJudgeModel" ∧ y_R_isLate.cls ≠ "java/lang/invoke/MethodHandle" ∧ y_R_isLate.cls ≠ "java/lang/invoke/VarHandle" ∧ (parseMethodDescriptor y_R_isLate.desc).map (fun d => d.parameters.length) = some 1 := by decide +kernel
theorem hy_R_source : y_R_source.cls = "HistoryJudgeModel" ∧ y_R_source.cls ≠ "java/lang/invoke/MethodHandle" ∧ y_R_source.cls ≠ "java/lang/invoke/VarHandle" ∧ (parseMethodDescriptor y_R_source.desc).map (fun d => d.parameters.length) = some 1 := by decide +kernel
theorem hy_R_does : y_R_does.cls = "HistoryJudgeModel" ∧ y_R_does.cls ≠ "java/lang/invoke/MethodHandle" ∧ y_R_does.cls ≠ "java/lang/invoke/VarHandle" ∧ (parseMethodDescriptor y_R_does.desc).map (fun d => d.parameters.length) = some 1 := by decide +kernel
theorem hy_R_calls : y_R_calls.cls = "HistoryJudgeModel" ∧ y_R_calls.cls ≠ "java/lang/invoke/MethodHandle" ∧ y_R_calls.cls ≠ "java/lang/invoke/VarHandle" ∧ (parseMethodDescriptor y_R_calls.desc).map (fun d => d.parameters.length) = some 1 := by decide +kernel
theorem hy_R_events : y_R_events.cls = "HistoryJudgeModel" ∧ y_R_events.cls ≠ "java/lang/invoke/MethodHandle" ∧ y_R_events.cls ≠ "java/lang/invoke/VarHandle" ∧ (parseMethodDescriptor y_R_events.desc).map (fun d => d.parameters.length) = some 1 := by decide +kernel
theorem hy_R_happens : y_R_happens.cls = "HistoryJudgeModel" ∧ y_R_happens.cls ≠ "java/lang/invoke/MethodHandle" ∧ y_R_happens.cls ≠ "java/lang/invoke/VarHandle" ∧ (parseMethodDescriptor y_R_happens.desc).map (fun d => d.parameters.length) = some 3 := by decide +kernel
theorem hy_R_hasLeft : y_R_hasLeft.cls = "HistoryJudgeModel" ∧ y_R_hasLeft.cls ≠ "java/lang/invoke/MethodHandle" ∧ y_R_hasLeft.cls ≠ "java/lang/invoke/VarHandle" ∧ (parseMethodDescriptor y_R_hasLeft.desc).map (fun d => d.parameters.length) = some 1 := by decide +kernel
theorem hy_R_go : y_R_go.cls = "HistoryJudgeModel" ∧ y_R_go.cls ≠ "java/lang/invoke/MethodHandle" ∧ y_R_go.cls ≠ "java/lang/invoke/VarHandle" ∧ (parseMethodDescriptor y_R_go.desc).map (fun d => d.parameters.length) = some 1 := by decide +kernel
theorem hy_R_right : y_R_right.cls = "HistoryJudgeModel" ∧ y_R_right.cls ≠ "java/lang/invoke/MethodHandle" ∧ y_R_right.cls ≠ "java/lang/invoke/VarHandle" ∧ (parseMethodDescriptor y_R_right.desc).map (fun d => d.parameters.length) = some 1 := by decide +kernel
theorem hy_R_explains : y_R_explains.cls = "HistoryJudgeModel" ∧ y_R_explains.cls ≠ "java/lang/invoke/MethodHandle" ∧ y_R_explains.cls ≠ "java/lang/invoke/VarHandle" ∧ (parseMethodDescriptor y_R_explains.desc).map (fun d => d.parameters.length) = some 1 := by decide +kernel
theorem hy_R_judged : y_R_judged.cls = "HistoryJudgeModel" ∧ y_R_judged.cls ≠ "java/lang/invoke/MethodHandle" ∧ y_R_judged.cls ≠ "java/lang/invoke/VarHandle" ∧ (parseMethodDescriptor y_R_judged.desc).map (fun d => d.parameters.length) = some 1 := by decide +kernel
theorem hy_R_run : y_R_run.cls = "HistoryJudgeModel" ∧ y_R_run.cls ≠ "java/lang/invoke/MethodHandle" ∧ y_R_run.cls ≠ "java/lang/invoke/VarHandle" ∧ (parseMethodDescriptor y_R_run.desc).map (fun d => d.parameters.length) = some 1 := by decide +kernel
theorem hy_R_failed : y_R_failed.cls = "HistoryJudgeModel" ∧ y_R_failed.cls ≠ "java/lang/invoke/MethodHandle" ∧ y_R_failed.cls ≠ "java/lang/invoke/VarHandle" ∧ (parseMethodDescriptor y_R_failed.desc).map (fun d => d.parameters.length) = some 2 := by decide +kernel
theorem hy_R_fails : y_R_fails.cls = "HistoryJudgeModel" ∧ y_R_fails.cls ≠ "java/lang/invoke/MethodHandle" ∧ y_R_fails.cls ≠ "java/lang/invoke/VarHandle" ∧ (parseMethodDescriptor y_R_fails.desc).map (fun d => d.parameters.length) = some 2 := by decide +kernel
theorem hy_R_takes : y_R_takes.cls = "HistoryJudgeModel" ∧ y_R_takes.cls ≠ "java/lang/invoke/MethodHandle" ∧ y_R_takes.cls ≠ "java/lang/invoke/VarHandle" ∧ (parseMethodDescriptor y_R_takes.desc).map (fun d => d.parameters.length) = some 3 := by decide +kernel
theorem hy_R_smaller : y_R_smaller.cls = "HistoryJudgeModel" ∧ y_R_smaller.cls ≠ "java/lang/invoke/MethodHandle" ∧ y_R_smaller.cls ≠ "java/lang/invoke/VarHandle" ∧ (parseMethodDescriptor y_R_smaller.desc).map (fun d => d.parameters.length) = some 2 := by decide +kernel
theorem hy_R_shrink : y_R_shrink.cls = "HistoryJudgeModel" ∧ y_R_shrink.cls ≠ "java/lang/invoke/MethodHandle" ∧ y_R_shrink.cls ≠ "java/lang/invoke/VarHandle" ∧ (parseMethodDescriptor y_R_shrink.desc).map (fun d => d.parameters.length) = some 2 := by decide +kernel
theorem hy_R_command : y_R_command.cls = "HistoryJudgeModel" ∧ y_R_command.cls ≠ "java/lang/invoke/MethodHandle" ∧ y_R_command.cls ≠ "java/lang/invoke/VarHandle" ∧ (parseMethodDescriptor y_R_command.desc).map (fun d => d.parameters.length) = some 2 := by decide +kernel
theorem hy_R_event : y_R_event.cls = "HistoryJudgeModel" ∧ y_R_event.cls ≠ "java/lang/invoke/MethodHandle" ∧ y_R_event.cls ≠ "java/lang/invoke/VarHandle" ∧ (parseMethodDescriptor y_R_event.desc).map (fun d => d.parameters.length) = some 2 := by decide +kernel
theorem hy_R_order : y_R_order.cls = "HistoryJudgeModel" ∧ y_R_order.cls ≠ "java/lang/invoke/MethodHandle" ∧ y_R_order.cls ≠ "java/lang/invoke/VarHandle" ∧ (parseMethodDescriptor y_R_order.desc).map (fun d => d.parameters.length) = some 1 := by decide +kernel
theorem hy_R_cell : y_R_cell.cls = "HistoryJudgeModel" ∧ y_R_cell.cls ≠ "java/lang/invoke/MethodHandle" ∧ y_R_cell.cls ≠ "java/lang/invoke/VarHandle" ∧ (parseMethodDescriptor y_R_cell.desc).map (fun d => d.parameters.length) = some 1 := by decide +kernel
theorem hy_R_count : y_R_count.cls = "HistoryJudgeModel" ∧ y_R_count.cls ≠ "java/lang/invoke/MethodHandle" ∧ y_R_count.cls ≠ "java/lang/invoke/VarHandle" ∧ (parseMethodDescriptor y_R_count.desc).map (fun d => d.parameters.length) = some 1 := by decide +kernel
theorem hy_R_tally : y_R_tally.cls = "HistoryJudgeModel" ∧ y_R_tally.cls ≠ "java/lang/invoke/MethodHandle" ∧ y_R_tally.cls ≠ "java/lang/invoke/VarHandle" ∧ (parseMethodDescriptor y_R_tally.desc).map (fun d => d.parameters.length) = some 1 := by decide +kernel
theorem hy_M_numberOf : y_M_numberOf.cls = "HistoryJudge$Machine" ∧ y_M_numberOf.cls ≠ "java/lang/invoke/MethodHandle" ∧ y_M_numberOf.cls ≠ "java/lang/invoke/VarHandle" ∧ (parseMethodDescriptor y_M_numberOf.desc).map (fun d => d.parameters.length) = some 1 := by decide +kernel
theorem hy_M_isSplit : y_M_isSplit.cls = "HistoryJudge$Machine" ∧ y_M_isSplit.cls ≠ "java/lang/invoke/MethodHandle" ∧ y_M_isSplit.cls ≠ "java/lang/invoke/VarHandle" ∧ (parseMethodDescriptor y_M_isSplit.desc).map (fun d => d.parameters.length) = some 1 := by decide +kernel
theorem hy_M_isLate : y_M_isLate.cls = "HistoryJudge$Machine" ∧ y_M_isLate.cls ≠ "java/lang/invoke/MethodHandle" ∧ y_M_isLate.cls ≠ "java/lang/invoke/VarHandle" ∧ (parseMethodDescriptor y_M_isLate.desc).map (fun d => d.parameters.length) = some 1 := by decide +kernel
theorem hy_M_act : y_M_act.cls = "HistoryJudge$Machine" ∧ y_M_act.cls ≠ "java/lang/invoke/MethodHandle" ∧ y_M_act.cls ≠ "java/lang/invoke/VarHandle" ∧ (parseMethodDescriptor y_M_act.desc).map (fun d => d.parameters.length) = some 3 := by decide +kernel
theorem hy_M_actByNote : y_M_actByNote.cls = "HistoryJudge$Machine" ∧ y_M_actByNote.cls ≠ "java/lang/invoke/MethodHandle" ∧ y_M_actByNote.cls ≠ "java/lang/invoke/VarHandle" ∧ (parseMethodDescriptor y_M_actByNote.desc).map (fun d => d.parameters.length) = some 4 := by decide +kernel
theorem hy_M_step : y_M_step.cls = "HistoryJudge$Machine" ∧ y_M_step.cls ≠ "java/lang/invoke/MethodHandle" ∧ y_M_step.cls ≠ "java/lang/invoke/VarHandle" ∧ (parseMethodDescriptor y_M_step.desc).map (fun d => d.parameters.length) = some 3 := by decide +kernel
theorem hy_M_perform : y_M_perform.cls = "HistoryJudge$Machine" ∧ y_M_perform.cls ≠ "java/lang/invoke/MethodHandle" ∧ y_M_perform.cls ≠ "java/lang/invoke/VarHandle" ∧ (parseMethodDescriptor y_M_perform.desc).map (fun d => d.parameters.length) = some 3 := by decide +kernel
theorem hy_J_answersSo : y_J_answersSo.cls = "HistoryJudge$Judge" ∧ y_J_answersSo.cls ≠ "java/lang/invoke/MethodHandle" ∧ y_J_answersSo.cls ≠ "java/lang/invoke/VarHandle" ∧ (parseMethodDescriptor y_J_answersSo.desc).map (fun d => d.parameters.length) = some 4 := by decide +kernel
theorem hy_J_after : y_J_after.cls = "HistoryJudge$Judge" ∧ y_J_after.cls ≠ "java/lang/invoke/MethodHandle" ∧ y_J_after.cls ≠ "java/lang/invoke/VarHandle" ∧ (parseMethodDescriptor y_J_after.desc).map (fun d => d.parameters.length) = some 4 := by decide +kernel
theorem hy_J_search : y_J_search.cls = "HistoryJudge$Judge" ∧ y_J_search.cls ≠ "java/lang/invoke/MethodHandle" ∧ y_J_search.cls ≠ "java/lang/invoke/VarHandle" ∧ (parseMethodDescriptor y_J_search.desc).map (fun d => d.parameters.length) = some 6 := by decide +kernel
theorem hy_J_explains : y_J_explains.cls = "HistoryJudge$Judge" ∧ y_J_explains.cls ≠ "java/lang/invoke/MethodHandle" ∧ y_J_explains.cls ≠ "java/lang/invoke/VarHandle" ∧ (parseMethodDescriptor y_J_explains.desc).map (fun d => d.parameters.length) = some 2 := by decide +kernel
theorem hy_T_test : y_T_test.cls = "HistoryJudge$Tester" ∧ y_T_test.cls ≠ "java/lang/invoke/MethodHandle" ∧ y_T_test.cls ≠ "java/lang/invoke/VarHandle" ∧ (parseMethodDescriptor y_T_test.desc).map (fun d => d.parameters.length) = some 2 := by decide +kernel
theorem hy_D_restart : y_D_restart.cls = "HistoryJudge$Draws" ∧ y_D_restart.cls ≠ "java/lang/invoke/MethodHandle" ∧ y_D_restart.cls ≠ "java/lang/invoke/VarHandle" ∧ (parseMethodDescriptor y_D_restart.desc).map (fun d => d.parameters.length) = some 1 := by decide +kernel
theorem hy_T_firstFailure : y_T_firstFailure.cls = "HistoryJudge$Tester" ∧ y_T_firstFailure.cls ≠ "java/lang/invoke/MethodHandle" ∧ y_T_firstFailure.cls ≠ "java/lang/invoke/VarHandle" ∧ (parseMethodDescriptor y_T_firstFailure.desc).map (fun d => d.parameters.length) = some 3 := by decide +kernel
theorem hy_H_add : y_H_add.cls = "HistoryJudge" ∧ y_H_add.cls ≠ "java/lang/invoke/MethodHandle" ∧ y_H_add.cls ≠ "java/lang/invoke/VarHandle" ∧ (parseMethodDescriptor y_H_add.desc).map (fun d => d.parameters.length) = some 4 := by decide +kernel
theorem hy_H_make : y_H_make.cls = "HistoryJudge" ∧ y_H_make.cls ≠ "java/lang/invoke/MethodHandle" ∧ y_H_make.cls ≠ "java/lang/invoke/VarHandle" ∧ (parseMethodDescriptor y_H_make.desc).map (fun d => d.parameters.length) = some 4 := by decide +kernel
theorem hy_H_flaws : y_H_flaws.cls = "HistoryJudge" ∧ y_H_flaws.cls ≠ "java/lang/invoke/MethodHandle" ∧ y_H_flaws.cls ≠ "java/lang/invoke/VarHandle" ∧ (parseMethodDescriptor y_H_flaws.desc).map (fun d => d.parameters.length) = some 1 := by decide +kernel
theorem hy_H_run : y_H_run.cls = "HistoryJudge" ∧ y_H_run.cls ≠ "java/lang/invoke/MethodHandle" ∧ y_H_run.cls ≠ "java/lang/invoke/VarHandle" ∧ (parseMethodDescriptor y_H_run.desc).map (fun d => d.parameters.length) = some 1 := by decide +kernel
theorem hy_H_fails : y_H_fails.cls = "HistoryJudge" ∧ y_H_fails.cls ≠ "java/lang/invoke/MethodHandle" ∧ y_H_fails.cls ≠ "java/lang/invoke/VarHandle" ∧ (parseMethodDescriptor y_H_fails.desc).map (fun d => d.parameters.length) = some 2 := by decide +kernel
theorem hy_H_shrink : y_H_shrink.cls = "HistoryJudge" ∧ y_H_shrink.cls ≠ "java/lang/invoke/MethodHandle" ∧ y_H_shrink.cls ≠ "java/lang/invoke/VarHandle" ∧ (parseMethodDescriptor y_H_shrink.desc).map (fun d => d.parameters.length) = some 2 := by decide +kernel
theorem hy_H_command : y_H_command.cls = "HistoryJudge" ∧ y_H_command.cls ≠ "java/lang/invoke/MethodHandle" ∧ y_H_command.cls ≠ "java/lang/invoke/VarHandle" ∧ (parseMethodDescriptor y_H_command.desc).map (fun d => d.parameters.length) = some 2 := by decide +kernel
theorem hy_H_event : y_H_event.cls = "HistoryJudge" ∧ y_H_event.cls ≠ "java/lang/invoke/MethodHandle" ∧ y_H_event.cls ≠ "java/lang/invoke/VarHandle" ∧ (parseMethodDescriptor y_H_event.desc).map (fun d => d.parameters.length) = some 2 := by decide +kernel
theorem hy_H_cell : y_H_cell.cls = "HistoryJudge" ∧ y_H_cell.cls ≠ "java/lang/invoke/MethodHandle" ∧ y_H_cell.cls ≠ "java/lang/invoke/VarHandle" ∧ (parseMethodDescriptor y_H_cell.desc).map (fun d => d.parameters.length) = some 1 := by decide +kernel
theorem hy_H_count : y_H_count.cls = "HistoryJudge" ∧ y_H_count.cls ≠ "java/lang/invoke/MethodHandle" ∧ y_H_count.cls ≠ "java/lang/invoke/VarHandle" ∧ (parseMethodDescriptor y_H_count.desc).map (fun d => d.parameters.length) = some 1 := by decide +kernel
theorem hy_H_tally : y_H_tally.cls = "HistoryJudge" ∧ y_H_tally.cls ≠ "java/lang/invoke/MethodHandle" ∧ y_H_tally.cls ≠ "java/lang/invoke/VarHandle" ∧ (parseMethodDescriptor y_H_tally.desc).map (fun d => d.parameters.length) = some 1 := by decide +kernel
theorem hy_H_init : y_H_init.cls = "HistoryJudge" ∧ y_H_init.cls ≠ "java/lang/invoke/MethodHandle" ∧ y_H_init.cls ≠ "java/lang/invoke/VarHandle" ∧ (parseMethodDescriptor y_H_init.desc).map (fun d => d.parameters.length) = some 0 := by decide +kernel
theorem hy_P_init : y_P_init.cls = "HistoryJudge$Program" ∧ y_P_init.cls ≠ "java/lang/invoke/MethodHandle" ∧ y_P_init.cls ≠ "java/lang/invoke/VarHandle" ∧ (parseMethodDescriptor y_P_init.desc).map (fun d => d.parameters.length) = some 0 := by decide +kernel
theorem hy_T_init : y_T_init.cls = "HistoryJudge$Tester" ∧ y_T_init.cls ≠ "java/lang/invoke/MethodHandle" ∧ y_T_init.cls ≠ "java/lang/invoke/VarHandle" ∧ (parseMethodDescriptor y_T_init.desc).map (fun d => d.parameters.length) = some 0 := by decide +kernel
theorem hy_M_init : y_M_init.cls = "HistoryJudge$Machine" ∧ y_M_init.cls ≠ "java/lang/invoke/MethodHandle" ∧ y_M_init.cls ≠ "java/lang/invoke/VarHandle" ∧ (parseMethodDescriptor y_M_init.desc).map (fun d => d.parameters.length) = some 0 := by decide +kernel
theorem hy_J_init : y_J_init.cls = "HistoryJudge$Judge" ∧ y_J_init.cls ≠ "java/lang/invoke/MethodHandle" ∧ y_J_init.cls ≠ "java/lang/invoke/VarHandle" ∧ (parseMethodDescriptor y_J_init.desc).map (fun d => d.parameters.length) = some 0 := by decide +kernel
theorem hy_D_init : y_D_init.cls = "HistoryJudge$Draws" ∧ y_D_init.cls ≠ "java/lang/invoke/MethodHandle" ∧ y_D_init.cls ≠ "java/lang/invoke/VarHandle" ∧ (parseMethodDescriptor y_D_init.desc).map (fun d => d.parameters.length) = some 0 := by decide +kernel
theorem hy_R_init : y_R_init.cls = "HistoryJudgeModel" ∧ y_R_init.cls ≠ "java/lang/invoke/MethodHandle" ∧ y_R_init.cls ≠ "java/lang/invoke/VarHandle" ∧ (parseMethodDescriptor y_R_init.desc).map (fun d => d.parameters.length) = some 0 := by decide +kernel
theorem gV_H_79 : GoodIn lg (wsV "HistoryJudge" 79 "HistoryJudge$Program" y_P_size (Jvm.Cond.code y_P_size prog_6_method_2_code 1 (some .int) :: lg)) := ev_goodV hw_3 hw_4 hw_5 hw_6 hw_2
theorem gV_H_83 : GoodIn lg (wsV "HistoryJudge" 83 "HistoryJudge$Program" y_P_empty (Jvm.Cond.code y_P_empty prog_6_method_10_code 2 none :: lg)) := ev_goodV hw_8 hw_9 hw_10 hw_6 hw_7
theorem gV_P_31 : GoodIn lg (wsV "HistoryJudge$Program" 31 "HistoryJudge$Program" y_P_size (Jvm.Cond.code y_P_size prog_6_method_2_code 1 (some .int) :: lg)) := ev_goodV hw_13 hw_4 hw_5 hw_6 hw_2
theorem gV_H_125 : GoodIn lg (wsV "HistoryJudge" 125 "HistoryJudge$Program" y_P_copyFrom (Jvm.Cond.code y_P_copyFrom prog_6_method_11_code 3 none :: lg)) := ev_goodV hw_22 hw_23 hw_24 hw_6 hw_21
theorem gV_P_24 : GoodIn lg (wsV "HistoryJudge$Program" 24 "HistoryJudge$Program" y_P_start (Jvm.Cond.code y_P_start prog_6_method_3_code 2 (some .int) :: lg)) := ev_goodV hw_26 hw_27 hw_28 hw_6 hw_25
theorem gV_P_28 : GoodIn lg (wsV "HistoryJudge$Program" 28 "HistoryJudge$Program" y_P_end (Jvm.Cond.code y_P_end prog_6_method_4_code 2 (some .int) :: lg)) := ev_goodV hw_30 hw_31 hw_32 hw_6 hw_29
theorem gV_P_48 : GoodIn lg (wsV "HistoryJudge$Program" 48 "HistoryJudge$Program" y_P_put (Jvm.Cond.code y_P_put prog_6_method_19_code 5 none :: lg)) := ev_goodV hw_34 hw_35 hw_36 hw_6 hw_33
theorem gV_P_41 : GoodIn lg (wsV "HistoryJudge$Program" 41 "HistoryJudge$Program" y_P_shiftUp (Jvm.Cond.code y_P_shiftUp prog_6_method_20_code 4 none :: lg)) := ev_goodV hw_38 hw_39 hw_40 hw_6 hw_37
theorem gV_P_45 : GoodIn lg (wsV "HistoryJudge$Program" 45 "HistoryJudge$Program" y_P_renumber (Jvm.Cond.code y_P_renumber prog_6_method_21_code 5 none :: lg)) := ev_goodV hw_42 hw_43 hw_44 hw_6 hw_41
theorem gV_H_212 : GoodIn lg (wsV "HistoryJudge" 212 "HistoryJudge$Program" y_P_append (Jvm.Cond.code y_P_append prog_6_method_12_code 6 none :: lg)) := ev_goodV hw_46 hw_47 hw_48 hw_6 hw_45
theorem gS_O_11 : GoodIn lg (va_wsS "HistoryJudge$Model" 11 y_O_isOpen (Jvm.Cond.code y_O_isOpen prog_5_method_4_code 2 (some .boolean) :: lg)) := ev_goodS hw_50 hw_51 hw_52 hw_49
theorem gS_O_15 : GoodIn lg (va_wsS "HistoryJudge$Model" 15 y_O_source (Jvm.Cond.code y_O_source prog_5_method_5_code 1 (some .int) :: lg)) := ev_goodS hw_54 hw_55 hw_52 hw_53
theorem gS_P_64 : GoodIn lg (va_wsS "HistoryJudge$Program" 64 y_O_allows (Jvm.Cond.code y_O_allows prog_5_method_6_code 3 (some .boolean) :: lg)) := ev_goodS hw_57 hw_58 hw_52 hw_56
theorem gS_O_23 : GoodIn lg (va_wsS "HistoryJudge$Model" 23 y_O_content (Jvm.Cond.code y_O_content prog_5_method_2_code 2 (some .int) :: lg)) := ev_goodS hw_60 hw_61 hw_52 hw_59
theorem gS_O_19 : GoodIn lg (va_wsS "HistoryJudge$Model" 19 y_O_held (Jvm.Cond.code y_O_held prog_5_method_3_code 2 (some .int) :: lg)) := ev_goodS hw_63 hw_64 hw_52 hw_62
theorem gS_P_68 : GoodIn lg (va_wsS "HistoryJudge$Program" 68 y_O_after (Jvm.Cond.code y_O_after prog_5_method_8_code 7 (some .int) :: lg)) := ev_goodS hw_66 hw_67 hw_52 hw_65
theorem gV_P_72 : GoodIn lg (wsV "HistoryJudge$Program" 72 "HistoryJudge$Program" y_P_isValidBeside (Jvm.Cond.code y_P_isValidBeside prog_6_method_17_code 6 (some .boolean) :: lg)) := ev_goodV hw_69 hw_70 hw_71 hw_6 hw_68
theorem gV_H_121 : GoodIn lg (wsV "HistoryJudge" 121 "HistoryJudge$Program" y_P_isValid (Jvm.Cond.code y_P_isValid prog_6_method_16_code 5 (some .boolean) :: lg)) := ev_goodV hw_73 hw_74 hw_75 hw_6 hw_72
theorem gV_H_219 : GoodIn lg (wsV "HistoryJudge" 219 "HistoryJudge$Draws" y_D_below (Jvm.Cond.code y_D_below prog_2_method_3_code 3 (some .int) :: lg)) := ev_goodV hw_81 hw_82 hw_83 hw_84 hw_80
theorem gV_H_222 : GoodIn lg (wsV "HistoryJudge" 222 "HistoryJudge$Program" y_P_known (Jvm.Cond.code y_P_known prog_6_method_7_code 2 (some .int) :: lg)) := ev_goodV hw_86 hw_87 hw_88 hw_6 hw_85
theorem gV_H_70 : GoodIn lg (wsV "HistoryJudge" 70 "HistoryJudge" y_H_appendIfValid (Jvm.Cond.code y_H_appendIfValid prog_1_method_16_code 5 (some .boolean) :: lg)) := ev_goodV hw_90 hw_91 hw_92 hw_93 hw_89
theorem gV_H_225 : GoodIn lg (wsV "HistoryJudge" 225 "HistoryJudge$Program" y_P_knownAt (Jvm.Cond.code y_P_knownAt prog_6_method_8_code 3 (some .int) :: lg)) := ev_goodV hw_95 hw_96 hw_97 hw_6 hw_94
theorem gV_H_216 : GoodIn lg (wsV "HistoryJudge" 216 "HistoryJudge" y_H_drawCommand (Jvm.Cond.code y_H_drawCommand prog_1_method_18_code 7 (some .boolean) :: lg)) := ev_goodV hw_99 hw_100 hw_101 hw_93 hw_98
theorem gV_H_234 : GoodIn lg (wsV "HistoryJudge" 234 "HistoryJudge$Program" y_P_lower (Jvm.Cond.code y_P_lower prog_6_method_15_code 4 (some .boolean) :: lg)) := ev_goodV hw_103 hw_104 hw_105 hw_6 hw_102
theorem gV_P_59 : GoodIn lg (wsV "HistoryJudge$Program" 59 "HistoryJudge$Program" y_P_hasRoom (Jvm.Cond.code y_P_hasRoom prog_6_method_6_code 2 (some .boolean) :: lg)) := ev_goodV hw_107 hw_108 hw_109 hw_6 hw_106
theorem gV_H_231 : GoodIn lg (wsV "HistoryJudge" 231 "HistoryJudge$Program" y_P_promote (Jvm.Cond.code y_P_promote prog_6_method_14_code 10 (some .boolean) :: lg)) := ev_goodV hw_111 hw_112 hw_113 hw_6 hw_110
theorem gV_P_52 : GoodIn lg (wsV "HistoryJudge$Program" 52 "HistoryJudge$Program" y_P_isNeeded (Jvm.Cond.code y_P_isNeeded prog_6_method_18_code 4 (some .boolean) :: lg)) := ev_goodV hw_115 hw_116 hw_117 hw_6 hw_114
theorem gV_P_56 : GoodIn lg (wsV "HistoryJudge$Program" 56 "HistoryJudge$Program" y_P_branchOf (Jvm.Cond.code y_P_branchOf prog_6_method_5_code 2 (some .int) :: lg)) := ev_goodV hw_119 hw_120 hw_121 hw_6 hw_118
theorem gV_H_228 : GoodIn lg (wsV "HistoryJudge" 228 "HistoryJudge$Program" y_P_remove (Jvm.Cond.code y_P_remove prog_6_method_13_code 4 (some .boolean) :: lg)) := ev_goodV hw_123 hw_124 hw_125 hw_6 hw_122
theorem gV_R_69 : GoodIn lg (wsV "HistoryJudgeModel" 69 "HistoryJudgeModel" y_R_branch (Jvm.Cond.code y_R_branch prog_9_method_6_code 2 (some .int) :: lg)) := ev_goodV hw_129 hw_130 hw_131 hw_132 hw_128
theorem gV_R_73 : GoodIn lg (wsV "HistoryJudgeModel" 73 "HistoryJudgeModel" y_R_first (Jvm.Cond.code y_R_first prog_9_method_7_code 2 (some .int) :: lg)) := ev_goodV hw_134 hw_135 hw_136 hw_132 hw_133
theorem gV_R_80 : GoodIn lg (wsV "HistoryJudgeModel" 80 "HistoryJudgeModel" y_R_placed (Jvm.Cond.code y_R_placed prog_9_method_9_code 6 (some .int) :: lg)) := ev_goodV hw_141 hw_142 hw_143 hw_132 hw_140
theorem gV_R_76 : GoodIn lg (wsV "HistoryJudgeModel" 76 "HistoryJudgeModel" y_R_finds (Jvm.Cond.code y_R_finds prog_9_method_11_code 4 (some .boolean) :: lg)) := ev_goodV hw_145 hw_146 hw_147 hw_132 hw_144
theorem gV_R_84 : GoodIn lg (wsV "HistoryJudgeModel" 84 "HistoryJudgeModel" y_R_many (Jvm.Cond.code y_R_many prog_9_method_5_code 1 (some .int) :: lg)) := ev_goodV hw_149 hw_150 hw_151 hw_132 hw_148
theorem gV_R_92 : GoodIn lg (wsV "HistoryJudgeModel" 92 "HistoryJudgeModel" y_R_isOrder (Jvm.Cond.code y_R_isOrder prog_9_method_10_code 4 (some .boolean) :: lg)) := ev_goodV hw_153 hw_154 hw_155 hw_132 hw_152
theorem gV_R_95 : GoodIn lg (wsV "HistoryJudgeModel" 95 "HistoryJudgeModel" y_R_fits (Jvm.Cond.code y_R_fits prog_9_method_12_code 4 (some .boolean) :: lg)) := ev_goodV hw_157 hw_158 hw_159 hw_132 hw_156
theorem gV_R_88 : GoodIn lg (wsV "HistoryJudgeModel" 88 "HistoryJudgeModel" y_R_mayStand (Jvm.Cond.code y_R_mayStand prog_9_method_8_code 4 (some .boolean) :: lg)) := ev_goodV hw_162 hw_163 hw_164 hw_132 hw_161
theorem gV_R_98 : GoodIn lg (wsV "HistoryJudgeModel" 98 "HistoryJudgeModel" y_R_copy (Jvm.Cond.code y_R_copy prog_9_method_16_code 3 none :: lg)) := ev_goodV hw_168 hw_169 hw_170 hw_132 hw_167
theorem gS_R_102 : GoodIn lg (va_wsS "HistoryJudgeModel" 102 y_R_within (Jvm.Cond.code y_R_within prog_9_method_4_code 3 (some .boolean) :: lg)) := ev_goodS hw_172 hw_173 hw_132 hw_171
theorem gV_R_105 : GoodIn lg (wsV "HistoryJudgeModel" 105 "HistoryJudgeModel" y_R_fail (Jvm.Cond.code y_R_fail prog_9_method_3_code 2 (some .int) :: lg)) := ev_goodV hw_175 hw_176 hw_177 hw_132 hw_174
theorem gV_R_108 : GoodIn lg (wsV "HistoryJudgeModel" 108 "HistoryJudgeModel" y_R_keep (Jvm.Cond.code y_R_keep prog_9_method_14_code 2 none :: lg)) := ev_goodV hw_179 hw_180 hw_181 hw_132 hw_178
theorem gV_R_111 : GoodIn lg (wsV "HistoryJudgeModel" 111 "HistoryJudgeModel" y_R_insert (Jvm.Cond.code y_R_insert prog_9_method_17_code 7 (some .int) :: lg)) := ev_goodV hw_183 hw_184 hw_185 hw_132 hw_182
theorem gV_R_115 : GoodIn lg (wsV "HistoryJudgeModel" 115 "HistoryJudgeModel" y_R_valid (Jvm.Cond.code y_R_valid prog_9_method_13_code 4 (some .boolean) :: lg)) := ev_goodV hw_187 hw_188 hw_189 hw_132 hw_186
theorem gV_R_119 : GoodIn lg (wsV "HistoryJudgeModel" 119 "HistoryJudgeModel" y_R_putBack (Jvm.Cond.code y_R_putBack prog_9_method_15_code 2 none :: lg)) := ev_goodV hw_192 hw_193 hw_194 hw_132 hw_191
theorem gV_R_134 : GoodIn lg (wsV "HistoryJudgeModel" 134 "HistoryJudgeModel" y_R_drawn (Jvm.Cond.code y_R_drawn prog_9_method_22_code 2 (some .int) :: lg)) := ev_goodV hw_199 hw_200 hw_201 hw_132 hw_198
theorem gV_R_137 : GoodIn lg (wsV "HistoryJudgeModel" 137 "HistoryJudgeModel" y_R_before (Jvm.Cond.code y_R_before prog_9_method_24_code 6 (some .int) :: lg)) := ev_goodV hw_203 hw_204 hw_205 hw_132 hw_202
theorem gV_R_141 : GoodIn lg (wsV "HistoryJudgeModel" 141 "HistoryJudgeModel" y_R_clear (Jvm.Cond.code y_R_clear prog_9_method_21_code 3 (some .int) :: lg)) := ev_goodV hw_207 hw_208 hw_209 hw_132 hw_206
theorem gV_R_144 : GoodIn lg (wsV "HistoryJudgeModel" 144 "HistoryJudgeModel" y_R_tried (Jvm.Cond.code y_R_tried prog_9_method_23_code 12 none :: lg)) := ev_goodV hw_211 hw_212 hw_213 hw_132 hw_210
theorem gV_R_151 : GoodIn lg (wsV "HistoryJudgeModel" 151 "HistoryJudgeModel" y_R_isLate (Jvm.Cond.code y_R_isLate prog_9_method_28_code 2 (some .boolean) :: lg)) := ev_goodV hw_221 hw_222 hw_223 hw_132 hw_220
theorem gV_R_154 : GoodIn lg (wsV "HistoryJudgeModel" 154 "HistoryJudgeModel" y_R_twoParts (Jvm.Cond.code y_R_twoParts prog_9_method_27_code 2 (some .boolean) :: lg)) := ev_goodV hw_225 hw_226 hw_227 hw_132 hw_224
theorem gV_R_163 : GoodIn lg (wsV "HistoryJudgeModel" 163 "HistoryJudgeModel" y_R_does (Jvm.Cond.code y_R_does prog_9_method_30_code 5 none :: lg)) := ev_goodV hw_230 hw_231 hw_232 hw_132 hw_229
theorem gV_R_160 : GoodIn lg (wsV "HistoryJudgeModel" 160 "HistoryJudgeModel" y_R_source (Jvm.Cond.code y_R_source prog_9_method_29_code 2 (some .int) :: lg)) := ev_goodV hw_234 hw_235 hw_236 hw_132 hw_233
theorem gV_R_157 : GoodIn lg (wsV "HistoryJudgeModel" 157 "HistoryJudgeModel" y_R_calls (Jvm.Cond.code y_R_calls prog_9_method_31_code 2 none :: lg)) := ev_goodV hw_238 hw_239 hw_240 hw_132 hw_237
theorem gV_R_173 : GoodIn lg (wsV "HistoryJudgeModel" 173 "HistoryJudgeModel" y_R_hasLeft (Jvm.Cond.code y_R_hasLeft prog_9_method_34_code 2 (some .boolean) :: lg)) := ev_goodV hw_244 hw_245 hw_246 hw_132 hw_243
theorem gV_R_169 : GoodIn lg (wsV "HistoryJudgeModel" 169 "HistoryJudgeModel" y_R_happens (Jvm.Cond.code y_R_happens prog_9_method_33_code 5 none :: lg)) := ev_goodV hw_249 hw_250 hw_251 hw_132 hw_248
theorem gV_R_166 : GoodIn lg (wsV "HistoryJudgeModel" 166 "HistoryJudgeModel" y_R_events (Jvm.Cond.code y_R_events prog_9_method_32_code 2 (some .int) :: lg)) := ev_goodV hw_253 hw_254 hw_255 hw_132 hw_252
theorem gV_R_176 : GoodIn lg (wsV "HistoryJudgeModel" 176 "HistoryJudgeModel" y_R_right (Jvm.Cond.code y_R_right prog_9_method_36_code 5 (some .int) :: lg)) := ev_goodV hw_258 hw_259 hw_260 hw_132 hw_257
theorem gV_R_179 : GoodIn lg (wsV "HistoryJudgeModel" 179 "HistoryJudgeModel" y_R_go (Jvm.Cond.code y_R_go prog_9_method_35_code 4 none :: lg)) := ev_goodV hw_262 hw_263 hw_264 hw_132 hw_261
theorem gV_R_188 : GoodIn lg (wsV "HistoryJudgeModel" 188 "HistoryJudgeModel" y_R_explains (Jvm.Cond.code y_R_explains prog_9_method_37_code 7 (some .boolean) :: lg)) := ev_goodV hw_270 hw_271 hw_272 hw_132 hw_269
theorem gV_R_197 : GoodIn lg (wsV "HistoryJudgeModel" 197 "HistoryJudgeModel" y_R_judged (Jvm.Cond.code y_R_judged prog_9_method_38_code 4 (some .boolean) :: lg)) := ev_goodV hw_275 hw_276 hw_277 hw_132 hw_274
theorem gV_R_204 : GoodIn lg (wsV "HistoryJudgeModel" 204 "HistoryJudgeModel" y_R_failed (Jvm.Cond.code y_R_failed prog_9_method_40_code 6 (some .int) :: lg)) := ev_goodV hw_281 hw_282 hw_283 hw_132 hw_280
theorem gV_R_211 : GoodIn lg (wsV "HistoryJudgeModel" 211 "HistoryJudgeModel" y_R_takes (Jvm.Cond.code y_R_takes prog_9_method_42_code 5 (some .boolean) :: lg)) := ev_goodV hw_285 hw_286 hw_287 hw_132 hw_284
theorem gV_R_215 : GoodIn lg (wsV "HistoryJudgeModel" 215 "HistoryJudgeModel" y_R_raise (Jvm.Cond.code y_R_raise prog_9_method_19_code 9 none :: lg)) := ev_goodV hw_289 hw_290 hw_291 hw_132 hw_288
theorem gV_R_208 : GoodIn lg (wsV "HistoryJudgeModel" 208 "HistoryJudgeModel" y_R_leaveOut (Jvm.Cond.code y_R_leaveOut prog_9_method_18_code 4 (some .boolean) :: lg)) := ev_goodV hw_293 hw_294 hw_295 hw_132 hw_292
theorem gV_R_218 : GoodIn lg (wsV "HistoryJudgeModel" 218 "HistoryJudgeModel" y_R_smaller (Jvm.Cond.code y_R_smaller prog_9_method_43_code 7 (some .boolean) :: lg)) := ev_goodV hw_297 hw_298 hw_299 hw_132 hw_296
theorem gV_M_48 : GoodIn lg (wsV "HistoryJudge$Machine" 48 "HistoryJudge$Program" y_P_end (Jvm.Cond.code y_P_end prog_6_method_4_code 2 (some .int) :: lg)) := ev_goodV hw_306 hw_31 hw_32 hw_6 hw_29
theorem gV_M_63 : GoodIn lg (wsV "HistoryJudge$Machine" 63 "HistoryJudge$Machine" y_M_numberOf (Jvm.Cond.code y_M_numberOf prog_4_method_4_code 2 (some .int) :: lg)) := ev_goodV hw_316 hw_317 hw_318 hw_319 hw_315
theorem gV_M_66 : GoodIn lg (wsV "HistoryJudge$Machine" 66 "HistoryJudge$Machine" y_M_isSplit (Jvm.Cond.code y_M_isSplit prog_4_method_5_code 2 (some .boolean) :: lg)) := ev_goodV hw_321 hw_322 hw_323 hw_319 hw_320
theorem gS_M_73 : GoodIn lg (va_wsS "HistoryJudge$Machine" 73 y_O_held (Jvm.Cond.code y_O_held prog_5_method_3_code 2 (some .int) :: lg)) := ev_goodS hw_325 hw_64 hw_52 hw_62
theorem gS_M_70 : GoodIn lg (va_wsS "HistoryJudge$Machine" 70 y_O_source (Jvm.Cond.code y_O_source prog_5_method_5_code 1 (some .int) :: lg)) := ev_goodS hw_326 hw_55 hw_52 hw_53
theorem gS_M_92 : GoodIn lg (va_wsS "HistoryJudge$Machine" 92 y_O_answer (Jvm.Cond.code y_O_answer prog_5_method_7_code 4 (some .int) :: lg)) := ev_goodS hw_328 hw_329 hw_52 hw_327
theorem gV_M_85 : GoodIn lg (wsV "HistoryJudge$Machine" 85 "HistoryJudge$Machine" y_M_isLate (Jvm.Cond.code y_M_isLate prog_4_method_6_code 2 (some .boolean) :: lg)) := ev_goodV hw_331 hw_332 hw_333 hw_319 hw_330
theorem gS_M_88 : GoodIn lg (va_wsS "HistoryJudge$Machine" 88 y_O_after (Jvm.Cond.code y_O_after prog_5_method_8_code 7 (some .int) :: lg)) := ev_goodS hw_334 hw_67 hw_52 hw_65
theorem gV_M_81 : GoodIn lg (wsV "HistoryJudge$Machine" 81 "HistoryJudge$Machine" y_M_act (Jvm.Cond.code y_M_act prog_4_method_7_code 4 none :: lg)) := ev_goodV hw_336 hw_337 hw_338 hw_319 hw_335
theorem gV_M_77 : GoodIn lg (wsV "HistoryJudge$Machine" 77 "HistoryJudge$Machine" y_M_actByNote (Jvm.Cond.code y_M_actByNote prog_4_method_8_code 6 none :: lg)) := ev_goodV hw_340 hw_341 hw_342 hw_319 hw_339
theorem gV_M_51 : GoodIn lg (wsV "HistoryJudge$Machine" 51 "HistoryJudge$Machine" y_M_step (Jvm.Cond.code y_M_step prog_4_method_3_code 7 none :: lg)) := ev_goodV hw_345 hw_346 hw_347 hw_319 hw_344
theorem gV_M_42 : GoodIn lg (wsV "HistoryJudge$Machine" 42 "HistoryJudge$Program" y_P_start (Jvm.Cond.code y_P_start prog_6_method_3_code 2 (some .int) :: lg)) := ev_goodV hw_348 hw_27 hw_28 hw_6 hw_25
theorem gV_T_53 : GoodIn lg (wsV "HistoryJudge$Tester" 53 "HistoryJudge$Machine" y_M_perform (Jvm.Cond.code y_M_perform prog_4_method_2_code 11 none :: lg)) := ev_goodV hw_350 hw_351 hw_352 hw_319 hw_349
theorem gV_J_17 : GoodIn lg (wsV "HistoryJudge$Judge" 17 "HistoryJudge$Program" y_P_end (Jvm.Cond.code y_P_end prog_6_method_4_code 2 (some .int) :: lg)) := ev_goodV hw_354 hw_31 hw_32 hw_6 hw_29
theorem gV_J_31 : GoodIn lg (wsV "HistoryJudge$Judge" 31 "HistoryJudge$Program" y_P_start (Jvm.Cond.code y_P_start prog_6_method_3_code 2 (some .int) :: lg)) := ev_goodV hw_355 hw_27 hw_28 hw_6 hw_25
theorem gS_J_55 : GoodIn lg (va_wsS "HistoryJudge$Judge" 55 y_O_answer (Jvm.Cond.code y_O_answer prog_5_method_7_code 4 (some .int) :: lg)) := ev_goodS hw_360 hw_329 hw_52 hw_327
theorem gS_J_23 : GoodIn lg (va_wsS "HistoryJudge$Judge" 23 y_J_answersSo (Jvm.Cond.code y_J_answersSo prog_3_method_4_code 5 (some .boolean) :: lg)) := ev_goodS hw_363 hw_364 hw_365 hw_362
theorem gS_J_62 : GoodIn lg (va_wsS "HistoryJudge$Judge" 62 y_O_after (Jvm.Cond.code y_O_after prog_5_method_8_code 7 (some .int) :: lg)) := ev_goodS hw_366 hw_67 hw_52 hw_65
theorem gS_J_27 : GoodIn lg (va_wsS "HistoryJudge$Judge" 27 y_J_after (Jvm.Cond.code y_J_after prog_3_method_5_code 4 (some .int) :: lg)) := ev_goodS hw_368 hw_369 hw_365 hw_367
theorem gV_J_34 : GoodIn lg (wsV "HistoryJudge$Judge" 34 "HistoryJudge$Judge" y_J_search (Jvm.Cond.code y_J_search prog_3_method_3_code 12 (some .boolean) :: lg)) := ev_goodV hw_371 hw_372 hw_373 hw_365 hw_370
theorem gV_T_57 : GoodIn lg (wsV "HistoryJudge$Tester" 57 "HistoryJudge$Judge" y_J_explains (Jvm.Cond.code y_J_explains prog_3_method_2_code 6 (some .boolean) :: lg)) := ev_goodV hw_377 hw_378 hw_379 hw_365 hw_376
theorem gV_T_61 : GoodIn lg (wsV "HistoryJudge$Tester" 61 "HistoryJudge$Program" y_P_size (Jvm.Cond.code y_P_size prog_6_method_2_code 1 (some .int) :: lg)) := ev_goodV hw_382 hw_4 hw_5 hw_6 hw_2
theorem gV_T_70 : GoodIn lg (wsV "HistoryJudge$Tester" 70 "HistoryJudge$Draws" y_D_restart (Jvm.Cond.code y_D_restart prog_2_method_2_code 3 none :: lg)) := ev_goodV hw_388 hw_389 hw_390 hw_84 hw_387
theorem gV_T_75 : GoodIn lg (wsV "HistoryJudge$Tester" 75 "HistoryJudge$Draws" y_D_below (Jvm.Cond.code y_D_below prog_2_method_3_code 3 (some .int) :: lg)) := ev_goodV hw_392 hw_82 hw_83 hw_84 hw_80
theorem gV_T_79 : GoodIn lg (wsV "HistoryJudge$Tester" 79 "HistoryJudge$Tester" y_T_test (Jvm.Cond.code y_T_test prog_7_method_2_code 5 (some .boolean) :: lg)) := ev_goodV hw_394 hw_395 hw_396 hw_397 hw_393
theorem gS_H_41 : GoodIn lg (va_wsS "HistoryJudge" 41 y_H_isBelow (Jvm.Cond.code y_H_isBelow prog_1_method_15_code 2 (some .boolean) :: lg)) := ev_goodS hw_399 hw_400 hw_93 hw_398
theorem gV_H_52 : GoodIn lg (wsV "HistoryJudge" 52 "HistoryJudge$Program" y_P_mayTake (Jvm.Cond.code y_P_mayTake prog_6_method_9_code 4 (some .boolean) :: lg)) := ev_goodV hw_404 hw_405 hw_406 hw_6 hw_403
theorem gV_H_57 : GoodIn lg (wsV "HistoryJudge" 57 "HistoryJudge$Program" y_P_hasRoom (Jvm.Cond.code y_P_hasRoom prog_6_method_6_code 2 (some .boolean) :: lg)) := ev_goodV hw_407 hw_108 hw_109 hw_6 hw_106
theorem gV_H_66 : GoodIn lg (wsV "HistoryJudge" 66 "HistoryJudge$Program" y_P_end (Jvm.Cond.code y_P_end prog_6_method_4_code 2 (some .int) :: lg)) := ev_goodV hw_408 hw_31 hw_32 hw_6 hw_29
theorem gV_H_88 : GoodIn lg (wsV "HistoryJudge" 88 "HistoryJudge$Draws" y_D_restart (Jvm.Cond.code y_D_restart prog_2_method_2_code 3 none :: lg)) := ev_goodV hw_413 hw_389 hw_390 hw_84 hw_387
theorem gV_H_92 : GoodIn lg (wsV "HistoryJudge" 92 "HistoryJudge" y_H_drawBranch (Jvm.Cond.code y_H_drawBranch prog_1_method_17_code 6 none :: lg)) := ev_goodV hw_415 hw_416 hw_417 hw_93 hw_414
theorem gV_H_103 : GoodIn lg (wsV "HistoryJudge" 103 "HistoryJudge$Tester" y_T_test (Jvm.Cond.code y_T_test prog_7_method_2_code 5 (some .boolean) :: lg)) := ev_goodV hw_420 hw_395 hw_396 hw_397 hw_393
theorem gV_H_109 : GoodIn lg (wsV "HistoryJudge" 109 "HistoryJudge$Tester" y_T_firstFailure (Jvm.Cond.code y_T_firstFailure prog_7_method_3_code 6 (some .int) :: lg)) := ev_goodV hw_422 hw_423 hw_424 hw_397 hw_421
theorem gV_H_118 : GoodIn lg (wsV "HistoryJudge" 118 "HistoryJudge" y_H_prepareCandidate (Jvm.Cond.code y_H_prepareCandidate prog_1_method_19_code 3 (some .boolean) :: lg)) := ev_goodV hw_428 hw_429 hw_430 hw_93 hw_427
theorem gV_H_134 : GoodIn lg (wsV "HistoryJudge" 134 "HistoryJudge$Program" y_P_branchOf (Jvm.Cond.code y_P_branchOf prog_6_method_5_code 2 (some .int) :: lg)) := ev_goodV hw_433 hw_120 hw_121 hw_6 hw_118
theorem gS_H_193 : GoodIn lg (va_wsS "HistoryJudge" 193 y_O_content (Jvm.Cond.code y_O_content prog_5_method_2_code 2 (some .int) :: lg)) := ev_goodS hw_443 hw_61 hw_52 hw_59
theorem gI_P_init : GoodIn lg (Jvm.Cond.code y_P_init prog_6_method_1_code 1 none :: lg) := ev_goodI hw_572
theorem gI_M_init : GoodIn lg (Jvm.Cond.code y_M_init prog_4_method_1_code 1 none :: lg) := ev_goodI hw_578
theorem gI_J_init : GoodIn lg (Jvm.Cond.code y_J_init prog_3_method_1_code 1 none :: lg) := ev_goodI hw_582
theorem gI_D_init : GoodIn lg (Jvm.Cond.code y_D_init prog_2_method_1_code 1 none :: lg) := ev_goodI hw_586
theorem gI_T_init : GoodIn lg (Jvm.Cond.code y_T_init prog_7_method_1_code 1 none :: lg) := ev_goodI hw_588
abbrev mu_P_size : ev_mu := (prog_6_method_2_code, 1, (some .int), y_P_size, { frames := 0, cells := 0, slots := 0, locals := 0 }, 0, 0)
abbrev mu_P_empty : ev_mu := (prog_6_method_10_code, 2, none, y_P_empty, { frames := 0, cells := 0, slots := 0, locals := 0 }, 0, 0)
abbrev mu_H_clear : ev_mu := (prog_1_method_3_code, 2, (some .int), y_H_clear, { frames := 1, cells := 0, slots := 0, locals := 21 }, 0, 0)
abbrev mu_H_isBelow : ev_mu := (prog_1_method_15_code, 2, (some .boolean), y_H_isBelow, { frames := 0, cells := 0, slots := 0, locals := 0 }, 0, 0)
abbrev mu_P_copyFrom : ev_mu := (prog_6_method_11_code, 3, none, y_P_copyFrom, { frames := 1, cells := 0, slots := 0, locals := 60 }, 0, 0)
abbrev mu_P_start : ev_mu := (prog_6_method_3_code, 2, (some .int), y_P_start, { frames := 0, cells := 0, slots := 0, locals := 0 }, 0, 0)
abbrev mu_P_end : ev_mu := (prog_6_method_4_code, 2, (some .int), y_P_end, { frames := 1, cells := 0, slots := 0, locals := 21 }, 0, 0)
abbrev mu_P_put : ev_mu := (prog_6_method_19_code, 5, none, y_P_put, { frames := 0, cells := 0, slots := 0, locals := 0 }, 0, 0)
abbrev mu_P_shiftUp : ev_mu := (prog_6_method_20_code, 4, none, y_P_shiftUp, { frames := 1, cells := 0, slots := 0, locals := 24 }, 0, 0)
abbrev mu_P_renumber : ev_mu := (prog_6_method_21_code, 5, none, y_P_renumber, { frames := 1, cells := 0, slots := 0, locals := 20 }, 0, 0)
abbrev mu_P_append : ev_mu := (prog_6_method_12_code, 6, none, y_P_append, { frames := 2, cells := 0, slots := 0, locals := 47 }, 0, 0)
abbrev mu_O_isOpen : ev_mu := (prog_5_method_4_code, 2, (some .boolean), y_O_isOpen, { frames := 0, cells := 0, slots := 0, locals := 0 }, 0, 0)
abbrev mu_O_source : ev_mu := (prog_5_method_5_code, 1, (some .int), y_O_source, { frames := 0, cells := 0, slots := 0, locals := 0 }, 0, 0)
abbrev mu_O_allows : ev_mu := (prog_5_method_6_code, 3, (some .boolean), y_O_allows, { frames := 1, cells := 0, slots := 0, locals := 21 }, 0, 0)
abbrev mu_O_content : ev_mu := (prog_5_method_2_code, 2, (some .int), y_O_content, { frames := 0, cells := 0, slots := 0, locals := 0 }, 0, 0)
abbrev mu_O_held : ev_mu := (prog_5_method_3_code, 2, (some .int), y_O_held, { frames := 0, cells := 0, slots := 0, locals := 0 }, 0, 0)
abbrev mu_O_after : ev_mu := (prog_5_method_8_code, 7, (some .int), y_O_after, { frames := 1, cells := 0, slots := 0, locals := 21 }, 0, 0)
abbrev mu_P_isValidBeside : ev_mu := (prog_6_method_17_code, 6, (some .boolean), y_P_isValidBeside, { frames := 2, cells := 0, slots := 0, locals := 47 }, 0, 0)
abbrev mu_P_isValid : ev_mu := (prog_6_method_16_code, 5, (some .boolean), y_P_isValid, { frames := 3, cells := 0, slots := 0, locals := 72 }, 0, 0)
abbrev mu_H_appendIfValid : ev_mu := (prog_1_method_16_code, 5, (some .boolean), y_H_appendIfValid, { frames := 4, cells := 0, slots := 0, locals := 96 }, 0, 0)
abbrev mu_D_below : ev_mu := (prog_2_method_3_code, 3, (some .int), y_D_below, { frames := 0, cells := 0, slots := 0, locals := 0 }, 0, 0)
abbrev mu_P_known : ev_mu := (prog_6_method_7_code, 2, (some .int), y_P_known, { frames := 0, cells := 0, slots := 0, locals := 0 }, 0, 0)
abbrev mu_P_knownAt : ev_mu := (prog_6_method_8_code, 3, (some .int), y_P_knownAt, { frames := 1, cells := 0, slots := 0, locals := 21 }, 0, 0)
abbrev mu_H_drawCommand : ev_mu := (prog_1_method_18_code, 7, (some .boolean), y_H_drawCommand, { frames := 5, cells := 0, slots := 0, locals := 120 }, 0, 0)
abbrev mu_H_drawBranch : ev_mu := (prog_1_method_17_code, 6, none, y_H_drawBranch, { frames := 6, cells := 0, slots := 0, locals := 146 }, 0, 0)
abbrev mu_P_lower : ev_mu := (prog_6_method_15_code, 4, (some .boolean), y_P_lower, { frames := 1, cells := 0, slots := 0, locals := 20 }, 0, 0)
abbrev mu_P_hasRoom : ev_mu := (prog_6_method_6_code, 2, (some .boolean), y_P_hasRoom, { frames := 0, cells := 0, slots := 0, locals := 0 }, 0, 0)
abbrev mu_P_promote : ev_mu := (prog_6_method_14_code, 10, (some .boolean), y_P_promote, { frames := 2, cells := 0, slots := 0, locals := 47 }, 0, 0)
abbrev mu_P_isNeeded : ev_mu := (prog_6_method_18_code, 4, (some .boolean), y_P_isNeeded, { frames := 1, cells := 0, slots := 0, locals := 20 }, 0, 0)
abbrev mu_P_branchOf : ev_mu := (prog_6_method_5_code, 2, (some .int), y_P_branchOf, { frames := 1, cells := 0, slots := 0, locals := 21 }, 0, 0)
abbrev mu_P_remove : ev_mu := (prog_6_method_13_code, 4, (some .boolean), y_P_remove, { frames := 2, cells := 0, slots := 0, locals := 44 }, 0, 0)
abbrev mu_H_prepareCandidate : ev_mu := (prog_1_method_19_code, 3, (some .boolean), y_H_prepareCandidate, { frames := 3, cells := 0, slots := 0, locals := 82 }, 0, 0)
abbrev mu_P_mayTake : ev_mu := (prog_6_method_9_code, 4, (some .boolean), y_P_mayTake, { frames := 2, cells := 0, slots := 0, locals := 42 }, 0, 0)
abbrev mu_O_answer : ev_mu := (prog_5_method_7_code, 4, (some .int), y_O_answer, { frames := 1, cells := 0, slots := 0, locals := 21 }, 0, 0)
abbrev mu_R_thrown : ev_mu := (prog_9_method_2_code, 1, (some .int), y_R_thrown, { frames := 0, cells := 0, slots := 0, locals := 0 }, 0, 0)
abbrev mu_R_fail : ev_mu := (prog_9_method_3_code, 2, (some .int), y_R_fail, { frames := 0, cells := 0, slots := 0, locals := 0 }, 0, 0)
abbrev mu_R_within : ev_mu := (prog_9_method_4_code, 3, (some .boolean), y_R_within, { frames := 0, cells := 0, slots := 0, locals := 0 }, 0, 0)
abbrev mu_R_many : ev_mu := (prog_9_method_5_code, 1, (some .int), y_R_many, { frames := 0, cells := 0, slots := 0, locals := 0 }, 0, 0)
abbrev mu_R_branch : ev_mu := (prog_9_method_6_code, 2, (some .int), y_R_branch, { frames := 0, cells := 0, slots := 0, locals := 0 }, 0, 0)
abbrev mu_R_first : ev_mu := (prog_9_method_7_code, 2, (some .int), y_R_first, { frames := 0, cells := 0, slots := 0, locals := 0 }, 0, 0)
abbrev mu_R_mayStand : ev_mu := (prog_9_method_8_code, 4, (some .boolean), y_R_mayStand, { frames := 1, cells := 0, slots := 0, locals := 21 }, 0, 0)
abbrev mu_R_placed : ev_mu := (prog_9_method_9_code, 6, (some .int), y_R_placed, { frames := 1, cells := 0, slots := 0, locals := 21 }, 0, 0)
abbrev mu_R_isOrder : ev_mu := (prog_9_method_10_code, 4, (some .boolean), y_R_isOrder, { frames := 0, cells := 0, slots := 0, locals := 0 }, 0, 0)
abbrev mu_R_finds : ev_mu := (prog_9_method_11_code, 4, (some .boolean), y_R_finds, { frames := 0, cells := 0, slots := 0, locals := 0 }, 0, 0)
abbrev mu_R_fits : ev_mu := (prog_9_method_12_code, 4, (some .boolean), y_R_fits, { frames := 2, cells := 0, slots := 0, locals := 46 }, 0, 0)
abbrev mu_R_valid : ev_mu := (prog_9_method_13_code, 4, (some .boolean), y_R_valid, { frames := 3, cells := 0, slots := 0, locals := 69 }, 0, 0)
abbrev mu_R_keep : ev_mu := (prog_9_method_14_code, 2, none, y_R_keep, { frames := 0, cells := 0, slots := 0, locals := 0 }, 0, 0)
abbrev mu_R_putBack : ev_mu := (prog_9_method_15_code, 2, none, y_R_putBack, { frames := 0, cells := 0, slots := 0, locals := 0 }, 0, 0)
abbrev mu_R_copy : ev_mu := (prog_9_method_16_code, 3, none, y_R_copy, { frames := 0, cells := 0, slots := 0, locals := 0 }, 0, 0)
abbrev mu_R_insert : ev_mu := (prog_9_method_17_code, 7, (some .int), y_R_insert, { frames := 1, cells := 0, slots := 0, locals := 22 }, 0, 0)
abbrev mu_R_leaveOut : ev_mu := (prog_9_method_18_code, 4, (some .boolean), y_R_leaveOut, { frames := 1, cells := 0, slots := 0, locals := 22 }, 0, 0)
abbrev mu_R_raise : ev_mu := (prog_9_method_19_code, 9, none, y_R_raise, { frames := 1, cells := 0, slots := 0, locals := 22 }, 0, 0)
abbrev mu_R_add : ev_mu := (prog_9_method_20_code, 6, (some .int), y_R_add, { frames := 4, cells := 0, slots := 0, locals := 92 }, 0, 0)
abbrev mu_R_clear : ev_mu := (prog_9_method_21_code, 3, (some .int), y_R_clear, { frames := 1, cells := 0, slots := 0, locals := 20 }, 0, 0)
abbrev mu_R_drawn : ev_mu := (prog_9_method_22_code, 2, (some .int), y_R_drawn, { frames := 0, cells := 0, slots := 0, locals := 0 }, 0, 0)
abbrev mu_R_before : ev_mu := (prog_9_method_24_code, 6, (some .int), y_R_before, { frames := 2, cells := 0, slots := 0, locals := 44 }, 0, 0)
abbrev mu_R_tried : ev_mu := (prog_9_method_23_code, 12, none, y_R_tried, { frames := 4, cells := 0, slots := 0, locals := 92 }, 0, 0)
abbrev mu_R_make : ev_mu := (prog_9_method_25_code, 7, (some .int), y_R_make, { frames := 5, cells := 0, slots := 0, locals := 123 }, 0, 0)
abbrev mu_R_flaws : ev_mu := (prog_9_method_26_code, 3, (some .int), y_R_flaws, { frames := 1, cells := 0, slots := 0, locals := 22 }, 0, 0)
abbrev mu_R_twoParts : ev_mu := (prog_9_method_27_code, 2, (some .boolean), y_R_twoParts, { frames := 0, cells := 0, slots := 0, locals := 0 }, 0, 0)
abbrev mu_R_isLate : ev_mu := (prog_9_method_28_code, 2, (some .boolean), y_R_isLate, { frames := 0, cells := 0, slots := 0, locals := 0 }, 0, 0)
abbrev mu_R_source : ev_mu := (prog_9_method_29_code, 2, (some .int), y_R_source, { frames := 0, cells := 0, slots := 0, locals := 0 }, 0, 0)
abbrev mu_R_does : ev_mu := (prog_9_method_30_code, 5, none, y_R_does, { frames := 1, cells := 0, slots := 0, locals := 21 }, 0, 0)
abbrev mu_R_calls : ev_mu := (prog_9_method_31_code, 2, none, y_R_calls, { frames := 0, cells := 0, slots := 0, locals := 0 }, 0, 0)
abbrev mu_R_events : ev_mu := (prog_9_method_32_code, 2, (some .int), y_R_events, { frames := 1, cells := 0, slots := 0, locals := 21 }, 0, 0)
abbrev mu_R_happens : ev_mu := (prog_9_method_33_code, 5, none, y_R_happens, { frames := 2, cells := 0, slots := 0, locals := 45 }, 0, 0)
abbrev mu_R_hasLeft : ev_mu := (prog_9_method_34_code, 2, (some .boolean), y_R_hasLeft, { frames := 1, cells := 0, slots := 0, locals := 21 }, 0, 0)
abbrev mu_R_go : ev_mu := (prog_9_method_35_code, 4, none, y_R_go, { frames := 3, cells := 0, slots := 0, locals := 69 }, 0, 0)
abbrev mu_R_right : ev_mu := (prog_9_method_36_code, 5, (some .int), y_R_right, { frames := 0, cells := 0, slots := 0, locals := 0 }, 0, 0)
abbrev mu_R_explains : ev_mu := (prog_9_method_37_code, 7, (some .boolean), y_R_explains, { frames := 2, cells := 0, slots := 0, locals := 46 }, 0, 0)
abbrev mu_R_judged : ev_mu := (prog_9_method_38_code, 4, (some .boolean), y_R_judged, { frames := 4, cells := 0, slots := 0, locals := 92 }, 0, 0)
abbrev mu_R_run : ev_mu := (prog_9_method_39_code, 2, (some .boolean), y_R_run, { frames := 5, cells := 0, slots := 0, locals := 115 }, 0, 0)
abbrev mu_R_failed : ev_mu := (prog_9_method_40_code, 6, (some .int), y_R_failed, { frames := 5, cells := 0, slots := 0, locals := 115 }, 0, 0)
abbrev mu_R_fails : ev_mu := (prog_9_method_41_code, 4, (some .int), y_R_fails, { frames := 6, cells := 0, slots := 0, locals := 140 }, 0, 0)
abbrev mu_R_takes : ev_mu := (prog_9_method_42_code, 5, (some .boolean), y_R_takes, { frames := 6, cells := 0, slots := 0, locals := 140 }, 0, 0)
abbrev mu_R_smaller : ev_mu := (prog_9_method_43_code, 7, (some .boolean), y_R_smaller, { frames := 7, cells := 0, slots := 0, locals := 164 }, 0, 0)
abbrev mu_R_shrink : ev_mu := (prog_9_method_44_code, 5, (some .int), y_R_shrink, { frames := 8, cells := 0, slots := 0, locals := 190 }, 0, 0)
abbrev mu_R_command : ev_mu := (prog_9_method_45_code, 3, (some .int), y_R_command, { frames := 1, cells := 0, slots := 0, locals := 22 }, 0, 0)
abbrev mu_R_event : ev_mu := (prog_9_method_46_code, 3, (some .int), y_R_event, { frames := 1, cells := 0, slots := 0, locals := 22 }, 0, 0)
abbrev mu_R_order : ev_mu := (prog_9_method_47_code, 2, (some .int), y_R_order, { frames := 2, cells := 0, slots := 0, locals := 46 }, 0, 0)
abbrev mu_R_cell : ev_mu := (prog_9_method_48_code, 2, (some .int), y_R_cell, { frames := 1, cells := 0, slots := 0, locals := 22 }, 0, 0)
abbrev mu_R_count : ev_mu := (prog_9_method_49_code, 2, (some .int), y_R_count, { frames := 1, cells := 0, slots := 0, locals := 22 }, 0, 0)
abbrev mu_R_tally : ev_mu := (prog_9_method_50_code, 2, (some .int), y_R_tally, { frames := 1, cells := 0, slots := 0, locals := 22 }, 0, 0)
abbrev mu_M_numberOf : ev_mu := (prog_4_method_4_code, 2, (some .int), y_M_numberOf, { frames := 0, cells := 0, slots := 0, locals := 0 }, 0, 0)
abbrev mu_M_isSplit : ev_mu := (prog_4_method_5_code, 2, (some .boolean), y_M_isSplit, { frames := 0, cells := 0, slots := 0, locals := 0 }, 0, 0)
abbrev mu_M_isLate : ev_mu := (prog_4_method_6_code, 2, (some .boolean), y_M_isLate, { frames := 0, cells := 0, slots := 0, locals := 0 }, 0, 0)
abbrev mu_M_act : ev_mu := (prog_4_method_7_code, 4, none, y_M_act, { frames := 2, cells := 0, slots := 0, locals := 47 }, 0, 0)
abbrev mu_M_actByNote : ev_mu := (prog_4_method_8_code, 6, none, y_M_actByNote, { frames := 2, cells := 0, slots := 0, locals := 47 }, 0, 0)
abbrev mu_M_step : ev_mu := (prog_4_method_3_code, 7, none, y_M_step, { frames := 3, cells := 0, slots := 0, locals := 72 }, 0, 0)
abbrev mu_M_perform : ev_mu := (prog_4_method_2_code, 11, none, y_M_perform, { frames := 4, cells := 0, slots := 0, locals := 98 }, 0, 0)
abbrev mu_J_answersSo : ev_mu := (prog_3_method_4_code, 5, (some .boolean), y_J_answersSo, { frames := 2, cells := 0, slots := 0, locals := 44 }, 0, 0)
abbrev mu_J_after : ev_mu := (prog_3_method_5_code, 4, (some .int), y_J_after, { frames := 2, cells := 0, slots := 0, locals := 47 }, 0, 0)
abbrev mu_J_search (d : Nat) : ev_mu := (prog_3_method_3_code, 12, (some .boolean), y_J_search, { frames := d + 3, cells := 0, slots := 0, locals := d * 31 + 70 }, 0, 0)
abbrev mu_J_explains : ev_mu := (prog_3_method_2_code, 6, (some .boolean), y_J_explains, { frames := 14, cells := 0, slots := 0, locals := 411 }, 0, 0)
abbrev mu_T_test : ev_mu := (prog_7_method_2_code, 5, (some .boolean), y_T_test, { frames := 15, cells := 0, slots := 0, locals := 436 }, 0, 0)
abbrev mu_D_restart : ev_mu := (prog_2_method_2_code, 3, none, y_D_restart, { frames := 0, cells := 0, slots := 0, locals := 0 }, 0, 0)
abbrev mu_T_firstFailure : ev_mu := (prog_7_method_3_code, 6, (some .int), y_T_firstFailure, { frames := 16, cells := 0, slots := 0, locals := 460 }, 0, 0)
abbrev mu_H_add : ev_mu := (prog_1_method_2_code, 6, (some .int), y_H_add, { frames := 6, cells := 1, slots := 6, locals := 120 }, 1, 6)
abbrev mu_H_make : ev_mu := (prog_1_method_4_code, 6, (some .int), y_H_make, { frames := 7, cells := 1, slots := 6, locals := 171 }, 1, 6)
abbrev mu_H_flaws : ev_mu := (prog_1_method_5_code, 3, (some .int), y_H_flaws, { frames := 6, cells := 1, slots := 6, locals := 100 }, 1, 6)
abbrev mu_H_run : ev_mu := (prog_1_method_6_code, 2, (some .boolean), y_H_run, { frames := 16, cells := 1, slots := 6, locals := 460 }, 1, 6)
abbrev mu_H_fails : ev_mu := (prog_1_method_7_code, 4, (some .int), y_H_fails, { frames := 17, cells := 1, slots := 6, locals := 485 }, 1, 6)
abbrev mu_H_shrink : ev_mu := (prog_1_method_8_code, 7, (some .int), y_H_shrink, { frames := 17, cells := 1, slots := 6, locals := 485 }, 1, 6)
abbrev mu_H_command : ev_mu := (prog_1_method_9_code, 3, (some .int), y_H_command, { frames := 6, cells := 1, slots := 6, locals := 100 }, 1, 6)
abbrev mu_H_event : ev_mu := (prog_1_method_10_code, 4, (some .int), y_H_event, { frames := 6, cells := 1, slots := 6, locals := 100 }, 1, 6)
abbrev mu_H_cell : ev_mu := (prog_1_method_12_code, 2, (some .int), y_H_cell, { frames := 6, cells := 1, slots := 6, locals := 100 }, 1, 6)
abbrev mu_H_count : ev_mu := (prog_1_method_13_code, 2, (some .int), y_H_count, { frames := 6, cells := 1, slots := 6, locals := 100 }, 1, 6)
abbrev mu_H_tally : ev_mu := (prog_1_method_14_code, 2, (some .int), y_H_tally, { frames := 6, cells := 1, slots := 6, locals := 100 }, 1, 6)
def deX : ev_de := ([("HistoryJudge", 47, "no such branch, kind or cell"), ("HistoryJudge", 55, "no such argument"), ("HistoryJudge", 63, "the branch is full"), ("HistoryJudge", 76, "the program would not be valid"), ("HistoryJudge", 86, "too many or too few commands"), ("HistoryJudge", 96, "no such flaws"), ("HistoryJudge", 101, "a schedule is not below 0"), ("HistoryJudge", 107, "too many or too few runs"), ("HistoryJudge", 113, "the program does not fail"), ("HistoryJudge", 131, "no such command or part of it"), ("HistoryJudge", 147, "no such command or event"), ("HistoryJudge", 149, "no run of this program"), ("HistoryJudge", 189, "no such cell"), ("HistoryJudge", 205, "no such count"), ("HistoryJudge", 207, "no such kind")], ["java/lang/IllegalArgumentException", "java/lang/IllegalStateException", "java/lang/UnsupportedOperationException", "java/lang/IndexOutOfBoundsException", "java/util/NoSuchElementException"], [Bundle.initS "java/lang/RuntimeException", Bundle.initS "java/lang/Exception", Bundle.initS "java/lang/Throwable"])
theorem hstr_47 : ("HistoryJudge", (47 : Nat), "no such branch, kind or cell") ∈ deX.1 := List.mem_of_getElem? (i := 0) rfl
theorem hstr_55 : ("HistoryJudge", (55 : Nat), "no such argument") ∈ deX.1 := List.mem_of_getElem? (i := 1) rfl
theorem hstr_63 : ("HistoryJudge", (63 : Nat), "the branch is full") ∈ deX.1 := List.mem_of_getElem? (i := 2) rfl
theorem hstr_76 : ("HistoryJudge", (76 : Nat), "the program would not be valid") ∈ deX.1 := List.mem_of_getElem? (i := 3) rfl
theorem hstr_86 : ("HistoryJudge", (86 : Nat), "too many or too few commands") ∈ deX.1 := List.mem_of_getElem? (i := 4) rfl
theorem hstr_96 : ("HistoryJudge", (96 : Nat), "no such flaws") ∈ deX.1 := List.mem_of_getElem? (i := 5) rfl
theorem hstr_101 : ("HistoryJudge", (101 : Nat), "a schedule is not below 0") ∈ deX.1 := List.mem_of_getElem? (i := 6) rfl
theorem hstr_107 : ("HistoryJudge", (107 : Nat), "too many or too few runs") ∈ deX.1 := List.mem_of_getElem? (i := 7) rfl
theorem hstr_113 : ("HistoryJudge", (113 : Nat), "the program does not fail") ∈ deX.1 := List.mem_of_getElem? (i := 8) rfl
theorem hstr_131 : ("HistoryJudge", (131 : Nat), "no such command or part of it") ∈ deX.1 := List.mem_of_getElem? (i := 9) rfl
theorem hstr_147 : ("HistoryJudge", (147 : Nat), "no such command or event") ∈ deX.1 := List.mem_of_getElem? (i := 10) rfl
theorem hstr_149 : ("HistoryJudge", (149 : Nat), "no run of this program") ∈ deX.1 := List.mem_of_getElem? (i := 11) rfl
theorem hstr_189 : ("HistoryJudge", (189 : Nat), "no such cell") ∈ deX.1 := List.mem_of_getElem? (i := 12) rfl
theorem hstr_205 : ("HistoryJudge", (205 : Nat), "no such count") ∈ deX.1 := List.mem_of_getElem? (i := 13) rfl
theorem hstr_207 : ("HistoryJudge", (207 : Nat), "no such kind") ∈ deX.1 := List.mem_of_getElem? (i := 14) rfl
theorem hnmX : ∀ z ∈ (["java/lang/RuntimeException", "java/lang/Exception"] : List String), Bundle.fit z = true := by decide +kernel
def ev_atok (z : Jvm.Cond) : Bool := decide (z ∈ lg) || (match z with
  | .castable a b => decide (a = b) && decide (a ∈ deX.2.1)
  | .declares y => decide (y ∈ deX.2.2)
  | _ => false)
theorem ev_atof {L : List Jvm.Cond} (h : L.all ev_atok = true) : ∀ z ∈ L, z ∈ lg ∨ (∃ E, E ∈ deX.2.1 ∧ z = .castable E E) ∨ ∃ y ∈ deX.2.2, z = .declares y := by
  intro z hz
  have h1 := List.all_eq_true.mp h z hz
  unfold ev_atok at h1
  rw [Bool.or_eq_true] at h1
  rcases h1 with h1 | h1
  · exact Or.inl (of_decide_eq_true h1)
  · refine Or.inr ?_
    split at h1
    · rename_i a b
      simp only [Bool.and_eq_true, decide_eq_true_eq] at h1
      obtain ⟨rfl, h2⟩ := h1
      exact Or.inl ⟨a, h2, rfl⟩
    · rename_i y
      exact Or.inr ⟨y, of_decide_eq_true h1, rfl⟩
    · cases h1
theorem hat_49 : ∀ z ∈ vx_atS "HistoryJudge" 49 "java/lang/IllegalArgumentException" ["java/lang/RuntimeException", "java/lang/Exception"], z ∈ lg ∨ (∃ E, E ∈ deX.2.1 ∧ z = .castable E E) ∨ ∃ y ∈ deX.2.2, z = .declares y := ev_atof (by decide +kernel)
theorem hat_78 : ∀ z ∈ vx_atS "HistoryJudge" 78 "java/lang/UnsupportedOperationException" ["java/lang/RuntimeException", "java/lang/Exception"], z ∈ lg ∨ (∃ E, E ∈ deX.2.1 ∧ z = .castable E E) ∨ ∃ y ∈ deX.2.2, z = .declares y := ev_atof (by decide +kernel)
theorem hat_65 : ∀ z ∈ vx_atS "HistoryJudge" 65 "java/lang/IllegalStateException" ["java/lang/RuntimeException", "java/lang/Exception"], z ∈ lg ∨ (∃ E, E ∈ deX.2.1 ∧ z = .castable E E) ∨ ∃ y ∈ deX.2.2, z = .declares y := ev_atof (by decide +kernel)
theorem hat_133 : ∀ z ∈ vx_atS "HistoryJudge" 133 "java/lang/IndexOutOfBoundsException" ["java/lang/RuntimeException", "java/lang/Exception"], z ∈ lg ∨ (∃ E, E ∈ deX.2.1 ∧ z = .castable E E) ∨ ∃ y ∈ deX.2.2, z = .declares y := ev_atof (by decide +kernel)
theorem hgood_45_49 : ∀ z ∈ Jvm.Cond.classLink "HistoryJudge" 45 "java/lang/IllegalArgumentException" :: Jvm.Cond.initialized "java/lang/IllegalArgumentException" :: vx_atS "HistoryJudge" 49 "java/lang/IllegalArgumentException" ["java/lang/RuntimeException", "java/lang/Exception"], vx_ot z = true := by decide +kernel
theorem hgood_74_78 : ∀ z ∈ Jvm.Cond.classLink "HistoryJudge" 74 "java/lang/UnsupportedOperationException" :: Jvm.Cond.initialized "java/lang/UnsupportedOperationException" :: vx_atS "HistoryJudge" 78 "java/lang/UnsupportedOperationException" ["java/lang/RuntimeException", "java/lang/Exception"], vx_ot z = true := by decide +kernel
theorem hgood_61_65 : ∀ z ∈ Jvm.Cond.classLink "HistoryJudge" 61 "java/lang/IllegalStateException" :: Jvm.Cond.initialized "java/lang/IllegalStateException" :: vx_atS "HistoryJudge" 65 "java/lang/IllegalStateException" ["java/lang/RuntimeException", "java/lang/Exception"], vx_ot z = true := by decide +kernel
theorem hgood_129_133 : ∀ z ∈ Jvm.Cond.classLink "HistoryJudge" 129 "java/lang/IndexOutOfBoundsException" :: Jvm.Cond.initialized "java/lang/IndexOutOfBoundsException" :: vx_atS "HistoryJudge" 133 "java/lang/IndexOutOfBoundsException" ["java/lang/RuntimeException", "java/lang/Exception"], vx_ot z = true := by decide +kernel
abbrev mu_H_init : ev_mu := (prog_1_method_1_code, 1, none, y_H_init, { frames := 3, cells := 24, slots := 199, locals := 52 }, 24, 199)
abbrev mu_P_init : ev_mu := (prog_6_method_1_code, 1, none, y_P_init, { frames := 1, cells := 4, slots := 45, locals := 12 }, 4, 45)
abbrev mu_T_init : ev_mu := (prog_7_method_1_code, 1, none, y_T_init, { frames := 2, cells := 12, slots := 91, locals := 32 }, 12, 91)
abbrev mu_M_init : ev_mu := (prog_4_method_1_code, 1, none, y_M_init, { frames := 1, cells := 7, slots := 65, locals := 12 }, 7, 65)
abbrev mu_J_init : ev_mu := (prog_3_method_1_code, 1, none, y_J_init, { frames := 1, cells := 1, slots := 8, locals := 12 }, 1, 8)
abbrev mu_D_init : ev_mu := (prog_2_method_1_code, 1, none, y_D_init, { frames := 1, cells := 0, slots := 0, locals := 12 }, 0, 0)
abbrev mu_R_init : ev_mu := (prog_9_method_1_code, 1, none, y_R_init, { frames := 1, cells := 18, slots := 185, locals := 12 }, 18, 185)
theorem hfs_H : ∀ j, j < 6 → defaultValue (tyX_H j) = vp_V [.null, .null, .null, .null, .int 0, .int 0] j := by decide +kernel
theorem hfs_P : ∀ j, j < 4 → defaultValue (tyX_P j) = vp_V [.null, .null, .null, .null] j := by decide +kernel
theorem hfs_T : ∀ j, j < 9 → defaultValue (tyX_T j) = vp_V [.null, .null, .null, .int 0, .int 0, .int 0, .int 0, .int 0, .null] j := by decide +kernel
theorem hfs_M : ∀ j, j < 9 → defaultValue (tyX_M j) = vp_V [.null, .null, .null, .null, .int 0, .null, .null, .null, .int 0] j := by decide +kernel
theorem hfs_J : ∀ j, j < 1 → defaultValue (tyX_J j) = vp_V [.null] j := by decide +kernel
theorem hfs_D : ∀ j, j < 1 → defaultValue (tyX_D j) = vp_V [.long 0] j := by decide +kernel
theorem hfs_R : ∀ j, j < 28 → defaultValue (tyX_R j) = vp_V [.int 0, .null, .null, .null, .null, .null, .null, .int 0, .long 0, .null, .null, .null, .null, .int 0, .int 0, .null, .null, .null, .null, .null, .null, .null, .int 0, .int 0, .int 0, .int 0, .int 0, .null] j := by decide +kernel
end
