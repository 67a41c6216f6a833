section
/-! ===== BEGIN words of one list among another's, by their places ===== -/
theorem goodIn_r {big : List Cond} (ws : List Cond) (ps : List Nat) (hp : ws = ps.filterMap (fun i => big[i]?)) (h : ws.all goodWord = true) : GoodIn big ws := by
  intro w hw
  have h1 := List.all_eq_true.mp h w hw
  rw [hp] at hw
  obtain ⟨i, -, hi⟩ := List.mem_filterMap.mp hw
  have hm : w ∈ big := by first | exact List.mem_of_getElem? hi | exact List.getElem?_mem hi
  exact ⟨hm, good_of_word h1⟩
theorem goodIn_app {big a b : List Cond} (ha : GoodIn big a) (hb : GoodIn big b) : GoodIn big (a ++ b) := fun w h => (List.mem_append.mp h).elim (ha w) (hb w)
theorem goodIn_ca {big a b : List Cond} {c : Cond} (ha : GoodIn big (c :: a)) (hb : GoodIn big b) : GoodIn big (c :: (a ++ b)) := fun w h => (List.mem_cons.mp h).elim (fun e => ha w (List.mem_cons.mpr (Or.inl e))) (fun h => (List.mem_append.mp h).elim (fun h => ha w (List.mem_cons.mpr (Or.inr h))) (hb w))
theorem goodIn_sub {big ws : List Cond} (hm : ∀ w ∈ ws, w ∈ big) (h : ws.all goodWord = true) : GoodIn big ws := fun w hw => ⟨hm w hw, good_of_word (List.all_eq_true.mp h w hw)⟩
/-! ===== END ===== -/

/-! ===== BEGIN exceptions that leave a method, and their catching by the caller (launches without stack traces) ===== -/
section VXA
/-! The laws vx_back, vx_callV, vx_callS, vx_callSW, vx_throw0, vx_throwS follow proofs of the library, with one case more: JvmDerived/Free/Laws.lean (Back.of_free), Shelf42/LK1.lean (callV, callS), Shelf/KitTraced.lean (throwNew0V, throwNewS). -/
/-- where a method has thrown q: the class by its name, the cell, what was written, the world -/
def vx_T (XC : String → State → State → Prop) (st : State) (q : Addr) (t : State) (mc ms : Nat) (free : Addr → Prop) : Prop :=
  ∃ (E : String) (ce : Cell) (L : List Loc), XC E st t ∧ t.heap[q]? = some ce ∧ ce.vm = .none ∧ st.vm.findClass E = some ce.cls ∧ st.WarmedH t.vm ∧ st.sameButNew ({ t with vm := st.vm } : State) L mc ms ∧ ∀ z ∈ L, free z.base
def vx_Q (Qc : Array Value → State → Outcome → State → Prop) (XC : String → State → State → Prop) (mc ms : Nat) (free : Addr → Prop) : Array Value → State → Outcome → State → Prop := fun a st o t =>
  (Qc a st o t ∧ ∃ L, FrameEnd st o t L mc ms ∧ ∀ q ∈ L, free q.base) ∨ ∃ q, o = .threw q ∧ vx_T XC st q t mc ms free
/-- a callee that returns or throws -/
def vx_Met (l : Launch) (y : MethodName) (ws : List Cond) (rm : Room) (Pc : Array Value → State → Prop) (Qc : Array Value → State → Outcome → State → Prop) (XC : String → State → State → Prop) (mc ms : Nat) (free : Addr → Prop) : Prop :=
  MetFree l y (headSpec ws rm) Pc (fun _ _ _ _ _ => True) (vx_Q Qc XC mc ms free)
def vx_Post (XC : String → State → State → Prop) (mc ms : Nat) (free : Addr → Prop) : Pt → Array Value → Addr → Pt → Prop := fun A a q B =>
  ∃ (g : JFrame) (mk : MethodId) (t : State) (L : List Loc) (E : String) (ce : Cell), B.U.heap = t.heap ∧ B.U.vm = t.vm ∧ XC E (A.U.calling g mk a) t ∧ t.heap[q]? = some ce ∧ ce.vm = .none ∧ A.U.vm.findClass E = some ce.cls ∧ B.locs = A.locs ++ L ∧ (∀ z ∈ L, free z.base) ∧ B.cells = A.cells + mc ∧ B.slots = A.slots + ms
def vx_Back (l : Launch) (R : Room) (p : Program) (e : Env) (below : List Frame) (s : State) (sargs : Array Value) (y : MethodName) (len W9 : Nat)
    (Pre : Pt → Array Value → Prop) (Post : Pt → Array Value → Option Value → Pt → Prop) (PostX : Pt → Array Value → Addr → Pt → Prop) : Prop :=
  ∀ (m : MethodId) (meth : Method) (c : Code) (A : Pt) (g : JFrame) (ig : Instr) (mk : MethodId) (a : Array Value),
    Stand p l e R s m sargs below meth c A.U A.locs A.cells A.slots → g.method = m → g.locals.size = c.maxLocals → decode c.code g.pc = .ok (ig, len) →
    2 * g.monitorRoom + (g.stack.map fun v => v.category).sum ≤ W9 → A.U.methodNamed? y = some mk → Pre A a →
    (∃ (v : Option Value) (B : Pt), Stand p l e R s m sargs below meth c B.U B.locs B.cells B.slots ∧ Post A a v B ∧
      Steps p.tables e below (doInvoke e (A.U.setTop g) [] mk a).1 (B.U.setTop { g with pc := g.pc + len, stack := v.toList ++ g.stack })) ∨
    (∃ (q : Addr) (B : Pt), Stand p l e R s m sargs below meth c B.U B.locs B.cells B.slots ∧ PostX A a q B ∧
      Steps p.tables e below (doInvoke e (A.U.setTop g) [] mk a).1 ((B.U.setTop g).pushFrame (.throwing q)))
section Payer
variable {l : Launch} {R : Room} {p : Program} {e : Env} {below : List Frame} {s : State} {sargs : Array Value} {y : MethodName} {len W9 : Nat}
theorem vx_back {ws : List Cond} {rm : Room} {Pc : Array Value → State → Prop} {Qc : Array Value → State → Outcome → State → Prop} {XC : String → State → State → Prop} {mc ms : Nat} {free : Addr → Prop} {bytes : ByteArray} {maxL : Nat} {ret : Option FieldType}
    (hM : vx_Met l y ws rm Pc Qc XC mc ms free) (hblind : FrameBlind Pc) (hrc : rm.cells = mc) (hrs : rm.slots = ms)
    (hframes : rm.frames + 1 ≤ R.frames) (hlocals : W9 + (maxL + 11) + rm.locals ≤ R.locals)
    (hws : ∀ w ∈ ws, ∀ a' U, s.WarmedH U.vm → w.before a' U = true) (hcode : Cond.code y bytes maxL ret ∈ ws) (hinit : ∀ a' U, s.WarmedH U.vm → (Cond.initialized y.cls).before a' U = true) :
    vx_Back l R p e below s sargs y len W9 (PreOf R mc ms Pc) (PostOf Qc mc ms free) (vx_Post XC mc ms free) := by
  intro m meth c A g ig mk a X hg hsize hdg hW hn hp
  have h1 : (headSpec ws rm).pre.before a A.U = true := atoms_intro fun w hw => hws w hw _ _ X.warmed
  have h2 : (Cond.code y bytes maxL ret).before a A.U = true := hws _ hcode _ _ X.warmed
  have h3 : (Cond.initialized y.cls).before a A.U = true := hinit _ _ X.warmed
  have h4 : A.cells + (headSpec ws rm).room.cells ≤ R.cells := by rw [show (headSpec ws rm).room.cells = mc from hrc]; exact hp.1
  have h5 : A.slots + (headSpec ws rm).room.slots ≤ R.slots := by rw [show (headSpec ws rm).room.slots = ms from hrs]; exact hp.2.1
  have hPc : Pc a (A.U.calling g mk a) := hblind _ _ _ _ hp.2.2
  obtain ⟨U, Ls, c0, s0⟩ := A
  dsimp only [Pt.U, Pt.locs, Pt.cells, Pt.slots] at h1 h2 h3 h4 h5 X hn hPc ⊢
  obtain ⟨methY, cY, hmY, hcY, -, hlY, -, -, -, -⟩ := Cond.code_spec hn h2
  obtain ⟨kY, hkY, -⟩ := className_of_methodNamed hn
  have hinitY : kY.init = .initialized := Cond.initialized_spec (findClass_of_methodNamed hn) hkY h3
  have h : At U g.method c below := by rw [hg]; exact X.here
  have hlocals9 : W9 + (maxL + 11) + (headSpec ws rm).room.locals ≤ R.locals := hlocals
  have happ : (headSpec ws rm).appliesLoose y e.platform (U.calling g mk a) = true :=
    Spec.appliesLoose_calling (g := g) h hdg hn hkY hinitY
      (X.room_calling (g := g) (R' := (headSpec ws rm).room) hsize hmY hcY hframes (by rw [hlY]; omega) h4 h5) h1
  obtain ⟨mid, hmid⟩ := h.above
  have hfr : (U.setTop g).frames = (.java g :: mid) ++ below := by rw [State.frames_setTop' g h.top, hmid]; rfl
  obtain ⟨o, s₂, hsteps, -, hend, hq⟩ := Steps.callFree hM p X.admits X.cas X.clock (acts := []) hfr happ hPc trivial
  have hq' : vx_Q Qc XC mc ms free a (U.calling g mk a) o s₂ := hq
  rw [State.frames_setTop' g h.top] at hend
  obtain ⟨g₀, hg0⟩ := Option.isSome_iff_exists.mp h.top
  obtain ⟨r, hr⟩ := State.topJava?_eq_some.mp hg0
  have hr' : (({ U with heap := s₂.heap, slotsUsed := s₂.slotsUsed } : State).setVm s₂.vm).frames = .java g₀ :: r := hr
  rcases hq' with ⟨hqc, L, hfe, hL⟩ | ⟨q, rfl, E, ce, L, hx, hce, hcv, hcl, hW₂, hsm, hL⟩
  · obtain ⟨⟨v, rfl⟩, hW₂, e2, q2, q3, q4, q5, q6⟩ := id hfe
    have e3 : s₂ = ({ (U.calling g mk a).setFrames s₂.frames with heap := s₂.heap, slotsUsed := s₂.slotsUsed } : State).setVm s₂.vm := by
      have : s₂ = ({ s₂ with vm := (U.calling g mk a).vm } : State).setVm s₂.vm := rfl
      rw [e2] at this
      exact this
    obtain ⟨c₂, i₂, len₂, hc₂, hd₂, hf₂⟩ := hend
    have hW' : U.WarmedH s₂.vm := hW₂
    have hcc : c₂ = c := by
      have h1 : s₂.code? g.method = U.code? g.method := by
        rw [State.code?_eq, State.code?_eq, hW'.alike.method?]
      exact Option.some.inj (hc₂.symm.trans (h1.trans h.code))
    subst hcc
    have hlen : len₂ = len := by rw [hdg] at hd₂; cases hd₂; rfl
    subst hlen
    have hs₂ : s₂ = (({ U with heap := s₂.heap, slotsUsed := s₂.slotsUsed } : State).setVm s₂.vm).setTop { g with pc := g.pc + len₂, stack := v.toList ++ g.stack } := by
      refine e3.trans ?_
      rw [hf₂, State.calling_eq h.top, State.setFrames_setFrames, State.setTop_of_frames _ hr', hr]
      rfl
    have hsame : U.sameButNew ({ U with heap := s₂.heap, slotsUsed := s₂.slotsUsed } : State) L mc ms := by
      refine ⟨?_, q2, q3, q4, q5, q6⟩
      obtain ⟨t, ht, -⟩ := State.frames_cons hr
      show ({ U with heap := s₂.heap, slotsUsed := s₂.slotsUsed } : State) = { U.setFrames U.frames with heap := s₂.heap, slotsUsed := s₂.slotsUsed }
      rw [State.setFrames_self ht]
    subst hg
    refine Or.inl ⟨v, ⟨(({ U with heap := s₂.heap, slotsUsed := s₂.slotsUsed } : State).setVm s₂.vm), Ls ++ L, c0 + mc, s0 + ms⟩,
      ⟨X.admits, X.cas, X.clock, X.frames, X.room, X.hears, X.method, X.code, (X.here.setHeapUsed s₂.heap s₂.slotsUsed).setVm hW'.alike, X.tail, State.WarmedH.trans X.warmed hW', X.limits, X.bytes, X.same.trans (hsame.setVm s.vm)⟩,
      ⟨g, mk, s₂, L, rfl, rfl, hqc, rfl, hL, rfl, rfl⟩, ?_⟩
    show Steps p.tables e below _ ((({ U with heap := s₂.heap, slotsUsed := s₂.slotsUsed } : State).setVm s₂.vm).setTop { g with pc := g.pc + len₂, stack := v.toList ++ g.stack })
    rw [← hs₂]
    exact hsteps
  · obtain ⟨e2, q2, q3, q4, q5, q6⟩ := id hsm
    have e3 : s₂ = ({ (U.calling g mk a).setFrames s₂.frames with heap := s₂.heap, slotsUsed := s₂.slotsUsed } : State).setVm s₂.vm := by
      have : s₂ = ({ s₂ with vm := (U.calling g mk a).vm } : State).setVm s₂.vm := rfl
      rw [e2] at this
      exact this
    have hf₂ : s₂.frames = .throwing q :: .java g :: U.frames.tail := hend
    have hW' : U.WarmedH s₂.vm := hW₂
    have hs₂ : s₂ = ((({ U with heap := s₂.heap, slotsUsed := s₂.slotsUsed } : State).setVm s₂.vm).setTop g).pushFrame (.throwing q) := by
      refine e3.trans ?_
      rw [hf₂, State.calling_eq h.top, State.setFrames_setFrames, State.pushFrame, State.frames_setTop _ hr', State.setTop_of_frames _ hr', State.setFrames_setFrames, hr]
      rfl
    have hsame : U.sameButNew ({ U with heap := s₂.heap, slotsUsed := s₂.slotsUsed } : State) L mc ms := by
      refine ⟨?_, q2, q3, q4, q5, q6⟩
      obtain ⟨t, ht, -⟩ := State.frames_cons hr
      show ({ U with heap := s₂.heap, slotsUsed := s₂.slotsUsed } : State) = { U.setFrames U.frames with heap := s₂.heap, slotsUsed := s₂.slotsUsed }
      rw [State.setFrames_self ht]
    subst hg
    refine Or.inr ⟨q, ⟨(({ U with heap := s₂.heap, slotsUsed := s₂.slotsUsed } : State).setVm s₂.vm), Ls ++ L, c0 + mc, s0 + ms⟩,
      ⟨X.admits, X.cas, X.clock, X.frames, X.room, X.hears, X.method, X.code, (X.here.setHeapUsed s₂.heap s₂.slotsUsed).setVm hW'.alike, X.tail, State.WarmedH.trans X.warmed hW', X.limits, X.bytes, X.same.trans (hsame.setVm s.vm)⟩,
      ⟨g, mk, s₂, L, E, ce, rfl, rfl, hx, hce, hcv, hcl, rfl, hL, rfl, rfl⟩, ?_⟩
    show Steps p.tables e below _ (((({ U with heap := s₂.heap, slotsUsed := s₂.slotsUsed } : State).setVm s₂.vm).setTop g).pushFrame (.throwing q))
    rw [← hs₂]
    exact hsteps
end Payer
section Calls
variable {p : Program} {l : Launch} {e : Env} {R : Room} {s : State} {m : MethodId} {args : Array Value} {below : List Frame} {meth : Method} {c : Code} {T : State} {locs : List Loc} {cells slots : Nat}
theorem vx_callV (X : Stand p l e R s m args below meth c T locs cells slots) (hexec : p.tables.exec = Jvm.exec) {own C : String} {index : Nat} {y : MethodName} {bytes : ByteArray} {maxL : Nat} {ret : Option FieldType}
    (hown : s.vm.findClass own = some m.cls) (hlink : (Cond.methodLink own index y).before args s = true) (hinst : (Cond.instanceMethod y).before args s = true) (hsel : (Cond.selects C y y).before args s = true)
    (hcode : (Cond.code y bytes maxL ret).before args s = true) (hy : y.cls ≠ "java/lang/invoke/MethodHandle" ∧ y.cls ≠ "java/lang/invoke/VarHandle")
    {W9 : Nat} {Pre : Pt → Array Value → Prop} {Post : Pt → Array Value → Option Value → Pt → Prop} {PostX : Pt → Array Value → Addr → Pt → Prop} (hK : vx_Back l R p e below s args y 3 W9 Pre Post PostX)
    {b : Addr} {cellB : Cell} (hcell : T.heap[b]? = some cellB) (hobj : cellB.vm.isStatics = false) (hcls : s.vm.findClass C = some cellB.cls)
    {g : JFrame} (hg : g.method = m) (hsize : g.locals.size = c.maxLocals) {argsL rest : List Value} (hlen : ∀ sig, parseMethodDescriptor y.desc = some sig → argsL.length = sig.parameters.length)
    (hstack : g.stack = argsL.reverse ++ .ref b :: rest) (hW : 2 * g.monitorRoom + (rest.map fun v => v.category).sum ≤ W9) (hdg : decode c.code g.pc = .ok (.invokevirtual index, 3))
    (hpre : ∀ vm₁, s.WarmedH vm₁ → Pre ⟨T.setVm vm₁, locs, cells, slots⟩ (Value.ref b :: argsL).toArray) :
    (∃ (v : Option Value) (vm₁ : Vm) (B : Pt), s.WarmedH vm₁ ∧ Stand p l e R s m args below meth c B.U B.locs B.cells B.slots ∧ Post ⟨T.setVm vm₁, locs, cells, slots⟩ (Value.ref b :: argsL).toArray v B ∧
      ∀ target, Steps p.tables e below (B.U.setTop { g with pc := g.pc + 3, stack := v.toList ++ rest }) target → Steps p.tables e below (T.setTop g) target) ∨
    (∃ (q : Addr) (vm₁ : Vm) (B : Pt), s.WarmedH vm₁ ∧ Stand p l e R s m args below meth c B.U B.locs B.cells B.slots ∧ PostX ⟨T.setVm vm₁, locs, cells, slots⟩ (Value.ref b :: argsL).toArray q B ∧
      Steps p.tables e below (T.setTop g) ((B.U.setTop { g with stack := rest }).pushFrame (.throwing q))) := by
  obtain ⟨mk, methM, hnamed, hmethM, hstM, habM⟩ := Cond.instanceMethod_spec hinst
  obtain ⟨methM', cM, hmethM', -, -, -, -, -, -, hsigM⟩ := Cond.code_spec hnamed hcode
  cases hmethM.symm.trans hmethM'
  obtain ⟨c2, r2, m2, q1, q2, q3, q4, kP, hkP, hkPi⟩ := Cond.selects_spec hsel
  cases hcls.symm.trans q1
  cases (State.methodFound?_of_named hnamed hy).symm.trans q2
  cases hnamed.symm.trans q3
  have hselP : selectMethod e.platform s.vm cellB.cls mk = .method mk := by rw [Launch.admits_selectMethod X.admits]; exact q4
  obtain ⟨vm₁, X₁, hstep₁⟩ := X.invokevirtual hexec hown hlink hnamed hmethM hstM hkP hkPi hy (a := b) (cell := cellB) hcell
    (fun z h => by rw [h] at hobj; cases hobj) hselP hmethM habM hkP hkPi (g := g) hg (argsL := argsL) (rest := rest) (hlen _ hsigM) hstack hdg
  rcases hK m meth c ⟨T.setVm vm₁, locs, cells, slots⟩ { g with stack := rest } (.invokevirtual index) mk (Value.ref b :: argsL).toArray X₁ hg hsize hdg hW (X₁.named hnamed) (hpre vm₁ X₁.warmed) with ⟨v, B, X', hpost, hsteps⟩ | ⟨q, B, X', hpost, hsteps⟩
  · exact Or.inl ⟨v, vm₁, B, X₁.warmed, X', hpost, fun target h => hstep₁ _ fun acts => by rw [doInvoke_state]; exact hsteps.trans h⟩
  · exact Or.inr ⟨q, vm₁, B, X₁.warmed, X', hpost, hstep₁ _ fun acts => by rw [doInvoke_state]; exact hsteps⟩
theorem vx_callS (X : Stand p l e R s m args below meth c T locs cells slots) (hexec : p.tables.exec = Jvm.exec) {own : String} {index : Nat} {y : MethodName} {bytes : ByteArray} {maxL : Nat} {ret : Option FieldType}
    (hown : s.vm.findClass own = some m.cls) (hlink : (Cond.methodLink own index y).before args s = true) (hstat : (Cond.static y).before args s = true) (hinit : (Cond.initialized y.cls).before args s = true)
    (hcode : (Cond.code y bytes maxL ret).before args s = true) (hy : y.cls ≠ "java/lang/invoke/MethodHandle" ∧ y.cls ≠ "java/lang/invoke/VarHandle")
    {W9 : Nat} {Pre : Pt → Array Value → Prop} {Post : Pt → Array Value → Option Value → Pt → Prop} {PostX : Pt → Array Value → Addr → Pt → Prop} (hK : vx_Back l R p e below s args y 3 W9 Pre Post PostX)
    {g : JFrame} (hg : g.method = m) (hsize : g.locals.size = c.maxLocals) {argsL rest : List Value} (hlen : ∀ sig, parseMethodDescriptor y.desc = some sig → argsL.length = sig.parameters.length)
    (hstack : g.stack = argsL.reverse ++ rest) (hW : 2 * g.monitorRoom + (rest.map fun v => v.category).sum ≤ W9) (hdg : decode c.code g.pc = .ok (.invokestatic index, 3))
    (hpre : ∀ vm₁, s.WarmedH vm₁ → Pre ⟨T.setVm vm₁, locs, cells, slots⟩ argsL.toArray) :
    (∃ (v : Option Value) (vm₁ : Vm) (B : Pt), s.WarmedH vm₁ ∧ Stand p l e R s m args below meth c B.U B.locs B.cells B.slots ∧ Post ⟨T.setVm vm₁, locs, cells, slots⟩ argsL.toArray v B ∧
      ∀ target, Steps p.tables e below (B.U.setTop { g with pc := g.pc + 3, stack := v.toList ++ rest }) target → Steps p.tables e below (T.setTop g) target) ∨
    (∃ (q : Addr) (vm₁ : Vm) (B : Pt), s.WarmedH vm₁ ∧ Stand p l e R s m args below meth c B.U B.locs B.cells B.slots ∧ PostX ⟨T.setVm vm₁, locs, cells, slots⟩ argsL.toArray q B ∧
      Steps p.tables e below (T.setTop g) ((B.U.setTop { g with stack := rest }).pushFrame (.throwing q))) := by
  obtain ⟨mk, hnamed⟩ := Cond.code_named hcode
  obtain ⟨methM, cM, hmethM, -, -, -, -, -, -, hsigM⟩ := Cond.code_spec hnamed hcode
  have hstatic : methM.isStatic = true := Cond.static_spec hnamed hmethM hstat
  obtain ⟨kP, hkP, -⟩ := className_of_methodNamed hnamed
  have hinitP : kP.init = .initialized := Cond.initialized_spec (findClass_of_methodNamed hnamed) hkP hinit
  obtain ⟨vm₁, X₁, hstep₁⟩ := X.invokestatic hexec hown hlink hnamed hmethM hstatic hkP hinitP hy (g := g) hg (argsL := argsL) (rest := rest) (hlen _ hsigM) hstack hdg
  rcases hK m meth c ⟨T.setVm vm₁, locs, cells, slots⟩ { g with stack := rest } (.invokestatic index) mk argsL.toArray X₁ hg hsize hdg hW (X₁.named hnamed) (hpre vm₁ X₁.warmed) with ⟨v, B, X', hpost, hsteps⟩ | ⟨q, B, X', hpost, hsteps⟩
  · exact Or.inl ⟨v, vm₁, B, X₁.warmed, X', hpost, fun target h => hstep₁ _ fun acts => by rw [doInvoke_state]; exact hsteps.trans h⟩
  · exact Or.inr ⟨q, vm₁, B, X₁.warmed, X', hpost, hstep₁ _ fun acts => by rw [doInvoke_state]; exact hsteps⟩
end Calls
theorem vx_cls {s : State} {T : State} {vm₁ : Vm} {E : String} {k : ClassId} (hW : s.WarmedH vm₁) (h : (T.setVm vm₁).vm.findClass E = some k) : s.vm.findClass E = some k := by
  have h1 : vm₁.findClass E = some k := h
  rw [hW.alike.findClass] at h1
  exact h1
/-- the method's frame g, with q thrown over it -/
def vx_W (p : Program) (l : Launch) (e : Env) (R : Room) (s : State) (m : MethodId) (args : Array Value) (below : List Frame) (meth : Method) (c : Code) (H : Heap) (locs : List Loc) (cells slots : Nat) (Q : State → Prop) (g : JFrame) (q : Addr) : Prop :=
  ∀ T : State, T.heap = H → Stand p l e R s m args below meth c T locs cells slots → ∃ t, Steps p.tables e below ((T.setTop g).pushFrame (.throwing q)) t ∧ Q t
def vx_Run (p : Program) (l : Launch) (e : Env) (R : Room) (s : State) (m : MethodId) (args : Array Value) (below : List Frame) (meth : Method) (c : Code) (H : Heap) (locs : List Loc) (cells slots mc ms : Nat) (g : JFrame) (rest : List Value) (Qa : State → Outcome → State → Prop) (XC : String → State → State → Prop) (free : Addr → Prop) : Prop :=
  ∀ T : State, T.heap = H → Stand p l e R s m args below meth c T locs cells slots →
    (∃ (v : Option Value) (st₀ t T' : State) (L : List Loc), st₀.heap = H ∧ Stand p l e R s m args below meth c T' (locs ++ L) (cells + mc) (slots + ms) ∧ (∀ q ∈ L, free q.base) ∧ T'.heap = t.heap ∧ T'.vm = t.vm ∧ Qa st₀ (.returned v) t ∧
      Goes p e below T g T' { g with pc := g.pc + 3, stack := v.toList ++ rest }) ∨
    (∃ (q : Addr) (st₀ t T' : State) (L : List Loc) (E : String) (ce : Cell), st₀.heap = H ∧ Stand p l e R s m args below meth c T' (locs ++ L) (cells + mc) (slots + ms) ∧ (∀ z ∈ L, free z.base) ∧ T'.heap = t.heap ∧ T'.vm = t.vm ∧ XC E st₀ t ∧ t.heap[q]? = some ce ∧ ce.vm = .none ∧ s.vm.findClass E = some ce.cls ∧
      Steps p.tables e below (T.setTop g) ((T'.setTop { g with stack := rest }).pushFrame (.throwing q)))
def vx_X {S : Type} (px : S → Prop) (B : String → S → State → Prop) (A : Nat → Prop) : String → State → State → Prop := fun E st t => ∃ u : S, px u ∧ B E u t ∧ va_F A st t
section Runs
variable {p : Program} {l : Launch} {e : Env} {R : Room} {s : State} {m : MethodId} {args : Array Value} {below : List Frame} {meth : Method} {c : Code} {H : Heap} {locs : List Loc} {cells slots : Nat}
variable {y : MethodName} {bytes cc : ByteArray} {maxL nL mc ms n index : Nat} {ret : Option FieldType} {ws : List Cond} {rm : Room} {Pc : Array Value → State → Prop} {Qc : Array Value → State → Outcome → State → Prop} {XC : String → State → State → Prop} {free : Addr → Prop} {Ts : List Cond} {own C : String} {b : Addr} {As rest : List Value} {g : JFrame}
theorem vx_callBack (cb : CallB R s args own index y bytes maxL ret ws rm mc ms n) (hM : vx_Met l y ws rm Pc Qc XC mc ms free) (hbl : FrameBlind Pc) : vx_Back l R p e below s args y 3 8 (PreOf R mc ms Pc) (PostOf Qc mc ms free) (vx_Post XC mc ms free) := by
  obtain ⟨hrc, hrs, hfr, hlo, hws, hcw, -, hini, -⟩ := cb
  exact vx_back (bytes := bytes) (maxL := maxL) (ret := ret) hM hbl hrc hrs hfr hlo hws hcw (fun a' U hW => word_at hW (Or.inl (by first | rfl | simp [Cond.onTables, Cond.keeps, Cond.steady])) hini)
theorem vx_runV (S : CallFix p m c cc nL s args Ts own) (hM : vx_Met l y ws rm Pc Qc XC mc ms free) (cw : CallW R s args own C index y bytes maxL ret ws rm mc ms n) (hp : PreV s H C b Pc As)
    (hg : g.method = m) (hn : As.length = n) (hsize : g.locals.size = nL) (hstack : g.stack = As.reverse ++ .ref b :: rest) (hW : 2 * g.monitorRoom + (rest.map fun v => v.category).sum ≤ 8) (hdg : decode cc g.pc = .ok (.invokevirtual index, 3)) (hf : cells + mc ≤ R.cells ∧ slots + ms ≤ R.slots) :
    vx_Run p l e R s m args below meth c H locs cells slots mc ms g rest (Qc (Value.ref b :: As).toArray) XC free := by
  have hK : vx_Back l R p e below s args y 3 8 (PreOf R mc ms Pc) (PostOf Qc mc ms free) (vx_Post XC mc ms free) := vx_callBack cw.1 hM hp.1
  obtain ⟨⟨-, -, -, -, -, -, hcode, -, hy, hlen, hl⟩, hin, hse⟩ := cw
  obtain ⟨hx, hb, hml, ho, -⟩ := S
  obtain ⟨-, ⟨cellB, hcB, hoB, hclB⟩, hPc⟩ := hp
  intro T hT X
  rcases vx_callV X hx (C := C) (bytes := bytes) (maxL := maxL) (ret := ret) ho hl hin hse hcode hy hK (by rw [hT]; exact hcB) hoB hclB hg (hsize.trans hml.symm) (argsL := As) (rest := rest) (fun sig h => hn.trans (hlen sig h)) hstack hW (by rw [hb]; exact hdg)
    (fun vm₁ hW₁ => ⟨hf.1, hf.2, hPc (T.setVm vm₁) hT hW₁⟩) with ⟨v, vm₁, ⟨U', l2, c2, s2⟩, hW₁, X', ⟨g', mk, t, L, e1, e2, hq, h1, hL, h2, h3⟩, st⟩ | ⟨q, vm₁, ⟨U', l2, c2, s2⟩, hW₁, X', ⟨g', mk, t, L, E, ce, e1, e2, hq, hce, hcv, hcl, h1, hL, h2, h3⟩, st⟩
  · dsimp only [Pt.U, Pt.locs, Pt.cells, Pt.slots] at X' e1 e2 h1 h2 h3 st
    subst h1; subst h2; subst h3
    exact Or.inl ⟨v, (T.setVm vm₁).calling g' mk (Value.ref b :: As).toArray, t, U', L, hT, X', hL, e1, e2, hq, st⟩
  · dsimp only [Pt.U, Pt.locs, Pt.cells, Pt.slots] at X' e1 e2 h1 h2 h3 st hcl
    subst h1; subst h2; subst h3
    exact Or.inr ⟨q, (T.setVm vm₁).calling g' mk (Value.ref b :: As).toArray, t, U', L, E, ce, hT, X', hL, e1, e2, hq, hce, hcv, vx_cls hW₁ hcl, st⟩
theorem vx_runS (S : CallFix p m c cc nL s args Ts own) (hM : vx_Met l y ws rm Pc Qc XC mc ms free) (cw : CallB R s args own index y bytes maxL ret ws rm mc ms n ∧ (Cond.static y).before args s = true) (hp : PreS s H Pc As)
    (hg : g.method = m) (hn : As.length = n) (hsize : g.locals.size = nL) (hstack : g.stack = As.reverse ++ rest) (hW : 2 * g.monitorRoom + (rest.map fun v => v.category).sum ≤ 8) (hdg : decode cc g.pc = .ok (.invokestatic index, 3)) (hf : cells + mc ≤ R.cells ∧ slots + ms ≤ R.slots) :
    vx_Run p l e R s m args below meth c H locs cells slots mc ms g rest (Qc As.toArray) XC free := by
  have hK : vx_Back l R p e below s args y 3 8 (PreOf R mc ms Pc) (PostOf Qc mc ms free) (vx_Post XC mc ms free) := vx_callBack cw.1 hM hp.1
  obtain ⟨⟨-, -, -, -, -, -, hcode, hini, hy, hlen, hl⟩, hstt⟩ := cw
  obtain ⟨hx, hb, hml, ho, -⟩ := S
  intro T hT X
  rcases vx_callS X hx (bytes := bytes) (maxL := maxL) (ret := ret) ho hl hstt hini hcode hy hK hg (hsize.trans hml.symm) (argsL := As) (rest := rest) (fun sig h => hn.trans (hlen sig h)) hstack hW (by rw [hb]; exact hdg)
    (fun vm₁ hW₁ => ⟨hf.1, hf.2, hp.2 (T.setVm vm₁) hT hW₁⟩) with ⟨v, vm₁, ⟨U', l2, c2, s2⟩, hW₁, X', ⟨g', mk, t, L, e1, e2, hq, h1, hL, h2, h3⟩, st⟩ | ⟨q, vm₁, ⟨U', l2, c2, s2⟩, hW₁, X', ⟨g', mk, t, L, E, ce, e1, e2, hq, hce, hcv, hcl, h1, hL, h2, h3⟩, st⟩
  · dsimp only [Pt.U, Pt.locs, Pt.cells, Pt.slots] at X' e1 e2 h1 h2 h3 st
    subst h1; subst h2; subst h3
    exact Or.inl ⟨v, (T.setVm vm₁).calling g' mk As.toArray, t, U', L, hT, X', hL, e1, e2, hq, st⟩
  · dsimp only [Pt.U, Pt.locs, Pt.cells, Pt.slots] at X' e1 e2 h1 h2 h3 st hcl
    subst h1; subst h2; subst h3
    exact Or.inr ⟨q, (T.setVm vm₁).calling g' mk As.toArray, t, U', L, E, ce, hT, X', hL, e1, e2, hq, hce, hcv, vx_cls hW₁ hcl, st⟩
end Runs
section Rows
variable {p : Program} {l : Launch} {e : Env} {R : Room} {s : State} {m : MethodId} {args : Array Value} {below : List Frame} {meth : Method} {c : Code} {H : Heap} {locs : List Loc} {cells slots : Nat} {Q : State → Prop}
variable {mc ms : Nat} {free : Addr → Prop} {A0 A1 : Nat → Prop} {H0 : Heap} {a : Array Value} {pc : Nat} {ls : Array Slot} {st0 rest : List Value}
theorem vx_keep {st₀ t T' : State} {L : List Loc} (h0 : st₀.heap = H) (e1 : T'.heap = t.heap) (hS : va_S A0 H0 H locs) (hA : ∀ q, q < H.size → A1 q → A0 q) (hf : ∀ q, free q → A0 q) (hL : ∀ q ∈ L, free q.base) (hF : va_F A1 st₀ t) :
    H.size ≤ T'.heap.size ∧ (∀ q : Nat, q < H.size → ¬ A1 q → T'.heap[q]? = H[q]?) ∧ va_S A0 H0 T'.heap (locs ++ L) := by
  obtain ⟨hz, hk⟩ := hF
  rw [h0] at hz hk
  exact ⟨by rw [e1]; exact hz, fun q h1 h2 => by rw [e1]; exact hk q h1 h2,
    ⟨Nat.le_trans hS.1 (by rw [e1]; exact hz), fun q h1 h2 => by rw [e1, hk q (Nat.lt_of_lt_of_le h1 hS.1) (fun z => h2 (hA q (Nat.lt_of_lt_of_le h1 hS.1) z))]; exact hS.2.1 q h1 h2, fun q hq => by
      rcases List.mem_append.mp hq with h | h
      · exact hS.2.2 q h
      · exact hf _ (hL q h)⟩⟩
theorem vx_calli {S SX : Type} {post : Int32 → S → Prop} {px : SX → Prop} {B : S → State → Prop} {BX : String → SX → State → Prop} {AX : Nat → Prop} (hr : vx_Run p l e R s m args below meth c H locs cells slots mc ms (F0 m pc ls st0) rest (va_Qi post B A1 a) (vx_X px BX AX) free) (hS : va_S A0 H0 H locs) (hA : ∀ q, q < H.size → A1 q → A0 q) (hf : ∀ q, free q → A0 q) (hAX : ∀ q, q < H.size → AX q → A0 q)
    (kx : ∀ (E : String) (ce : Cell) (q9 : Addr) (u : SX) (t : State) (H1 : Heap) (locs1 : List Loc), t.heap = H1 → s.vm.Alike t.vm → px u → BX E u t → H.size ≤ H1.size → (∀ q : Nat, q < H.size → ¬ AX q → H1[q]? = H[q]?) → va_S A0 H0 H1 locs1 → H1[q9]? = some ce → ce.vm = .none → s.vm.findClass E = some ce.cls → vx_W p l e R s m args below meth c H1 locs1 (cells + mc) (slots + ms) Q (F0 m pc ls rest) q9)
    (kk : ∀ (r : Int32) (u : S) (t : State) (H1 : Heap) (locs1 : List Loc), t.heap = H1 → s.vm.Alike t.vm → post r u → B u t → H.size ≤ H1.size → (∀ q : Nat, q < H.size → ¬ A1 q → H1[q]? = H[q]?) → va_S A0 H0 H1 locs1 → W p l e R s m args below meth c H1 locs1 (cells + mc) (slots + ms) Q (F0 m (pc + 3) ls (.int r :: rest))) : W p l e R s m args below meth c H locs cells slots Q (F0 m pc ls st0) := by
  intro T hT X
  rcases hr T hT X with ⟨v, st₀, t, T', L, h0, X', hL, e1, e2, ⟨⟨r, u, hv, hp, hb⟩, hF⟩, st⟩ | ⟨q, st₀, t, T', L, E, ce, h0, X', hL, e1, e2, ⟨u, hp, hb, hF⟩, hce, hcv, hcl, st⟩
  · cases hv
    obtain ⟨k1, k2, k3⟩ := vx_keep h0 e1 hS hA hf hL hF
    obtain ⟨t2, a1, b1⟩ := kk r u t T'.heap (locs ++ L) e1.symm (by rw [← e2]; exact X'.warmed.alike) hp hb k1 k2 k3 T' rfl X'
    exact ⟨t2, st t2 a1, b1⟩
  · obtain ⟨k1, k2, k3⟩ := vx_keep h0 e1 hS hAX hf hL hF
    obtain ⟨t2, a1, b1⟩ := kx E ce q u t T'.heap (locs ++ L) e1.symm (by rw [← e2]; exact X'.warmed.alike) hp hb k1 k2 k3 (by rw [e1]; exact hce) hcv hcl T' rfl X'
    exact ⟨t2, st.trans a1, b1⟩
theorem vx_calll {S SX : Type} {post : Int64 → S → Prop} {px : SX → Prop} {B : S → State → Prop} {BX : String → SX → State → Prop} {AX : Nat → Prop} (hr : vx_Run p l e R s m args below meth c H locs cells slots mc ms (F0 m pc ls st0) rest (va_Ql post B A1 a) (vx_X px BX AX) free) (hS : va_S A0 H0 H locs) (hA : ∀ q, q < H.size → A1 q → A0 q) (hf : ∀ q, free q → A0 q) (hAX : ∀ q, q < H.size → AX q → A0 q)
    (kx : ∀ (E : String) (ce : Cell) (q9 : Addr) (u : SX) (t : State) (H1 : Heap) (locs1 : List Loc), t.heap = H1 → s.vm.Alike t.vm → px u → BX E u t → H.size ≤ H1.size → (∀ q : Nat, q < H.size → ¬ AX q → H1[q]? = H[q]?) → va_S A0 H0 H1 locs1 → H1[q9]? = some ce → ce.vm = .none → s.vm.findClass E = some ce.cls → vx_W p l e R s m args below meth c H1 locs1 (cells + mc) (slots + ms) Q (F0 m pc ls rest) q9)
    (kk : ∀ (r : Int64) (u : S) (t : State) (H1 : Heap) (locs1 : List Loc), t.heap = H1 → s.vm.Alike t.vm → post r u → B u t → H.size ≤ H1.size → (∀ q : Nat, q < H.size → ¬ A1 q → H1[q]? = H[q]?) → va_S A0 H0 H1 locs1 → W p l e R s m args below meth c H1 locs1 (cells + mc) (slots + ms) Q (F0 m (pc + 3) ls (.long r :: rest))) : W p l e R s m args below meth c H locs cells slots Q (F0 m pc ls st0) := by
  intro T hT X
  rcases hr T hT X with ⟨v, st₀, t, T', L, h0, X', hL, e1, e2, ⟨⟨r, u, hv, hp, hb⟩, hF⟩, st⟩ | ⟨q, st₀, t, T', L, E, ce, h0, X', hL, e1, e2, ⟨u, hp, hb, hF⟩, hce, hcv, hcl, st⟩
  · cases hv
    obtain ⟨k1, k2, k3⟩ := vx_keep h0 e1 hS hA hf hL hF
    obtain ⟨t2, a1, b1⟩ := kk r u t T'.heap (locs ++ L) e1.symm (by rw [← e2]; exact X'.warmed.alike) hp hb k1 k2 k3 T' rfl X'
    exact ⟨t2, st t2 a1, b1⟩
  · obtain ⟨k1, k2, k3⟩ := vx_keep h0 e1 hS hAX hf hL hF
    obtain ⟨t2, a1, b1⟩ := kx E ce q u t T'.heap (locs ++ L) e1.symm (by rw [← e2]; exact X'.warmed.alike) hp hb k1 k2 k3 (by rw [e1]; exact hce) hcv hcl T' rfl X'
    exact ⟨t2, st.trans a1, b1⟩
theorem vx_callf {S SX : Type} {post : UInt32 → S → Prop} {px : SX → Prop} {B : S → State → Prop} {BX : String → SX → State → Prop} {AX : Nat → Prop} (hr : vx_Run p l e R s m args below meth c H locs cells slots mc ms (F0 m pc ls st0) rest (va_Qf post B A1 a) (vx_X px BX AX) free) (hS : va_S A0 H0 H locs) (hA : ∀ q, q < H.size → A1 q → A0 q) (hf : ∀ q, free q → A0 q) (hAX : ∀ q, q < H.size → AX q → A0 q)
    (kx : ∀ (E : String) (ce : Cell) (q9 : Addr) (u : SX) (t : State) (H1 : Heap) (locs1 : List Loc), t.heap = H1 → s.vm.Alike t.vm → px u → BX E u t → H.size ≤ H1.size → (∀ q : Nat, q < H.size → ¬ AX q → H1[q]? = H[q]?) → va_S A0 H0 H1 locs1 → H1[q9]? = some ce → ce.vm = .none → s.vm.findClass E = some ce.cls → vx_W p l e R s m args below meth c H1 locs1 (cells + mc) (slots + ms) Q (F0 m pc ls rest) q9)
    (kk : ∀ (r : UInt32) (u : S) (t : State) (H1 : Heap) (locs1 : List Loc), t.heap = H1 → s.vm.Alike t.vm → post r u → B u t → H.size ≤ H1.size → (∀ q : Nat, q < H.size → ¬ A1 q → H1[q]? = H[q]?) → va_S A0 H0 H1 locs1 → W p l e R s m args below meth c H1 locs1 (cells + mc) (slots + ms) Q (F0 m (pc + 3) ls (.float r :: rest))) : W p l e R s m args below meth c H locs cells slots Q (F0 m pc ls st0) := by
  intro T hT X
  rcases hr T hT X with ⟨v, st₀, t, T', L, h0, X', hL, e1, e2, ⟨⟨r, u, hv, hp, hb⟩, hF⟩, st⟩ | ⟨q, st₀, t, T', L, E, ce, h0, X', hL, e1, e2, ⟨u, hp, hb, hF⟩, hce, hcv, hcl, st⟩
  · cases hv
    obtain ⟨k1, k2, k3⟩ := vx_keep h0 e1 hS hA hf hL hF
    obtain ⟨t2, a1, b1⟩ := kk r u t T'.heap (locs ++ L) e1.symm (by rw [← e2]; exact X'.warmed.alike) hp hb k1 k2 k3 T' rfl X'
    exact ⟨t2, st t2 a1, b1⟩
  · obtain ⟨k1, k2, k3⟩ := vx_keep h0 e1 hS hAX hf hL hF
    obtain ⟨t2, a1, b1⟩ := kx E ce q u t T'.heap (locs ++ L) e1.symm (by rw [← e2]; exact X'.warmed.alike) hp hb k1 k2 k3 (by rw [e1]; exact hce) hcv hcl T' rfl X'
    exact ⟨t2, st.trans a1, b1⟩
theorem vx_calld {S SX : Type} {post : UInt64 → S → Prop} {px : SX → Prop} {B : S → State → Prop} {BX : String → SX → State → Prop} {AX : Nat → Prop} (hr : vx_Run p l e R s m args below meth c H locs cells slots mc ms (F0 m pc ls st0) rest (va_Qd post B A1 a) (vx_X px BX AX) free) (hS : va_S A0 H0 H locs) (hA : ∀ q, q < H.size → A1 q → A0 q) (hf : ∀ q, free q → A0 q) (hAX : ∀ q, q < H.size → AX q → A0 q)
    (kx : ∀ (E : String) (ce : Cell) (q9 : Addr) (u : SX) (t : State) (H1 : Heap) (locs1 : List Loc), t.heap = H1 → s.vm.Alike t.vm → px u → BX E u t → H.size ≤ H1.size → (∀ q : Nat, q < H.size → ¬ AX q → H1[q]? = H[q]?) → va_S A0 H0 H1 locs1 → H1[q9]? = some ce → ce.vm = .none → s.vm.findClass E = some ce.cls → vx_W p l e R s m args below meth c H1 locs1 (cells + mc) (slots + ms) Q (F0 m pc ls rest) q9)
    (kk : ∀ (r : UInt64) (u : S) (t : State) (H1 : Heap) (locs1 : List Loc), t.heap = H1 → s.vm.Alike t.vm → post r u → B u t → H.size ≤ H1.size → (∀ q : Nat, q < H.size → ¬ A1 q → H1[q]? = H[q]?) → va_S A0 H0 H1 locs1 → W p l e R s m args below meth c H1 locs1 (cells + mc) (slots + ms) Q (F0 m (pc + 3) ls (.double r :: rest))) : W p l e R s m args below meth c H locs cells slots Q (F0 m pc ls st0) := by
  intro T hT X
  rcases hr T hT X with ⟨v, st₀, t, T', L, h0, X', hL, e1, e2, ⟨⟨r, u, hv, hp, hb⟩, hF⟩, st⟩ | ⟨q, st₀, t, T', L, E, ce, h0, X', hL, e1, e2, ⟨u, hp, hb, hF⟩, hce, hcv, hcl, st⟩
  · cases hv
    obtain ⟨k1, k2, k3⟩ := vx_keep h0 e1 hS hA hf hL hF
    obtain ⟨t2, a1, b1⟩ := kk r u t T'.heap (locs ++ L) e1.symm (by rw [← e2]; exact X'.warmed.alike) hp hb k1 k2 k3 T' rfl X'
    exact ⟨t2, st t2 a1, b1⟩
  · obtain ⟨k1, k2, k3⟩ := vx_keep h0 e1 hS hAX hf hL hF
    obtain ⟨t2, a1, b1⟩ := kx E ce q u t T'.heap (locs ++ L) e1.symm (by rw [← e2]; exact X'.warmed.alike) hp hb k1 k2 k3 (by rw [e1]; exact hce) hcv hcl T' rfl X'
    exact ⟨t2, st.trans a1, b1⟩
theorem vx_callv {S SX : Type} {post : S → Prop} {px : SX → Prop} {B : S → State → Prop} {BX : String → SX → State → Prop} {AX : Nat → Prop} (hr : vx_Run p l e R s m args below meth c H locs cells slots mc ms (F0 m pc ls st0) rest (va_Qv post B A1 a) (vx_X px BX AX) free) (hS : va_S A0 H0 H locs) (hA : ∀ q, q < H.size → A1 q → A0 q) (hf : ∀ q, free q → A0 q) (hAX : ∀ q, q < H.size → AX q → A0 q)
    (kx : ∀ (E : String) (ce : Cell) (q9 : Addr) (u : SX) (t : State) (H1 : Heap) (locs1 : List Loc), t.heap = H1 → s.vm.Alike t.vm → px u → BX E u t → H.size ≤ H1.size → (∀ q : Nat, q < H.size → ¬ AX q → H1[q]? = H[q]?) → va_S A0 H0 H1 locs1 → H1[q9]? = some ce → ce.vm = .none → s.vm.findClass E = some ce.cls → vx_W p l e R s m args below meth c H1 locs1 (cells + mc) (slots + ms) Q (F0 m pc ls rest) q9)
    (kk : ∀ (u : S) (t : State) (H1 : Heap) (locs1 : List Loc), t.heap = H1 → s.vm.Alike t.vm → post u → B u t → H.size ≤ H1.size → (∀ q : Nat, q < H.size → ¬ A1 q → H1[q]? = H[q]?) → va_S A0 H0 H1 locs1 → W p l e R s m args below meth c H1 locs1 (cells + mc) (slots + ms) Q (F0 m (pc + 3) ls (rest))) : W p l e R s m args below meth c H locs cells slots Q (F0 m pc ls st0) := by
  intro T hT X
  rcases hr T hT X with ⟨v, st₀, t, T', L, h0, X', hL, e1, e2, ⟨⟨u, hv, hp, hb⟩, hF⟩, st⟩ | ⟨q, st₀, t, T', L, E, ce, h0, X', hL, e1, e2, ⟨u, hp, hb, hF⟩, hce, hcv, hcl, st⟩
  · cases hv
    obtain ⟨k1, k2, k3⟩ := vx_keep h0 e1 hS hA hf hL hF
    obtain ⟨t2, a1, b1⟩ := kk u t T'.heap (locs ++ L) e1.symm (by rw [← e2]; exact X'.warmed.alike) hp hb k1 k2 k3 T' rfl X'
    exact ⟨t2, st t2 a1, b1⟩
  · obtain ⟨k1, k2, k3⟩ := vx_keep h0 e1 hS hAX hf hL hF
    obtain ⟨t2, a1, b1⟩ := kx E ce q u t T'.heap (locs ++ L) e1.symm (by rw [← e2]; exact X'.warmed.alike) hp hb k1 k2 k3 (by rw [e1]; exact hce) hcv hcl T' rfl X'
    exact ⟨t2, st.trans a1, b1⟩
/-- caught by the row x of this method's table; the rows ahead don't take it -/
theorem vx_catch {own name : String} {E : String} {ce : Cell} {q : Addr} (hown : s.vm.findClass own = some m.cls) (pre : List ExceptionTableEntry) (x : ExceptionTableEntry) (suf : List ExceptionTableEntry) (hsplit : c.exceptionTable.toList = pre ++ x :: suf)
    (hpass : ∀ z ∈ pre, covers z pc = false ∨ (z.catchType ≠ 0 ∧ ∃ nm : String, (Cond.classLink own z.catchType nm).before args s = true ∧ va_Nc E nm s)) (hx : covers x pc = true) (h0 : x.catchType ≠ 0)
    (hlink : (Cond.classLink own x.catchType name).before args s = true) (hcast : (Cond.castable E name).before args s = true) (hcell : H[q]? = some ce) (hv : ce.vm = .none) (hcl : s.vm.findClass E = some ce.cls)
    (kk : W p l e R s m args below meth c H locs cells slots Q (F0 m x.handlerPc ls [.ref q])) : vx_W p l e R s m args below meth c H locs cells slots Q (F0 m pc ls rest) q := by
  intro T hT X
  have hpl : e.platform.magicAccessors = ({} : Platform).magicAccessors := by rw [X.admits.platform]
  obtain ⟨c3, c4, hc3, hc4, hasg⟩ := Cond.castable_spec hcast
  cases Option.some.inj (hc3.symm.trans hcl)
  obtain ⟨c5, hc5, hcl5⟩ := Cond.classLink_spec hown hlink e.platform hpl
  cases Option.some.inj (hc4.symm.trans hc5)
  obtain ⟨vm', X', st⟩ := X.thenCaughtThrough q (g := F0 m pc ls rest) rfl (Steps.refl _) (by rw [hT]; exact hcell) (by rw [hv]; rfl) (by obtain ⟨k9, h9, -⟩ := Vm.findClass_spec hcl; exact ⟨k9, h9⟩) pre x suf hsplit
    (fun z hz => by
      rcases hpass z hz with h | ⟨hz0, nm, hl1, hn1⟩
      · exact Or.inl h
      · obtain ⟨c6, hc6, hcl6⟩ := Cond.classLink_spec hown hl1 e.platform hpl
        obtain ⟨a8, b8, h1, h2, h3⟩ := hn1
        cases Option.some.inj (h1.symm.trans hcl)
        cases Option.some.inj (h2.symm.trans hc6)
        exact Or.inr ⟨hz0, _, hcl6, h3⟩) hx (Or.inr ⟨h0, c4, hcl5, hasg⟩)
  obtain ⟨t, a1, b1⟩ := kk (T.setVm vm') hT X'
  exact ⟨t, st.trans a1, b1⟩
end Rows
section Ends
variable {p : Program} {l : Launch} {e : Env} {R : Room} {s : State} {m : MethodId} {args : Array Value} {below : List Frame} {meth : Method} {c : Code} {H : Heap} {locs : List Loc} {cells slots : Nat} {Q : State → Prop}
variable {mc ms : Nat} {free : Addr → Prop} {A0 A1 : Nat → Prop} {H0 : Heap} {a : Array Value} {ls : Array Slot} {st0 rest : List Value}
variable {Qc : Array Value → State → Outcome → State → Prop} {XC : String → State → State → Prop}
/-- what a body that may throw owes at its end -/
def vx_MQ (below : List Frame) (Qc : Array Value → State → Outcome → State → Prop) (XC : String → State → State → Prop) (a : Array Value) (s : State) (mc ms : Nat) (free : Addr → Prop) : State → Prop := fun t =>
  ∃ o, t.status = .running ∧ Ended t below o ∧ vx_Q Qc XC mc ms free a s o t
theorem vx_ret {g : JFrame} {mc ms : Nat} (k : W p l e R s m args below meth c H locs cells slots (MQ below Qc args s mc ms free) g) : W p l e R s m args below meth c H locs cells slots (vx_MQ below Qc XC args s mc ms free) g := by
  intro T hT X
  obtain ⟨t, a1, o, b1, b2, b3, b4⟩ := k T hT X
  exact ⟨t, a1, o, b1, b2, Or.inl ⟨b3, b4⟩⟩
/-- not caught here: it goes on to the caller -/
theorem vx_widen {g : JFrame} {q : Addr} {k n : Nat} (h1 : cells ≤ k) (h2 : slots ≤ n) (kk : vx_W p l e R s m args below meth c H locs k n Q g q) : vx_W p l e R s m args below meth c H locs cells slots Q g q := fun T hT X => kk T hT (stand_widen X h1 h2)
theorem vx_out {pc : Nat} {E : String} {ce : Cell} {q : Addr} {mc ms : Nat} (hout : ∀ x ∈ c.exceptionTable.toList, covers x pc = false) (hlocks : meth.locks = false) (hcell : H[q]? = some ce) (hv : ce.vm = .none) (hcl : s.vm.findClass E = some ce.cls)
    (hx : ∀ t : State, t.heap = H → s.vm.Alike t.vm → XC E s t) (hf : ∀ z ∈ locs, free z.base) (hc : cells ≤ mc) (hs : slots ≤ ms) :
    vx_W p l e R s m args below meth c H locs cells slots (vx_MQ below Qc XC args s mc ms free) (F0 m pc ls rest) q := by
  intro T hT X
  obtain ⟨st1, hrun, hend, hW, hsm⟩ := X.leaveThrown q (g := F0 m pc ls rest) rfl rfl rfl hout hlocks
  have hcell9 : (T.setFrames (.throwing q :: below)).heap[q]? = some ce := by
    show T.heap[q]? = some ce
    rw [hT]; exact hcell
  exact ⟨_, st1, .threw q, hrun, hend, Or.inr ⟨q, rfl, E, ce, locs, hx _ hT hW.alike, hcell9, hv, hcl, hW, hsm.mono hc hs, hf⟩⟩
theorem vx_frame {U : State} {k n : Nat} (h : s.sameButNew ({ U with vm := s.vm } : State) locs k n) : s.heap.size ≤ U.heap.size ∧ ∀ q : Nat, q < s.heap.size → (∀ z ∈ locs, z.base ≠ q) → U.heap[q]? = s.heap[q]? := by
  obtain ⟨-, h2, -, -, -, h6⟩ := h
  refine ⟨h2, fun q hq hz => ?_⟩
  obtain ⟨c9, e1, e2, e3, e4⟩ := h6 q _ (Array.getElem?_eq_getElem hq)
  have hs : c9.slots = (s.heap[q]).slots := Array.ext_getElem? fun i => e4 i fun hm => hz _ hm rfl
  have h9 : c9 = s.heap[q] := by
    rw [hs] at e2
    exact e2
  have e5 : U.heap[q]? = some c9 := e1
  rw [e5, h9, Array.getElem?_eq_getElem hq]
/-- the words of a throw but the four that speak of the heap -/
def vx_no (w : Cond) : Bool := decide (w ≠ .isRef (.static Bundle.tN "UNASSIGNED_STACK" Bundle.steD)) && decide (w ≠ .isRef (.static Bundle.tN "SUPPRESSED_SENTINEL" Bundle.listD)) && decide (w ≠ .laysStatic Bundle.tN "UNASSIGNED_STACK" Bundle.steD) && decide (w ≠ .laysStatic Bundle.tN "SUPPRESSED_SENTINEL" Bundle.listD)
def vx_at0 (own : String) (ic : Nat) (X : String) (names : List String) : List Cond := (Bundle.ownAtoms0 own ic X names).filter vx_no
def vx_atS (own : String) (ic : Nat) (X : String) (names : List String) : List Cond := (Bundle.ownAtoms own ic X names).filter vx_no
/-- a word that the tables alone decide, or a good one -/
def vx_ot (w : Cond) : Bool := w.onTables || goodWord w
theorem vx_ot_at {args a' : Array Value} {s U : State} {w : Cond} (hW : s.WarmedH U.vm) (hvm : s.vm = U.vm) (hg : vx_ot w = true) (h : w.before args s = true) : w.before a' U = true := by
  simp only [vx_ot, Bool.or_eq_true] at hg
  rcases hg with hg | hg
  · exact va_tabs hg hvm h
  · exact word_at hW (good_of_word hg) h
/-- a list's words: the good ones out of the method's own list, the others by premises of their own -/
theorem vx_hat {args : Array Value} {s : State} {L B : List Cond} (h1 : ∀ w ∈ L.filter goodWord, w.before args s = true) (h2 : ∀ w ∈ L.filter (fun w => !goodWord w), w ∈ B) (h3 : ∀ w ∈ B, w.before args s = true) : ∀ w ∈ L, w.before args s = true := by
  intro w hw
  by_cases g : goodWord w = true
  · exact h1 w (List.mem_filter.mpr ⟨hw, g⟩)
  · refine h3 w (h2 w (List.mem_filter.mpr ⟨hw, ?_⟩))
    show (!goodWord w) = true
    cases hgw : goodWord w
    · rfl
    · exact absurd hgw g
theorem vx_c {args : Array Value} {s : State} {w : Cond} {B : List Cond} (h : w.before args s = true) (t : ∀ w ∈ B, w.before args s = true) : ∀ w' ∈ w :: B, w'.before args s = true := fun w' h' => (List.mem_cons.mp h').elim (fun e => by rw [e]; exact h) (t w')
theorem vx_n {args : Array Value} {s : State} : ∀ w ∈ ([] : List Cond), w.before args s = true := fun _ h => nomatch h
theorem vx_own {args : Array Value} {s : State} {L : List Cond} (h1 : ∀ w ∈ L.filter vx_no, w.before args s = true)
    (hU : (Cond.isRef (.static Bundle.tN "UNASSIGNED_STACK" Bundle.steD)).before args s = true) (hN : (Cond.isRef (.static Bundle.tN "SUPPRESSED_SENTINEL" Bundle.listD)).before args s = true)
    (lU : (Cond.laysStatic Bundle.tN "UNASSIGNED_STACK" Bundle.steD).before args s = true) (lN : (Cond.laysStatic Bundle.tN "SUPPRESSED_SENTINEL" Bundle.listD).before args s = true) : ∀ w ∈ L, w.before args s = true := by
  intro w hw
  by_cases e1 : w = .isRef (.static Bundle.tN "UNASSIGNED_STACK" Bundle.steD)
  · rw [e1]; exact hU
  · by_cases e2 : w = .isRef (.static Bundle.tN "SUPPRESSED_SENTINEL" Bundle.listD)
    · rw [e2]; exact hN
    · by_cases e3 : w = .laysStatic Bundle.tN "UNASSIGNED_STACK" Bundle.steD
      · rw [e3]; exact lU
      · by_cases e4 : w = .laysStatic Bundle.tN "SUPPRESSED_SENTINEL" Bundle.listD
        · rw [e4]; exact lN
        · exact h1 w (List.mem_filter.mpr ⟨hw, by unfold vx_no; rw [decide_eq_true e1, decide_eq_true e2, decide_eq_true e3, decide_eq_true e4]; rfl⟩)
/-- where a static field lies, its class's statics cell in H -/
def vx_L (C n d : String) (A : Nat → Prop) (U : State) (H : Heap) : Prop := ∃ (c : ClassId) (k : Class) (i : Nat) (f : Field) (a : Nat) (cell : Cell), U.vm.findClass C = some c ∧ U.fieldFound? C n d = some (c, k, i, f) ∧ f.isStatic = true ∧ k.statics = some a ∧ H[a]? = some cell ∧ cell.vm.isStatics = true ∧ cell.cls = c ∧ f.slot < cell.slots.size ∧ k.staticTypes[f.slot]? = some f.type ∧ ¬ A a
theorem vx_L.moved {C n d : String} {A : Nat → Prop} {u U : State} {H : Heap} (hvm : u.vm.Alike U.vm) (h : vx_L C n d A u H) : vx_L C n d A U H := by
  obtain ⟨c, k, i, f, a, cell, h1, h2, h3, h4, h5, h6, h7, h8, h9, h10⟩ := h
  obtain ⟨k', hi', he⟩ := State.fieldFound?_setVm hvm h2
  exact ⟨c, k', i, f, a, cell, by rw [hvm.findClass]; exact h1, hi', h3, by rw [he]; exact h4, h5, h6, h7, h8, by rw [he]; exact h9, h10⟩
theorem vx_L.kept {C n d : String} {A : Nat → Prop} {U : State} {H H1 : Heap} (h : vx_L C n d A U H) (hq : ∀ a : Nat, a < H.size → ¬ A a → H1[a]? = H[a]?) : vx_L C n d A U H1 := by
  obtain ⟨c, k, i, f, a, cell, h1, h2, h3, h4, h5, h6, h7, h8, h9, h10⟩ := h
  exact ⟨c, k, i, f, a, cell, h1, h2, h3, h4, by rw [hq a (Array.getElem?_eq_some_iff.mp h5).1 h10]; exact h5, h6, h7, h8, h9, h10⟩
theorem vx_L.narrow {C n d : String} {A B : Nat → Prop} {U : State} {H : Heap} (h : vx_L C n d A U H) (hAB : ∀ q, B q → A q) : vx_L C n d B U H := by
  obtain ⟨c, k, i, f, a, cell, h1, h2, h3, h4, h5, h6, h7, h8, h9, h10⟩ := h
  exact ⟨c, k, i, f, a, cell, h1, h2, h3, h4, h5, h6, h7, h8, h9, fun z => h10 (hAB _ z)⟩
theorem vx_L.word {C n d : String} {A : Nat → Prop} {s : State} {args : Array Value} (h : vx_L C n d A s s.heap) : (Cond.laysStatic C n d).before args s = true := by
  obtain ⟨c, k, i, f, a, cell, h1, h2, h3, h4, h5, h6, h7, h8, h9, -⟩ := h
  show (Cond.laysStatic C n d).holds args s none s [] = true
  exact Cond.laysStatic_of h1 h2 h3 h4 h5 h6 h7 h8 h9
/-- .. and what it holds: null or some reference -/
def vx_Zq (C n d : String) (A : Nat → Prop) (U : State) (H : Heap) : Prop := va_Zq C n d A U H ∧ vx_L C n d A U H
theorem vx_Zq.moved {C n d : String} {A : Nat → Prop} {u U : State} {H : Heap} (hvm : u.vm.Alike U.vm) (h : vx_Zq C n d A u H) : vx_Zq C n d A U H := ⟨va_Zq.moved hvm h.1, vx_L.moved hvm h.2⟩
theorem vx_Zq.kept {C n d : String} {A : Nat → Prop} {U : State} {H H1 : Heap} (h : vx_Zq C n d A U H) (hq : ∀ a : Nat, a < H.size → ¬ A a → H1[a]? = H[a]?) : vx_Zq C n d A U H1 := ⟨va_Zq.kept h.1 hq, vx_L.kept h.2 hq⟩
theorem vx_Zq.narrow {C n d : String} {A B : Nat → Prop} {U : State} {H : Heap} (h : vx_Zq C n d A U H) (hAB : ∀ q, B q → A q) : vx_Zq C n d B U H := ⟨va_Zq.narrow h.1 hAB, vx_L.narrow h.2 hAB⟩
theorem vx_Zqof {args : Array Value} {s : State} {C n d : String} {A : Nat → Prop} (hl : (Cond.laysStatic C n d).before args s = true) (hini : (Cond.initialized C).before args s = true) (h : (Cond.isRef (.static C n d)).before args s = true) (hA : ∀ a : Nat, a < s.heap.size → ¬ A a) : vx_Zq C n d A s s.heap := by
  refine ⟨va_Zqof hl hini h hA, ?_⟩
  obtain ⟨c, k, i, f, a, cell, h1, h2, h3, h4, h5, h6, h7, h8, h9⟩ := Cond.laysStatic_spec hl
  exact ⟨c, k, i, f, a, cell, h1, h2, h3, h4, h5, h6, h7, h8, h9, hA a (Array.getElem?_eq_some_iff.mp h5).1⟩
theorem vx_isRef {C n d : String} {v : Value} {A : Nat → Prop} {s : State} {args : Array Value} (h : va_Z C n d v A s s.heap) (hv : v.isRef = true) : (Cond.isRef (.static C n d)).before args s = true := by
  obtain ⟨cf, kf, fi, f, a, cell, h1, h2, h3, h4, h5, h6, h7, -⟩ := h
  have he : (Term.static C n d).eval args s none [] s = some v := by
    simp [Term.eval, State.fieldNamed?, h1, h2, h4, h5, h6, h7]
  simp only [Cond.before, Cond.holds, Cond.value, he]
  cases v <;> simp_all [Value.isRef]
theorem vx_isRefq {C n d : String} {A : Nat → Prop} {s : State} {args : Array Value} (h : va_Zq C n d A s s.heap) : (Cond.isRef (.static C n d)).before args s = true := by
  rcases h with h | ⟨t, h⟩
  · exact vx_isRef h rfl
  · exact vx_isRef h rfl
/-- the same frame, seen from here: as if the method were called anew in this heap -/
theorem vx_rebase {T : State} (X : Stand p l e R s m args below meth c T locs cells slots) {R' : Room} (hf : R'.frames ≤ R.frames) (hl : R'.locals ≤ R.locals) (hc : cells + R'.cells ≤ R.cells) (hs : slots + R'.slots ≤ R.slots) :
    Stand p l e R' ((T.setVm s.vm).setFrames (.invoking m args :: below)) m args below meth c T [] 0 0 := by
  have htop : (T.setVm s.vm).topJava?.isSome := X.here.top
  have hF : ((T.setVm s.vm).setFrames (.invoking m args :: below)).frames = .invoking m args :: below := State.frames_setFrames _ (State.cur_lt_of_top htop)
  obtain ⟨g₀, hg0⟩ := Option.isSome_iff_exists.mp htop
  obtain ⟨r, hr⟩ := State.topJava?_eq_some.mp hg0
  have hl9 : e.platform.stackLimits (T.setVm s.vm).me = e.platform.stackLimits s.me := X.limits
  have hb9 : (T.setVm s.vm).me.stackBytes = s.me.stackBytes := X.bytes
  refine ⟨X.admits, X.cas, X.clock, hF, ?_, X.hears, X.method, X.code, X.here, X.tail, X.warmed, ?_, ?_, ?_⟩
  · have h := X.room
    have hU : ((T.setVm s.vm).setFrames (.invoking m args :: below)).localsInUse = s.localsInUse := by
      rw [State.localsInUse_invoking hF (meth := meth) (c := c) X.method X.code, State.localsInUse_invoking X.frames X.method X.code]
    simp only [State.hasRoom, Bool.and_eq_true, decide_eq_true_eq] at h ⊢
    obtain ⟨⟨⟨⟨h1, h2, h3, h4, h5, h6⟩, h7⟩, h8⟩, h9⟩ := h
    rw [X.frames, List.length_cons] at h2 h3
    have q1 := X.heapSize
    have q2 := X.used
    simp only [hF, hU, List.length_cons, State.stackLimits_setFrames, State.stackBytes_setFrames, hl9, hb9]
    refine ⟨⟨⟨⟨by omega, by omega, by omega, by omega, by omega, h6⟩, ?_⟩, ?_⟩, X.book⟩
    · show T.heap.size + R'.cells ≤ e.platform.maxCells
      omega
    · show T.slotsUsed + R'.slots ≤ e.platform.maxSlots
      omega
  · rw [State.stackLimits_setFrames]; rfl
  · rw [State.stackBytes_setFrames]; rfl
  · refine ⟨?_, Nat.le_refl _, Nat.le_refl _, ?_, ?_, fun a c9 h9 => ⟨c9, h9, rfl, rfl, fun _ _ => rfl⟩⟩
    · obtain ⟨t, ht, -⟩ := State.frames_cons hr
      show T.setVm s.vm = { ((T.setVm s.vm).setFrames (.invoking m args :: below)).setFrames (T.setVm s.vm).frames with heap := T.heap, slotsUsed := T.slotsUsed }
      rw [State.setFrames_setFrames, State.setFrames_self ht]
      rfl
    · show T.slotsUsed = T.slotsUsed + ((T.heap.toList.drop T.heap.size).map (·.slots.size)).sum
      rw [List.drop_eq_nil_of_le (Nat.le_of_eq Array.length_toList)]
      rfl
    · show ((T.heap.toList.drop T.heap.size).map (·.slots.size)).sum ≤ 0
      rw [List.drop_eq_nil_of_le (Nat.le_of_eq Array.length_toList)]
      exact Nat.le_refl _
/-- 'throw new E()': new; dup; invokespecial; athrow -/
theorem vx_throw0 {cc : ByteArray} {pc : Nat} (hexec : p.tables.exec = Jvm.exec) (hb : c.code = cc) (hl : l.stackTraces = false) {own cls : String} {names : List String} {ik ic mc ms : Nat} {A : Nat → Prop}
    (hown : s.vm.findClass own = some m.cls) (hcls : Bundle.fit cls = true) (hnames : ∀ n ∈ names, Bundle.fit n = true)
    (hk : (Cond.classLink own ik cls).before args s = true) (hini : (Cond.initialized cls).before args s = true) (hat : ∀ w ∈ vx_at0 own ic cls names, w.before args s = true)
    (hgood : ∀ w ∈ Cond.classLink own ik cls :: Cond.initialized cls :: vx_at0 own ic cls names, vx_ot w = true)
    (hU : vx_Zq Bundle.tN "UNASSIGNED_STACK" Bundle.steD A s s.heap) (hN : vx_Zq Bundle.tN "SUPPRESSED_SENTINEL" Bundle.listD A s s.heap) (hS : va_S A s.heap H locs) (hsize : ls.size = c.maxLocals)
    (d0 : decode cc pc = .ok (.new ik, 3)) (d3 : decode cc (pc + 3) = .ok (.dup, 1)) (d4 : decode cc (pc + 4) = .ok (.invokespecial ic, 3)) (d7 : decode cc (pc + 7) = .ok (.athrow, 1))
    (hout : ∀ x ∈ c.exceptionTable.toList, covers x (pc + 7) = false)
    (hRframes : names.length + 3 < R.frames) (hRlocals : (rest.map fun v => v.category).sum + (13 * (names.length + 1) + 42) ≤ R.locals) (hRcells : cells + 1 ≤ R.cells) (hRslots : slots + 6 ≤ R.slots) (hlocks : meth.locks = false)
    (hx : ∀ t : State, s.vm.Alike t.vm → H.size ≤ t.heap.size → (∀ q : Nat, q < H.size → t.heap[q]? = H[q]?) → XC cls s t)
    (hf : ∀ z ∈ locs, free z.base) (hc : cells + 1 ≤ mc) (hs : slots + 6 ≤ ms) :
    W p l e R s m args below meth c H locs cells slots (vx_MQ below Qc XC args s mc ms free) (F0 m pc ls rest) := by
  intro T hT X
  have htr : e.platform.stackTraces = false := (show e.platform.stackTraces = l.stackTraces by rw [X.admits.platform]).trans hl
  have Y := vx_rebase X (R' := { frames := R.frames, locals := R.locals, cells := 1, slots := 6 }) (Nat.le_refl _) (Nat.le_refl _) hRcells hRslots
  obtain ⟨s', hA⟩ : ∃ z, z = (T.setVm s.vm).setFrames (.invoking m args :: below) := ⟨_, rfl⟩
  rw [← hA] at Y
  have hvm : s'.vm = s.vm := by rw [hA]; rfl
  have hhp : s'.heap = H := by rw [hA]; exact hT
  have hW0 : s.WarmedH s'.vm := by rw [hvm]; exact State.WarmedH.refl s
  have hat' : ∀ w ∈ vx_at0 own ic cls names, w.before args s' = true := fun w hw => vx_ot_at hW0 hvm.symm (hgood w (List.mem_cons_of_mem _ (List.mem_cons_of_mem _ hw))) (hat w hw)
  have hk' : (Cond.classLink own ik cls).before args s' = true := vx_ot_at hW0 hvm.symm (hgood _ List.mem_cons_self) hk
  have hini' : (Cond.initialized cls).before args s' = true := vx_ot_at hW0 hvm.symm (hgood _ (List.mem_cons_of_mem _ List.mem_cons_self)) hini
  have hU' : vx_Zq Bundle.tN "UNASSIGNED_STACK" Bundle.steD A s' s'.heap := by rw [hhp]; exact vx_Zq.moved hW0.alike (hU.kept hS.2.1)
  have hN' : vx_Zq Bundle.tN "SUPPRESSED_SENTINEL" Bundle.listD A s' s'.heap := by rw [hhp]; exact vx_Zq.moved hW0.alike (hN.kept hS.2.1)
  have h : ∀ w ∈ Bundle.ownAtoms0 own ic cls names, w.before args s' = true := vx_own hat' (vx_isRefq hU'.1) (vx_isRefq hN'.1) hU'.2.word hN'.2.word
  have hown' : s'.vm.findClass own = some m.cls := by rw [hvm]; exact hown
  have hins : (Cond.instantiable cls 6).before args s' = true := h _ (by simp [Bundle.ownAtoms0])
  obtain ⟨vm₁, cX, kX, hfX, hkX, -, -, X₁, st1⟩ := Y.newCold hexec (own := own) (C := cls) (index := ik) (n := 6) hown' hk' hins hini'
    (g := F0 m pc ls rest) rfl (by rw [hb]; exact d0) (Nat.le_refl _) (Nat.le_refl _)
  generalize hT1 : (T.setVm vm₁).pushCell { cls := cX, slots := kX.instanceTypes.map defaultValue, vm := .none } = T1 at X₁ st1
  have hcat : (Value.ref T.heap.size).category = 1 := rfl
  have hcellA : T1.heap[T.heap.size]? = some (freshCell cX kX) := by rw [← hT1]; exact State.heap_pushCell_size _ _
  have d3' : decode c.code (pc + 3) = .ok (.dup, 1) := by rw [hb]; exact d3
  obtain ⟨U, hsteps, hrun, hend, hW, hsame, ce, hce, hO⟩ := X₁.ctorThrow0 hexec htr (own := own) (cls := cls) (names := names) (ic := ic) hown' hcls hnames h (fun x hx => nomatch hx) hfX hkX hcellA (by rw [hhp, hT]; exact Nat.le_refl _)
    (g := { method := m, pc := pc + 4, locals := ls, stack := .ref T.heap.size :: .ref T.heap.size :: rest, locked := none }) rfl hsize rfl rfl (rest := rest) rfl
    (by rw [hb]; exact d4) (by rw [hb]; exact d7) hout hRframes (by simp only [List.map_cons, List.sum_cons, hcat]; omega) hlocks
  obtain ⟨f1, f2⟩ := vx_frame hsame
  rw [hhp] at f1 f2
  have hWs : s.WarmedH U.vm := State.WarmedH.trans hW0 hW
  have hcl : s.vm.findClass cls = some ce.cls := by
    have h9 := hO.cls
    rw [hvm] at h9
    exact h9
  have hall : s.sameButNew ({ U with vm := s.vm } : State) locs mc ms := by
    subst hA
    obtain ⟨e1, e2⟩ := hsame
    rw [State.setFrames_setFrames] at e1
    have h2 : (T.setVm s.vm).sameButNew ({ U with vm := s.vm } : State) [] (0 + 1) (0 + 6) := ⟨e1, e2⟩
    have h3 := X.same.trans h2
    rw [List.append_nil] at h3
    exact h3.mono hc hs
  refine ⟨U, ?_, .threw T.heap.size, hrun, hend, Or.inr ⟨T.heap.size, rfl, cls, ce, locs, hx U hWs.alike f1 (fun q hq => f2 q hq (fun z hz => nomatch hz)), hce, hO.vm, hcl, hWs, hall, hf⟩⟩
  refine st1 _ ?_
  show Steps p.tables e below (T1.setTop { method := m, pc := pc + 3, locals := ls, stack := .ref T.heap.size :: rest, locked := none }) _
  jvm_step X₁.here [X₁.here.top, hexec, d3', Value.category]
  exact hsteps
/-- 'throw new E("text")': new; dup; ldc; invokespecial; athrow -/
theorem vx_throwS {cc : ByteArray} {pc : Nat} (hexec : p.tables.exec = Jvm.exec) (hb : c.code = cc) (hl : l.stackTraces = false) {own cls text : String} {names : List String} {ik is ic mc ms sa : Nat} {A : Nat → Prop}
    (hown : s.vm.findClass own = some m.cls) (hcls : Bundle.fit cls = true) (hnames : ∀ n ∈ names, Bundle.fit n = true)
    (hk : (Cond.classLink own ik cls).before args s = true) (hini : (Cond.initialized cls).before args s = true) (hstr : vk_R own is text sa s) (hat : ∀ w ∈ vx_atS own ic cls names, w.before args s = true)
    (hgood : ∀ w ∈ Cond.classLink own ik cls :: Cond.initialized cls :: vx_atS own ic cls names, vx_ot w = true)
    (hU : vx_Zq Bundle.tN "UNASSIGNED_STACK" Bundle.steD A s s.heap) (hN : vx_Zq Bundle.tN "SUPPRESSED_SENTINEL" Bundle.listD A s s.heap) (hS : va_S A s.heap H locs) (hsize : ls.size = c.maxLocals)
    (d0 : decode cc pc = .ok (.new ik, 3)) (d3 : decode cc (pc + 3) = .ok (.dup, 1)) (d4 : decode cc (pc + 4) = .ok (.ldc is, 2)) (d6 : decode cc (pc + 6) = .ok (.invokespecial ic, 3)) (d9 : decode cc (pc + 9) = .ok (.athrow, 1))
    (hout : ∀ x ∈ c.exceptionTable.toList, covers x (pc + 9) = false)
    (hRframes : names.length + 3 < R.frames) (hRlocals : (rest.map fun v => v.category).sum + (13 * (names.length + 1) + 43) ≤ R.locals) (hRcells : cells + 1 ≤ R.cells) (hRslots : slots + 6 ≤ R.slots) (hlocks : meth.locks = false)
    (hx : ∀ t : State, s.vm.Alike t.vm → H.size ≤ t.heap.size → (∀ q : Nat, q < H.size → t.heap[q]? = H[q]?) → XC cls s t)
    (hf : ∀ z ∈ locs, free z.base) (hc : cells + 1 ≤ mc) (hs : slots + 6 ≤ ms) :
    W p l e R s m args below meth c H locs cells slots (vx_MQ below Qc XC args s mc ms free) (F0 m pc ls rest) := by
  intro T hT X
  have htr : e.platform.stackTraces = false := (show e.platform.stackTraces = l.stackTraces by rw [X.admits.platform]).trans hl
  have Y := vx_rebase X (R' := { frames := R.frames, locals := R.locals, cells := 1, slots := 6 }) (Nat.le_refl _) (Nat.le_refl _) hRcells hRslots
  obtain ⟨s', hA⟩ : ∃ z, z = (T.setVm s.vm).setFrames (.invoking m args :: below) := ⟨_, rfl⟩
  rw [← hA] at Y
  have hvm : s'.vm = s.vm := by rw [hA]; rfl
  have hhp : s'.heap = H := by rw [hA]; exact hT
  have hW0 : s.WarmedH s'.vm := by rw [hvm]; exact State.WarmedH.refl s
  have hat' : ∀ w ∈ vx_atS own ic cls names, w.before args s' = true := fun w hw => vx_ot_at hW0 hvm.symm (hgood w (List.mem_cons_of_mem _ (List.mem_cons_of_mem _ hw))) (hat w hw)
  have hk' : (Cond.classLink own ik cls).before args s' = true := vx_ot_at hW0 hvm.symm (hgood _ List.mem_cons_self) hk
  have hini' : (Cond.initialized cls).before args s' = true := vx_ot_at hW0 hvm.symm (hgood _ (List.mem_cons_of_mem _ List.mem_cons_self)) hini
  have hU' : vx_Zq Bundle.tN "UNASSIGNED_STACK" Bundle.steD A s' s'.heap := by rw [hhp]; exact vx_Zq.moved hW0.alike (hU.kept hS.2.1)
  have hN' : vx_Zq Bundle.tN "SUPPRESSED_SENTINEL" Bundle.listD A s' s'.heap := by rw [hhp]; exact vx_Zq.moved hW0.alike (hN.kept hS.2.1)
  have h : ∀ w ∈ Bundle.ownAtoms own ic cls names, w.before args s' = true := vx_own hat' (vx_isRefq hU'.1) (vx_isRefq hN'.1) hU'.2.word hN'.2.word
  have hown' : s'.vm.findClass own = some m.cls := by rw [hvm]; exact hown
  have hins : (Cond.instantiable cls 6).before args s' = true := h _ (by simp [Bundle.ownAtoms])
  obtain ⟨vm₁, cX, kX, hfX, hkX, -, -, X₁, st1⟩ := Y.newCold hexec (own := own) (C := cls) (index := ik) (n := 6) hown' hk' hins hini'
    (g := F0 m pc ls rest) rfl (by rw [hb]; exact d0) (Nat.le_refl _) (Nat.le_refl _)
  generalize hT1 : (T.setVm vm₁).pushCell { cls := cX, slots := kX.instanceTypes.map defaultValue, vm := .none } = T1 at X₁ st1
  have hcat : (Value.ref T.heap.size).category = 1 := rfl
  have hcellA : T1.heap[T.heap.size]? = some (freshCell cX kX) := by rw [← hT1]; exact State.heap_pushCell_size _ _
  have d3' : decode c.code (pc + 3) = .ok (.dup, 1) := by rw [hb]; exact d3
  have d4' : decode c.code (pc + 4) = .ok (.ldc is, 2) := by rw [hb]; exact d4
  have hstr' : vk_R own is text sa s' := vk_R.warm hW0 hstr
  obtain ⟨U, hsteps, hrun, hend, hW, hsame, ce, hce, hO⟩ := X₁.ctorThrowS hexec htr (own := own) (cls := cls) (names := names) (ic := ic) hown' hcls hnames h (fun x hx => nomatch hx) hfX hkX hcellA (by rw [hhp, hT]; exact Nat.le_refl _) (msg := .ref sa) rfl
    (g := { method := m, pc := pc + 6, locals := ls, stack := .ref sa :: .ref T.heap.size :: .ref T.heap.size :: rest, locked := none }) rfl hsize rfl rfl (rest := rest) rfl
    (by rw [hb]; exact d6) (by rw [hb]; exact d9) hout hRframes (by simp only [List.map_cons, List.sum_cons, hcat]; omega) hlocks
  obtain ⟨f1, f2⟩ := vx_frame hsame
  rw [hhp] at f1 f2
  have hWs : s.WarmedH U.vm := State.WarmedH.trans hW0 hW
  have hcl : s.vm.findClass cls = some ce.cls := by
    have h9 := hO.cls
    rw [hvm] at h9
    exact h9
  have hall : s.sameButNew ({ U with vm := s.vm } : State) locs mc ms := by
    subst hA
    obtain ⟨e1, e2⟩ := hsame
    rw [State.setFrames_setFrames] at e1
    have h2 : (T.setVm s.vm).sameButNew ({ U with vm := s.vm } : State) [] (0 + 1) (0 + 6) := ⟨e1, e2⟩
    have h3 := X.same.trans h2
    rw [List.append_nil] at h3
    exact h3.mono hc hs
  refine ⟨U, ?_, .threw T.heap.size, hrun, hend, Or.inr ⟨T.heap.size, rfl, cls, ce, locs, hx U hWs.alike f1 (fun q hq => f2 q hq (fun z hz => nomatch hz)), hce, hO.vm, hcl, hWs, hall, hf⟩⟩
  refine st1 _ ?_
  show Steps p.tables e below (T1.setTop { method := m, pc := pc + 3, locals := ls, stack := .ref T.heap.size :: rest, locked := none }) _
  jvm_step X₁.here [X₁.here.top, hexec, d3', Value.category]
  exact X₁.ldcString hexec (own := own) (text := text) (index := is) (a := sa) hown' hstr'.1 hstr'.2
    (g := { method := m, pc := pc + 4, locals := ls, stack := .ref T.heap.size :: .ref T.heap.size :: rest, locked := none }) rfl d4' _ hsteps
/-- 'throw new E("text")', the text by a wide index -/
theorem vx_throwSW {cc : ByteArray} {pc : Nat} (hexec : p.tables.exec = Jvm.exec) (hb : c.code = cc) (hl : l.stackTraces = false) {own cls text : String} {names : List String} {ik is ic mc ms sa : Nat} {A : Nat → Prop}
    (hown : s.vm.findClass own = some m.cls) (hcls : Bundle.fit cls = true) (hnames : ∀ n ∈ names, Bundle.fit n = true)
    (hk : (Cond.classLink own ik cls).before args s = true) (hini : (Cond.initialized cls).before args s = true) (hstr : vk_R own is text sa s) (hat : ∀ w ∈ vx_atS own ic cls names, w.before args s = true)
    (hgood : ∀ w ∈ Cond.classLink own ik cls :: Cond.initialized cls :: vx_atS own ic cls names, vx_ot w = true)
    (hU : vx_Zq Bundle.tN "UNASSIGNED_STACK" Bundle.steD A s s.heap) (hN : vx_Zq Bundle.tN "SUPPRESSED_SENTINEL" Bundle.listD A s s.heap) (hS : va_S A s.heap H locs) (hsize : ls.size = c.maxLocals)
    (d0 : decode cc pc = .ok (.new ik, 3)) (d3 : decode cc (pc + 3) = .ok (.dup, 1)) (d4 : decode cc (pc + 4) = .ok (.ldc_w is, 3)) (d7 : decode cc (pc + 7) = .ok (.invokespecial ic, 3)) (d10 : decode cc (pc + 10) = .ok (.athrow, 1))
    (hout : ∀ x ∈ c.exceptionTable.toList, covers x (pc + 10) = false)
    (hRframes : names.length + 3 < R.frames) (hRlocals : (rest.map fun v => v.category).sum + (13 * (names.length + 1) + 43) ≤ R.locals) (hRcells : cells + 1 ≤ R.cells) (hRslots : slots + 6 ≤ R.slots) (hlocks : meth.locks = false)
    (hx : ∀ t : State, s.vm.Alike t.vm → H.size ≤ t.heap.size → (∀ q : Nat, q < H.size → t.heap[q]? = H[q]?) → XC cls s t)
    (hf : ∀ z ∈ locs, free z.base) (hc : cells + 1 ≤ mc) (hs : slots + 6 ≤ ms) :
    W p l e R s m args below meth c H locs cells slots (vx_MQ below Qc XC args s mc ms free) (F0 m pc ls rest) := by
  intro T hT X
  have htr : e.platform.stackTraces = false := (show e.platform.stackTraces = l.stackTraces by rw [X.admits.platform]).trans hl
  have Y := vx_rebase X (R' := { frames := R.frames, locals := R.locals, cells := 1, slots := 6 }) (Nat.le_refl _) (Nat.le_refl _) hRcells hRslots
  obtain ⟨s', hA⟩ : ∃ z, z = (T.setVm s.vm).setFrames (.invoking m args :: below) := ⟨_, rfl⟩
  rw [← hA] at Y
  have hvm : s'.vm = s.vm := by rw [hA]; rfl
  have hhp : s'.heap = H := by rw [hA]; exact hT
  have hW0 : s.WarmedH s'.vm := by rw [hvm]; exact State.WarmedH.refl s
  have hat' : ∀ w ∈ vx_atS own ic cls names, w.before args s' = true := fun w hw => vx_ot_at hW0 hvm.symm (hgood w (List.mem_cons_of_mem _ (List.mem_cons_of_mem _ hw))) (hat w hw)
  have hk' : (Cond.classLink own ik cls).before args s' = true := vx_ot_at hW0 hvm.symm (hgood _ List.mem_cons_self) hk
  have hini' : (Cond.initialized cls).before args s' = true := vx_ot_at hW0 hvm.symm (hgood _ (List.mem_cons_of_mem _ List.mem_cons_self)) hini
  have hU' : vx_Zq Bundle.tN "UNASSIGNED_STACK" Bundle.steD A s' s'.heap := by rw [hhp]; exact vx_Zq.moved hW0.alike (hU.kept hS.2.1)
  have hN' : vx_Zq Bundle.tN "SUPPRESSED_SENTINEL" Bundle.listD A s' s'.heap := by rw [hhp]; exact vx_Zq.moved hW0.alike (hN.kept hS.2.1)
  have h : ∀ w ∈ Bundle.ownAtoms own ic cls names, w.before args s' = true := vx_own hat' (vx_isRefq hU'.1) (vx_isRefq hN'.1) hU'.2.word hN'.2.word
  have hown' : s'.vm.findClass own = some m.cls := by rw [hvm]; exact hown
  have hins : (Cond.instantiable cls 6).before args s' = true := h _ (by simp [Bundle.ownAtoms])
  obtain ⟨vm₁, cX, kX, hfX, hkX, -, -, X₁, st1⟩ := Y.newCold hexec (own := own) (C := cls) (index := ik) (n := 6) hown' hk' hins hini'
    (g := F0 m pc ls rest) rfl (by rw [hb]; exact d0) (Nat.le_refl _) (Nat.le_refl _)
  generalize hT1 : (T.setVm vm₁).pushCell { cls := cX, slots := kX.instanceTypes.map defaultValue, vm := .none } = T1 at X₁ st1
  have hcat : (Value.ref T.heap.size).category = 1 := rfl
  have hcellA : T1.heap[T.heap.size]? = some (freshCell cX kX) := by rw [← hT1]; exact State.heap_pushCell_size _ _
  have d3' : decode c.code (pc + 3) = .ok (.dup, 1) := by rw [hb]; exact d3
  have d4' : decode c.code (pc + 4) = .ok (.ldc_w is, 3) := by rw [hb]; exact d4
  have hstr' : vk_R own is text sa s' := vk_R.warm hW0 hstr
  obtain ⟨U, hsteps, hrun, hend, hW, hsame, ce, hce, hO⟩ := X₁.ctorThrowS hexec htr (own := own) (cls := cls) (names := names) (ic := ic) hown' hcls hnames h (fun x hx => nomatch hx) hfX hkX hcellA (by rw [hhp, hT]; exact Nat.le_refl _) (msg := .ref sa) rfl
    (g := { method := m, pc := pc + 7, locals := ls, stack := .ref sa :: .ref T.heap.size :: .ref T.heap.size :: rest, locked := none }) rfl hsize rfl rfl (rest := rest) rfl
    (by rw [hb]; exact d7) (by rw [hb]; exact d10) hout hRframes (by simp only [List.map_cons, List.sum_cons, hcat]; omega) hlocks
  obtain ⟨f1, f2⟩ := vx_frame hsame
  rw [hhp] at f1 f2
  have hWs : s.WarmedH U.vm := State.WarmedH.trans hW0 hW
  have hcl : s.vm.findClass cls = some ce.cls := by
    have h9 := hO.cls
    rw [hvm] at h9
    exact h9
  have hall : s.sameButNew ({ U with vm := s.vm } : State) locs mc ms := by
    subst hA
    obtain ⟨e1, e2⟩ := hsame
    rw [State.setFrames_setFrames] at e1
    have h2 : (T.setVm s.vm).sameButNew ({ U with vm := s.vm } : State) [] (0 + 1) (0 + 6) := ⟨e1, e2⟩
    have h3 := X.same.trans h2
    rw [List.append_nil] at h3
    exact h3.mono hc hs
  refine ⟨U, ?_, .threw T.heap.size, hrun, hend, Or.inr ⟨T.heap.size, rfl, cls, ce, locs, hx U hWs.alike f1 (fun q hq => f2 q hq (fun z hz => nomatch hz)), hce, hO.vm, hcl, hWs, hall, hf⟩⟩
  refine st1 _ ?_
  show Steps p.tables e below (T1.setTop { method := m, pc := pc + 3, locals := ls, stack := .ref T.heap.size :: rest, locked := none }) _
  jvm_step X₁.here [X₁.here.top, hexec, d3', Value.category]
  exact X₁.ldcStringW hexec (own := own) (text := text) (index := is) (a := sa) hown' hstr'.1 hstr'.2
    (g := { method := m, pc := pc + 4, locals := ls, stack := .ref T.heap.size :: .ref T.heap.size :: rest, locked := none }) rfl d4' _ hsteps
end Ends
section Bodies
variable {l : Launch}
theorem vx_ofW {y : MethodName} {ws ws' : List Cond} {rm : Room} {Pc : Array Value → State → Prop} {Qc : Array Value → State → Outcome → State → Prop} {XC : String → State → State → Prop} {mc ms : Nat} {free : Addr → Prop} {cc : ByteArray} {maxL : Nat} {ret : Option FieldType}
    (hy : plainName y.cls = true) (hw : ws = Cond.code y cc maxL ret :: ws')
    (body : ∀ p e s m args below meth c s₁, BodyLoose p l y (headSpec ws rm) cc maxL ret e s m args below meth c s₁ → c.maxLocals = maxL → (∀ x ∈ c.exceptionTable.toList, False) → Pc args s →
      W p l e (headSpec ws rm).room s m args below meth c s.heap [] 0 0 (vx_MQ below Qc XC args s mc ms free) (entryFrame m args maxL)) : vx_Met l y ws rm Pc Qc XC mc ms free := by
  refine MetFree.of_bodyS (code := cc) (maxLocals := maxL) (ret := ret) hy ?_ ?_
  · intro args s m h hn
    obtain ⟨meth, c, h1, h2, h3, h4, h5, h6, -, -⟩ := Cond.code_spec hn (atoms_spec (ws := ws) h _ (by rw [hw]; exact List.mem_cons_self))
    exact ⟨meth, c, h1, h2, h3, h4, h5, h6⟩
  · intro p e s m args below meth c s₁ B hml hP _
    have hh0 : s₁.heap = s.heap := by rw [B.state]; rfl
    have ht : ∀ x ∈ c.exceptionTable.toList, False := by
      obtain ⟨meth9, c9, h1, h2, -, -, -, -, h7, -⟩ := Cond.code_spec B.named (atoms_spec (ws := ws) B.pre _ (by rw [hw]; exact List.mem_cons_self))
      cases Option.some.inj (h1.symm.trans B.method)
      cases Option.some.inj (h2.symm.trans (Stand.of_body B).code)
      intro x hx
      rw [Array.isEmpty_iff.mp h7] at hx
      cases hx
    obtain ⟨t, a1, o, b1, b2, b3⟩ := body p e s m args below meth c s₁ B hml ht hP s₁ hh0 (Stand.of_body B)
    exact ⟨t, o, a1, b1, b2, b3⟩
/-- the table of a body with handlers -/
theorem vx_table {p : Program} {x y : MethodName} {S : Spec} {cc bytes : ByteArray} {maxL maxL' : Nat} {ret ret' : Option FieldType} {e : Env} {s s₁ : State} {m : MethodId} {args : Array Value} {below : List Frame} {meth : Method} {c : Code} {hh : List (Nat × Nat × Nat × Nat)}
    (B : BodyLoose p l y S cc maxL ret e s m args below meth c s₁) (h : (Cond.codeWith y bytes maxL' ret' hh).before args s = true) : c.exceptionTable.toList = tableOf hh := by
  obtain ⟨m9, meth9, c9, hn9, h1, h2, -, -, h6, -⟩ := Cond.codeWith_spec h
  cases Option.some.inj (hn9.symm.trans B.named)
  cases Option.some.inj (h1.symm.trans B.method)
  cases Option.some.inj (h2.symm.trans (Stand.of_body B).code)
  rw [← h6, table_eq]
end Bodies
end VXA
/-! ===== END ===== -/
/-! ===== BEGIN a static call of a method with an exception table ===== -/
section VXS
variable {p : Program} {l : Launch} {e : Env} {R : Room} {s : State} {m : MethodId} {args : Array Value} {below : List Frame} {meth : Method} {c : Code} {T : State} {H : Heap} {locs : List Loc} {cells slots : Nat}
abbrev vx_CSW (R : Room) (s : State) (args : Array Value) (own : String) (index : Nat) (y : MethodName) (bytes : ByteArray) (maxL : Nat) (ret : Option FieldType) (hh : List (Nat × Nat × Nat × Nat)) (ws : List Cond) (rm : Room) (mc ms n : Nat) : Prop :=
  (rm.cells = mc ∧ rm.slots = ms ∧ rm.frames + 1 ≤ R.frames ∧ 8 + (maxL + 11) + rm.locals ≤ R.locals ∧ (∀ w ∈ ws, ∀ (a' : Array Value) (U : State), s.WarmedH U.vm → w.before a' U = true) ∧ Cond.codeWith y bytes maxL ret hh ∈ ws) ∧
  (Cond.codeWith y bytes maxL ret hh).before args s = true ∧ (Cond.initialized y.cls).before args s = true ∧ (y.cls ≠ "java/lang/invoke/MethodHandle" ∧ y.cls ≠ "java/lang/invoke/VarHandle") ∧
  (∀ sig, parseMethodDescriptor y.desc = some sig → n = sig.parameters.length) ∧ (Cond.methodLink own index y).before args s = true ∧ (Cond.static y).before args s = true
theorem vx_cwSW {own : String} {index maxL mc ms : Nat} {y : MethodName} {bytes : ByteArray} {ret : Option FieldType} {hh : List (Nat × Nat × Nat × Nat)} {Ts ws ws' : List Cond} {rm : Room} (n : Nat) (ht : ∀ w ∈ Ts, w.before args s = true) (hT : GoodIn Ts (va_wsS own index y ws)) (hw : ws = Cond.codeWith y bytes maxL ret hh :: ws') (hrc : rm.cells = mc) (hrs : rm.slots = ms)
    (hd : y.cls ≠ "java/lang/invoke/MethodHandle" ∧ y.cls ≠ "java/lang/invoke/VarHandle" ∧ (parseMethodDescriptor y.desc).map (fun d => d.parameters.length) = some n) (hR : rm.frames + 1 ≤ R.frames ∧ 8 + (maxL + 11) + rm.locals ≤ R.locals) :
    vx_CSW R s args own index y bytes maxL ret hh ws rm mc ms n := by
  have ok : ∀ w ∈ va_wsS own index y ws, w.before args s = true := fun w h => ht w (hT w h).1
  have hG : GoodIn Ts ws := fun w h => hT w (by unfold va_wsS; exact List.mem_append_right _ h)
  have hc : Cond.codeWith y bytes maxL ret hh ∈ ws := by rw [hw]; exact List.mem_cons_self
  refine ⟨⟨hrc, hrs, hR.1, hR.2, pay_in ht hG, hc⟩, ht _ (hG _ hc).1, ok _ (by simp [va_wsS]), ⟨hd.1, hd.2.1⟩, fun sig h => ?_, ok _ (by simp [va_wsS]), ok _ (by simp [va_wsS])⟩
  have h2 := hd.2.2
  rw [h] at h2
  exact (Option.some.inj h2).symm
theorem vx_callSW (X : Stand p l e R s m args below meth c T locs cells slots) (hexec : p.tables.exec = Jvm.exec) {own : String} {index : Nat} {y : MethodName} {bytes : ByteArray} {maxL : Nat} {ret : Option FieldType} {hh : List (Nat × Nat × Nat × Nat)}
    (hown : s.vm.findClass own = some m.cls) (hlink : (Cond.methodLink own index y).before args s = true) (hstat : (Cond.static y).before args s = true) (hinit : (Cond.initialized y.cls).before args s = true)
    (hcode : (Cond.codeWith y bytes maxL ret hh).before args s = true) (hy : y.cls ≠ "java/lang/invoke/MethodHandle" ∧ y.cls ≠ "java/lang/invoke/VarHandle")
    {W9 : Nat} {Pre : Pt → Array Value → Prop} {Post : Pt → Array Value → Option Value → Pt → Prop} (hK : Back l R p e below s args y 3 W9 Pre Post)
    {g : JFrame} (hg : g.method = m) (hsize : g.locals.size = c.maxLocals) {argsL rest : List Value} (hlen : ∀ sig, parseMethodDescriptor y.desc = some sig → argsL.length = sig.parameters.length)
    (hstack : g.stack = argsL.reverse ++ rest) (hW : 2 * g.monitorRoom + (rest.map fun v => v.category).sum ≤ W9) (hdg : decode c.code g.pc = .ok (.invokestatic index, 3))
    (hpre : ∀ vm₁, s.WarmedH vm₁ → Pre ⟨T.setVm vm₁, locs, cells, slots⟩ argsL.toArray) :
    ∃ (v : Option Value) (vm₁ : Vm) (B : Pt), s.WarmedH vm₁ ∧ Stand p l e R s m args below meth c B.U B.locs B.cells B.slots ∧ Post ⟨T.setVm vm₁, locs, cells, slots⟩ argsL.toArray v B ∧
      ∀ target, Steps p.tables e below (B.U.setTop { g with pc := g.pc + 3, stack := v.toList ++ rest }) target → Steps p.tables e below (T.setTop g) target := by
  obtain ⟨mk, methM, cM, hnamed, hmethM, -, -, -, -, -, -, hsigM⟩ := Cond.codeWith_spec hcode
  have hstatic : methM.isStatic = true := Cond.static_spec hnamed hmethM hstat
  obtain ⟨kP, hkP, -⟩ := className_of_methodNamed hnamed
  have hinitP : kP.init = .initialized := Cond.initialized_spec (findClass_of_methodNamed hnamed) hkP hinit
  obtain ⟨vm₁, X₁, hstep₁⟩ := X.invokestatic hexec hown hlink hnamed hmethM hstatic hkP hinitP hy (g := g) hg (argsL := argsL) (rest := rest) (hlen _ hsigM) hstack hdg
  obtain ⟨v, B, X', hpost, hsteps⟩ := hK m meth c ⟨T.setVm vm₁, locs, cells, slots⟩ { g with stack := rest } (.invokestatic index) mk argsL.toArray X₁ hg hsize hdg hW (X₁.named hnamed) (hpre vm₁ X₁.warmed)
  exact ⟨v, vm₁, B, X₁.warmed, X', hpost, fun target h => hstep₁ _ fun acts => by rw [doInvoke_state]; exact hsteps.trans h⟩
theorem vx_runSW {y : MethodName} {bytes cc : ByteArray} {maxL nL mc ms n index : Nat} {ret : Option FieldType} {hh : List (Nat × Nat × Nat × Nat)} {ws : List Cond} {rm : Room} {Pc : Array Value → State → Prop} {Qc : Array Value → State → Outcome → State → Prop} {free : Addr → Prop} {Ts : List Cond} {own : String} {As rest : List Value} {g : JFrame}
    (S : CallFix p m c cc nL s args Ts own) (hM : Met l y ws rm Pc Qc mc ms free) (cw : vx_CSW R s args own index y bytes maxL ret hh ws rm mc ms n) (hp : PreS s H Pc As)
    (hg : g.method = m) (hn : As.length = n) (hsize : g.locals.size = nL) (hstack : g.stack = As.reverse ++ rest) (hW : 2 * g.monitorRoom + (rest.map fun v => v.category).sum ≤ 8) (hdg : decode cc g.pc = .ok (.invokestatic index, 3)) (hf : cells + mc ≤ R.cells ∧ slots + ms ≤ R.slots) :
    va_Run p l e R s m args below meth c H locs cells slots mc ms g rest (Qc As.toArray) (free) := by
  obtain ⟨⟨hrc, hrs, hfr, hlo, hws, hcw⟩, hcode, hini, hy, hlen, hl, hstt⟩ := cw
  have hK : Back l R p e below s args y 3 8 (PreOf R mc ms Pc) (PostOf Qc mc ms free) := va_backW (hh := hh) (bytes := bytes) (maxL := maxL) (ret := ret) hM hp.1 hrc hrs hfr hlo hws hcw (fun a' U hW => word_at hW (Or.inl (by first | rfl | simp [Cond.onTables, Cond.keeps, Cond.steady])) hini)
  obtain ⟨hx, hb, hml, ho, -⟩ := S
  intro T hT X
  obtain ⟨v, vm₁, ⟨U', l2, c2, s2⟩, hW₁, X', ⟨g', mk, t, L, e1, e2, hq, h1, hL, h2, h3⟩, st⟩ := vx_callSW X hx (hh := hh) (bytes := bytes) (maxL := maxL) (ret := ret) ho hl hstt hini hcode hy hK hg (hsize.trans hml.symm) (argsL := As) (rest := rest) (fun sig h => hn.trans (hlen sig h)) hstack hW (by rw [hb]; exact hdg)
    (fun vm₁ hW₁ => ⟨hf.1, hf.2, hp.2 (T.setVm vm₁) hT hW₁⟩)
  dsimp only [Pt.U, Pt.locs, Pt.cells, Pt.slots] at X' e1 e2 h1 h2 h3 st
  subst h1; subst h2; subst h3
  exact ⟨v, (T.setVm vm₁).calling g' mk As.toArray, t, U', L, hT, X', hL, e1, e2, hq, st⟩
/-- not caught here, past rows that name other classes: it goes on to the caller -/
theorem vx_outP {p : Program} {l : Launch} {e : Env} {R : Room} {s : State} {m : MethodId} {args : Array Value} {below : List Frame} {meth : Method} {c : Code} {H : Heap} {locs : List Loc} {cells slots : Nat} {free : Addr → Prop} {ls : Array Slot} {rest : List Value} {Qc : Array Value → State → Outcome → State → Prop} {XC : String → State → State → Prop}
    {pc : Nat} {own E : String} {ce : Cell} {q : Addr} {mc ms : Nat} (hown : s.vm.findClass own = some m.cls) (hlocks : meth.locks = false)
    (hpass : ∀ z ∈ c.exceptionTable.toList, covers z pc = false ∨ (z.catchType ≠ 0 ∧ ∃ nm : String, (Cond.classLink own z.catchType nm).before args s = true ∧ va_Nc E nm s)) (hcell : H[q]? = some ce) (hv : ce.vm = .none) (hcl : s.vm.findClass E = some ce.cls)
    (hx : ∀ t : State, t.heap = H → s.vm.Alike t.vm → XC E s t) (hf : ∀ z ∈ locs, free z.base) (hc : cells ≤ mc) (hs : slots ≤ ms) :
    vx_W p l e R s m args below meth c H locs cells slots (vx_MQ below Qc XC args s mc ms free) (F0 m pc ls rest) q := by
  intro T hT X
  have hpl : e.platform.magicAccessors = ({} : Platform).magicAccessors := by rw [X.admits.platform]
  obtain ⟨vm', hW', X', st⟩ := X.outThrough hlocks q (g := F0 m pc ls rest) rfl rfl rfl (cell := ce) (by rw [hT]; exact hcell) (by rw [hv]; rfl)
    (by obtain ⟨k9, h9, -⟩ := Vm.findClass_spec hcl; exact ⟨k9, h9⟩) (fun z hz => by
      rcases hpass z hz with h | ⟨hz0, nm, hl1, hn1⟩
      · exact Or.inl h
      · obtain ⟨c6, hc6, hcl6⟩ := Cond.classLink_spec hown hl1 e.platform hpl
        obtain ⟨a8, b8, h1, h2, h3⟩ := hn1
        cases Option.some.inj (h1.symm.trans hcl)
        cases Option.some.inj (h2.symm.trans hc6)
        exact Or.inr ⟨hz0, _, hcl6, h3⟩)
  obtain ⟨g₀, hfr⟩ := X'.frames_eq
  have hcell9 : ((T.setVm vm').setFrames (.throwing q :: below)).heap[q]? = some ce := by
    show T.heap[q]? = some ce
    rw [hT]; exact hcell
  have hend : Ended ((T.setVm vm').setFrames (.throwing q :: below)) below (.threw q) := State.frames_setFrames _ (State.cur_lt_of_frames hfr)
  refine ⟨(T.setVm vm').setFrames (.throwing q :: below), ?_, .threw q, X'.here.running, hend, Or.inr ⟨q, rfl, E, ce, locs, hx _ hT (X'.ends _).1.alike, hcell9, hv, hcl, (X'.ends _).1, (X'.ends _).2.mono hc hs, hf⟩⟩
  rw [X.pushThrowing_eq]
  exact st
/-- a thing of a world lies in the heap -/
theorem vx_lt {D : va_G} {cl : List vw_C} {ws : va_W} {H1 : Heap} (h : va_P D cl ws H1) {k : Nat} {q : Nat × va_E} (hk : ws[k]? = some q) : q.1 < H1.size := (h k q hk).lt
end VXS
/-! ===== END ===== -/
/-! ===== BEGIN methods with a table of their own: called by a name, returning or throwing ===== -/
section VXH
/-! vx_backW, vx_callVX, vx_callSX, vx_callVW, vx_runVW, vx_runVX, vx_runSX, vx_ofWH follow the same proofs as their sisters above (Free/Laws.lean, Shelf42/LK1.lean); vx_outP calls Shelf42/NT130.lean (outThrough). -/
section
variable {l : Launch} {R : Room} {p : Program} {e : Env} {below : List Frame} {s : State} {sargs : Array Value} {y : MethodName} {len W9 : Nat}
theorem vx_backW {ws : List Cond} {rm : Room} {Pc : Array Value → State → Prop} {Qc : Array Value → State → Outcome → State → Prop} {XC : String → State → State → Prop} {mc ms : Nat} {free : Addr → Prop} {bytes : ByteArray} {maxL : Nat} {ret : Option FieldType} {hh : List (Nat × Nat × Nat × Nat)}
    (hM : vx_Met l y ws rm Pc Qc XC mc ms free) (hblind : FrameBlind Pc) (hrc : rm.cells = mc) (hrs : rm.slots = ms)
    (hframes : rm.frames + 1 ≤ R.frames) (hlocals : W9 + (maxL + 11) + rm.locals ≤ R.locals)
    (hws : ∀ w ∈ ws, ∀ a' U, s.WarmedH U.vm → w.before a' U = true) (hcode : Cond.codeWith y bytes maxL ret hh ∈ ws) (hinit : ∀ a' U, s.WarmedH U.vm → (Cond.initialized y.cls).before a' U = true) :
    vx_Back l R p e below s sargs y len W9 (PreOf R mc ms Pc) (PostOf Qc mc ms free) (vx_Post XC mc ms free) := by
  intro m meth c A g ig mk a X hg hsize hdg hW hn hp
  have h1 : (headSpec ws rm).pre.before a A.U = true := atoms_intro fun w hw => hws w hw _ _ X.warmed
  have h2 : (Cond.codeWith y bytes maxL ret hh).before a A.U = true := hws _ hcode _ _ X.warmed
  have h3 : (Cond.initialized y.cls).before a A.U = true := hinit _ _ X.warmed
  have h4 : A.cells + (headSpec ws rm).room.cells ≤ R.cells := by rw [show (headSpec ws rm).room.cells = mc from hrc]; exact hp.1
  have h5 : A.slots + (headSpec ws rm).room.slots ≤ R.slots := by rw [show (headSpec ws rm).room.slots = ms from hrs]; exact hp.2.1
  have hPc : Pc a (A.U.calling g mk a) := hblind _ _ _ _ hp.2.2
  obtain ⟨U, Ls, c0, s0⟩ := A
  dsimp only [Pt.U, Pt.locs, Pt.cells, Pt.slots] at h1 h2 h3 h4 h5 X hn hPc ⊢
  obtain ⟨m9, methY, cY, hn9, hmY, hcY, -, hlY, -⟩ := Cond.codeWith_spec h2
  cases Option.some.inj (hn9.symm.trans hn)
  obtain ⟨kY, hkY, -⟩ := className_of_methodNamed hn
  have hinitY : kY.init = .initialized := Cond.initialized_spec (findClass_of_methodNamed hn) hkY h3
  have h : At U g.method c below := by rw [hg]; exact X.here
  have hlocals9 : W9 + (maxL + 11) + (headSpec ws rm).room.locals ≤ R.locals := hlocals
  have happ : (headSpec ws rm).appliesLoose y e.platform (U.calling g mk a) = true :=
    Spec.appliesLoose_calling (g := g) h hdg hn hkY hinitY
      (X.room_calling (g := g) (R' := (headSpec ws rm).room) hsize hmY hcY hframes (by rw [hlY]; omega) h4 h5) h1
  obtain ⟨mid, hmid⟩ := h.above
  have hfr : (U.setTop g).frames = (.java g :: mid) ++ below := by rw [State.frames_setTop' g h.top, hmid]; rfl
  obtain ⟨o, s₂, hsteps, -, hend, hq⟩ := Steps.callFree hM p X.admits X.cas X.clock (acts := []) hfr happ hPc trivial
  have hq' : vx_Q Qc XC mc ms free a (U.calling g mk a) o s₂ := hq
  rw [State.frames_setTop' g h.top] at hend
  obtain ⟨g₀, hg0⟩ := Option.isSome_iff_exists.mp h.top
  obtain ⟨r, hr⟩ := State.topJava?_eq_some.mp hg0
  have hr' : (({ U with heap := s₂.heap, slotsUsed := s₂.slotsUsed } : State).setVm s₂.vm).frames = .java g₀ :: r := hr
  rcases hq' with ⟨hqc, L, hfe, hL⟩ | ⟨q, rfl, E, ce, L, hx, hce, hcv, hcl, hW₂, hsm, hL⟩
  · obtain ⟨⟨v, rfl⟩, hW₂, e2, q2, q3, q4, q5, q6⟩ := id hfe
    have e3 : s₂ = ({ (U.calling g mk a).setFrames s₂.frames with heap := s₂.heap, slotsUsed := s₂.slotsUsed } : State).setVm s₂.vm := by
      have : s₂ = ({ s₂ with vm := (U.calling g mk a).vm } : State).setVm s₂.vm := rfl
      rw [e2] at this
      exact this
    obtain ⟨c₂, i₂, len₂, hc₂, hd₂, hf₂⟩ := hend
    have hW' : U.WarmedH s₂.vm := hW₂
    have hcc : c₂ = c := by
      have h1 : s₂.code? g.method = U.code? g.method := by
        rw [State.code?_eq, State.code?_eq, hW'.alike.method?]
      exact Option.some.inj (hc₂.symm.trans (h1.trans h.code))
    subst hcc
    have hlen : len₂ = len := by rw [hdg] at hd₂; cases hd₂; rfl
    subst hlen
    have hs₂ : s₂ = (({ U with heap := s₂.heap, slotsUsed := s₂.slotsUsed } : State).setVm s₂.vm).setTop { g with pc := g.pc + len₂, stack := v.toList ++ g.stack } := by
      refine e3.trans ?_
      rw [hf₂, State.calling_eq h.top, State.setFrames_setFrames, State.setTop_of_frames _ hr', hr]
      rfl
    have hsame : U.sameButNew ({ U with heap := s₂.heap, slotsUsed := s₂.slotsUsed } : State) L mc ms := by
      refine ⟨?_, q2, q3, q4, q5, q6⟩
      obtain ⟨t, ht, -⟩ := State.frames_cons hr
      show ({ U with heap := s₂.heap, slotsUsed := s₂.slotsUsed } : State) = { U.setFrames U.frames with heap := s₂.heap, slotsUsed := s₂.slotsUsed }
      rw [State.setFrames_self ht]
    subst hg
    refine Or.inl ⟨v, ⟨(({ U with heap := s₂.heap, slotsUsed := s₂.slotsUsed } : State).setVm s₂.vm), Ls ++ L, c0 + mc, s0 + ms⟩,
      ⟨X.admits, X.cas, X.clock, X.frames, X.room, X.hears, X.method, X.code, (X.here.setHeapUsed s₂.heap s₂.slotsUsed).setVm hW'.alike, X.tail, State.WarmedH.trans X.warmed hW', X.limits, X.bytes, X.same.trans (hsame.setVm s.vm)⟩,
      ⟨g, mk, s₂, L, rfl, rfl, hqc, rfl, hL, rfl, rfl⟩, ?_⟩
    show Steps p.tables e below _ ((({ U with heap := s₂.heap, slotsUsed := s₂.slotsUsed } : State).setVm s₂.vm).setTop { g with pc := g.pc + len₂, stack := v.toList ++ g.stack })
    rw [← hs₂]
    exact hsteps
  · obtain ⟨e2, q2, q3, q4, q5, q6⟩ := id hsm
    have e3 : s₂ = ({ (U.calling g mk a).setFrames s₂.frames with heap := s₂.heap, slotsUsed := s₂.slotsUsed } : State).setVm s₂.vm := by
      have : s₂ = ({ s₂ with vm := (U.calling g mk a).vm } : State).setVm s₂.vm := rfl
      rw [e2] at this
      exact this
    have hf₂ : s₂.frames = .throwing q :: .java g :: U.frames.tail := hend
    have hW' : U.WarmedH s₂.vm := hW₂
    have hs₂ : s₂ = ((({ U with heap := s₂.heap, slotsUsed := s₂.slotsUsed } : State).setVm s₂.vm).setTop g).pushFrame (.throwing q) := by
      refine e3.trans ?_
      rw [hf₂, State.calling_eq h.top, State.setFrames_setFrames, State.pushFrame, State.frames_setTop _ hr', State.setTop_of_frames _ hr', State.setFrames_setFrames, hr]
      rfl
    have hsame : U.sameButNew ({ U with heap := s₂.heap, slotsUsed := s₂.slotsUsed } : State) L mc ms := by
      refine ⟨?_, q2, q3, q4, q5, q6⟩
      obtain ⟨t, ht, -⟩ := State.frames_cons hr
      show ({ U with heap := s₂.heap, slotsUsed := s₂.slotsUsed } : State) = { U.setFrames U.frames with heap := s₂.heap, slotsUsed := s₂.slotsUsed }
      rw [State.setFrames_self ht]
    subst hg
    refine Or.inr ⟨q, ⟨(({ U with heap := s₂.heap, slotsUsed := s₂.slotsUsed } : State).setVm s₂.vm), Ls ++ L, c0 + mc, s0 + ms⟩,
      ⟨X.admits, X.cas, X.clock, X.frames, X.room, X.hears, X.method, X.code, (X.here.setHeapUsed s₂.heap s₂.slotsUsed).setVm hW'.alike, X.tail, State.WarmedH.trans X.warmed hW', X.limits, X.bytes, X.same.trans (hsame.setVm s.vm)⟩,
      ⟨g, mk, s₂, L, E, ce, rfl, rfl, hx, hce, hcv, hcl, rfl, hL, rfl, rfl⟩, ?_⟩
    show Steps p.tables e below _ (((({ U with heap := s₂.heap, slotsUsed := s₂.slotsUsed } : State).setVm s₂.vm).setTop g).pushFrame (.throwing q))
    rw [← hs₂]
    exact hsteps
end
variable {p : Program} {l : Launch} {e : Env} {R : Room} {s : State} {m : MethodId} {args : Array Value} {below : List Frame} {meth : Method} {c : Code} {T : State} {H : Heap} {locs : List Loc} {cells slots : Nat}
theorem vx_callVX (X : Stand p l e R s m args below meth c T locs cells slots) (hexec : p.tables.exec = Jvm.exec) {own C : String} {index : Nat} {y : MethodName} {bytes : ByteArray} {maxL : Nat} {ret : Option FieldType} {hh : List (Nat × Nat × Nat × Nat)}
    (hown : s.vm.findClass own = some m.cls) (hlink : (Cond.methodLink own index y).before args s = true) (hinst : (Cond.instanceMethod y).before args s = true) (hsel : (Cond.selects C y y).before args s = true)
    (hcode : (Cond.codeWith y bytes maxL ret hh).before args s = true) (hy : y.cls ≠ "java/lang/invoke/MethodHandle" ∧ y.cls ≠ "java/lang/invoke/VarHandle")
    {W9 : Nat} {Pre : Pt → Array Value → Prop} {Post : Pt → Array Value → Option Value → Pt → Prop} {PostX : Pt → Array Value → Addr → Pt → Prop} (hK : vx_Back l R p e below s args y 3 W9 Pre Post PostX)
    {b : Addr} {cellB : Cell} (hcell : T.heap[b]? = some cellB) (hobj : cellB.vm.isStatics = false) (hcls : s.vm.findClass C = some cellB.cls)
    {g : JFrame} (hg : g.method = m) (hsize : g.locals.size = c.maxLocals) {argsL rest : List Value} (hlen : ∀ sig, parseMethodDescriptor y.desc = some sig → argsL.length = sig.parameters.length)
    (hstack : g.stack = argsL.reverse ++ .ref b :: rest) (hW : 2 * g.monitorRoom + (rest.map fun v => v.category).sum ≤ W9) (hdg : decode c.code g.pc = .ok (.invokevirtual index, 3))
    (hpre : ∀ vm₁, s.WarmedH vm₁ → Pre ⟨T.setVm vm₁, locs, cells, slots⟩ (Value.ref b :: argsL).toArray) :
    (∃ (v : Option Value) (vm₁ : Vm) (B : Pt), s.WarmedH vm₁ ∧ Stand p l e R s m args below meth c B.U B.locs B.cells B.slots ∧ Post ⟨T.setVm vm₁, locs, cells, slots⟩ (Value.ref b :: argsL).toArray v B ∧
      ∀ target, Steps p.tables e below (B.U.setTop { g with pc := g.pc + 3, stack := v.toList ++ rest }) target → Steps p.tables e below (T.setTop g) target) ∨
    (∃ (q : Addr) (vm₁ : Vm) (B : Pt), s.WarmedH vm₁ ∧ Stand p l e R s m args below meth c B.U B.locs B.cells B.slots ∧ PostX ⟨T.setVm vm₁, locs, cells, slots⟩ (Value.ref b :: argsL).toArray q B ∧
      Steps p.tables e below (T.setTop g) ((B.U.setTop { g with stack := rest }).pushFrame (.throwing q))) := by
  obtain ⟨mk, methM, hnamed, hmethM, hstM, habM⟩ := Cond.instanceMethod_spec hinst
  obtain ⟨m8, methM', cM, hn8, hmethM', -, -, -, -, -, -, hsigM⟩ := Cond.codeWith_spec hcode
  cases Option.some.inj (hn8.symm.trans hnamed)
  cases hmethM.symm.trans hmethM'
  obtain ⟨c2, r2, m2, q1, q2, q3, q4, kP, hkP, hkPi⟩ := Cond.selects_spec hsel
  cases hcls.symm.trans q1
  cases (State.methodFound?_of_named hnamed hy).symm.trans q2
  cases hnamed.symm.trans q3
  have hselP : selectMethod e.platform s.vm cellB.cls mk = .method mk := by rw [Launch.admits_selectMethod X.admits]; exact q4
  obtain ⟨vm₁, X₁, hstep₁⟩ := X.invokevirtual hexec hown hlink hnamed hmethM hstM hkP hkPi hy (a := b) (cell := cellB) hcell
    (fun z h => by rw [h] at hobj; cases hobj) hselP hmethM habM hkP hkPi (g := g) hg (argsL := argsL) (rest := rest) (hlen _ hsigM) hstack hdg
  rcases hK m meth c ⟨T.setVm vm₁, locs, cells, slots⟩ { g with stack := rest } (.invokevirtual index) mk (Value.ref b :: argsL).toArray X₁ hg hsize hdg hW (X₁.named hnamed) (hpre vm₁ X₁.warmed) with ⟨v, B, X', hpost, hsteps⟩ | ⟨q, B, X', hpost, hsteps⟩
  · exact Or.inl ⟨v, vm₁, B, X₁.warmed, X', hpost, fun target h => hstep₁ _ fun acts => by rw [doInvoke_state]; exact hsteps.trans h⟩
  · exact Or.inr ⟨q, vm₁, B, X₁.warmed, X', hpost, hstep₁ _ fun acts => by rw [doInvoke_state]; exact hsteps⟩
theorem vx_callSX (X : Stand p l e R s m args below meth c T locs cells slots) (hexec : p.tables.exec = Jvm.exec) {own : String} {index : Nat} {y : MethodName} {bytes : ByteArray} {maxL : Nat} {ret : Option FieldType} {hh : List (Nat × Nat × Nat × Nat)}
    (hown : s.vm.findClass own = some m.cls) (hlink : (Cond.methodLink own index y).before args s = true) (hstat : (Cond.static y).before args s = true) (hinit : (Cond.initialized y.cls).before args s = true)
    (hcode : (Cond.codeWith y bytes maxL ret hh).before args s = true) (hy : y.cls ≠ "java/lang/invoke/MethodHandle" ∧ y.cls ≠ "java/lang/invoke/VarHandle")
    {W9 : Nat} {Pre : Pt → Array Value → Prop} {Post : Pt → Array Value → Option Value → Pt → Prop} {PostX : Pt → Array Value → Addr → Pt → Prop} (hK : vx_Back l R p e below s args y 3 W9 Pre Post PostX)
    {g : JFrame} (hg : g.method = m) (hsize : g.locals.size = c.maxLocals) {argsL rest : List Value} (hlen : ∀ sig, parseMethodDescriptor y.desc = some sig → argsL.length = sig.parameters.length)
    (hstack : g.stack = argsL.reverse ++ rest) (hW : 2 * g.monitorRoom + (rest.map fun v => v.category).sum ≤ W9) (hdg : decode c.code g.pc = .ok (.invokestatic index, 3))
    (hpre : ∀ vm₁, s.WarmedH vm₁ → Pre ⟨T.setVm vm₁, locs, cells, slots⟩ argsL.toArray) :
    (∃ (v : Option Value) (vm₁ : Vm) (B : Pt), s.WarmedH vm₁ ∧ Stand p l e R s m args below meth c B.U B.locs B.cells B.slots ∧ Post ⟨T.setVm vm₁, locs, cells, slots⟩ argsL.toArray v B ∧
      ∀ target, Steps p.tables e below (B.U.setTop { g with pc := g.pc + 3, stack := v.toList ++ rest }) target → Steps p.tables e below (T.setTop g) target) ∨
    (∃ (q : Addr) (vm₁ : Vm) (B : Pt), s.WarmedH vm₁ ∧ Stand p l e R s m args below meth c B.U B.locs B.cells B.slots ∧ PostX ⟨T.setVm vm₁, locs, cells, slots⟩ argsL.toArray q B ∧
      Steps p.tables e below (T.setTop g) ((B.U.setTop { g with stack := rest }).pushFrame (.throwing q))) := by
  obtain ⟨mk, methM, cM, hnamed, hmethM, -, -, -, -, -, -, hsigM⟩ := Cond.codeWith_spec hcode
  have hstatic : methM.isStatic = true := Cond.static_spec hnamed hmethM hstat
  obtain ⟨kP, hkP, -⟩ := className_of_methodNamed hnamed
  have hinitP : kP.init = .initialized := Cond.initialized_spec (findClass_of_methodNamed hnamed) hkP hinit
  obtain ⟨vm₁, X₁, hstep₁⟩ := X.invokestatic hexec hown hlink hnamed hmethM hstatic hkP hinitP hy (g := g) hg (argsL := argsL) (rest := rest) (hlen _ hsigM) hstack hdg
  rcases hK m meth c ⟨T.setVm vm₁, locs, cells, slots⟩ { g with stack := rest } (.invokestatic index) mk argsL.toArray X₁ hg hsize hdg hW (X₁.named hnamed) (hpre vm₁ X₁.warmed) with ⟨v, B, X', hpost, hsteps⟩ | ⟨q, B, X', hpost, hsteps⟩
  · exact Or.inl ⟨v, vm₁, B, X₁.warmed, X', hpost, fun target h => hstep₁ _ fun acts => by rw [doInvoke_state]; exact hsteps.trans h⟩
  · exact Or.inr ⟨q, vm₁, B, X₁.warmed, X', hpost, hstep₁ _ fun acts => by rw [doInvoke_state]; exact hsteps⟩
theorem vx_callVW (X : Stand p l e R s m args below meth c T locs cells slots) (hexec : p.tables.exec = Jvm.exec) {own C : String} {index : Nat} {y : MethodName} {bytes : ByteArray} {maxL : Nat} {ret : Option FieldType} {hh : List (Nat × Nat × Nat × Nat)}
    (hown : s.vm.findClass own = some m.cls) (hlink : (Cond.methodLink own index y).before args s = true) (hinst : (Cond.instanceMethod y).before args s = true) (hsel : (Cond.selects C y y).before args s = true)
    (hcode : (Cond.codeWith y bytes maxL ret hh).before args s = true) (hy : y.cls ≠ "java/lang/invoke/MethodHandle" ∧ y.cls ≠ "java/lang/invoke/VarHandle")
    {W9 : Nat} {Pre : Pt → Array Value → Prop} {Post : Pt → Array Value → Option Value → Pt → Prop} (hK : Back l R p e below s args y 3 W9 Pre Post)
    {b : Addr} {cellB : Cell} (hcell : T.heap[b]? = some cellB) (hobj : cellB.vm.isStatics = false) (hcls : s.vm.findClass C = some cellB.cls)
    {g : JFrame} (hg : g.method = m) (hsize : g.locals.size = c.maxLocals) {argsL rest : List Value} (hlen : ∀ sig, parseMethodDescriptor y.desc = some sig → argsL.length = sig.parameters.length)
    (hstack : g.stack = argsL.reverse ++ .ref b :: rest) (hW : 2 * g.monitorRoom + (rest.map fun v => v.category).sum ≤ W9) (hdg : decode c.code g.pc = .ok (.invokevirtual index, 3))
    (hpre : ∀ vm₁, s.WarmedH vm₁ → Pre ⟨T.setVm vm₁, locs, cells, slots⟩ (Value.ref b :: argsL).toArray) :
    ∃ (v : Option Value) (vm₁ : Vm) (B : Pt), s.WarmedH vm₁ ∧ Stand p l e R s m args below meth c B.U B.locs B.cells B.slots ∧ Post ⟨T.setVm vm₁, locs, cells, slots⟩ (Value.ref b :: argsL).toArray v B ∧
      ∀ target, Steps p.tables e below (B.U.setTop { g with pc := g.pc + 3, stack := v.toList ++ rest }) target → Steps p.tables e below (T.setTop g) target := by
  obtain ⟨mk, methM, hnamed, hmethM, hstM, habM⟩ := Cond.instanceMethod_spec hinst
  obtain ⟨m8, methM', cM, hn8, hmethM', -, -, -, -, -, -, hsigM⟩ := Cond.codeWith_spec hcode
  cases Option.some.inj (hn8.symm.trans hnamed)
  cases hmethM.symm.trans hmethM'
  obtain ⟨c2, r2, m2, q1, q2, q3, q4, kP, hkP, hkPi⟩ := Cond.selects_spec hsel
  cases hcls.symm.trans q1
  cases (State.methodFound?_of_named hnamed hy).symm.trans q2
  cases hnamed.symm.trans q3
  have hselP : selectMethod e.platform s.vm cellB.cls mk = .method mk := by rw [Launch.admits_selectMethod X.admits]; exact q4
  obtain ⟨vm₁, X₁, hstep₁⟩ := X.invokevirtual hexec hown hlink hnamed hmethM hstM hkP hkPi hy (a := b) (cell := cellB) hcell
    (fun z h => by rw [h] at hobj; cases hobj) hselP hmethM habM hkP hkPi (g := g) hg (argsL := argsL) (rest := rest) (hlen _ hsigM) hstack hdg
  obtain ⟨v, B, X', hpost, hsteps⟩ := hK m meth c ⟨T.setVm vm₁, locs, cells, slots⟩ { g with stack := rest } (.invokevirtual index) mk (Value.ref b :: argsL).toArray X₁ hg hsize hdg hW (X₁.named hnamed) (hpre vm₁ X₁.warmed)
  exact ⟨v, vm₁, B, X₁.warmed, X', hpost, fun target h => hstep₁ _ fun acts => by rw [doInvoke_state]; exact hsteps.trans h⟩
abbrev vx_CVW (R : Room) (s : State) (args : Array Value) (own C : String) (index : Nat) (y : MethodName) (bytes : ByteArray) (maxL : Nat) (ret : Option FieldType) (hh : List (Nat × Nat × Nat × Nat)) (ws : List Cond) (rm : Room) (mc ms n : Nat) : Prop :=
  (rm.cells = mc ∧ rm.slots = ms ∧ rm.frames + 1 ≤ R.frames ∧ 8 + (maxL + 11) + rm.locals ≤ R.locals ∧ (∀ w ∈ ws, ∀ (a' : Array Value) (U : State), s.WarmedH U.vm → w.before a' U = true) ∧ Cond.codeWith y bytes maxL ret hh ∈ ws) ∧
  (Cond.codeWith y bytes maxL ret hh).before args s = true ∧ (Cond.initialized y.cls).before args s = true ∧ (y.cls ≠ "java/lang/invoke/MethodHandle" ∧ y.cls ≠ "java/lang/invoke/VarHandle") ∧
  (∀ sig, parseMethodDescriptor y.desc = some sig → n = sig.parameters.length) ∧ (Cond.methodLink own index y).before args s = true ∧ (Cond.instanceMethod y).before args s = true ∧ (Cond.selects C y y).before args s = true
theorem vx_cwVW {own C : String} {index maxL mc ms : Nat} {y : MethodName} {bytes : ByteArray} {ret : Option FieldType} {hh : List (Nat × Nat × Nat × Nat)} {Ts ws ws' : List Cond} {rm : Room} (n : Nat) (ht : ∀ w ∈ Ts, w.before args s = true) (hT : GoodIn Ts (wsV own index C y ws)) (hw : ws = Cond.codeWith y bytes maxL ret hh :: ws') (hrc : rm.cells = mc) (hrs : rm.slots = ms)
    (hd : y.cls = C ∧ y.cls ≠ "java/lang/invoke/MethodHandle" ∧ y.cls ≠ "java/lang/invoke/VarHandle" ∧ (parseMethodDescriptor y.desc).map (fun d => d.parameters.length) = some n) (hR : rm.frames + 1 ≤ R.frames ∧ 8 + (maxL + 11) + rm.locals ≤ R.locals) :
    vx_CVW R s args own C index y bytes maxL ret hh ws rm mc ms n := by
  obtain ⟨hC, hd⟩ := hd
  subst hC
  have ok : ∀ w ∈ wsV own index y.cls y ws, w.before args s = true := fun w h => ht w (hT w h).1
  have hG : GoodIn Ts ws := fun w h => hT w (by unfold wsV; exact List.mem_append_right _ h)
  have hc : Cond.codeWith y bytes maxL ret hh ∈ ws := by rw [hw]; exact List.mem_cons_self
  refine ⟨⟨hrc, hrs, hR.1, hR.2, pay_in ht hG, hc⟩, ht _ (hG _ hc).1, ok _ (by simp [wsV]), ⟨hd.1, hd.2.1⟩, fun sig h => ?_, ok _ (by simp [wsV]), ok _ (by simp [wsV]), ok _ (by simp [wsV])⟩
  have h2 := hd.2.2
  rw [h] at h2
  exact (Option.some.inj h2).symm
theorem vx_runVW {y : MethodName} {bytes cc : ByteArray} {maxL nL mc ms n index : Nat} {ret : Option FieldType} {hh : List (Nat × Nat × Nat × Nat)} {ws : List Cond} {rm : Room} {Pc : Array Value → State → Prop} {Qc : Array Value → State → Outcome → State → Prop} {free : Addr → Prop} {Ts : List Cond} {own C : String} {b : Addr} {As rest : List Value} {g : JFrame}
    (S : CallFix p m c cc nL s args Ts own) (hM : Met l y ws rm Pc Qc mc ms free) (cw : vx_CVW R s args own C index y bytes maxL ret hh ws rm mc ms n) (hp : PreV s H C b Pc As)
    (hg : g.method = m) (hn : As.length = n) (hsize : g.locals.size = nL) (hstack : g.stack = As.reverse ++ .ref b :: rest) (hW : 2 * g.monitorRoom + (rest.map fun v => v.category).sum ≤ 8) (hdg : decode cc g.pc = .ok (.invokevirtual index, 3)) (hf : cells + mc ≤ R.cells ∧ slots + ms ≤ R.slots) :
    va_Run p l e R s m args below meth c H locs cells slots mc ms g rest (Qc (Value.ref b :: As).toArray) free := by
  obtain ⟨⟨hrc, hrs, hfr, hlo, hws, hcw⟩, hcode, hini, hy, hlen, hl, hin, hse⟩ := cw
  have hK : Back l R p e below s args y 3 8 (PreOf R mc ms Pc) (PostOf Qc mc ms free) := va_backW (hh := hh) (bytes := bytes) (maxL := maxL) (ret := ret) hM hp.1 hrc hrs hfr hlo hws hcw (fun a' U hW => word_at hW (Or.inl (by first | rfl | simp [Cond.onTables, Cond.keeps, Cond.steady])) hini)
  obtain ⟨hx, hb, hml, ho, -⟩ := S
  obtain ⟨-, ⟨cellB, hcB, hoB, hclB⟩, hPc⟩ := hp
  intro T hT X
  obtain ⟨v, vm₁, ⟨U', l2, c2, s2⟩, hW₁, X', ⟨g', mk, t, L, e1, e2, hq, h1, hL, h2, h3⟩, st⟩ := vx_callVW X hx (C := C) (hh := hh) (bytes := bytes) (maxL := maxL) (ret := ret) ho hl hin hse hcode hy hK (by rw [hT]; exact hcB) hoB hclB hg (hsize.trans hml.symm) (argsL := As) (rest := rest) (fun sig h => hn.trans (hlen sig h)) hstack hW (by rw [hb]; exact hdg)
    (fun vm₁ hW₁ => ⟨hf.1, hf.2, hPc (T.setVm vm₁) hT hW₁⟩)
  dsimp only [Pt.U, Pt.locs, Pt.cells, Pt.slots] at X' e1 e2 h1 h2 h3 st
  subst h1; subst h2; subst h3
  exact ⟨v, (T.setVm vm₁).calling g' mk (Value.ref b :: As).toArray, t, U', L, hT, X', hL, e1, e2, hq, st⟩
section
variable {y : MethodName} {bytes cc : ByteArray} {maxL nL mc ms n index : Nat} {ret : Option FieldType} {ws : List Cond} {rm : Room} {Pc : Array Value → State → Prop} {Qc : Array Value → State → Outcome → State → Prop} {XC : String → State → State → Prop} {free : Addr → Prop} {Ts : List Cond} {own C : String} {b : Addr} {As rest : List Value} {g : JFrame}
theorem vx_runVX {hh : List (Nat × Nat × Nat × Nat)} (S : CallFix p m c cc nL s args Ts own) (hM : vx_Met l y ws rm Pc Qc XC mc ms free) (cw : vx_CVW R s args own C index y bytes maxL ret hh ws rm mc ms n) (hp : PreV s H C b Pc As)
    (hg : g.method = m) (hn : As.length = n) (hsize : g.locals.size = nL) (hstack : g.stack = As.reverse ++ .ref b :: rest) (hW : 2 * g.monitorRoom + (rest.map fun v => v.category).sum ≤ 8) (hdg : decode cc g.pc = .ok (.invokevirtual index, 3)) (hf : cells + mc ≤ R.cells ∧ slots + ms ≤ R.slots) :
    vx_Run p l e R s m args below meth c H locs cells slots mc ms g rest (Qc (Value.ref b :: As).toArray) XC free := by
  obtain ⟨⟨hrc, hrs, hfr, hlo, hws, hcw⟩, hcode, hini, hy, hlen, hl, hin, hse⟩ := cw
  have hK : vx_Back l R p e below s args y 3 8 (PreOf R mc ms Pc) (PostOf Qc mc ms free) (vx_Post XC mc ms free) := vx_backW (hh := hh) (bytes := bytes) (maxL := maxL) (ret := ret) hM hp.1 hrc hrs hfr hlo hws hcw (fun a' U hW => word_at hW (Or.inl (by first | rfl | simp [Cond.onTables, Cond.keeps, Cond.steady])) hini)
  obtain ⟨hx, hb, hml, ho, -⟩ := S
  obtain ⟨-, ⟨cellB, hcB, hoB, hclB⟩, hPc⟩ := hp
  intro T hT X
  rcases vx_callVX X hx (C := C) (hh := hh) (bytes := bytes) (maxL := maxL) (ret := ret) ho hl hin hse hcode hy hK (by rw [hT]; exact hcB) hoB hclB hg (hsize.trans hml.symm) (argsL := As) (rest := rest) (fun sig h => hn.trans (hlen sig h)) hstack hW (by rw [hb]; exact hdg)
    (fun vm₁ hW₁ => ⟨hf.1, hf.2, hPc (T.setVm vm₁) hT hW₁⟩) with ⟨v, vm₁, ⟨U', l2, c2, s2⟩, hW₁, X', ⟨g', mk, t, L, e1, e2, hq, h1, hL, h2, h3⟩, st⟩ | ⟨q, vm₁, ⟨U', l2, c2, s2⟩, hW₁, X', ⟨g', mk, t, L, E, ce, e1, e2, hq, hce, hcv, hcl, h1, hL, h2, h3⟩, st⟩
  · dsimp only [Pt.U, Pt.locs, Pt.cells, Pt.slots] at X' e1 e2 h1 h2 h3 st
    subst h1; subst h2; subst h3
    exact Or.inl ⟨v, (T.setVm vm₁).calling g' mk (Value.ref b :: As).toArray, t, U', L, hT, X', hL, e1, e2, hq, st⟩
  · dsimp only [Pt.U, Pt.locs, Pt.cells, Pt.slots] at X' e1 e2 h1 h2 h3 st hcl
    subst h1; subst h2; subst h3
    exact Or.inr ⟨q, (T.setVm vm₁).calling g' mk (Value.ref b :: As).toArray, t, U', L, E, ce, hT, X', hL, e1, e2, hq, hce, hcv, vx_cls hW₁ hcl, st⟩
theorem vx_runSX {hh : List (Nat × Nat × Nat × Nat)} (S : CallFix p m c cc nL s args Ts own) (hM : vx_Met l y ws rm Pc Qc XC mc ms free) (cw : vx_CSW R s args own index y bytes maxL ret hh ws rm mc ms n) (hp : PreS s H Pc As)
    (hg : g.method = m) (hn : As.length = n) (hsize : g.locals.size = nL) (hstack : g.stack = As.reverse ++ rest) (hW : 2 * g.monitorRoom + (rest.map fun v => v.category).sum ≤ 8) (hdg : decode cc g.pc = .ok (.invokestatic index, 3)) (hf : cells + mc ≤ R.cells ∧ slots + ms ≤ R.slots) :
    vx_Run p l e R s m args below meth c H locs cells slots mc ms g rest (Qc As.toArray) XC free := by
  obtain ⟨⟨hrc, hrs, hfr, hlo, hws, hcw⟩, hcode, hini, hy, hlen, hl, hstt⟩ := cw
  have hK : vx_Back l R p e below s args y 3 8 (PreOf R mc ms Pc) (PostOf Qc mc ms free) (vx_Post XC mc ms free) := vx_backW (hh := hh) (bytes := bytes) (maxL := maxL) (ret := ret) hM hp.1 hrc hrs hfr hlo hws hcw (fun a' U hW => word_at hW (Or.inl (by first | rfl | simp [Cond.onTables, Cond.keeps, Cond.steady])) hini)
  obtain ⟨hx, hb, hml, ho, -⟩ := S
  intro T hT X
  rcases vx_callSX X hx (hh := hh) (bytes := bytes) (maxL := maxL) (ret := ret) ho hl hstt hini hcode hy hK hg (hsize.trans hml.symm) (argsL := As) (rest := rest) (fun sig h => hn.trans (hlen sig h)) hstack hW (by rw [hb]; exact hdg)
    (fun vm₁ hW₁ => ⟨hf.1, hf.2, hp.2 (T.setVm vm₁) hT hW₁⟩) with ⟨v, vm₁, ⟨U', l2, c2, s2⟩, hW₁, X', ⟨g', mk, t, L, e1, e2, hq, h1, hL, h2, h3⟩, st⟩ | ⟨q, vm₁, ⟨U', l2, c2, s2⟩, hW₁, X', ⟨g', mk, t, L, E, ce, e1, e2, hq, hce, hcv, hcl, h1, hL, h2, h3⟩, st⟩
  · dsimp only [Pt.U, Pt.locs, Pt.cells, Pt.slots] at X' e1 e2 h1 h2 h3 st
    subst h1; subst h2; subst h3
    exact Or.inl ⟨v, (T.setVm vm₁).calling g' mk As.toArray, t, U', L, hT, X', hL, e1, e2, hq, st⟩
  · dsimp only [Pt.U, Pt.locs, Pt.cells, Pt.slots] at X' e1 e2 h1 h2 h3 st hcl
    subst h1; subst h2; subst h3
    exact Or.inr ⟨q, (T.setVm vm₁).calling g' mk As.toArray, t, U', L, E, ce, hT, X', hL, e1, e2, hq, hce, hcv, vx_cls hW₁ hcl, st⟩
end
end VXH
theorem vx_ofWH {l : Launch} {y : MethodName} {ws ws' : List Cond} {rm : Room} {Pc : Array Value → State → Prop} {Qc : Array Value → State → Outcome → State → Prop} {XC : String → State → State → Prop} {mc ms : Nat} {free : Addr → Prop} {cc : ByteArray} {maxL : Nat} {ret : Option FieldType} {hh : List (Nat × Nat × Nat × Nat)}
    (hy : plainName y.cls = true) (hw : ws = Cond.codeWith y cc maxL ret hh :: ws')
    (body : ∀ p e s m args below meth c s₁, BodyLoose p l y (headSpec ws rm) cc maxL ret e s m args below meth c s₁ → c.maxLocals = maxL → Pc args s →
      W p l e (headSpec ws rm).room s m args below meth c s.heap [] 0 0 (vx_MQ below Qc XC args s mc ms free) (entryFrame m args maxL)) : vx_Met l y ws rm Pc Qc XC mc ms free := by
  refine MetFree.of_bodyS (code := cc) (maxLocals := maxL) (ret := ret) hy ?_ ?_
  · intro args s m h hn
    obtain ⟨m9, meth, c, hn9, h1, h2, h3, h4, -, h5, h6, -⟩ := Cond.codeWith_spec (atoms_spec (ws := ws) h _ (by rw [hw]; exact List.mem_cons_self))
    cases hn.symm.trans hn9
    exact ⟨meth, c, h1, h2, h3, h4, h5, h6⟩
  · intro p e s m args below meth c s₁ B hml hP _
    have hh0 : s₁.heap = s.heap := by rw [B.state]; rfl
    obtain ⟨t, a1, o, b1, b2, b3⟩ := body p e s m args below meth c s₁ B hml hP s₁ hh0 (Stand.of_body B)
    exact ⟨t, o, a1, b1, b2, b3⟩
/-! ===== END ===== -/
end
section
/-! worlds as lists of cells; a reference is a place in the list -/
abbrev ev_A : Type := FieldType × Nat × ((Nat → Int32) ⊕ (Nat → Int64))
abbrev ev_E : Type := ev_A ⊕ (Nat × List Value)
abbrev ev_H : Type := List ev_E
abbrev ev_R : Type := Nat → Nat × ClassId
abbrev ev_L : Type := List (Option Value)
abbrev ev_O : Type := Option Value × ev_H
abbrev ev_K : Type := ev_L → List Value → ev_H → Option ev_O
abbrev ev_N : Type := List (String × Nat × MethodName × String)
def ev_n {α : Type} : List α → Nat → Option α
  | [], _ => none
  | a :: _, 0 => some a
  | _ :: l, k + 1 => ev_n l k
def ev_s {α : Type} : List α → Nat → α → List α
  | [], _, _ => []
  | _ :: l, 0, x => x :: l
  | a :: l, k + 1, x => a :: ev_s l k x
theorem ev_n_eq {α : Type} : ∀ (l : List α) (k : Nat), ev_n l k = l[k]?
  | [], k => by simp [ev_n]
  | a :: l, 0 => by simp [ev_n]
  | a :: l, k + 1 => by simp [ev_n, ev_n_eq l k]
theorem ev_s_eq {α : Type} : ∀ (l : List α) (k : Nat) (x : α), ev_s l k x = l.set k x
  | [], k, x => by simp [ev_s]
  | a :: l, 0, x => by simp [ev_s]
  | a :: l, k + 1, x => by simp [ev_s, ev_s_eq l k x]
theorem ev_n_s {α : Type} (l : List α) (k j : Nat) (x y : α) (h : ev_n (ev_s l k x) j = some y) : (j = k ∧ y = x) ∨ (j ≠ k ∧ ev_n l j = some y) := by
  rw [ev_n_eq, ev_s_eq, List.getElem?_set] at h
  by_cases hk : k = j
  · subst hk
    rw [if_pos rfl] at h
    split at h
    · cases h
      exact Or.inl ⟨rfl, rfl⟩
    · cases h
  · rw [if_neg hk] at h
    exact Or.inr ⟨fun q => hk q.symm, by rw [ev_n_eq]; exact h⟩
theorem ev_s_len {α : Type} (l : List α) (k : Nat) (x : α) : (ev_s l k x).length = l.length := by rw [ev_s_eq, List.length_set]
/-- a value of the list as a value of the heap: a place's address; 'retAddr b' stands for the address b itself -/
def ev_v (ρ : ev_R) (v : Value) : Value := match v with
  | .ref a => .ref (ρ a).1
  | .retAddr b => .ref b
  | .int x => .int x
  | .long x => .long x
  | .float x => .float x
  | .double x => .double x
  | .null => .null
theorem ev_v_cat (ρ : ev_R) (v : Value) : (ev_v ρ v).category = v.category := by cases v <;> rfl
theorem ev_v_cats (ρ : ev_R) (st : List Value) : ((st.map (ev_v ρ)).map fun v => v.category) = st.map fun v => v.category := by
  rw [List.map_map]
  exact List.map_congr_left fun v _ => ev_v_cat ρ v
def ev_e (ρ : ev_R) (k : Nat) (x : ev_E) : va_E := match x with
  | .inl (_, n, .inl f) => .inl ((ρ k).2, n, .inl f)
  | .inl (_, n, .inr f) => .inl ((ρ k).2, n, .inr (.inl f))
  | .inr (ci, fs) => .inr (ci, fs.map (ev_v ρ))
def ev_w (ρ : ev_R) (A : ev_H) : va_W := A.mapIdx fun k x => ((ρ k).1, ev_e ρ k x)
theorem ev_w_get (ρ : ev_R) (A : ev_H) (k : Nat) : (ev_w ρ A)[k]? = A[k]?.map (fun x => ((ρ k).1, ev_e ρ k x)) := by
  unfold ev_w
  rw [List.getElem?_mapIdx]
theorem ev_w_at {ρ : ev_R} {A : ev_H} {k : Nat} {x : ev_E} (h : ev_n A k = some x) : (ev_w ρ A)[k]? = some ((ρ k).1, ev_e ρ k x) := by
  rw [ev_w_get, ← ev_n_eq, h]
  rfl
theorem ev_w_len (ρ : ev_R) (A : ev_H) : (ev_w ρ A).length = A.length := by unfold ev_w; exact List.length_mapIdx
theorem ev_w_set (ρ : ev_R) (A : ev_H) (k : Nat) (x : ev_E) : ev_w ρ (ev_s A k x) = (ev_w ρ A).set k ((ρ k).1, ev_e ρ k x) := by
  apply List.ext_getElem?
  intro i
  rw [ev_w_get, ev_s_eq, List.getElem?_set, List.getElem?_set, ev_w_len, ev_w_get]
  by_cases h : k = i
  · subst h
    rw [if_pos rfl, if_pos rfl]
    by_cases hl : k < A.length
    · rw [if_pos hl, if_pos hl]
      rfl
    · rw [if_neg hl, if_neg hl]
      rfl
  · rw [if_neg h, if_neg h]
def ev_okv (n : Nat) (v : Value) : Bool := match v with
  | .ref a => Nat.blt a n
  | _ => true
def ev_okl (n : Nat) : ev_L → Bool
  | [] => true
  | none :: l => ev_okl n l
  | some v :: l => ev_okv n v && ev_okl n l
def ev_oks (n : Nat) : List Value → Bool
  | [] => true
  | v :: l => ev_okv n v && ev_oks n l
def ev_okh (n : Nat) : ev_H → Bool
  | [] => true
  | .inl _ :: l => ev_okh n l
  | .inr (_, fs) :: l => ev_oks n fs && ev_okh n l
theorem ev_okv_eq {n : Nat} {ρ ρ' : ev_R} (ha : ∀ k, k < n → ρ' k = ρ k) {v : Value} (h : ev_okv n v = true) : ev_v ρ' v = ev_v ρ v := by
  cases v with
  | ref a =>
    have : a < n := by simpa [ev_okv, Nat.blt_eq] using h
    show Value.ref (ρ' a).1 = Value.ref (ρ a).1
    rw [ha a this]
  | _ => rfl
theorem ev_oks_eq {n : Nat} {ρ ρ' : ev_R} (ha : ∀ k, k < n → ρ' k = ρ k) : ∀ {st : List Value}, ev_oks n st = true → st.map (ev_v ρ') = st.map (ev_v ρ)
  | [], _ => rfl
  | v :: st, h => by
    simp only [ev_oks, Bool.and_eq_true] at h
    rw [List.map_cons, List.map_cons, ev_okv_eq ha h.1, ev_oks_eq ha h.2]
theorem ev_okl_eq {n : Nat} {ρ ρ' : ev_R} (ha : ∀ k, k < n → ρ' k = ρ k) : ∀ {lo : ev_L}, ev_okl n lo = true → ∀ (i : Nat) (v : Value), ev_n lo i = some (some v) → ev_v ρ' v = ev_v ρ v
  | [], _, i, v, hi => by simp [ev_n] at hi
  | none :: lo, h, 0, v, hi => by simp [ev_n] at hi
  | none :: lo, h, i + 1, v, hi => ev_okl_eq ha (lo := lo) h i v hi
  | some u :: lo, h, 0, v, hi => by
    simp only [ev_okl, Bool.and_eq_true] at h
    simp only [ev_n, Option.some.injEq] at hi
    subst hi
    exact ev_okv_eq ha h.1
  | some u :: lo, h, i + 1, v, hi => by
    simp only [ev_okl, Bool.and_eq_true] at h
    exact ev_okl_eq ha (lo := lo) h.2 i v hi
theorem ev_okh_eq {n : Nat} {ρ ρ' : ev_R} (ha : ∀ k, k < n → ρ' k = ρ k) : ∀ {A : ev_H}, ev_okh n A = true → ∀ (i : Nat) (x : ev_E), A[i]? = some x → i < n → ev_e ρ' i x = ev_e ρ i x
  | [], _, i, x, hi, _ => by simp at hi
  | a :: A, h, i, x, hi, hn => by
    have key : ∀ (j : Nat), j < n → ev_okh n [x] = true → ev_e ρ' j x = ev_e ρ j x := by
      intro j hj hx
      rcases x with ⟨ty, N, f | f⟩ | ⟨ci, fs⟩
      · show (Sum.inl ((ρ' j).2, N, Sum.inl f) : va_E) = Sum.inl ((ρ j).2, N, Sum.inl f)
        rw [ha j hj]
      · show (Sum.inl ((ρ' j).2, N, Sum.inr (Sum.inl f)) : va_E) = Sum.inl ((ρ j).2, N, Sum.inr (Sum.inl f))
        rw [ha j hj]
      · simp only [ev_okh, Bool.and_true] at hx
        show (Sum.inr (ci, fs.map (ev_v ρ')) : va_E) = Sum.inr (ci, fs.map (ev_v ρ))
        rw [ev_oks_eq ha hx]
    have mem : ∀ (B : ev_H) (j : Nat), ev_okh n B = true → B[j]? = some x → ev_okh n [x] = true := by
      intro B
      induction B with
      | nil => intro j _ h; simp at h
      | cons b B ih =>
        intro j hb hj
        cases j with
        | zero =>
          simp only [List.getElem?_cons_zero, Option.some.injEq] at hj
          subst hj
          rcases b with b | ⟨ci, fs⟩
          · rfl
          · simp only [ev_okh, Bool.and_eq_true] at hb
            simp only [ev_okh, Bool.and_true]
            exact hb.1
        | succ j =>
          rw [List.getElem?_cons_succ] at hj
          refine ih j ?_ hj
          rcases b with b | ⟨ci, fs⟩
          · exact hb
          · simp only [ev_okh, Bool.and_eq_true] at hb
            exact hb.2
    exact key i hn (mem (a :: A) i h hi)
theorem ev_w_eq {ρ ρ' : ev_R} {A : ev_H} (ha : ∀ k, k < A.length → ρ' k = ρ k) (h : ev_okh A.length A = true) : ev_w ρ' A = ev_w ρ A := by
  apply List.ext_getElem?
  intro i
  rw [ev_w_get, ev_w_get]
  cases hi : A[i]? with
  | none => rfl
  | some x =>
    have hl : i < A.length := (List.getElem?_eq_some_iff.mp hi).1
    show some ((ρ' i).1, ev_e ρ' i x) = some ((ρ i).1, ev_e ρ i x)
    rw [ha i hl, ev_okh_eq ha h i x hi hl]
def ev_up (ρ : ev_R) (n q : Nat) (c : ClassId) : ev_R := fun k => if k = n then (q, c) else ρ k
theorem ev_up_lt {ρ : ev_R} {n q : Nat} {c : ClassId} (k : Nat) (h : k < n) : ev_up ρ n q c k = ρ k := by
  unfold ev_up
  rw [if_neg (by omega)]
theorem ev_up_at {ρ : ev_R} {n q : Nat} {c : ClassId} : ev_up ρ n q c n = (q, c) := by
  unfold ev_up
  rw [if_pos rfl]
theorem ev_w_push {ρ : ev_R} {A : ev_H} {q : Nat} {c : ClassId} {x : ev_E} (h : ev_okh A.length A = true) : ev_w (ev_up ρ A.length q c) (A ++ [x]) = ev_w ρ A ++ [(q, ev_e (ev_up ρ A.length q c) A.length x)] := by
  have h1 : ev_w (ev_up ρ A.length q c) (A ++ [x]) = ev_w (ev_up ρ A.length q c) A ++ [((ev_up ρ A.length q c A.length).1, ev_e (ev_up ρ A.length q c) A.length x)] := by
    unfold ev_w
    rw [List.mapIdx_append]
    simp
  rw [h1, ev_w_eq (ρ' := ev_up ρ A.length q c) (ρ := ρ) (fun k hk => ev_up_lt k hk) h, ev_up_at]
def ev_T (ρ : ev_R) (A : ev_H) (U : State) : Prop := ∀ (k : Nat) (ty : FieldType) (x : Nat × ((Nat → Int32) ⊕ (Nat → Int64))), A[k]? = some (.inl (ty, x)) → ArrOfT U (ρ k).2 ty ∧ va_RA U (ρ k).2 ty
theorem ev_T.moved {ρ : ev_R} {A : ev_H} {u U : State} (hvm : u.vm.Alike U.vm) (h : ev_T ρ A u) : ev_T ρ A U := fun k ty x hk => ⟨arrOfT_moved hvm (h k ty x hk).1, (h k ty x hk).2.moved hvm⟩
theorem ev_T.set {ρ : ev_R} {A : ev_H} {U : State} (h : ev_T ρ A U) {k : Nat} {ty : FieldType} {x y : Nat × ((Nat → Int32) ⊕ (Nat → Int64))} (hk : ev_n A k = some (.inl (ty, x))) : ev_T ρ (ev_s A k (.inl (ty, y))) U := by
  intro j t z hj
  rw [← ev_n_eq] at hj
  rcases ev_n_s _ _ _ _ _ hj with ⟨rfl, e⟩ | ⟨_, e⟩
  · cases e
    exact h j ty x (by rw [← ev_n_eq]; exact hk)
  · exact h j t z (by rw [← ev_n_eq]; exact e)
theorem ev_T.seto {ρ : ev_R} {A : ev_H} {U : State} (h : ev_T ρ A U) {k : Nat} {x : Nat × List Value} : ev_T ρ (ev_s A k (.inr x)) U := by
  intro j t z hj
  rw [← ev_n_eq] at hj
  rcases ev_n_s _ _ _ _ _ hj with ⟨rfl, e⟩ | ⟨_, e⟩
  · cases e
  · exact h j t z (by rw [← ev_n_eq]; exact e)
/-- the array at place k is of type ty -/
theorem ev_T.K {ρ : ev_R} {A : ev_H} {U : State} {D : va_G} {cl : List vw_C} (h : ev_T ρ A U) (hK : va_K D cl [] U) {k : Nat} {ty : FieldType} {x : Nat × ((Nat → Int32) ⊕ (Nat → Int64))} (hk : ev_n A k = some (.inl (ty, x))) : va_K D cl [((ρ k).2, ty)] U := by
  refine ⟨hK.1, fun j q hj => ?_⟩
  cases j with
  | zero =>
    simp only [List.getElem?_cons_zero, Option.some.injEq] at hj
    subst hj
    exact h k ty x (by rw [← ev_n_eq]; exact hk)
  | succ j => simp at hj
def ev_wd (D : va_G) (cl : List vw_C) (A : Nat → Prop) (s : State) (ρ0 : ev_R) (n0 : Nat) (ρ : ev_R) (hp : ev_H) (H : Heap) (locs : List Loc) : Prop :=
  va_P D cl (ev_w ρ hp) H ∧ va_D A (ev_w ρ hp) ∧ va_S A s.heap H locs ∧ ev_T ρ hp s ∧ n0 ≤ hp.length ∧ ∀ k, k < n0 → ρ k = ρ0 k
/-! locals -/
def ev_lo (ρ : ev_R) (ls : Array Slot) (nL : Nat) (lo : ev_L) : Prop := ls.size = nL ∧ lv_wf ls ∧ ∀ (i : Nat) (v : Value), ev_n lo i = some (some v) → ls[i]? = some (.val (ev_v ρ v))
def ev_a1 (ρ : ev_R) (lo : ev_L) (i : Nat) : Option (Nat × Value) := match ev_n lo i with
  | some (some v) => some (i, ev_v ρ v)
  | _ => none
def ev_as (ρ : ev_R) (lo : ev_L) : List (Nat × Value) := (List.range lo.length).filterMap (ev_a1 ρ lo)
theorem ev_lo.has {ρ : ev_R} {ls : Array Slot} {nL : Nat} {lo : ev_L} (h : ev_lo ρ ls nL lo) : lv_has ls nL (ev_as ρ lo) := by
  refine ⟨h.1, h.2.1, fun q hq => ?_⟩
  obtain ⟨i, -, hi⟩ := List.mem_filterMap.mp hq
  unfold ev_a1 at hi
  split at hi
  · rename_i v hv
    cases hi
    exact h.2.2 i v hv
  · cases hi
theorem ev_n_lt {α : Type} {l : List α} {i : Nat} {x : α} (h : ev_n l i = some x) : i < l.length := by
  rw [ev_n_eq] at h
  exact (List.getElem?_eq_some_iff.mp h).1
theorem ev_as_mem {ρ : ev_R} {lo : ev_L} {i : Nat} {v : Value} (h : ev_n lo i = some (some v)) : (i, ev_v ρ v) ∈ ev_as ρ lo := by
  refine List.mem_filterMap.mpr ⟨i, List.mem_range.mpr (ev_n_lt h), ?_⟩
  unfold ev_a1
  rw [h]
def ev_pw (lo : ev_L) (j : Nat) : ev_L := match ev_n lo j with
  | some (some (.long _)) => ev_s lo j none
  | some (some (.double _)) => ev_s lo j none
  | _ => lo
def ev_pv (lo : ev_L) : Nat → ev_L
  | 0 => lo
  | j + 1 => ev_pw lo j
def ev_st (lo : ev_L) (i : Nat) (v : Value) : ev_L := ev_s (ev_pv lo i) i (some v)
theorem ev_st_n {lo : ev_L} {i j : Nat} {v u : Value} (h : ev_n (ev_st lo i v) j = some (some u)) : (j = i ∧ u = v) ∨ (j ≠ i ∧ ev_n lo j = some (some u) ∧ ¬ (j + 1 = i ∧ u.category = 2)) := by
  unfold ev_st at h
  rcases ev_n_s _ _ _ _ _ h with ⟨a, b⟩ | ⟨a, b⟩
  · cases b
    exact Or.inl ⟨a, rfl⟩
  · refine Or.inr ⟨a, ?_⟩
    cases i with
    | zero => exact ⟨b, fun q => by omega⟩
    | succ i =>
      have b2 : ev_n (ev_pw lo i) j = some (some u) := b
      clear b
      unfold ev_pw at b2
      split at b2
      · rename_i x hx
        rcases ev_n_s _ _ _ _ _ b2 with ⟨_, b⟩ | ⟨a1, b⟩
        · cases b
        · exact ⟨b, fun q => a1 (by omega)⟩
      · rename_i x hx
        rcases ev_n_s _ _ _ _ _ b2 with ⟨_, b⟩ | ⟨a1, b⟩
        · cases b
        · exact ⟨b, fun q => a1 (by omega)⟩
      · rename_i h1 h2
        refine ⟨b2, fun q => ?_⟩
        obtain ⟨q1, q2⟩ := q
        have : j = i := by omega
        subst this
        cases u with
        | long z => exact h1 z b2
        | double z => exact h2 z b2
        | _ => simp [Value.category] at q2
theorem ev_lo.store {ρ : ev_R} {ls ls' : Array Slot} {nL i : Nat} {lo : ev_L} {v : Value} (h : lv_has ls' nL ((i, ev_v ρ v) :: (ev_as ρ lo).filter (fun q => !(q.1 == i) && !(q.1 + 1 == i && q.2.category == 2)))) : ev_lo ρ ls' nL (ev_st lo i v) := by
  refine ⟨h.1, h.2.1, fun j u hj => ?_⟩
  rcases ev_st_n hj with ⟨rfl, rfl⟩ | ⟨a, b, d⟩
  · exact h.2.2 _ List.mem_cons_self
  · refine h.2.2 (j, ev_v ρ u) (List.mem_cons_of_mem _ (List.mem_filter.mpr ⟨ev_as_mem b, ?_⟩))
    simp only [Bool.and_eq_true, Bool.not_eq_true', beq_eq_false_iff_ne, ne_eq, Bool.and_eq_false_iff, ev_v_cat]
    refine ⟨a, ?_⟩
    by_cases h1 : j + 1 = i
    · exact Or.inr fun q => d ⟨h1, q⟩
    · exact Or.inl h1
theorem ev_lo.to {ρ ρ' : ev_R} {ls : Array Slot} {nL : Nat} {lo : ev_L} (h : ev_lo ρ ls nL lo) (he : ∀ (i : Nat) (v : Value), ev_n lo i = some (some v) → ev_v ρ' v = ev_v ρ v) : ev_lo ρ' ls nL lo := ⟨h.1, h.2.1, fun i v hi => by rw [he i v hi]; exact h.2.2 i v hi⟩
/-- what is dead is forgotten: only the places of the list ks stay -/
def ev_keep : List Bool → ev_L → ev_L
  | [], _ => []
  | _ :: _, [] => []
  | true :: b, v :: lo => v :: ev_keep b lo
  | false :: b, _ :: lo => none :: ev_keep b lo
theorem ev_keep_n : ∀ {b : List Bool} {lo : ev_L} {i : Nat} {v : Value}, ev_n (ev_keep b lo) i = some (some v) → ev_n lo i = some (some v)
  | [], lo, i, v, h => by simp [ev_keep, ev_n] at h
  | _ :: _, [], i, v, h => by simp [ev_keep, ev_n] at h
  | true :: b, x :: lo, 0, v, h => h
  | false :: b, x :: lo, 0, v, h => by simp [ev_keep, ev_n] at h
  | true :: b, x :: lo, i + 1, v, h => ev_keep_n (b := b) (lo := lo) (i := i) h
  | false :: b, x :: lo, i + 1, v, h => ev_keep_n (b := b) (lo := lo) (i := i) h
theorem ev_lo.keep {ρ : ev_R} {ls : Array Slot} {nL : Nat} {lo : ev_L} (b : List Bool) (h : ev_lo ρ ls nL lo) : ev_lo ρ ls nL (ev_keep b lo) := ⟨h.1, h.2.1, fun i v hi => h.2.2 i v (ev_keep_n hi)⟩
/-- a method's locals at its entry -/
def ev_ent : Nat → List Value → ev_L
  | 0, _ => []
  | n + 1, [] => none :: ev_ent n []
  | n + 1, .long x :: vs => match n with
    | 0 => [some (.long x)]
    | n + 1 => some (.long x) :: none :: ev_ent n vs
  | n + 1, .double x :: vs => match n with
    | 0 => [some (.double x)]
    | n + 1 => some (.double x) :: none :: ev_ent n vs
  | n + 1, v :: vs => some v :: ev_ent n vs
theorem ev_ent_nil : ∀ (n i : Nat) (v : Value), ¬ ev_n (ev_ent n []) i = some (some v)
  | 0, i, v => by simp [ev_ent, ev_n]
  | n + 1, 0, v => by simp [ev_ent, ev_n]
  | n + 1, i + 1, v => by
    intro h
    exact ev_ent_nil n i v (by simpa [ev_ent, ev_n] using h)
theorem ev_ent_n (ρ : ev_R) : ∀ (n : Nat) (vs : List Value) (i j : Nat) (v : Value), ev_n (ev_ent n vs) i = some (some v) → (j + i, ev_v ρ v) ∈ lv_args j (vs.map (ev_v ρ))
  | 0, vs, i, j, v, h => by simp [ev_ent, ev_n] at h
  | n + 1, [], i, j, v, h => absurd h (ev_ent_nil (n + 1) i v)
  | n + 1, u :: vs, i, j, v, h => by
    have one : u.category = 1 → ev_n (some u :: ev_ent n vs) i = some (some v) → (j + i, ev_v ρ v) ∈ lv_args j ((u :: vs).map (ev_v ρ)) := by
      intro hc h
      rw [List.map_cons, lv_args, ev_v_cat, hc, if_neg (by decide)]
      cases i with
      | zero =>
        simp only [ev_n, Option.some.injEq] at h
        subst h
        exact List.mem_cons_self
      | succ i =>
        have := ev_ent_n ρ n vs i (j + 1) v h
        rw [show j + (i + 1) = j + 1 + i by omega]
        exact List.mem_cons_of_mem _ this
    have two : u.category = 2 → ∀ n', ev_n (some u :: none :: ev_ent n' vs) i = some (some v) → n' < n + 1 → (j + i, ev_v ρ v) ∈ lv_args j ((u :: vs).map (ev_v ρ)) := by
      intro hc n' h hn'
      rw [List.map_cons, lv_args, ev_v_cat, hc, if_pos rfl]
      match i, h with
      | 0, h =>
        simp only [ev_n, Option.some.injEq] at h
        subst h
        exact List.mem_cons_self
      | 1, h => simp [ev_n] at h
      | i + 2, h =>
        have := ev_ent_n ρ n' vs i (j + 2) v h
        rw [show j + (i + 2) = j + 2 + i by omega]
        exact List.mem_cons_of_mem _ this
    have two1 : u.category = 2 → ev_n [some u] i = some (some v) → (j + i, ev_v ρ v) ∈ lv_args j ((u :: vs).map (ev_v ρ)) := by
      intro hc h
      rw [List.map_cons, lv_args]
      cases i with
      | zero =>
        simp only [ev_n, Option.some.injEq] at h
        subst h
        exact List.mem_cons_self
      | succ i => simp [ev_n] at h
    cases u with
    | long x =>
      cases n with
      | zero => exact two1 rfl h
      | succ n => exact two rfl n h (by omega)
    | double x =>
      cases n with
      | zero => exact two1 rfl h
      | succ n => exact two rfl n h (by omega)
    | int x => exact one rfl h
    | float x => exact one rfl h
    | null => exact one rfl h
    | ref x => exact one rfl h
    | retAddr x => exact one rfl h
termination_by n => n
theorem ev_ent_lo {ρ : ev_R} {ls : Array Slot} {nL : Nat} {as : List Value} (h : lv_has ls nL (lv_args 0 (as.map (ev_v ρ)))) : ev_lo ρ ls nL (ev_ent nL as) := by
  refine ⟨h.1, h.2.1, fun i v hi => ?_⟩
  have := ev_ent_n ρ nL as i 0 v hi
  rw [Nat.zero_add] at this
  exact h.2.2 _ this
end
section
/-! kinds, nest words and words of the tables; code, size of locals, answer's type, name, room, cells, slots; the machine's own state -/
abbrev ev_ga : Type := List vw_C × ev_N × List Jvm.Cond
abbrev ev_mu : Type := ByteArray × Nat × Option FieldType × MethodName × Room × Nat × Nat
abbrev ev_ka : Type := Program × Env × State × MethodId × Array Value × List Frame × Method × Code × (State → Prop) × (Nat → Prop) × ev_R × Nat × (ev_O → Prop)
def isB (x : Int32) : Bool := decide (x = 0 ∨ x = 1)
theorem isB_or {x : Int32} (h : isB x = true) : x = 0 ∨ x = 1 := of_decide_eq_true h
def ev_rd (cc : ByteArray) (ret : Option FieldType) (pc : Nat) (v : Option Value) : Prop := match v with
  | none => ret = none ∧ decode cc pc = .ok (.return_, 1)
  | some (.int x) => decode cc pc = .ok (.ireturn, 1) ∧ (ret = some .int ∨ (ret = some .boolean ∧ isB x = true))
  | _ => False
def ev_Ex (l : Launch) (D : va_G) (γ : ev_ga) (μ : ev_mu) (p : Program) (e : Env) (s : State) (m : MethodId) (args : Array Value) (below : List Frame) (meth : Method) (c : Code) (Q : State → Prop) (A : Nat → Prop) (ρ0 : ev_R) (n0 : Nat) (o : ev_O) : Prop :=
  ∀ (pc : Nat) (ρ : ev_R) (ls : Array Slot) (H : Heap) (locs : List Loc), ev_rd μ.1 μ.2.2.1 pc o.1 → ev_wd D γ.1 A s ρ0 n0 ρ o.2 H locs → W p l e μ.2.2.2.2.1 s m args below meth c H locs μ.2.2.2.2.2.1 μ.2.2.2.2.2.2 Q (F0 m pc ls (o.1.toList.map (ev_v ρ)))
def ev_X (l : Launch) (D : va_G) (γ : ev_ga) (μ : ev_mu) (κ : ev_ka) : Prop := match κ with
  | (p, e, s, m, args, below, meth, c, Q, A, ρ0, n0, Ex) => p.tables.exec = Jvm.exec ∧ c.code = μ.1 ∧ c.maxLocals = μ.2.1 ∧ s.vm.findClass μ.2.2.2.1.cls = some m.cls ∧ (∀ w ∈ γ.2.2, w.before args s = true) ∧ va_K D γ.1 [] s ∧ (∀ q, s.heap.size ≤ q → A q) ∧ (∀ q ∈ γ.2.1, va_Nw (.methodLinkNest q.1 q.2.1 q.2.2.1 q.2.2.2) s) ∧ meth.name = μ.2.2.2.1.name ∧ ∀ o, Ex o → ev_Ex l D γ μ p e s m args below meth c Q A ρ0 n0 o
def ev_J {β : Type} (l : Launch) (D : va_G) (γ : ev_ga) (μ : ev_mu) (κ : ev_ka) (pc ce sl : Nat) (lo : ev_L) (st : List Value) (hp : ev_H) (y : Option β) (w : β → ev_O) : Prop := match κ with
  | (p, e, s, m, args, below, meth, c, Q, A, ρ0, n0, Ex) => ∀ (q : β), y = some q → Ex (w q) → ∀ (ρ : ev_R) (ls : Array Slot) (H : Heap) (locs : List Loc), ev_lo ρ ls μ.2.1 lo → ev_wd D γ.1 A s ρ0 n0 ρ hp H locs → W p l e μ.2.2.2.2.1 s m args below meth c H locs ce sl Q (F0 m pc ls (st.map (ev_v ρ)))
abbrev ix (i : Int32) : Nat := i.toNatClampNeg
def inb (i : Int32) (n : Nat) : Bool := decide (¬ (i < 0 ∨ n ≤ i.toNatClampNeg))
def nz (x : Int32) : Bool := decide (¬ x = 0)
def nzL (x : Int64) : Bool := decide (¬ x = 0)
theorem inb_in {i : Int32} {n : Nat} (h : inb i n = true) : vp_in i n := by
  have h1 : ¬ (i < 0 ∨ n ≤ i.toNatClampNeg) := of_decide_eq_true h
  exact h1
theorem nz_ne {x : Int32} (h : nz x = true) : ¬ x = 0 := of_decide_eq_true h
theorem nzL_ne {x : Int64} (h : nzL x = true) : ¬ x = 0 := of_decide_eq_true h
def ck {α : Type} (b : Bool) (k : Option α) : Option α := match b with
  | true => k
  | false => none
theorem ck_t {α : Type} {b : Bool} {k : Option α} {x : α} (h : ck b k = some x) : b = true ∧ k = some x := by
  cases b with
  | true => exact ⟨rfl, h⟩
  | false => cases h
def bd {α β : Type} (x : Option α) (k : α → Option β) : Option β := match x with
  | some a => k a
  | none => none
theorem bd_t {α β : Type} {x : Option α} {k : α → Option β} {z : β} (h : bd x k = some z) : ∃ a, x = some a ∧ k a = some z := by
  cases x with
  | some a => exact ⟨a, rfl, h⟩
  | none => cases h
section EVR
variable {β : Type} {l : Launch} {D : va_G} {γ : ev_ga} {μ : ev_mu} {κ : ev_ka} {pc n ce sl : Nat} {lo : ev_L} {st : List Value} {hp : ev_H} {y : Option β} {w : β → ev_O}
theorem js_iconst {i : Int} (v : Int32) (X : ev_X l D γ μ κ) (hd : decode μ.1 pc = .ok (.iconst i, 1)) (hn : pc + 1 = n) (hv : Int32.ofInt i = v) (hk : ev_J l D γ μ κ n ce sl lo (.int v :: st) hp y w) : ev_J l D γ μ κ pc ce sl lo (st) hp (y) w := by
  obtain ⟨p, e, s, m, args, below, meth, c, Q, A, ρ0, n0, Ex⟩ := κ
  subst hn
  intro q hy E ρ ls H locs hl hw
  exact lv_iconst X.1 X.2.1 hd hv (hk q hy E ρ ls H locs hl hw)
theorem js_bipush {i : Int} (v : Int32) (X : ev_X l D γ μ κ) (hd : decode μ.1 pc = .ok (.bipush i, 2)) (hn : pc + 2 = n) (hv : (Int8.ofInt i).toInt32 = v) (hk : ev_J l D γ μ κ n ce sl lo (.int v :: st) hp y w) : ev_J l D γ μ κ pc ce sl lo (st) hp (y) w := by
  obtain ⟨p, e, s, m, args, below, meth, c, Q, A, ρ0, n0, Ex⟩ := κ
  subst hn
  intro q hy E ρ ls H locs hl hw
  exact lv_bipush X.1 X.2.1 hd hv (hk q hy E ρ ls H locs hl hw)
theorem js_sipush {i : Int} (v : Int32) (X : ev_X l D γ μ κ) (hd : decode μ.1 pc = .ok (.sipush i, 3)) (hn : pc + 3 = n) (hv : (Int16.ofInt i).toInt32 = v) (hk : ev_J l D γ μ κ n ce sl lo (.int v :: st) hp y w) : ev_J l D γ μ κ pc ce sl lo (st) hp (y) w := by
  obtain ⟨p, e, s, m, args, below, meth, c, Q, A, ρ0, n0, Ex⟩ := κ
  subst hn
  intro q hy E ρ ls H locs hl hw
  exact lv_sipush X.1 X.2.1 hd hv (hk q hy E ρ ls H locs hl hw)
theorem js_lconst {i : Fin 2} (v : Int64) (X : ev_X l D γ μ κ) (hd : decode μ.1 pc = .ok (.lconst i, 1)) (hn : pc + 1 = n) (hv : Int64.ofNat (i : Nat) = v) (hk : ev_J l D γ μ κ n ce sl lo (.long v :: st) hp y w) : ev_J l D γ μ κ pc ce sl lo (st) hp (y) w := by
  obtain ⟨p, e, s, m, args, below, meth, c, Q, A, ρ0, n0, Ex⟩ := κ
  subst hn
  intro q hy E ρ ls H locs hl hw
  exact lv_lconst X.1 X.2.1 hd hv (hk q hy E ρ ls H locs hl hw)
theorem js_ldc {i : Nat} {v : Int32} (X : ev_X l D γ μ κ) (hd : decode μ.1 pc = .ok (.ldc i, 2)) (hn : pc + 2 = n) (hv : Jvm.Cond.constant μ.2.2.2.1.cls i v ∈ γ.2.2) (hk : ev_J l D γ μ κ n ce sl lo (.int v :: st) hp y w) : ev_J l D γ μ κ pc ce sl lo (st) hp (y) w := by
  obtain ⟨p, e, s, m, args, below, meth, c, Q, A, ρ0, n0, Ex⟩ := κ
  subst hn
  intro q hy E ρ ls H locs hl hw
  exact lv_ldc X.1 X.2.1 X.2.2.2.1 (X.2.2.2.2.1 _ hv) hd (hk q hy E ρ ls H locs hl hw)
theorem js_ldcw {i : Nat} {v : Int32} (X : ev_X l D γ μ κ) (hd : decode μ.1 pc = .ok (.ldc_w i, 3)) (hn : pc + 3 = n) (hv : Jvm.Cond.constant μ.2.2.2.1.cls i v ∈ γ.2.2) (hk : ev_J l D γ μ κ n ce sl lo (.int v :: st) hp y w) : ev_J l D γ μ κ pc ce sl lo (st) hp (y) w := by
  obtain ⟨p, e, s, m, args, below, meth, c, Q, A, ρ0, n0, Ex⟩ := κ
  subst hn
  intro q hy E ρ ls H locs hl hw
  exact lv_ldcw X.1 X.2.1 X.2.2.2.1 (X.2.2.2.2.1 _ hv) hd (hk q hy E ρ ls H locs hl hw)
theorem js_ldc2 {i : Nat} {v : Int64} (X : ev_X l D γ μ κ) (hd : decode μ.1 pc = .ok (.ldc2_w i, 3)) (hn : pc + 3 = n) (hv : Jvm.Cond.constantLong μ.2.2.2.1.cls i v ∈ γ.2.2) (hk : ev_J l D γ μ κ n ce sl lo (.long v :: st) hp y w) : ev_J l D γ μ κ pc ce sl lo (st) hp (y) w := by
  obtain ⟨p, e, s, m, args, below, meth, c, Q, A, ρ0, n0, Ex⟩ := κ
  subst hn
  intro q hy E ρ ls H locs hl hw
  exact lv_ldc2 X.1 X.2.1 X.2.2.2.1 (X.2.2.2.2.1 _ hv) hd (hk q hy E ρ ls H locs hl hw)
theorem js_iload {i : Nat} {x : Int32} (X : ev_X l D γ μ κ) (hd : decode μ.1 pc = .ok (.iload i, 2)) (hn : pc + 2 = n) (hx : ev_n lo i = some (some (.int x))) (hk : ev_J l D γ μ κ n ce sl lo (.int x :: st) hp y w) : ev_J l D γ μ κ pc ce sl lo (st) hp (y) w := by
  obtain ⟨p, e, s, m, args, below, meth, c, Q, A, ρ0, n0, Ex⟩ := κ
  subst hn
  intro q hy E ρ ls H locs hl hw
  exact lv_iload X.1 X.2.1 hd (hl.2.2 i _ hx) (hk q hy E ρ ls H locs hl hw)
theorem js_iload_n {i : Nat} {j : Fin 4} {x : Int32} (X : ev_X l D γ μ κ) (hd : decode μ.1 pc = .ok (.iload_n j, 1)) (hn : pc + 1 = n) (hj : (j : Nat) = i) (hx : ev_n lo i = some (some (.int x))) (hk : ev_J l D γ μ κ n ce sl lo (.int x :: st) hp y w) : ev_J l D γ μ κ pc ce sl lo (st) hp (y) w := by
  obtain ⟨p, e, s, m, args, below, meth, c, Q, A, ρ0, n0, Ex⟩ := κ
  subst hn
  intro q hy E ρ ls H locs hl hw
  exact lv_iload_n X.1 X.2.1 hd hj (hl.2.2 i _ hx) (hk q hy E ρ ls H locs hl hw)
theorem js_lload {i : Nat} {x : Int64} (X : ev_X l D γ μ κ) (hd : decode μ.1 pc = .ok (.lload i, 2)) (hn : pc + 2 = n) (hx : ev_n lo i = some (some (.long x))) (hk : ev_J l D γ μ κ n ce sl lo (.long x :: st) hp y w) : ev_J l D γ μ κ pc ce sl lo (st) hp (y) w := by
  obtain ⟨p, e, s, m, args, below, meth, c, Q, A, ρ0, n0, Ex⟩ := κ
  subst hn
  intro q hy E ρ ls H locs hl hw
  exact lv_lload X.1 X.2.1 hd (hl.2.2 i _ hx) (hk q hy E ρ ls H locs hl hw)
theorem js_lload_n {i : Nat} {j : Fin 4} {x : Int64} (X : ev_X l D γ μ κ) (hd : decode μ.1 pc = .ok (.lload_n j, 1)) (hn : pc + 1 = n) (hj : (j : Nat) = i) (hx : ev_n lo i = some (some (.long x))) (hk : ev_J l D γ μ κ n ce sl lo (.long x :: st) hp y w) : ev_J l D γ μ κ pc ce sl lo (st) hp (y) w := by
  obtain ⟨p, e, s, m, args, below, meth, c, Q, A, ρ0, n0, Ex⟩ := κ
  subst hn
  intro q hy E ρ ls H locs hl hw
  exact lv_lload_n X.1 X.2.1 hd hj (hl.2.2 i _ hx) (hk q hy E ρ ls H locs hl hw)
theorem js_aload {i : Nat} {x : Nat} (X : ev_X l D γ μ κ) (hd : decode μ.1 pc = .ok (.aload i, 2)) (hn : pc + 2 = n) (hx : ev_n lo i = some (some (.ref x))) (hk : ev_J l D γ μ κ n ce sl lo (.ref x :: st) hp y w) : ev_J l D γ μ κ pc ce sl lo (st) hp (y) w := by
  obtain ⟨p, e, s, m, args, below, meth, c, Q, A, ρ0, n0, Ex⟩ := κ
  subst hn
  intro q hy E ρ ls H locs hl hw
  exact lv_aload X.1 X.2.1 hd (hl.2.2 i _ hx) (hk q hy E ρ ls H locs hl hw)
theorem js_aload_n {i : Nat} {j : Fin 4} {x : Nat} (X : ev_X l D γ μ κ) (hd : decode μ.1 pc = .ok (.aload_n j, 1)) (hn : pc + 1 = n) (hj : (j : Nat) = i) (hx : ev_n lo i = some (some (.ref x))) (hk : ev_J l D γ μ κ n ce sl lo (.ref x :: st) hp y w) : ev_J l D γ μ κ pc ce sl lo (st) hp (y) w := by
  obtain ⟨p, e, s, m, args, below, meth, c, Q, A, ρ0, n0, Ex⟩ := κ
  subst hn
  intro q hy E ρ ls H locs hl hw
  exact lv_aload_n X.1 X.2.1 hd hj (hl.2.2 i _ hx) (hk q hy E ρ ls H locs hl hw)
theorem js_sload {i : Nat} {x : Nat} (X : ev_X l D γ μ κ) (hd : decode μ.1 pc = .ok (.aload i, 2)) (hn : pc + 2 = n) (hx : ev_n lo i = some (some (.retAddr x))) (hk : ev_J l D γ μ κ n ce sl lo (.retAddr x :: st) hp y w) : ev_J l D γ μ κ pc ce sl lo (st) hp (y) w := by
  obtain ⟨p, e, s, m, args, below, meth, c, Q, A, ρ0, n0, Ex⟩ := κ
  subst hn
  intro q hy E ρ ls H locs hl hw
  exact lv_aload X.1 X.2.1 hd (hl.2.2 i _ hx) (hk q hy E ρ ls H locs hl hw)
theorem js_sload_n {i : Nat} {j : Fin 4} {x : Nat} (X : ev_X l D γ μ κ) (hd : decode μ.1 pc = .ok (.aload_n j, 1)) (hn : pc + 1 = n) (hj : (j : Nat) = i) (hx : ev_n lo i = some (some (.retAddr x))) (hk : ev_J l D γ μ κ n ce sl lo (.retAddr x :: st) hp y w) : ev_J l D γ μ κ pc ce sl lo (st) hp (y) w := by
  obtain ⟨p, e, s, m, args, below, meth, c, Q, A, ρ0, n0, Ex⟩ := κ
  subst hn
  intro q hy E ρ ls H locs hl hw
  exact lv_aload_n X.1 X.2.1 hd hj (hl.2.2 i _ hx) (hk q hy E ρ ls H locs hl hw)
theorem js_istore {i : Nat} {x : Int32} {lo' : ev_L} (X : ev_X l D γ μ κ) (hd : decode μ.1 pc = .ok (.istore i, 2)) (hn : pc + 2 = n) (hi : i < μ.2.1) (hlo : ev_st lo i (.int x) = lo') (hk : ev_J l D γ μ κ n ce sl lo' (st) hp y w) : ev_J l D γ μ κ pc ce sl lo (.int x :: st) hp (y) w := by
  obtain ⟨p, e, s, m, args, below, meth, c, Q, A, ρ0, n0, Ex⟩ := κ
  subst hn
  intro q hy E ρ ls H locs hl hw
  subst hlo
  exact lv_istore X.1 X.2.1 hd hl.has hi rfl (fun ls' h => hk q hy E ρ ls' H locs (ev_lo.store (v := .int x) (ls := ls) h) hw)
theorem js_istore_n {i : Nat} {j : Fin 4} {x : Int32} {lo' : ev_L} (X : ev_X l D γ μ κ) (hd : decode μ.1 pc = .ok (.istore_n j, 1)) (hn : pc + 1 = n) (hj : (j : Nat) = i) (hi : i < μ.2.1) (hlo : ev_st lo i (.int x) = lo') (hk : ev_J l D γ μ κ n ce sl lo' (st) hp y w) : ev_J l D γ μ κ pc ce sl lo (.int x :: st) hp (y) w := by
  obtain ⟨p, e, s, m, args, below, meth, c, Q, A, ρ0, n0, Ex⟩ := κ
  subst hn
  intro q hy E ρ ls H locs hl hw
  subst hlo
  exact lv_istore_n X.1 X.2.1 hd hj hl.has hi rfl (fun ls' h => hk q hy E ρ ls' H locs (ev_lo.store (v := .int x) (ls := ls) h) hw)
theorem js_astore {i : Nat} {x : Nat} {lo' : ev_L} (X : ev_X l D γ μ κ) (hd : decode μ.1 pc = .ok (.astore i, 2)) (hn : pc + 2 = n) (hi : i < μ.2.1) (hlo : ev_st lo i (.ref x) = lo') (hk : ev_J l D γ μ κ n ce sl lo' (st) hp y w) : ev_J l D γ μ κ pc ce sl lo (.ref x :: st) hp (y) w := by
  obtain ⟨p, e, s, m, args, below, meth, c, Q, A, ρ0, n0, Ex⟩ := κ
  subst hn
  intro q hy E ρ ls H locs hl hw
  subst hlo
  exact lv_astore X.1 X.2.1 hd hl.has hi rfl (fun ls' h => hk q hy E ρ ls' H locs (ev_lo.store (v := .ref x) (ls := ls) h) hw)
theorem js_astore_n {i : Nat} {j : Fin 4} {x : Nat} {lo' : ev_L} (X : ev_X l D γ μ κ) (hd : decode μ.1 pc = .ok (.astore_n j, 1)) (hn : pc + 1 = n) (hj : (j : Nat) = i) (hi : i < μ.2.1) (hlo : ev_st lo i (.ref x) = lo') (hk : ev_J l D γ μ κ n ce sl lo' (st) hp y w) : ev_J l D γ μ κ pc ce sl lo (.ref x :: st) hp (y) w := by
  obtain ⟨p, e, s, m, args, below, meth, c, Q, A, ρ0, n0, Ex⟩ := κ
  subst hn
  intro q hy E ρ ls H locs hl hw
  subst hlo
  exact lv_astore_n X.1 X.2.1 hd hj hl.has hi rfl (fun ls' h => hk q hy E ρ ls' H locs (ev_lo.store (v := .ref x) (ls := ls) h) hw)
theorem js_iinc {i : Nat} {d : Int} (v : Int32) {x : Int32} {lo' : ev_L} (X : ev_X l D γ μ κ) (hd : decode μ.1 pc = .ok (.iinc i d, 3)) (hn : pc + 3 = n) (hv : Int32.ofInt d = v) (hi : i < μ.2.1) (hx : ev_n lo i = some (some (.int x))) (hlo : ev_st lo i (.int (x + v)) = lo') (hk : ev_J l D γ μ κ n ce sl lo' (st) hp y w) : ev_J l D γ μ κ pc ce sl lo (st) hp (y) w := by
  obtain ⟨p, e, s, m, args, below, meth, c, Q, A, ρ0, n0, Ex⟩ := κ
  subst hn
  intro q hy E ρ ls H locs hl hw
  subst hlo
  obtain ⟨j, hj⟩ := List.getElem?_of_mem (ev_as_mem (ρ := ρ) hx)
  exact lv_iinc X.1 X.2.1 hd hl.has (k := j) hj (by rw [hv]) hi rfl (fun ls' h => hk q hy E ρ ls' H locs (ev_lo.store (v := .int (x + v)) (ls := ls) h) hw)
theorem js_iadd {x z : Int32} (X : ev_X l D γ μ κ) (hd : decode μ.1 pc = .ok (.iadd, 1)) (hn : pc + 1 = n) (hk : ev_J l D γ μ κ n ce sl lo (.int (x + z) :: st) hp y w) : ev_J l D γ μ κ pc ce sl lo (.int z :: .int x :: st) hp (y) w := by
  obtain ⟨p, e, s, m, args, below, meth, c, Q, A, ρ0, n0, Ex⟩ := κ
  subst hn
  intro q hy E ρ ls H locs hl hw
  exact lv_iadd X.1 X.2.1 hd (hk q hy E ρ ls H locs hl hw)
theorem js_isub {x z : Int32} (X : ev_X l D γ μ κ) (hd : decode μ.1 pc = .ok (.isub, 1)) (hn : pc + 1 = n) (hk : ev_J l D γ μ κ n ce sl lo (.int (x - z) :: st) hp y w) : ev_J l D γ μ κ pc ce sl lo (.int z :: .int x :: st) hp (y) w := by
  obtain ⟨p, e, s, m, args, below, meth, c, Q, A, ρ0, n0, Ex⟩ := κ
  subst hn
  intro q hy E ρ ls H locs hl hw
  exact lv_isub X.1 X.2.1 hd (hk q hy E ρ ls H locs hl hw)
theorem js_imul {x z : Int32} (X : ev_X l D γ μ κ) (hd : decode μ.1 pc = .ok (.imul, 1)) (hn : pc + 1 = n) (hk : ev_J l D γ μ κ n ce sl lo (.int (x * z) :: st) hp y w) : ev_J l D γ μ κ pc ce sl lo (.int z :: .int x :: st) hp (y) w := by
  obtain ⟨p, e, s, m, args, below, meth, c, Q, A, ρ0, n0, Ex⟩ := κ
  subst hn
  intro q hy E ρ ls H locs hl hw
  exact lv_imul X.1 X.2.1 hd (hk q hy E ρ ls H locs hl hw)
theorem js_iand {x z : Int32} (X : ev_X l D γ μ κ) (hd : decode μ.1 pc = .ok (.iand, 1)) (hn : pc + 1 = n) (hk : ev_J l D γ μ κ n ce sl lo (.int (x &&& z) :: st) hp y w) : ev_J l D γ μ κ pc ce sl lo (.int z :: .int x :: st) hp (y) w := by
  obtain ⟨p, e, s, m, args, below, meth, c, Q, A, ρ0, n0, Ex⟩ := κ
  subst hn
  intro q hy E ρ ls H locs hl hw
  exact lv_iand X.1 X.2.1 hd (hk q hy E ρ ls H locs hl hw)
theorem js_ior {x z : Int32} (X : ev_X l D γ μ κ) (hd : decode μ.1 pc = .ok (.ior, 1)) (hn : pc + 1 = n) (hk : ev_J l D γ μ κ n ce sl lo (.int (x ||| z) :: st) hp y w) : ev_J l D γ μ κ pc ce sl lo (.int z :: .int x :: st) hp (y) w := by
  obtain ⟨p, e, s, m, args, below, meth, c, Q, A, ρ0, n0, Ex⟩ := κ
  subst hn
  intro q hy E ρ ls H locs hl hw
  exact lv_ior X.1 X.2.1 hd (hk q hy E ρ ls H locs hl hw)
theorem js_ixor {x z : Int32} (X : ev_X l D γ μ κ) (hd : decode μ.1 pc = .ok (.ixor, 1)) (hn : pc + 1 = n) (hk : ev_J l D γ μ κ n ce sl lo (.int (x ^^^ z) :: st) hp y w) : ev_J l D γ μ κ pc ce sl lo (.int z :: .int x :: st) hp (y) w := by
  obtain ⟨p, e, s, m, args, below, meth, c, Q, A, ρ0, n0, Ex⟩ := κ
  subst hn
  intro q hy E ρ ls H locs hl hw
  exact lv_ixor X.1 X.2.1 hd (hk q hy E ρ ls H locs hl hw)
theorem js_ishl {x z : Int32} (X : ev_X l D γ μ κ) (hd : decode μ.1 pc = .ok (.ishl, 1)) (hn : pc + 1 = n) (hk : ev_J l D γ μ κ n ce sl lo (.int (x <<< (z &&& 31)) :: st) hp y w) : ev_J l D γ μ κ pc ce sl lo (.int z :: .int x :: st) hp (y) w := by
  obtain ⟨p, e, s, m, args, below, meth, c, Q, A, ρ0, n0, Ex⟩ := κ
  subst hn
  intro q hy E ρ ls H locs hl hw
  exact lv_ishl X.1 X.2.1 hd (hk q hy E ρ ls H locs hl hw)
theorem js_ishr {x z : Int32} (X : ev_X l D γ μ κ) (hd : decode μ.1 pc = .ok (.ishr, 1)) (hn : pc + 1 = n) (hk : ev_J l D γ μ κ n ce sl lo (.int (x >>> (z &&& 31)) :: st) hp y w) : ev_J l D γ μ κ pc ce sl lo (.int z :: .int x :: st) hp (y) w := by
  obtain ⟨p, e, s, m, args, below, meth, c, Q, A, ρ0, n0, Ex⟩ := κ
  subst hn
  intro q hy E ρ ls H locs hl hw
  exact lv_ishr X.1 X.2.1 hd (hk q hy E ρ ls H locs hl hw)
theorem js_ineg {x : Int32} (X : ev_X l D γ μ κ) (hd : decode μ.1 pc = .ok (.ineg, 1)) (hn : pc + 1 = n) (hk : ev_J l D γ μ κ n ce sl lo (.int (-x) :: st) hp y w) : ev_J l D γ μ κ pc ce sl lo (.int x :: st) hp (y) w := by
  obtain ⟨p, e, s, m, args, below, meth, c, Q, A, ρ0, n0, Ex⟩ := κ
  subst hn
  intro q hy E ρ ls H locs hl hw
  exact lv_ineg X.1 X.2.1 hd (hk q hy E ρ ls H locs hl hw)
theorem js_idiv {x z : Int32} (X : ev_X l D γ μ κ) (hd : decode μ.1 pc = .ok (.idiv, 1)) (hn : pc + 1 = n) (hk : ev_J l D γ μ κ n ce sl lo (.int (x / z) :: st) hp y w) : ev_J l D γ μ κ pc ce sl lo (.int z :: .int x :: st) hp (ck (nz z) y) w := by
  obtain ⟨p, e, s, m, args, below, meth, c, Q, A, ρ0, n0, Ex⟩ := κ
  subst hn
  intro q hy E ρ ls H locs hl hw
  obtain ⟨h1, hy⟩ := ck_t hy
  exact lv_idiv X.1 X.2.1 hd (nz_ne h1) (hk q hy E ρ ls H locs hl hw)
theorem js_irem {x z : Int32} (X : ev_X l D γ μ κ) (hd : decode μ.1 pc = .ok (.irem, 1)) (hn : pc + 1 = n) (hk : ev_J l D γ μ κ n ce sl lo (.int (x - x / z * z) :: st) hp y w) : ev_J l D γ μ κ pc ce sl lo (.int z :: .int x :: st) hp (ck (nz z) y) w := by
  obtain ⟨p, e, s, m, args, below, meth, c, Q, A, ρ0, n0, Ex⟩ := κ
  subst hn
  intro q hy E ρ ls H locs hl hw
  obtain ⟨h1, hy⟩ := ck_t hy
  exact lv_irem X.1 X.2.1 hd (nz_ne h1) (hk q hy E ρ ls H locs hl hw)
theorem js_ladd {x z : Int64} (X : ev_X l D γ μ κ) (hd : decode μ.1 pc = .ok (.ladd, 1)) (hn : pc + 1 = n) (hk : ev_J l D γ μ κ n ce sl lo (.long (x + z) :: st) hp y w) : ev_J l D γ μ κ pc ce sl lo (.long z :: .long x :: st) hp (y) w := by
  obtain ⟨p, e, s, m, args, below, meth, c, Q, A, ρ0, n0, Ex⟩ := κ
  subst hn
  intro q hy E ρ ls H locs hl hw
  exact lv_ladd X.1 X.2.1 hd (hk q hy E ρ ls H locs hl hw)
theorem js_lmul {x z : Int64} (X : ev_X l D γ μ κ) (hd : decode μ.1 pc = .ok (.lmul, 1)) (hn : pc + 1 = n) (hk : ev_J l D γ μ κ n ce sl lo (.long (x * z) :: st) hp y w) : ev_J l D γ μ κ pc ce sl lo (.long z :: .long x :: st) hp (y) w := by
  obtain ⟨p, e, s, m, args, below, meth, c, Q, A, ρ0, n0, Ex⟩ := κ
  subst hn
  intro q hy E ρ ls H locs hl hw
  exact lv_lmul X.1 X.2.1 hd (hk q hy E ρ ls H locs hl hw)
theorem js_land {x z : Int64} (X : ev_X l D γ μ κ) (hd : decode μ.1 pc = .ok (.land, 1)) (hn : pc + 1 = n) (hk : ev_J l D γ μ κ n ce sl lo (.long (x &&& z) :: st) hp y w) : ev_J l D γ μ κ pc ce sl lo (.long z :: .long x :: st) hp (y) w := by
  obtain ⟨p, e, s, m, args, below, meth, c, Q, A, ρ0, n0, Ex⟩ := κ
  subst hn
  intro q hy E ρ ls H locs hl hw
  exact lv_land X.1 X.2.1 hd (hk q hy E ρ ls H locs hl hw)
theorem js_lor {x z : Int64} (X : ev_X l D γ μ κ) (hd : decode μ.1 pc = .ok (.lor, 1)) (hn : pc + 1 = n) (hk : ev_J l D γ μ κ n ce sl lo (.long (x ||| z) :: st) hp y w) : ev_J l D γ μ κ pc ce sl lo (.long z :: .long x :: st) hp (y) w := by
  obtain ⟨p, e, s, m, args, below, meth, c, Q, A, ρ0, n0, Ex⟩ := κ
  subst hn
  intro q hy E ρ ls H locs hl hw
  exact lv_lor X.1 X.2.1 hd (hk q hy E ρ ls H locs hl hw)
theorem js_lrem {x z : Int64} (X : ev_X l D γ μ κ) (hd : decode μ.1 pc = .ok (.lrem, 1)) (hn : pc + 1 = n) (hk : ev_J l D γ μ κ n ce sl lo (.long (x - x / z * z) :: st) hp y w) : ev_J l D γ μ κ pc ce sl lo (.long z :: .long x :: st) hp (ck (nzL z) y) w := by
  obtain ⟨p, e, s, m, args, below, meth, c, Q, A, ρ0, n0, Ex⟩ := κ
  subst hn
  intro q hy E ρ ls H locs hl hw
  obtain ⟨h1, hy⟩ := ck_t hy
  exact lv_lrem X.1 X.2.1 hd (nzL_ne h1) (hk q hy E ρ ls H locs hl hw)
theorem js_lushr {x : Int64} {z : Int32} (X : ev_X l D γ μ κ) (hd : decode μ.1 pc = .ok (.lushr, 1)) (hn : pc + 1 = n) (hk : ev_J l D γ μ κ n ce sl lo (.long ((x.toUInt64 >>> (z.toInt64.toUInt64 &&& Int64.toUInt64 63)).toInt64) :: st) hp y w) : ev_J l D γ μ κ pc ce sl lo (.int z :: .long x :: st) hp (y) w := by
  obtain ⟨p, e, s, m, args, below, meth, c, Q, A, ρ0, n0, Ex⟩ := κ
  subst hn
  intro q hy E ρ ls H locs hl hw
  exact lv_lushr X.1 X.2.1 hd rfl (hk q hy E ρ ls H locs hl hw)
theorem js_lshl {x : Int64} {z : Int32} (X : ev_X l D γ μ κ) (hd : decode μ.1 pc = .ok (.lshl, 1)) (hn : pc + 1 = n) (hk : ev_J l D γ μ κ n ce sl lo (.long (x <<< (z.toInt64 &&& 63)) :: st) hp y w) : ev_J l D γ μ κ pc ce sl lo (.int z :: .long x :: st) hp (y) w := by
  obtain ⟨p, e, s, m, args, below, meth, c, Q, A, ρ0, n0, Ex⟩ := κ
  subst hn
  intro q hy E ρ ls H locs hl hw
  exact lv_lshl X.1 X.2.1 hd rfl (hk q hy E ρ ls H locs hl hw)
theorem js_lshr {x : Int64} {z : Int32} (X : ev_X l D γ μ κ) (hd : decode μ.1 pc = .ok (.lshr, 1)) (hn : pc + 1 = n) (hk : ev_J l D γ μ κ n ce sl lo (.long (x >>> (z.toInt64 &&& 63)) :: st) hp y w) : ev_J l D γ μ κ pc ce sl lo (.int z :: .long x :: st) hp (y) w := by
  obtain ⟨p, e, s, m, args, below, meth, c, Q, A, ρ0, n0, Ex⟩ := κ
  subst hn
  intro q hy E ρ ls H locs hl hw
  exact lv_lshr X.1 X.2.1 hd rfl (hk q hy E ρ ls H locs hl hw)
theorem js_lcmp {x z : Int64} (X : ev_X l D γ μ κ) (hd : decode μ.1 pc = .ok (.lcmp, 1)) (hn : pc + 1 = n) (hk : ev_J l D γ μ κ n ce sl lo (.int (lg_cmp x z) :: st) hp y w) : ev_J l D γ μ κ pc ce sl lo (.long z :: .long x :: st) hp (y) w := by
  obtain ⟨p, e, s, m, args, below, meth, c, Q, A, ρ0, n0, Ex⟩ := κ
  subst hn
  intro q hy E ρ ls H locs hl hw
  exact W.lcmp X.1 X.2.1 hd (hk q hy E ρ ls H locs hl hw)
theorem js_i2l {x : Int32} (X : ev_X l D γ μ κ) (hd : decode μ.1 pc = .ok (.i2l, 1)) (hn : pc + 1 = n) (hk : ev_J l D γ μ κ n ce sl lo (.long x.toInt64 :: st) hp y w) : ev_J l D γ μ κ pc ce sl lo (.int x :: st) hp (y) w := by
  obtain ⟨p, e, s, m, args, below, meth, c, Q, A, ρ0, n0, Ex⟩ := κ
  subst hn
  intro q hy E ρ ls H locs hl hw
  exact lv_i2l X.1 X.2.1 hd rfl (hk q hy E ρ ls H locs hl hw)
theorem js_l2i {x : Int64} (X : ev_X l D γ μ κ) (hd : decode μ.1 pc = .ok (.l2i, 1)) (hn : pc + 1 = n) (hk : ev_J l D γ μ κ n ce sl lo (.int x.toInt32 :: st) hp y w) : ev_J l D γ μ κ pc ce sl lo (.long x :: st) hp (y) w := by
  obtain ⟨p, e, s, m, args, below, meth, c, Q, A, ρ0, n0, Ex⟩ := κ
  subst hn
  intro q hy E ρ ls H locs hl hw
  exact lv_l2i X.1 X.2.1 hd rfl (hk q hy E ρ ls H locs hl hw)
theorem js_dup {a : Value} (X : ev_X l D γ μ κ) (hd : decode μ.1 pc = .ok (.dup, 1)) (hn : pc + 1 = n) (ha : a.category = 1) (hk : ev_J l D γ μ κ n ce sl lo (a :: a :: st) hp y w) : ev_J l D γ μ κ pc ce sl lo (a :: st) hp (y) w := by
  obtain ⟨p, e, s, m, args, below, meth, c, Q, A, ρ0, n0, Ex⟩ := κ
  subst hn
  intro q hy E ρ ls H locs hl hw
  exact lv_dup X.1 X.2.1 hd (by rw [ev_v_cat]; exact ha) (hk q hy E ρ ls H locs hl hw)
theorem js_dup2 {a b : Value} (X : ev_X l D γ μ κ) (hd : decode μ.1 pc = .ok (.dup2, 1)) (hn : pc + 1 = n) (ha : a.category = 1) (hb : b.category = 1) (hk : ev_J l D γ μ κ n ce sl lo (a :: b :: a :: b :: st) hp y w) : ev_J l D γ μ κ pc ce sl lo (a :: b :: st) hp (y) w := by
  obtain ⟨p, e, s, m, args, below, meth, c, Q, A, ρ0, n0, Ex⟩ := κ
  subst hn
  intro q hy E ρ ls H locs hl hw
  exact lv_dup2_11 X.1 X.2.1 hd (by rw [ev_v_cat]; exact ha) (by rw [ev_v_cat]; exact hb) (hk q hy E ρ ls H locs hl hw)
theorem js_dup22 {a : Value} (X : ev_X l D γ μ κ) (hd : decode μ.1 pc = .ok (.dup2, 1)) (hn : pc + 1 = n) (ha : a.category = 2) (hk : ev_J l D γ μ κ n ce sl lo (a :: a :: st) hp y w) : ev_J l D γ μ κ pc ce sl lo (a :: st) hp (y) w := by
  obtain ⟨p, e, s, m, args, below, meth, c, Q, A, ρ0, n0, Ex⟩ := κ
  subst hn
  intro q hy E ρ ls H locs hl hw
  exact lv_dup2_2 X.1 X.2.1 hd (by rw [ev_v_cat]; exact ha) (hk q hy E ρ ls H locs hl hw)
theorem js_dup_x1 {a b : Value} (X : ev_X l D γ μ κ) (hd : decode μ.1 pc = .ok (.dup_x1, 1)) (hn : pc + 1 = n) (ha : a.category = 1) (hb : b.category = 1) (hk : ev_J l D γ μ κ n ce sl lo (a :: b :: a :: st) hp y w) : ev_J l D γ μ κ pc ce sl lo (a :: b :: st) hp (y) w := by
  obtain ⟨p, e, s, m, args, below, meth, c, Q, A, ρ0, n0, Ex⟩ := κ
  subst hn
  intro q hy E ρ ls H locs hl hw
  exact lv_dup_x1 X.1 X.2.1 hd (by rw [ev_v_cat]; exact ha) (by rw [ev_v_cat]; exact hb) (hk q hy E ρ ls H locs hl hw)
theorem js_pop {a : Value} (X : ev_X l D γ μ κ) (hd : decode μ.1 pc = .ok (.pop, 1)) (hn : pc + 1 = n) (ha : a.category = 1) (hk : ev_J l D γ μ κ n ce sl lo (st) hp y w) : ev_J l D γ μ κ pc ce sl lo (a :: st) hp (y) w := by
  obtain ⟨p, e, s, m, args, below, meth, c, Q, A, ρ0, n0, Ex⟩ := κ
  subst hn
  intro q hy E ρ ls H locs hl hw
  exact lv_pop (va := ev_v ρ a) X.1 X.2.1 hd (by rw [ev_v_cat]; exact ha) (hk q hy E ρ ls H locs hl hw)
theorem js_if_eq {x : Int32} {yt yf : Option β} {t : Nat} {off : Int} (X : ev_X l D γ μ κ) (hd : decode μ.1 pc = .ok (.ifCond .eq off, 3)) (ht : (pc : Int) + off = (t : Int)) (hn : pc + 3 = n) (hkt : ev_J l D γ μ κ t ce sl lo st hp yt w) (hkf : ev_J l D γ μ κ n ce sl lo st hp yf w) : ev_J l D γ μ κ pc ce sl lo (.int x :: st) hp (if x = 0 then yt else yf) w := by
  obtain ⟨p, e, s, m, args, below, meth, c, Q, A, ρ0, n0, Ex⟩ := κ
  subst hn
  intro q hy E ρ ls H locs hl hw
  exact lv_if_eq X.1 X.2.1 hd ht (fun h => hkt q (by rw [if_pos h] at hy; exact hy) E ρ ls H locs hl hw) (fun h => hkf q (by rw [if_neg h] at hy; exact hy) E ρ ls H locs hl hw)
theorem js_if_eq_t {x : Int32} {t : Nat} {off : Int} (X : ev_X l D γ μ κ) (hd : decode μ.1 pc = .ok (.ifCond .eq off, 3)) (ht : (pc : Int) + off = (t : Int)) (hc : x = 0) (hkt : ev_J l D γ μ κ t ce sl lo st hp y w) : ev_J l D γ μ κ pc ce sl lo (.int x :: st) hp y w := by
  obtain ⟨p, e, s, m, args, below, meth, c, Q, A, ρ0, n0, Ex⟩ := κ
  intro q hy E ρ ls H locs hl hw
  exact lv_if_eq X.1 X.2.1 hd ht (fun _ => hkt q hy E ρ ls H locs hl hw) (fun h => absurd hc h)
theorem js_if_eq_f {x : Int32} {t : Nat} {off : Int} (X : ev_X l D γ μ κ) (hd : decode μ.1 pc = .ok (.ifCond .eq off, 3)) (ht : (pc : Int) + off = (t : Int)) (hn : pc + 3 = n) (hc : ¬ x = 0) (hkf : ev_J l D γ μ κ n ce sl lo st hp y w) : ev_J l D γ μ κ pc ce sl lo (.int x :: st) hp y w := by
  obtain ⟨p, e, s, m, args, below, meth, c, Q, A, ρ0, n0, Ex⟩ := κ
  subst hn
  intro q hy E ρ ls H locs hl hw
  exact lv_if_eq X.1 X.2.1 hd ht (fun h => absurd h hc) (fun _ => hkf q hy E ρ ls H locs hl hw)
theorem js_if_ne {x : Int32} {yt yf : Option β} {t : Nat} {off : Int} (X : ev_X l D γ μ κ) (hd : decode μ.1 pc = .ok (.ifCond .ne off, 3)) (ht : (pc : Int) + off = (t : Int)) (hn : pc + 3 = n) (hkt : ev_J l D γ μ κ t ce sl lo st hp yt w) (hkf : ev_J l D γ μ κ n ce sl lo st hp yf w) : ev_J l D γ μ κ pc ce sl lo (.int x :: st) hp (if x = 0 then yf else yt) w := by
  obtain ⟨p, e, s, m, args, below, meth, c, Q, A, ρ0, n0, Ex⟩ := κ
  subst hn
  intro q hy E ρ ls H locs hl hw
  exact lv_if_ne X.1 X.2.1 hd ht (fun h => hkt q (by rw [if_neg h] at hy; exact hy) E ρ ls H locs hl hw) (fun h => hkf q (by rw [if_pos h] at hy; exact hy) E ρ ls H locs hl hw)
theorem js_if_ne_t {x : Int32} {t : Nat} {off : Int} (X : ev_X l D γ μ κ) (hd : decode μ.1 pc = .ok (.ifCond .ne off, 3)) (ht : (pc : Int) + off = (t : Int)) (hc : ¬ x = 0) (hkt : ev_J l D γ μ κ t ce sl lo st hp y w) : ev_J l D γ μ κ pc ce sl lo (.int x :: st) hp y w := by
  obtain ⟨p, e, s, m, args, below, meth, c, Q, A, ρ0, n0, Ex⟩ := κ
  intro q hy E ρ ls H locs hl hw
  exact lv_if_ne X.1 X.2.1 hd ht (fun _ => hkt q hy E ρ ls H locs hl hw) (fun h => absurd h hc)
theorem js_if_ne_f {x : Int32} {t : Nat} {off : Int} (X : ev_X l D γ μ κ) (hd : decode μ.1 pc = .ok (.ifCond .ne off, 3)) (ht : (pc : Int) + off = (t : Int)) (hn : pc + 3 = n) (hc : x = 0) (hkf : ev_J l D γ μ κ n ce sl lo st hp y w) : ev_J l D γ μ κ pc ce sl lo (.int x :: st) hp y w := by
  obtain ⟨p, e, s, m, args, below, meth, c, Q, A, ρ0, n0, Ex⟩ := κ
  subst hn
  intro q hy E ρ ls H locs hl hw
  exact lv_if_ne X.1 X.2.1 hd ht (fun h => absurd hc h) (fun _ => hkf q hy E ρ ls H locs hl hw)
theorem js_if_lt {x : Int32} {yt yf : Option β} {t : Nat} {off : Int} (X : ev_X l D γ μ κ) (hd : decode μ.1 pc = .ok (.ifCond .lt off, 3)) (ht : (pc : Int) + off = (t : Int)) (hn : pc + 3 = n) (hkt : ev_J l D γ μ κ t ce sl lo st hp yt w) (hkf : ev_J l D γ μ κ n ce sl lo st hp yf w) : ev_J l D γ μ κ pc ce sl lo (.int x :: st) hp (if x < 0 then yt else yf) w := by
  obtain ⟨p, e, s, m, args, below, meth, c, Q, A, ρ0, n0, Ex⟩ := κ
  subst hn
  intro q hy E ρ ls H locs hl hw
  exact lv_if_lt X.1 X.2.1 hd ht (fun h => hkt q (by rw [if_pos h] at hy; exact hy) E ρ ls H locs hl hw) (fun h => hkf q (by rw [if_neg h] at hy; exact hy) E ρ ls H locs hl hw)
theorem js_if_lt_t {x : Int32} {t : Nat} {off : Int} (X : ev_X l D γ μ κ) (hd : decode μ.1 pc = .ok (.ifCond .lt off, 3)) (ht : (pc : Int) + off = (t : Int)) (hc : x < 0) (hkt : ev_J l D γ μ κ t ce sl lo st hp y w) : ev_J l D γ μ κ pc ce sl lo (.int x :: st) hp y w := by
  obtain ⟨p, e, s, m, args, below, meth, c, Q, A, ρ0, n0, Ex⟩ := κ
  intro q hy E ρ ls H locs hl hw
  exact lv_if_lt X.1 X.2.1 hd ht (fun _ => hkt q hy E ρ ls H locs hl hw) (fun h => absurd hc h)
theorem js_if_lt_f {x : Int32} {t : Nat} {off : Int} (X : ev_X l D γ μ κ) (hd : decode μ.1 pc = .ok (.ifCond .lt off, 3)) (ht : (pc : Int) + off = (t : Int)) (hn : pc + 3 = n) (hc : ¬ x < 0) (hkf : ev_J l D γ μ κ n ce sl lo st hp y w) : ev_J l D γ μ κ pc ce sl lo (.int x :: st) hp y w := by
  obtain ⟨p, e, s, m, args, below, meth, c, Q, A, ρ0, n0, Ex⟩ := κ
  subst hn
  intro q hy E ρ ls H locs hl hw
  exact lv_if_lt X.1 X.2.1 hd ht (fun h => absurd h hc) (fun _ => hkf q hy E ρ ls H locs hl hw)
theorem js_if_ge {x : Int32} {yt yf : Option β} {t : Nat} {off : Int} (X : ev_X l D γ μ κ) (hd : decode μ.1 pc = .ok (.ifCond .ge off, 3)) (ht : (pc : Int) + off = (t : Int)) (hn : pc + 3 = n) (hkt : ev_J l D γ μ κ t ce sl lo st hp yt w) (hkf : ev_J l D γ μ κ n ce sl lo st hp yf w) : ev_J l D γ μ κ pc ce sl lo (.int x :: st) hp (if 0 ≤ x then yt else yf) w := by
  obtain ⟨p, e, s, m, args, below, meth, c, Q, A, ρ0, n0, Ex⟩ := κ
  subst hn
  intro q hy E ρ ls H locs hl hw
  exact lv_if_ge X.1 X.2.1 hd ht (fun h => hkt q (by rw [if_pos h] at hy; exact hy) E ρ ls H locs hl hw) (fun h => hkf q (by rw [if_neg h] at hy; exact hy) E ρ ls H locs hl hw)
theorem js_if_ge_t {x : Int32} {t : Nat} {off : Int} (X : ev_X l D γ μ κ) (hd : decode μ.1 pc = .ok (.ifCond .ge off, 3)) (ht : (pc : Int) + off = (t : Int)) (hc : 0 ≤ x) (hkt : ev_J l D γ μ κ t ce sl lo st hp y w) : ev_J l D γ μ κ pc ce sl lo (.int x :: st) hp y w := by
  obtain ⟨p, e, s, m, args, below, meth, c, Q, A, ρ0, n0, Ex⟩ := κ
  intro q hy E ρ ls H locs hl hw
  exact lv_if_ge X.1 X.2.1 hd ht (fun _ => hkt q hy E ρ ls H locs hl hw) (fun h => absurd hc h)
theorem js_if_ge_f {x : Int32} {t : Nat} {off : Int} (X : ev_X l D γ μ κ) (hd : decode μ.1 pc = .ok (.ifCond .ge off, 3)) (ht : (pc : Int) + off = (t : Int)) (hn : pc + 3 = n) (hc : ¬ 0 ≤ x) (hkf : ev_J l D γ μ κ n ce sl lo st hp y w) : ev_J l D γ μ κ pc ce sl lo (.int x :: st) hp y w := by
  obtain ⟨p, e, s, m, args, below, meth, c, Q, A, ρ0, n0, Ex⟩ := κ
  subst hn
  intro q hy E ρ ls H locs hl hw
  exact lv_if_ge X.1 X.2.1 hd ht (fun h => absurd h hc) (fun _ => hkf q hy E ρ ls H locs hl hw)
theorem js_if_gt {x : Int32} {yt yf : Option β} {t : Nat} {off : Int} (X : ev_X l D γ μ κ) (hd : decode μ.1 pc = .ok (.ifCond .gt off, 3)) (ht : (pc : Int) + off = (t : Int)) (hn : pc + 3 = n) (hkt : ev_J l D γ μ κ t ce sl lo st hp yt w) (hkf : ev_J l D γ μ κ n ce sl lo st hp yf w) : ev_J l D γ μ κ pc ce sl lo (.int x :: st) hp (if 0 < x then yt else yf) w := by
  obtain ⟨p, e, s, m, args, below, meth, c, Q, A, ρ0, n0, Ex⟩ := κ
  subst hn
  intro q hy E ρ ls H locs hl hw
  exact lv_if_gt X.1 X.2.1 hd ht (fun h => hkt q (by rw [if_pos h] at hy; exact hy) E ρ ls H locs hl hw) (fun h => hkf q (by rw [if_neg h] at hy; exact hy) E ρ ls H locs hl hw)
theorem js_if_gt_t {x : Int32} {t : Nat} {off : Int} (X : ev_X l D γ μ κ) (hd : decode μ.1 pc = .ok (.ifCond .gt off, 3)) (ht : (pc : Int) + off = (t : Int)) (hc : 0 < x) (hkt : ev_J l D γ μ κ t ce sl lo st hp y w) : ev_J l D γ μ κ pc ce sl lo (.int x :: st) hp y w := by
  obtain ⟨p, e, s, m, args, below, meth, c, Q, A, ρ0, n0, Ex⟩ := κ
  intro q hy E ρ ls H locs hl hw
  exact lv_if_gt X.1 X.2.1 hd ht (fun _ => hkt q hy E ρ ls H locs hl hw) (fun h => absurd hc h)
theorem js_if_gt_f {x : Int32} {t : Nat} {off : Int} (X : ev_X l D γ μ κ) (hd : decode μ.1 pc = .ok (.ifCond .gt off, 3)) (ht : (pc : Int) + off = (t : Int)) (hn : pc + 3 = n) (hc : ¬ 0 < x) (hkf : ev_J l D γ μ κ n ce sl lo st hp y w) : ev_J l D γ μ κ pc ce sl lo (.int x :: st) hp y w := by
  obtain ⟨p, e, s, m, args, below, meth, c, Q, A, ρ0, n0, Ex⟩ := κ
  subst hn
  intro q hy E ρ ls H locs hl hw
  exact lv_if_gt X.1 X.2.1 hd ht (fun h => absurd h hc) (fun _ => hkf q hy E ρ ls H locs hl hw)
theorem js_if_le {x : Int32} {yt yf : Option β} {t : Nat} {off : Int} (X : ev_X l D γ μ κ) (hd : decode μ.1 pc = .ok (.ifCond .le off, 3)) (ht : (pc : Int) + off = (t : Int)) (hn : pc + 3 = n) (hkt : ev_J l D γ μ κ t ce sl lo st hp yt w) (hkf : ev_J l D γ μ κ n ce sl lo st hp yf w) : ev_J l D γ μ κ pc ce sl lo (.int x :: st) hp (if x ≤ 0 then yt else yf) w := by
  obtain ⟨p, e, s, m, args, below, meth, c, Q, A, ρ0, n0, Ex⟩ := κ
  subst hn
  intro q hy E ρ ls H locs hl hw
  exact lv_if_le X.1 X.2.1 hd ht (fun h => hkt q (by rw [if_pos h] at hy; exact hy) E ρ ls H locs hl hw) (fun h => hkf q (by rw [if_neg h] at hy; exact hy) E ρ ls H locs hl hw)
theorem js_if_le_t {x : Int32} {t : Nat} {off : Int} (X : ev_X l D γ μ κ) (hd : decode μ.1 pc = .ok (.ifCond .le off, 3)) (ht : (pc : Int) + off = (t : Int)) (hc : x ≤ 0) (hkt : ev_J l D γ μ κ t ce sl lo st hp y w) : ev_J l D γ μ κ pc ce sl lo (.int x :: st) hp y w := by
  obtain ⟨p, e, s, m, args, below, meth, c, Q, A, ρ0, n0, Ex⟩ := κ
  intro q hy E ρ ls H locs hl hw
  exact lv_if_le X.1 X.2.1 hd ht (fun _ => hkt q hy E ρ ls H locs hl hw) (fun h => absurd hc h)
theorem js_if_le_f {x : Int32} {t : Nat} {off : Int} (X : ev_X l D γ μ κ) (hd : decode μ.1 pc = .ok (.ifCond .le off, 3)) (ht : (pc : Int) + off = (t : Int)) (hn : pc + 3 = n) (hc : ¬ x ≤ 0) (hkf : ev_J l D γ μ κ n ce sl lo st hp y w) : ev_J l D γ μ κ pc ce sl lo (.int x :: st) hp y w := by
  obtain ⟨p, e, s, m, args, below, meth, c, Q, A, ρ0, n0, Ex⟩ := κ
  subst hn
  intro q hy E ρ ls H locs hl hw
  exact lv_if_le X.1 X.2.1 hd ht (fun h => absurd h hc) (fun _ => hkf q hy E ρ ls H locs hl hw)
theorem js_icmp_eq {x z : Int32} {yt yf : Option β} {t : Nat} {off : Int} (X : ev_X l D γ μ κ) (hd : decode μ.1 pc = .ok (.if_icmp .eq off, 3)) (ht : (pc : Int) + off = (t : Int)) (hn : pc + 3 = n) (hkt : ev_J l D γ μ κ t ce sl lo st hp yt w) (hkf : ev_J l D γ μ κ n ce sl lo st hp yf w) : ev_J l D γ μ κ pc ce sl lo (.int z :: .int x :: st) hp (if x = z then yt else yf) w := by
  obtain ⟨p, e, s, m, args, below, meth, c, Q, A, ρ0, n0, Ex⟩ := κ
  subst hn
  intro q hy E ρ ls H locs hl hw
  exact lv_icmp_eq X.1 X.2.1 hd ht (fun h => hkt q (by rw [if_pos h] at hy; exact hy) E ρ ls H locs hl hw) (fun h => hkf q (by rw [if_neg h] at hy; exact hy) E ρ ls H locs hl hw)
theorem js_icmp_eq_t {x z : Int32} {t : Nat} {off : Int} (X : ev_X l D γ μ κ) (hd : decode μ.1 pc = .ok (.if_icmp .eq off, 3)) (ht : (pc : Int) + off = (t : Int)) (hc : x = z) (hkt : ev_J l D γ μ κ t ce sl lo st hp y w) : ev_J l D γ μ κ pc ce sl lo (.int z :: .int x :: st) hp y w := by
  obtain ⟨p, e, s, m, args, below, meth, c, Q, A, ρ0, n0, Ex⟩ := κ
  intro q hy E ρ ls H locs hl hw
  exact lv_icmp_eq X.1 X.2.1 hd ht (fun _ => hkt q hy E ρ ls H locs hl hw) (fun h => absurd hc h)
theorem js_icmp_eq_f {x z : Int32} {t : Nat} {off : Int} (X : ev_X l D γ μ κ) (hd : decode μ.1 pc = .ok (.if_icmp .eq off, 3)) (ht : (pc : Int) + off = (t : Int)) (hn : pc + 3 = n) (hc : ¬ x = z) (hkf : ev_J l D γ μ κ n ce sl lo st hp y w) : ev_J l D γ μ κ pc ce sl lo (.int z :: .int x :: st) hp y w := by
  obtain ⟨p, e, s, m, args, below, meth, c, Q, A, ρ0, n0, Ex⟩ := κ
  subst hn
  intro q hy E ρ ls H locs hl hw
  exact lv_icmp_eq X.1 X.2.1 hd ht (fun h => absurd h hc) (fun _ => hkf q hy E ρ ls H locs hl hw)
theorem js_icmp_ne {x z : Int32} {yt yf : Option β} {t : Nat} {off : Int} (X : ev_X l D γ μ κ) (hd : decode μ.1 pc = .ok (.if_icmp .ne off, 3)) (ht : (pc : Int) + off = (t : Int)) (hn : pc + 3 = n) (hkt : ev_J l D γ μ κ t ce sl lo st hp yt w) (hkf : ev_J l D γ μ κ n ce sl lo st hp yf w) : ev_J l D γ μ κ pc ce sl lo (.int z :: .int x :: st) hp (if x = z then yf else yt) w := by
  obtain ⟨p, e, s, m, args, below, meth, c, Q, A, ρ0, n0, Ex⟩ := κ
  subst hn
  intro q hy E ρ ls H locs hl hw
  exact lv_icmp_ne X.1 X.2.1 hd ht (fun h => hkt q (by rw [if_neg h] at hy; exact hy) E ρ ls H locs hl hw) (fun h => hkf q (by rw [if_pos h] at hy; exact hy) E ρ ls H locs hl hw)
theorem js_icmp_ne_t {x z : Int32} {t : Nat} {off : Int} (X : ev_X l D γ μ κ) (hd : decode μ.1 pc = .ok (.if_icmp .ne off, 3)) (ht : (pc : Int) + off = (t : Int)) (hc : ¬ x = z) (hkt : ev_J l D γ μ κ t ce sl lo st hp y w) : ev_J l D γ μ κ pc ce sl lo (.int z :: .int x :: st) hp y w := by
  obtain ⟨p, e, s, m, args, below, meth, c, Q, A, ρ0, n0, Ex⟩ := κ
  intro q hy E ρ ls H locs hl hw
  exact lv_icmp_ne X.1 X.2.1 hd ht (fun _ => hkt q hy E ρ ls H locs hl hw) (fun h => absurd h hc)
theorem js_icmp_ne_f {x z : Int32} {t : Nat} {off : Int} (X : ev_X l D γ μ κ) (hd : decode μ.1 pc = .ok (.if_icmp .ne off, 3)) (ht : (pc : Int) + off = (t : Int)) (hn : pc + 3 = n) (hc : x = z) (hkf : ev_J l D γ μ κ n ce sl lo st hp y w) : ev_J l D γ μ κ pc ce sl lo (.int z :: .int x :: st) hp y w := by
  obtain ⟨p, e, s, m, args, below, meth, c, Q, A, ρ0, n0, Ex⟩ := κ
  subst hn
  intro q hy E ρ ls H locs hl hw
  exact lv_icmp_ne X.1 X.2.1 hd ht (fun h => absurd hc h) (fun _ => hkf q hy E ρ ls H locs hl hw)
theorem js_icmp_lt {x z : Int32} {yt yf : Option β} {t : Nat} {off : Int} (X : ev_X l D γ μ κ) (hd : decode μ.1 pc = .ok (.if_icmp .lt off, 3)) (ht : (pc : Int) + off = (t : Int)) (hn : pc + 3 = n) (hkt : ev_J l D γ μ κ t ce sl lo st hp yt w) (hkf : ev_J l D γ μ κ n ce sl lo st hp yf w) : ev_J l D γ μ κ pc ce sl lo (.int z :: .int x :: st) hp (if x < z then yt else yf) w := by
  obtain ⟨p, e, s, m, args, below, meth, c, Q, A, ρ0, n0, Ex⟩ := κ
  subst hn
  intro q hy E ρ ls H locs hl hw
  exact lv_icmp_lt X.1 X.2.1 hd ht (fun h => hkt q (by rw [if_pos h] at hy; exact hy) E ρ ls H locs hl hw) (fun h => hkf q (by rw [if_neg h] at hy; exact hy) E ρ ls H locs hl hw)
theorem js_icmp_lt_t {x z : Int32} {t : Nat} {off : Int} (X : ev_X l D γ μ κ) (hd : decode μ.1 pc = .ok (.if_icmp .lt off, 3)) (ht : (pc : Int) + off = (t : Int)) (hc : x < z) (hkt : ev_J l D γ μ κ t ce sl lo st hp y w) : ev_J l D γ μ κ pc ce sl lo (.int z :: .int x :: st) hp y w := by
  obtain ⟨p, e, s, m, args, below, meth, c, Q, A, ρ0, n0, Ex⟩ := κ
  intro q hy E ρ ls H locs hl hw
  exact lv_icmp_lt X.1 X.2.1 hd ht (fun _ => hkt q hy E ρ ls H locs hl hw) (fun h => absurd hc h)
theorem js_icmp_lt_f {x z : Int32} {t : Nat} {off : Int} (X : ev_X l D γ μ κ) (hd : decode μ.1 pc = .ok (.if_icmp .lt off, 3)) (ht : (pc : Int) + off = (t : Int)) (hn : pc + 3 = n) (hc : ¬ x < z) (hkf : ev_J l D γ μ κ n ce sl lo st hp y w) : ev_J l D γ μ κ pc ce sl lo (.int z :: .int x :: st) hp y w := by
  obtain ⟨p, e, s, m, args, below, meth, c, Q, A, ρ0, n0, Ex⟩ := κ
  subst hn
  intro q hy E ρ ls H locs hl hw
  exact lv_icmp_lt X.1 X.2.1 hd ht (fun h => absurd h hc) (fun _ => hkf q hy E ρ ls H locs hl hw)
theorem js_icmp_ge {x z : Int32} {yt yf : Option β} {t : Nat} {off : Int} (X : ev_X l D γ μ κ) (hd : decode μ.1 pc = .ok (.if_icmp .ge off, 3)) (ht : (pc : Int) + off = (t : Int)) (hn : pc + 3 = n) (hkt : ev_J l D γ μ κ t ce sl lo st hp yt w) (hkf : ev_J l D γ μ κ n ce sl lo st hp yf w) : ev_J l D γ μ κ pc ce sl lo (.int z :: .int x :: st) hp (if z ≤ x then yt else yf) w := by
  obtain ⟨p, e, s, m, args, below, meth, c, Q, A, ρ0, n0, Ex⟩ := κ
  subst hn
  intro q hy E ρ ls H locs hl hw
  exact lv_icmp_ge X.1 X.2.1 hd ht (fun h => hkt q (by rw [if_pos h] at hy; exact hy) E ρ ls H locs hl hw) (fun h => hkf q (by rw [if_neg h] at hy; exact hy) E ρ ls H locs hl hw)
theorem js_icmp_ge_t {x z : Int32} {t : Nat} {off : Int} (X : ev_X l D γ μ κ) (hd : decode μ.1 pc = .ok (.if_icmp .ge off, 3)) (ht : (pc : Int) + off = (t : Int)) (hc : z ≤ x) (hkt : ev_J l D γ μ κ t ce sl lo st hp y w) : ev_J l D γ μ κ pc ce sl lo (.int z :: .int x :: st) hp y w := by
  obtain ⟨p, e, s, m, args, below, meth, c, Q, A, ρ0, n0, Ex⟩ := κ
  intro q hy E ρ ls H locs hl hw
  exact lv_icmp_ge X.1 X.2.1 hd ht (fun _ => hkt q hy E ρ ls H locs hl hw) (fun h => absurd hc h)
theorem js_icmp_ge_f {x z : Int32} {t : Nat} {off : Int} (X : ev_X l D γ μ κ) (hd : decode μ.1 pc = .ok (.if_icmp .ge off, 3)) (ht : (pc : Int) + off = (t : Int)) (hn : pc + 3 = n) (hc : ¬ z ≤ x) (hkf : ev_J l D γ μ κ n ce sl lo st hp y w) : ev_J l D γ μ κ pc ce sl lo (.int z :: .int x :: st) hp y w := by
  obtain ⟨p, e, s, m, args, below, meth, c, Q, A, ρ0, n0, Ex⟩ := κ
  subst hn
  intro q hy E ρ ls H locs hl hw
  exact lv_icmp_ge X.1 X.2.1 hd ht (fun h => absurd h hc) (fun _ => hkf q hy E ρ ls H locs hl hw)
theorem js_icmp_gt {x z : Int32} {yt yf : Option β} {t : Nat} {off : Int} (X : ev_X l D γ μ κ) (hd : decode μ.1 pc = .ok (.if_icmp .gt off, 3)) (ht : (pc : Int) + off = (t : Int)) (hn : pc + 3 = n) (hkt : ev_J l D γ μ κ t ce sl lo st hp yt w) (hkf : ev_J l D γ μ κ n ce sl lo st hp yf w) : ev_J l D γ μ κ pc ce sl lo (.int z :: .int x :: st) hp (if z < x then yt else yf) w := by
  obtain ⟨p, e, s, m, args, below, meth, c, Q, A, ρ0, n0, Ex⟩ := κ
  subst hn
  intro q hy E ρ ls H locs hl hw
  exact lv_icmp_gt X.1 X.2.1 hd ht (fun h => hkt q (by rw [if_pos h] at hy; exact hy) E ρ ls H locs hl hw) (fun h => hkf q (by rw [if_neg h] at hy; exact hy) E ρ ls H locs hl hw)
theorem js_icmp_gt_t {x z : Int32} {t : Nat} {off : Int} (X : ev_X l D γ μ κ) (hd : decode μ.1 pc = .ok (.if_icmp .gt off, 3)) (ht : (pc : Int) + off = (t : Int)) (hc : z < x) (hkt : ev_J l D γ μ κ t ce sl lo st hp y w) : ev_J l D γ μ κ pc ce sl lo (.int z :: .int x :: st) hp y w := by
  obtain ⟨p, e, s, m, args, below, meth, c, Q, A, ρ0, n0, Ex⟩ := κ
  intro q hy E ρ ls H locs hl hw
  exact lv_icmp_gt X.1 X.2.1 hd ht (fun _ => hkt q hy E ρ ls H locs hl hw) (fun h => absurd hc h)
theorem js_icmp_gt_f {x z : Int32} {t : Nat} {off : Int} (X : ev_X l D γ μ κ) (hd : decode μ.1 pc = .ok (.if_icmp .gt off, 3)) (ht : (pc : Int) + off = (t : Int)) (hn : pc + 3 = n) (hc : ¬ z < x) (hkf : ev_J l D γ μ κ n ce sl lo st hp y w) : ev_J l D γ μ κ pc ce sl lo (.int z :: .int x :: st) hp y w := by
  obtain ⟨p, e, s, m, args, below, meth, c, Q, A, ρ0, n0, Ex⟩ := κ
  subst hn
  intro q hy E ρ ls H locs hl hw
  exact lv_icmp_gt X.1 X.2.1 hd ht (fun h => absurd h hc) (fun _ => hkf q hy E ρ ls H locs hl hw)
theorem js_icmp_le {x z : Int32} {yt yf : Option β} {t : Nat} {off : Int} (X : ev_X l D γ μ κ) (hd : decode μ.1 pc = .ok (.if_icmp .le off, 3)) (ht : (pc : Int) + off = (t : Int)) (hn : pc + 3 = n) (hkt : ev_J l D γ μ κ t ce sl lo st hp yt w) (hkf : ev_J l D γ μ κ n ce sl lo st hp yf w) : ev_J l D γ μ κ pc ce sl lo (.int z :: .int x :: st) hp (if x ≤ z then yt else yf) w := by
  obtain ⟨p, e, s, m, args, below, meth, c, Q, A, ρ0, n0, Ex⟩ := κ
  subst hn
  intro q hy E ρ ls H locs hl hw
  exact lv_icmp_le X.1 X.2.1 hd ht (fun h => hkt q (by rw [if_pos h] at hy; exact hy) E ρ ls H locs hl hw) (fun h => hkf q (by rw [if_neg h] at hy; exact hy) E ρ ls H locs hl hw)
theorem js_icmp_le_t {x z : Int32} {t : Nat} {off : Int} (X : ev_X l D γ μ κ) (hd : decode μ.1 pc = .ok (.if_icmp .le off, 3)) (ht : (pc : Int) + off = (t : Int)) (hc : x ≤ z) (hkt : ev_J l D γ μ κ t ce sl lo st hp y w) : ev_J l D γ μ κ pc ce sl lo (.int z :: .int x :: st) hp y w := by
  obtain ⟨p, e, s, m, args, below, meth, c, Q, A, ρ0, n0, Ex⟩ := κ
  intro q hy E ρ ls H locs hl hw
  exact lv_icmp_le X.1 X.2.1 hd ht (fun _ => hkt q hy E ρ ls H locs hl hw) (fun h => absurd hc h)
theorem js_icmp_le_f {x z : Int32} {t : Nat} {off : Int} (X : ev_X l D γ μ κ) (hd : decode μ.1 pc = .ok (.if_icmp .le off, 3)) (ht : (pc : Int) + off = (t : Int)) (hn : pc + 3 = n) (hc : ¬ x ≤ z) (hkf : ev_J l D γ μ κ n ce sl lo st hp y w) : ev_J l D γ μ κ pc ce sl lo (.int z :: .int x :: st) hp y w := by
  obtain ⟨p, e, s, m, args, below, meth, c, Q, A, ρ0, n0, Ex⟩ := κ
  subst hn
  intro q hy E ρ ls H locs hl hw
  exact lv_icmp_le X.1 X.2.1 hd ht (fun h => absurd h hc) (fun _ => hkf q hy E ρ ls H locs hl hw)
theorem js_goto {t : Nat} {off : Int} (X : ev_X l D γ μ κ) (hd : decode μ.1 pc = .ok (.goto off, 3)) (ht : (pc : Int) + off = (t : Int)) (hk : ev_J l D γ μ κ t ce sl lo st hp y w) : ev_J l D γ μ κ pc ce sl lo st hp y w := by
  obtain ⟨p, e, s, m, args, below, meth, c, Q, A, ρ0, n0, Ex⟩ := κ
  intro q hy E ρ ls H locs hl hw
  exact lv_goto X.1 X.2.1 hd ht (hk q hy E ρ ls H locs hl hw)
theorem js_keep (b : List Bool) (hk : ev_J l D γ μ κ pc ce sl (ev_keep b lo) st hp y w) : ev_J l D γ μ κ pc ce sl lo st hp y w := by
  obtain ⟨p, e, s, m, args, below, meth, c, Q, A, ρ0, n0, Ex⟩ := κ
  intro q hy E ρ ls H locs hl hw
  exact hk q hy E ρ ls H locs (hl.keep b) hw
theorem js_none : ev_J l D γ μ κ pc ce sl lo st hp (none : Option β) w := by
  obtain ⟨p, e, s, m, args, below, meth, c, Q, A, ρ0, n0, Ex⟩ := κ
  intro q hy
  cases hy
theorem js_widen {ce' sl' : Nat} (h1 : ce ≤ ce') (h2 : sl ≤ sl') (hk : ev_J l D γ μ κ pc ce' sl' lo st hp y w) : ev_J l D γ μ κ pc ce sl lo st hp y w := by
  obtain ⟨p, e, s, m, args, below, meth, c, Q, A, ρ0, n0, Ex⟩ := κ
  intro q hy E ρ ls H locs hl hw
  exact W.widen h1 h2 (hk q hy E ρ ls H locs hl hw)
/-- a switch, one key after the other: ps are the keys that are left, with their targets -/
def ev_sj (l : Launch) (D : va_G) (γ : ev_ga) (μ : ev_mu) (κ : ev_ka) (pc ce sl : Nat) (lo : ev_L) (x : Int32) (st : List Value) (hp : ev_H) (ps : List (Int × Int)) (dflt : Int) (y : Option β) (w : β → ev_O) : Prop :=
  ∃ (off : Int) (t : Nat), Op.lookupswitch.offset ps dflt x.toInt = off ∧ (pc : Int) + off = (t : Int) ∧ ev_J l D γ μ κ t ce sl lo st hp y w
theorem js_sw0 {x : Int32} {dflt : Int} (t : Nat) (ht : (pc : Int) + dflt = (t : Int)) (hk : ev_J l D γ μ κ t ce sl lo st hp y w) : ev_sj l D γ μ κ pc ce sl lo x st hp [] dflt y w := ⟨dflt, t, rfl, ht, hk⟩
theorem js_sw1 {x v : Int32} {dflt k off : Int} {ps : List (Int × Int)} {y1 y2 : Option β} (t : Nat) (hv : v.toInt = k) (ht : (pc : Int) + off = (t : Int)) (hk : ev_J l D γ μ κ t ce sl lo st hp y1 w) (hr : ev_sj l D γ μ κ pc ce sl lo x st hp ps dflt y2 w) : ev_sj l D γ μ κ pc ce sl lo x st hp ((k, off) :: ps) dflt (if x = v then y1 else y2) w := by
  by_cases h : x = v
  · refine ⟨off, t, ?_, ht, ?_⟩
    · rw [Op.lookupswitch.offset_cons, if_pos (by rw [h]; exact hv.symm)]
    · rw [if_pos h]
      exact hk
  · obtain ⟨o1, t1, a, b, d⟩ := hr
    refine ⟨o1, t1, ?_, b, ?_⟩
    · rw [Op.lookupswitch.offset_cons, if_neg (fun z => h (Int32.toInt_inj.mp (z.symm.trans hv.symm)))]
      exact a
    · rw [if_neg h]
      exact d
theorem js_lsw {x : Int32} {len : Nat} {dflt : Int} {ps : Array (Int × Int)} (X : ev_X l D γ μ κ) (hd : decode μ.1 pc = .ok (.lookupswitch dflt ps, len)) (hsort : (ps.toList.zip (ps.toList.drop 1)).all (fun (a, next) => a.1 < next.1) = true) (hk : ev_sj l D γ μ κ pc ce sl lo x st hp ps.toList dflt y w) : ev_J l D γ μ κ pc ce sl lo (.int x :: st) hp y w := by
  obtain ⟨off, t, a, b, hk⟩ := hk
  obtain ⟨p, e, s, m, args, below, meth, c, Q, A, ρ0, n0, Ex⟩ := κ
  intro q hy E ρ ls H locs hl hw
  exact lv_lookup X.1 X.2.1 hd hsort a b (hk q hy E ρ ls H locs hl hw)
theorem ev_tab {lo1 dflt x : Int} : ∀ (offs : List Int) (i : Nat), (x < lo1 + i ∨ lo1 + i + offs.length ≤ x → Op.lookupswitch.offset ((offs.zipIdx i).map fun q => (lo1 + (q.2 : Int), q.1)) dflt x = dflt) ∧ ∀ (j : Nat) (o : Int), offs[j]? = some o → x = lo1 + (i + j : Nat) → Op.lookupswitch.offset ((offs.zipIdx i).map fun q => (lo1 + (q.2 : Int), q.1)) dflt x = o
  | [], i => ⟨fun _ => rfl, fun j o h => by simp at h⟩
  | a :: r, i => by
    obtain ⟨h1, h2⟩ := ev_tab (lo1 := lo1) (dflt := dflt) (x := x) r (i + 1)
    have e : (((a :: r).zipIdx i).map fun q => (lo1 + (q.2 : Int), q.1)) = (lo1 + (i : Int), a) :: ((r.zipIdx (i + 1)).map fun q => (lo1 + (q.2 : Int), q.1)) := by simp [List.zipIdx_cons]
    rw [e, Op.lookupswitch.offset_cons]
    refine ⟨fun h => ?_, fun j o hj hx => ?_⟩
    · rw [List.length_cons] at h
      rw [if_neg (by omega)]
      exact h1 (by omega)
    · cases j with
      | zero =>
        rw [if_pos (by omega)]
        simpa using hj
      | succ j =>
        rw [if_neg (by omega)]
        rw [List.getElem?_cons_succ] at hj
        exact h2 j o hj (by omega)
theorem js_tsw {x : Int32} {len : Nat} {dflt lo1 hi1 : Int} {offs : Array Int} (X : ev_X l D γ μ κ) (hd : decode μ.1 pc = .ok (.tableswitch dflt lo1 hi1 offs, len)) (hh : hi1 = lo1 + (offs.toList.length : Int) - 1) (hk : ev_sj l D γ μ κ pc ce sl lo x st hp ((offs.toList.zipIdx 0).map fun q => (lo1 + (q.2 : Int), q.1)) dflt y w) : ev_J l D γ μ κ pc ce sl lo (.int x :: st) hp y w := by
  obtain ⟨off, t, a, b, hk⟩ := hk
  obtain ⟨p, e, s, m, args, below, meth, c, Q, A, ρ0, n0, Ex⟩ := κ
  intro q hy E ρ ls H locs hl hw
  obtain ⟨h1, h2⟩ := ev_tab (lo1 := lo1) (dflt := dflt) (x := x.toInt) offs.toList 0
  by_cases hin : x.toInt < lo1 ∨ hi1 < x.toInt
  · have e1 := h1 (by omega)
    rw [e1] at a
    subst a
    exact lv_tableOut X.1 X.2.1 hd hin b (hk q hy E ρ ls H locs hl hw)
  · have n1 : ¬ x.toInt < lo1 := fun z => hin (Or.inl z)
    have n2 : ¬ hi1 < x.toInt := fun z => hin (Or.inr z)
    have hil : (x.toInt - lo1).toNat < offs.toList.length := by omega
    have hi : offs.toList[(x.toInt - lo1).toNat]? = some offs.toList[(x.toInt - lo1).toNat] := List.getElem?_eq_getElem hil
    have e2 := h2 _ _ hi (by omega)
    rw [e2] at a
    subst a
    exact lv_tableIn X.1 X.2.1 hd n1 n2 (by rw [← Array.getElem?_toList]; exact hi) b (hk q hy E ρ ls H locs hl hw)
end EVR
end
section
def ev_C (γ : ev_ga) (ci : Nat) (C : String) (T : u_T) (N : Nat) (ty : Nat → FieldType) : Prop :=
  γ.1[ci]? = some (C, T, N) ∧ (∀ w ∈ u_ws C T N, w ∈ γ.2.2) ∧ (∀ k, k < N → parseFieldDescriptor (T k).2.2.1 = some (ty k)) ∧ ∀ a, a < N → ∀ b, b < N → a ≠ b → (T a).2.1 ≠ (T b).2.1
theorem ev_w_setf (ρ : ev_R) (hp : ev_H) (a ci j : Nat) (fs : List Value) (v : Value) : ev_w ρ (ev_s hp a (.inr (ci, ev_s fs j v))) = (ev_w ρ hp).set a ((ρ a).1, .inr (ci, (fs.map (ev_v ρ)).set j (ev_v ρ v))) := by
  rw [ev_w_set]
  have h : ev_e ρ a (.inr (ci, ev_s fs j v)) = .inr (ci, (fs.map (ev_v ρ)).set j (ev_v ρ v)) := by
    show (Sum.inr (ci, (ev_s fs j v).map (ev_v ρ)) : va_E) = _
    rw [ev_s_eq, List.map_set]
  rw [h]
def cpok (sp dp n : Int32) (n0 n1 : Nat) : Bool := decide (¬ sp < 0 ∧ ¬ dp < 0 ∧ ¬ n < 0 ∧ sp.toNatClampNeg + n.toNatClampNeg ≤ n0 ∧ dp.toNatClampNeg + n.toNatClampNeg ≤ n1)
theorem cpok_of {sp dp n : Int32} {n0 n1 : Nat} (h : cpok sp dp n n0 n1 = true) : ¬ sp < 0 ∧ ¬ dp < 0 ∧ ¬ n < 0 ∧ sp.toNatClampNeg + n.toNatClampNeg ≤ n0 ∧ dp.toNatClampNeg + n.toNatClampNeg ≤ n1 := of_decide_eq_true h
theorem ev_lo.grow {ρ ρ' : ev_R} {ls : Array Slot} {lo : ev_L} {N nL : Nat} (hl : ev_lo ρ ls nL lo) (ha : ∀ k, k < N → ρ' k = ρ k) (h : ev_okl N lo = true) : ev_lo ρ' ls nL lo := hl.to fun i v hi => ev_okl_eq ha h i v hi
section EVC
variable {β : Type} {l : Launch} {D : va_G} {γ : ev_ga} {μ : ev_mu} {κ : ev_ka} {pc n ce sl : Nat} {lo : ev_L} {st : List Value} {hp : ev_H} {y : Option β} {w : β → ev_O}
theorem js_getf {ci j N idx a : Nat} {C : String} {T : u_T} {ty : Nat → FieldType} {fs : List Value} {v : Value} (X : ev_X l D γ μ κ) (hd : decode μ.1 pc = .ok (.getfield idx, 3)) (hn : pc + 3 = n) (hC : ev_C γ ci C T N ty) (hj : j < N) (hlink : Jvm.Cond.fieldLink μ.2.2.2.1.cls idx (T j).1 (T j).2.1 (T j).2.2.1 ∈ γ.2.2) (hx : ev_n hp a = some (.inr (ci, fs))) (hv : ev_n fs j = some v) (hk : ev_J l D γ μ κ n ce sl lo (v :: st) hp y w) : ev_J l D γ μ κ pc ce sl lo (.ref a :: st) hp y w := by
  obtain ⟨p, e, s, m, args, below, meth, c, Q, A, ρ0, n0, Ex⟩ := κ
  subst hn
  intro q hy E ρ ls H locs hl hw
  exact va_get X.1 X.2.1 X.2.2.2.2.1 hC.2.1 X.2.2.2.1 X.2.2.2.2.2.1 hw.1 a (ev_w_at hx) hC.1 j hj (X.2.2.2.2.1 _ hlink) (fun _ h => h) (v := ev_v ρ v) (by rw [List.getElem?_map, ← ev_n_eq, hv]; rfl) hd (hk q hy E ρ ls H locs hl hw)
theorem js_put0 {ci j N idx a : Nat} {C : String} {T : u_T} {ty : Nat → FieldType} {fs : List Value} {v : Value} (X : ev_X l D γ μ κ) (hd : decode μ.1 pc = .ok (.putfield idx, 3)) (hn : pc + 3 = n) (hC : ev_C γ ci C T N ty) (hj : j < N) (hlink : Jvm.Cond.fieldLink μ.2.2.2.1.cls idx (T j).1 (T j).2.1 (T j).2.2.1 ∈ γ.2.2) (hx : ev_n hp a = some (.inr (ci, fs)))
    (hfin : (T j).2.2.2 = false ∨ ((T j).2.2.2 = true ∧ μ.2.2.2.1.name = "<init>" ∧ (T j).1 = μ.2.2.2.1.cls)) (hlen : j < fs.length) (hv1 : ∀ ρ, narrow (ty j) (ev_v ρ v) = ev_v ρ v) (hv2 : ∀ ρ, fits (ty j) (ev_v ρ v) = true) (hk : ev_J l D γ μ κ n ce sl lo st (ev_s hp a (.inr (ci, ev_s fs j v))) y w) : ev_J l D γ μ κ pc ce sl lo (v :: .ref a :: st) hp y w := by
  obtain ⟨p, e, s, m, args, below, meth, c, Q, A, ρ0, n0, Ex⟩ := κ
  subst hn
  intro q hy E ρ ls H locs hl hw
  obtain ⟨hP, hD, hS, hT, hn0, hag⟩ := hw
  have hlen' : j < (fs.map (ev_v ρ)).length := by rw [List.length_map]; exact hlen
  rcases hfin with hfin | ⟨hfin, hin, hdecl⟩
  · refine va_put X.1 X.2.1 X.2.2.2.2.1 hC.2.1 ty hC.2.2.1 hC.2.2.2 X.2.2.2.1 X.2.2.2.2.2.1 hP hD hS a (ev_w_at hx) hC.1 j hj (X.2.2.2.2.1 _ hlink) (fun _ h => h) hfin (hC.2.2.1 j hj) (hv1 ρ) (hv2 ρ) hlen' hd (fun H1 locs1 hP1 hD1 hS1 => ?_)
    exact hk q hy E ρ ls H1 locs1 hl ⟨by rw [ev_w_setf]; exact hP1, by rw [ev_w_setf]; exact hD1, hS1, hT.seto, by rw [ev_s_len]; exact hn0, hag⟩
  · refine va_putF X.1 X.2.1 X.2.2.2.2.1 hC.2.1 ty hC.2.2.1 hC.2.2.2 X.2.2.2.1 X.2.2.2.2.2.1 hP hD hS a (ev_w_at hx) hC.1 j hj (X.2.2.2.2.1 _ hlink) (fun _ h => h) hfin (X.2.2.2.2.2.2.2.2.1.trans hin) hdecl (hC.2.2.1 j hj) (hv1 ρ) (hv2 ρ) hlen' hd (fun H1 locs1 hP1 hD1 hS1 => ?_)
    exact hk q hy E ρ ls H1 locs1 hl ⟨by rw [ev_w_setf]; exact hP1, by rw [ev_w_setf]; exact hD1, hS1, hT.seto, by rw [ev_s_len]; exact hn0, hag⟩
theorem js_puti {ci j N idx a : Nat} {C : String} {T : u_T} {ty : Nat → FieldType} {fs : List Value} {x : Int32} (X : ev_X l D γ μ κ) (hd : decode μ.1 pc = .ok (.putfield idx, 3)) (hn : pc + 3 = n) (hC : ev_C γ ci C T N ty) (hj : j < N) (hlink : Jvm.Cond.fieldLink μ.2.2.2.1.cls idx (T j).1 (T j).2.1 (T j).2.2.1 ∈ γ.2.2) (hx : ev_n hp a = some (.inr (ci, fs))) (hty : ty j = .int) (hfin : (T j).2.2.2 = false ∨ ((T j).2.2.2 = true ∧ μ.2.2.2.1.name = "<init>" ∧ (T j).1 = μ.2.2.2.1.cls)) (hlen : j < fs.length) (hk : ev_J l D γ μ κ n ce sl lo st (ev_s hp a (.inr (ci, ev_s fs j (.int x)))) y w) : ev_J l D γ μ κ pc ce sl lo (.int x :: .ref a :: st) hp y w :=
  js_put0 X hd hn hC hj hlink hx hfin hlen (fun _ => by rw [hty]; rfl) (fun _ => by rw [hty]; rfl) hk
theorem js_putj {ci j N idx a : Nat} {C : String} {T : u_T} {ty : Nat → FieldType} {fs : List Value} {x : Int64} (X : ev_X l D γ μ κ) (hd : decode μ.1 pc = .ok (.putfield idx, 3)) (hn : pc + 3 = n) (hC : ev_C γ ci C T N ty) (hj : j < N) (hlink : Jvm.Cond.fieldLink μ.2.2.2.1.cls idx (T j).1 (T j).2.1 (T j).2.2.1 ∈ γ.2.2) (hx : ev_n hp a = some (.inr (ci, fs))) (hty : ty j = .long) (hfin : (T j).2.2.2 = false ∨ ((T j).2.2.2 = true ∧ μ.2.2.2.1.name = "<init>" ∧ (T j).1 = μ.2.2.2.1.cls)) (hlen : j < fs.length) (hk : ev_J l D γ μ κ n ce sl lo st (ev_s hp a (.inr (ci, ev_s fs j (.long x)))) y w) : ev_J l D γ μ κ pc ce sl lo (.long x :: .ref a :: st) hp y w :=
  js_put0 X hd hn hC hj hlink hx hfin hlen (fun _ => by rw [hty]; rfl) (fun _ => by rw [hty]; rfl) hk
theorem js_putr {ci j N idx a : Nat} {C : String} {T : u_T} {ty : Nat → FieldType} {fs : List Value} {x : Nat} (X : ev_X l D γ μ κ) (hd : decode μ.1 pc = .ok (.putfield idx, 3)) (hn : pc + 3 = n) (hC : ev_C γ ci C T N ty) (hj : j < N) (hlink : Jvm.Cond.fieldLink μ.2.2.2.1.cls idx (T j).1 (T j).2.1 (T j).2.2.1 ∈ γ.2.2) (hx : ev_n hp a = some (.inr (ci, fs))) (hty : (∃ E, ty j = .object E) ∨ ∃ t, ty j = .array t) (hfin : (T j).2.2.2 = false ∨ ((T j).2.2.2 = true ∧ μ.2.2.2.1.name = "<init>" ∧ (T j).1 = μ.2.2.2.1.cls)) (hlen : j < fs.length) (hk : ev_J l D γ μ κ n ce sl lo st (ev_s hp a (.inr (ci, ev_s fs j (.ref x)))) y w) : ev_J l D γ μ κ pc ce sl lo (.ref x :: .ref a :: st) hp y w :=
  js_put0 X hd hn hC hj hlink hx hfin hlen (fun _ => by rcases hty with ⟨E, hty⟩ | ⟨t, hty⟩ <;> (rw [hty]; rfl)) (fun _ => by rcases hty with ⟨E, hty⟩ | ⟨t, hty⟩ <;> (rw [hty]; rfl)) hk
theorem js_putz {ci j N idx a : Nat} {C : String} {T : u_T} {ty : Nat → FieldType} {fs : List Value} {x : Int32} (X : ev_X l D γ μ κ) (hd : decode μ.1 pc = .ok (.putfield idx, 3)) (hn : pc + 3 = n) (hC : ev_C γ ci C T N ty) (hj : j < N) (hlink : Jvm.Cond.fieldLink μ.2.2.2.1.cls idx (T j).1 (T j).2.1 (T j).2.2.1 ∈ γ.2.2) (hx : ev_n hp a = some (.inr (ci, fs))) (hty : ty j = .boolean) (hfin : (T j).2.2.2 = false ∨ ((T j).2.2.2 = true ∧ μ.2.2.2.1.name = "<init>" ∧ (T j).1 = μ.2.2.2.1.cls)) (hlen : j < fs.length) (hk : ev_J l D γ μ κ n ce sl lo st (ev_s hp a (.inr (ci, ev_s fs j (.int x)))) y w) : ev_J l D γ μ κ pc ce sl lo (.int x :: .ref a :: st) hp (ck (isB x) y) w := by
  by_cases hb : isB x = true
  · rw [hb]
    exact js_put0 X hd hn hC hj hlink hx hfin hlen (fun _ => by rw [hty]; rcases isB_or hb with rfl | rfl <;> rfl) (fun _ => by rw [hty]; rcases isB_or hb with rfl | rfl <;> rfl) hk
  · rw [Bool.not_eq_true] at hb
    rw [hb]
    exact js_none
theorem js_iaload {a N : Nat} {i : Int32} {f : Nat → Int32} (X : ev_X l D γ μ κ) (hd : decode μ.1 pc = .ok (.iaload, 1)) (hn : pc + 1 = n) (hx : ev_n hp a = some (.inl (.int, N, .inl f))) (hk : ev_J l D γ μ κ n ce sl lo (.int (f (ix i)) :: st) hp y w) : ev_J l D γ μ κ pc ce sl lo (.int i :: .ref a :: st) hp (ck (inb i N) y) w := by
  obtain ⟨p, e, s, m, args, below, meth, c, Q, A, ρ0, n0, Ex⟩ := κ
  subst hn
  intro q hy E ρ ls H locs hl hw
  obtain ⟨h1, hy⟩ := ck_t hy
  exact va_iald X.1 X.2.1 (hw.2.2.2.1.K X.2.2.2.2.2.1 hx) hw.1 a 0 (ev_w_at hx) rfl (inb_in h1) hd (hk q hy E ρ ls H locs hl hw)
theorem js_baload {a N : Nat} {i : Int32} {f : Nat → Int32} (X : ev_X l D γ μ κ) (hd : decode μ.1 pc = .ok (.baload, 1)) (hn : pc + 1 = n) (hx : ev_n hp a = some (.inl (.boolean, N, .inl f))) (hk : ev_J l D γ μ κ n ce sl lo (.int (f (ix i)) :: st) hp y w) : ev_J l D γ μ κ pc ce sl lo (.int i :: .ref a :: st) hp (ck (inb i N) y) w := by
  obtain ⟨p, e, s, m, args, below, meth, c, Q, A, ρ0, n0, Ex⟩ := κ
  subst hn
  intro q hy E ρ ls H locs hl hw
  obtain ⟨h1, hy⟩ := ck_t hy
  exact va_zald X.1 X.2.1 (hw.2.2.2.1.K X.2.2.2.2.2.1 hx) hw.1 a 0 (ev_w_at hx) rfl (inb_in h1) hd (hk q hy E ρ ls H locs hl hw)
theorem js_laload {a N : Nat} {i : Int32} {f : Nat → Int64} (X : ev_X l D γ μ κ) (hd : decode μ.1 pc = .ok (.laload, 1)) (hn : pc + 1 = n) (hx : ev_n hp a = some (.inl (.long, N, .inr f))) (hk : ev_J l D γ μ κ n ce sl lo (.long (f (ix i)) :: st) hp y w) : ev_J l D γ μ κ pc ce sl lo (.int i :: .ref a :: st) hp (ck (inb i N) y) w := by
  obtain ⟨p, e, s, m, args, below, meth, c, Q, A, ρ0, n0, Ex⟩ := κ
  subst hn
  intro q hy E ρ ls H locs hl hw
  obtain ⟨h1, hy⟩ := ck_t hy
  exact va_lald X.1 X.2.1 (hw.2.2.2.1.K X.2.2.2.2.2.1 hx) hw.1 a 0 (ev_w_at hx) rfl (inb_in h1) hd (hk q hy E ρ ls H locs hl hw)
theorem js_iastore {a N : Nat} {i : Int32} {x : Int32} {f : Nat → Int32} (X : ev_X l D γ μ κ) (hd : decode μ.1 pc = .ok (.iastore, 1)) (hn : pc + 1 = n) (hx : ev_n hp a = some (.inl (.int, N, .inl f))) (hk : ev_J l D γ μ κ n ce sl lo st (ev_s hp a (.inl (.int, N, .inl (upd f (ix i) x)))) y w) : ev_J l D γ μ κ pc ce sl lo (.int x :: .int i :: .ref a :: st) hp (ck (inb i N) y) w := by
  obtain ⟨p, e, s, m, args, below, meth, c, Q, A, ρ0, n0, Ex⟩ := κ
  subst hn
  intro q hy E ρ ls H locs hl hw
  obtain ⟨h1, hy⟩ := ck_t hy
  obtain ⟨hP, hD, hS, hT, hn0, hag⟩ := hw
  refine va_iast X.1 X.2.1 (hT.K X.2.2.2.2.2.1 hx) hP hD hS a 0 (ev_w_at hx) rfl (inb_in h1) hd (fun H1 locs1 hP1 hD1 hS1 => ?_)
  exact hk q hy E ρ ls H1 locs1 hl ⟨by rw [ev_w_set]; exact hP1, by rw [ev_w_set]; exact hD1, hS1, hT.set hx, by rw [ev_s_len]; exact hn0, hag⟩
theorem js_lastore {a N : Nat} {i : Int32} {x : Int64} {f : Nat → Int64} (X : ev_X l D γ μ κ) (hd : decode μ.1 pc = .ok (.lastore, 1)) (hn : pc + 1 = n) (hx : ev_n hp a = some (.inl (.long, N, .inr f))) (hk : ev_J l D γ μ κ n ce sl lo st (ev_s hp a (.inl (.long, N, .inr (vp_updL f (ix i) x)))) y w) : ev_J l D γ μ κ pc ce sl lo (.long x :: .int i :: .ref a :: st) hp (ck (inb i N) y) w := by
  obtain ⟨p, e, s, m, args, below, meth, c, Q, A, ρ0, n0, Ex⟩ := κ
  subst hn
  intro q hy E ρ ls H locs hl hw
  obtain ⟨h1, hy⟩ := ck_t hy
  obtain ⟨hP, hD, hS, hT, hn0, hag⟩ := hw
  refine va_last X.1 X.2.1 (hT.K X.2.2.2.2.2.1 hx) hP hD hS a 0 (ev_w_at hx) rfl (inb_in h1) hd (fun H1 locs1 hP1 hD1 hS1 => ?_)
  exact hk q hy E ρ ls H1 locs1 hl ⟨by rw [ev_w_set]; exact hP1, by rw [ev_w_set]; exact hD1, hS1, hT.set hx, by rw [ev_s_len]; exact hn0, hag⟩
theorem js_bastore {a N : Nat} {i : Int32} {x : Int32} {f : Nat → Int32} (X : ev_X l D γ μ κ) (hd : decode μ.1 pc = .ok (.bastore, 1)) (hn : pc + 1 = n) (hx : ev_n hp a = some (.inl (.boolean, N, .inl f))) (hk : ev_J l D γ μ κ n ce sl lo st (ev_s hp a (.inl (.boolean, N, .inl (upd f (ix i) x)))) y w) : ev_J l D γ μ κ pc ce sl lo (.int x :: .int i :: .ref a :: st) hp (ck (inb i N) (ck (isB x) y)) w := by
  obtain ⟨p, e, s, m, args, below, meth, c, Q, A, ρ0, n0, Ex⟩ := κ
  subst hn
  intro q hy E ρ ls H locs hl hw
  obtain ⟨h1, hy⟩ := ck_t hy
  obtain ⟨h2, hy⟩ := ck_t hy
  have hz : vp_nar .boolean x = x := by rcases isB_or h2 with rfl | rfl <;> rfl
  obtain ⟨hP, hD, hS, hT, hn0, hag⟩ := hw
  refine va_zast X.1 X.2.1 (hT.K X.2.2.2.2.2.1 hx) hP hD hS a 0 (ev_w_at hx) rfl (inb_in h1) hd (fun H1 locs1 hP1 hD1 hS1 => ?_)
  rw [hz] at hP1 hD1
  exact hk q hy E ρ ls H1 locs1 hl ⟨by rw [ev_w_set]; exact hP1, by rw [ev_w_set]; exact hD1, hS1, hT.set hx, by rw [ev_s_len]; exact hn0, hag⟩
theorem js_alen {a N : Nat} {ty : FieldType} {f : Nat → Int32} (X : ev_X l D γ μ κ) (hd : decode μ.1 pc = .ok (.arraylength, 1)) (hn : pc + 1 = n) (hx : ev_n hp a = some (.inl (ty, N, .inl f))) (hk : ev_J l D γ μ κ n ce sl lo (.int (Int32.ofNat N) :: st) hp y w) : ev_J l D γ μ κ pc ce sl lo (.ref a :: st) hp y w := by
  obtain ⟨p, e, s, m, args, below, meth, c, Q, A, ρ0, n0, Ex⟩ := κ
  subst hn
  intro q hy E ρ ls H locs hl hw
  exact va_alen X.1 X.2.1 (hw.2.2.2.1.K X.2.2.2.2.2.1 hx) hw.1 a 0 (ev_w_at hx) rfl rfl hd (hk q hy E ρ ls H locs hl hw)
theorem js_copy {idx a b N0 N1 : Nat} {sp dp k9 : Int32} {f g : Nat → Int32} (X : ev_X l D γ μ κ) (hd : decode μ.1 pc = .ok (.invokestatic idx, 3)) (hn : pc + 3 = n) (w1 : Jvm.Cond.methodLink μ.2.2.2.1.cls idx arraycopyName ∈ γ.2.2) (w2 : Jvm.Cond.native arraycopyName ∈ γ.2.2) (w3 : Jvm.Cond.static arraycopyName ∈ γ.2.2) (w4 : Jvm.Cond.initialized "java/lang/System" ∈ γ.2.2) (hf : 1 ≤ μ.2.2.2.2.1.frames) (hlo : nativeFrameWords "java/lang/System" "arraycopy" 5 + 11 ≤ μ.2.2.2.2.1.locals)
    (hx : ev_n hp a = some (.inl (.int, N0, .inl f))) (hz : ev_n hp b = some (.inl (.int, N1, .inl g))) (hk : ev_J l D γ μ κ n ce sl lo [] (ev_s hp b (.inl (.int, N1, .inl (va_cpy f g (ix sp) (ix dp) (ix k9))))) y w) : ev_J l D γ μ κ pc ce sl lo [.int k9, .int dp, .ref b, .int sp, .ref a] hp (ck (cpok sp dp k9 N0 N1) y) w := by
  obtain ⟨p, e, s, m, args, below, meth, c, Q, A, ρ0, n0, Ex⟩ := κ
  subst hn
  intro q hy E ρ ls H locs hl hw
  obtain ⟨h1, hy⟩ := ck_t hy
  obtain ⟨c1, c2, c3, c4, c5⟩ := cpok_of h1
  obtain ⟨hP, hD, hS, hT, hn0, hag⟩ := hw
  refine va_copyi (rest := []) X.1 X.2.1 (X.2.2.1.trans hl.1.symm) X.2.2.2.1 (X.2.2.2.2.1 _ w1) (X.2.2.2.2.1 _ w2) (X.2.2.2.2.1 _ w3) (X.2.2.2.2.1 _ w4) ((hT.K X.2.2.2.2.2.1 hx).app (hT.K X.2.2.2.2.2.1 hz)) hP hD hS a b 0 1 (ev_w_at hx) (ev_w_at hz) rfl rfl rfl c1 c2 c3 c4 c5 (fun _ _ => rfl) hf (by simpa using hlo) hd (fun H1 locs1 hP1 hD1 hS1 => ?_)
  exact hk q hy E ρ ls H1 locs1 hl ⟨by rw [ev_w_set]; exact hP1, by rw [ev_w_set]; exact hD1, hS1, hT.set hz, by rw [ev_s_len]; exact hn0, hag⟩
theorem js_new {ci N idx : Nat} {C : String} {T : u_T} {ty : Nat → FieldType} {fs : List Value} (X : ev_X l D γ μ κ) (hd : decode μ.1 pc = .ok (.new idx, 3)) (hn : pc + 3 = n) (hC : ev_C γ ci C T N ty) (w1 : Jvm.Cond.classLink μ.2.2.2.1.cls idx C ∈ γ.2.2) (w2 : Jvm.Cond.instantiable C N ∈ γ.2.2) (w3 : Jvm.Cond.initialized C ∈ γ.2.2) (hfs : ∀ j, j < N → defaultValue (ty j) = vp_V fs j) (hfi : ∀ ρ : ev_R, fs.map (ev_v ρ) = fs) (h1 : ce + 1 ≤ μ.2.2.2.2.1.cells) (h2 : sl + N ≤ μ.2.2.2.2.1.slots)
    (o1 : ev_okh hp.length hp = true) (o2 : ev_okl hp.length lo = true) (o3 : ev_oks hp.length st = true) (hk : ev_J l D γ μ κ n (ce + 1) (sl + N) lo (.ref hp.length :: st) (hp ++ [.inr (ci, fs)]) y w) : ev_J l D γ μ κ pc ce sl lo st hp y w := by
  obtain ⟨p, e, s, m, args, below, meth, c, Q, A, ρ0, n0, Ex⟩ := κ
  subst hn
  intro q hy E ρ ls H locs hl hw
  obtain ⟨hP, hD, hS, hT, hn0, hag⟩ := hw
  refine va_new (fs := fs) X.1 X.2.1 X.2.2.2.2.1 hC.2.1 ty hC.2.2.1 X.2.2.2.1 (X.2.2.2.2.1 _ w1) (X.2.2.2.2.1 _ w2) (X.2.2.2.2.1 _ w3) X.2.2.2.2.2.1 hP hD hS X.2.2.2.2.2.2.1 hC.1 hfs h1 h2 hd (fun q9 H1 hP1 hD1 hS1 => ?_)
  have ha : ∀ k, k < hp.length → ev_up ρ hp.length q9 (ρ 0).2 k = ρ k := fun k hk => ev_up_lt k hk
  have he : ev_w (ev_up ρ hp.length q9 (ρ 0).2) (hp ++ [.inr (ci, fs)]) = ev_w ρ hp ++ [(q9, .inr (ci, fs))] := by
    rw [ev_w_push o1]
    show _ ++ [(q9, (Sum.inr (ci, fs.map (ev_v _)) : va_E))] = _
    rw [hfi]
  have hst : List.map (ev_v (ev_up ρ hp.length q9 (ρ 0).2)) (.ref hp.length :: st) = .ref q9 :: List.map (ev_v ρ) st := by
    rw [List.map_cons, ev_oks_eq ha o3]
    show Value.ref (ev_up ρ hp.length q9 (ρ 0).2 hp.length).1 :: _ = _
    rw [ev_up_at]
  have := hk q hy E (ev_up ρ hp.length q9 (ρ 0).2) ls H1 locs (hl.grow ha o2) ⟨by rw [he]; exact hP1, by rw [he]; exact hD1, hS1, ?_, by rw [List.length_append]; omega, fun k hk => by rw [ev_up_lt k (by omega)]; exact hag k hk⟩
  · rw [hst] at this
    exact this
  · intro k t x hx
    by_cases hkl : k < hp.length
    · rw [List.getElem?_append_left hkl] at hx
      rw [ev_up_lt k hkl]
      exact hT k t x hx
    · rw [List.getElem?_append_right (by omega)] at hx
      have hz : k - hp.length < 1 := (List.getElem?_eq_some_iff.mp hx).1
      have hz0 : k - hp.length = 0 := by omega
      rw [hz0] at hx
      cases hx
def ev_a0 (a : (Nat → Int32) ⊕ (Nat → Int64)) : (Nat → Int32) ⊕ (Nat → Int64) ⊕ (Nat → UInt32) ⊕ (Nat → UInt64) ⊕ (Nat → Option Nat) := match a with
  | .inl f => .inl f
  | .inr f => .inr (.inl f)
theorem js_newa {N : Nat} {ty : FieldType} {atype : ArrayType} (a : (Nat → Int32) ⊕ (Nat → Int64)) {k9 : Int32} (X : ev_X l D γ μ κ) (hd : decode μ.1 pc = .ok (.newarray atype, 2)) (hn : pc + 2 = n) (w1 : Jvm.Cond.arrayClass (newarray.typeOf atype) ∈ γ.2.2) (hty : newarray.typeOf atype = ty) (ha0 : ∀ cA : ClassId, vp_cell cA (N, ev_a0 a) = arrV cA N (fun _ => defaultValue ty)) (hby : N * componentBytes ty ≤ 536870912) (h1 : ce + 1 ≤ μ.2.2.2.2.1.cells) (h2 : sl + N ≤ μ.2.2.2.2.1.slots)
    (g1 : ¬ k9 < 0) (g2 : ix k9 = N) (o1 : ev_okh hp.length hp = true) (o2 : ev_okl hp.length lo = true) (o3 : ev_oks hp.length st = true) (hk : ev_J l D γ μ κ n (ce + 1) (sl + N) lo (.ref hp.length :: st) (hp ++ [.inl (ty, N, a)]) y w) : ev_J l D γ μ κ pc ce sl lo (.int k9 :: st) hp y w := by
  obtain ⟨p, e, s, m, args, below, meth, c, Q, A, ρ0, n0, Ex⟩ := κ
  subst hn
  intro q hy E ρ ls H locs hl hw
  obtain ⟨hP, hD, hS, hT, hn0, hag⟩ := hw
  refine va_newa (a0 := (N, ev_a0 a)) X.1 X.2.1 (X.2.2.2.2.1 _ w1) hty X.2.2.2.2.2.1 hP hD hS X.2.2.2.2.2.2.1 ha0 g1 g2 hby h1 h2 hd (fun q9 cA H1 hK1 hP1 hD1 hS1 => ?_)
  have ha : ∀ k, k < hp.length → ev_up ρ hp.length q9 cA k = ρ k := fun k hk => ev_up_lt k hk
  have he : ev_w (ev_up ρ hp.length q9 cA) (hp ++ [.inl (ty, N, a)]) = ev_w ρ hp ++ [(q9, .inl (cA, N, ev_a0 a))] := by
    rw [ev_w_push o1]
    have : ev_e (ev_up ρ hp.length q9 cA) hp.length (.inl (ty, N, a)) = .inl (cA, N, ev_a0 a) := by
      rcases a with f | f
      · show (Sum.inl ((ev_up ρ hp.length q9 cA hp.length).2, N, _) : va_E) = _
        rw [ev_up_at]
        rfl
      · show (Sum.inl ((ev_up ρ hp.length q9 cA hp.length).2, N, _) : va_E) = _
        rw [ev_up_at]
        rfl
    rw [this]
  have hst : List.map (ev_v (ev_up ρ hp.length q9 cA)) (.ref hp.length :: st) = .ref q9 :: List.map (ev_v ρ) st := by
    rw [List.map_cons, ev_oks_eq ha o3]
    show Value.ref (ev_up ρ hp.length q9 cA hp.length).1 :: _ = _
    rw [ev_up_at]
  have := hk q hy E (ev_up ρ hp.length q9 cA) ls H1 locs (hl.grow ha o2) ⟨by rw [he]; exact hP1, by rw [he]; exact hD1, hS1, ?_, by rw [List.length_append]; omega, fun k hk => by rw [ev_up_lt k (by omega)]; exact hag k hk⟩
  · rw [hst] at this
    exact this
  · intro k t x hx
    by_cases hkl : k < hp.length
    · rw [List.getElem?_append_left hkl] at hx
      rw [ev_up_lt k hkl]
      exact hT k t x hx
    · rw [List.getElem?_append_right (by omega)] at hx
      have hz : k - hp.length < 1 := (List.getElem?_eq_some_iff.mp hx).1
      have hz0 : k = hp.length := by omega
      subst hz0
      rw [Nat.sub_self] at hx
      cases hx
      rw [ev_up_at]
      exact hK1.2 0 (cA, ty) rfl
theorem js_objI {idx a : Nat} (X : ev_X l D γ μ κ) (hd : decode μ.1 pc = .ok (.invokespecial idx, 3)) (hn : pc + 3 = n) (w1 : Jvm.Cond.methodLink μ.2.2.2.1.cls idx Lib.objectInit ∈ γ.2.2) (w2 : Jvm.Cond.instanceMethod Lib.objectInit ∈ γ.2.2) (w3 : Jvm.Cond.code Lib.objectInit ⟨#[0xb1]⟩ 1 none ∈ γ.2.2) (hf : 1 ≤ μ.2.2.2.2.1.frames) (hlo : 12 ≤ μ.2.2.2.2.1.locals) (hk : ev_J l D γ μ κ n ce sl lo [] hp y w) : ev_J l D γ μ κ pc ce sl lo [.ref a] hp y w := by
  obtain ⟨p, e, s, m, args, below, meth, c, Q, A, ρ0, n0, Ex⟩ := κ
  subst hn
  intro q hy E ρ ls H locs hl hw
  refine W.objInit (rest := []) X.1 X.2.1 X.2.2.2.1 (X.2.2.2.2.1 _ w1) (X.2.2.2.2.1 _ w2) (X.2.2.2.2.1 _ w3) rfl (by rw [X.2.2.1]; exact hl.1) rfl hd hf hlo ?_
  exact hk q hy E ρ ls H locs hl hw
end EVC
end
section
def ev_Pw (D : va_G) (γ : ev_ga) (ρ : ev_R) (hp : ev_H) (sz : Nat) (U : State) : Prop :=
  U.heap.size = sz ∧ va_P D γ.1 (ev_w ρ hp) U.heap ∧ va_K D γ.1 [] U ∧ ev_T ρ hp U ∧ va_D (fun _ => True) (ev_w ρ hp) ∧ ∀ q ∈ γ.2.1, va_Nw (.methodLinkNest q.1 q.2.1 q.2.2.1 q.2.2.2) U
def ev_Bq (D : va_G) (γ : ev_ga) (ρ : ev_R) (hp hp' : ev_H) (sz : Nat) (ρ' : ev_R) (t : State) : Prop :=
  va_P D γ.1 (ev_w ρ' hp') t.heap ∧ ev_T ρ' hp' t ∧ va_D (va_A (ev_w ρ hp) sz) (ev_w ρ' hp')
def ev_ag (ρ : ev_R) (hp hp' : ev_H) (ρ' : ev_R) : Prop := (∀ k, k < hp.length → ρ' k = ρ k) ∧ hp.length ≤ hp'.length
def ev_Q (D : va_G) (γ : ev_ga) (ρ : ev_R) (hp : ev_H) (o : ev_O) (sz : Nat) : Array Value → State → Outcome → State → Prop := match o with
  | (none, hp') => va_Qv (ev_ag ρ hp hp') (ev_Bq D γ ρ hp hp' sz) (va_A (ev_w ρ hp) sz)
  | (some (.int r), hp') => va_Qi (fun r' ρ' => r' = r ∧ ev_ag ρ hp hp' ρ') (ev_Bq D γ ρ hp hp' sz) (va_A (ev_w ρ hp) sz)
  | _ => fun _ _ _ _ => False
/-- a method's contract at the values as over the world hp: what the pure side says, it does -/
def ev_M {α : Type} (l : Launch) (D : va_G) (γ : ev_ga) (μ : ev_mu) (as : List Value) (hp : ev_H) (y : Option α) (w : α → ev_O) : Prop :=
  ∀ (q : α), y = some q → ∀ (ρ : ev_R) (sz : Nat), Met l μ.2.2.2.1 (Jvm.Cond.code μ.2.2.2.1 μ.1 μ.2.1 μ.2.2.1 :: γ.2.2) μ.2.2.2.2.1 (va_Pc (as.map (ev_v ρ)) (ev_Pw D γ ρ hp sz)) (ev_Q D γ ρ hp (w q) sz) μ.2.2.2.2.2.1 μ.2.2.2.2.2.2 (va_A (ev_w ρ hp) sz)
theorem ev_blind {D : va_G} {γ : ev_ga} {ρ : ev_R} {hp : ev_H} {sz : Nat} {av : List Value} : FrameBlind (va_Pc av (ev_Pw D γ ρ hp sz)) := by
  intro a U g mk q
  obtain ⟨q0, q1, qP, qK, qT, qD, qN⟩ := q
  exact ⟨q0, q1, qP, va_K.moved (u := U) (U := U.calling g mk a) (Vm.Alike.refl U.vm) qK, ev_T.moved (u := U) (U := U.calling g mk a) (Vm.Alike.refl U.vm) qT, qD, fun z hz => va_Nw.same rfl (u := U) (U := U.calling g mk a) rfl (qN z hz)⟩
def ev_pop : Nat → List Value → List Value → Option (List Value × List Value)
  | 0, st, acc => some (acc, st)
  | _ + 1, [], _ => none
  | n + 1, v :: st, acc => ev_pop n st (v :: acc)
theorem ev_pop_eq : ∀ {n : Nat} {st acc as st' : List Value}, ev_pop n st acc = some (as, st') → as.reverse ++ st' = acc.reverse ++ st ∧ as.length = acc.length + n
  | 0, st, acc, as, st', h => by
    simp only [ev_pop, Option.some.injEq, Prod.mk.injEq] at h
    obtain ⟨rfl, rfl⟩ := h
    exact ⟨rfl, rfl⟩
  | n + 1, [], acc, as, st', h => by simp [ev_pop] at h
  | n + 1, v :: st, acc, as, st', h => by
    obtain ⟨h1, h2⟩ := ev_pop_eq (n := n) (st := st) (acc := v :: acc) h
    refine ⟨h1.trans (by simp), h2.trans ?_⟩
    rw [List.length_cons]
    omega
def ev_cs : List Value → Nat
  | [] => 0
  | .long _ :: st => ev_cs st + 2
  | .double _ :: st => ev_cs st + 2
  | _ :: st => ev_cs st + 1
theorem ev_cs_eq : ∀ (st : List Value), (st.map fun v => v.category).sum = ev_cs st
  | [] => rfl
  | v :: st => by
    rw [List.map_cons, List.sum_cons, ev_cs_eq st]
    cases v <;> simp [ev_cs, Value.category] <;> omega
def ev_push (v : Option Value) (st : List Value) : List Value := match v with
  | some v => v :: st
  | none => st
section EVM
variable {β : Type} {l : Launch} {D : va_G} {γ : ev_ga} {μ : ev_mu} {κ : ev_ka} {pc n ce sl : Nat} {lo : ev_L} {st : List Value} {hp : ev_H} {y : Option β} {w : β → ev_O}
theorem ev_after {p : Program} {e : Env} {R : Room} {s : State} {m : MethodId} {args : Array Value} {below : List Frame} {meth : Method} {c : Code} {Q : State → Prop} {A : Nat → Prop} {ρ0 ρ : ev_R} {n0 nL : Nat} {st' st0 : List Value} {ls : Array Slot} {H : Heap} {locs : List Loc} {o1 : ev_O} {a : Array Value} {mc' ms' : Nat} (hA : ∀ q, s.heap.size ≤ q → A q) (hl : ev_lo ρ ls nL lo) (hw : ev_wd D γ.1 A s ρ0 n0 ρ hp H locs) (o2 : ev_okl hp.length lo = true) (o3 : ev_oks hp.length st' = true)
    (hrun : va_Run p l e R s m args below meth c H locs ce sl mc' ms' (F0 m pc ls st0) (st'.map (ev_v ρ)) (ev_Q D γ ρ hp o1 H.size a) (va_A (ev_w ρ hp) H.size))
    (hk : ∀ (ρ' : ev_R) (H1 : Heap) (locs1 : List Loc), ev_lo ρ' ls nL lo → ev_wd D γ.1 A s ρ0 n0 ρ' o1.2 H1 locs1 → W p l e R s m args below meth c H1 locs1 (ce + mc') (sl + ms') Q (F0 m (pc + 3) ls ((ev_push o1.1 st').map (ev_v ρ')))) : W p l e R s m args below meth c H locs ce sl Q (F0 m pc ls st0) := by
  obtain ⟨hP, hD, hS, hT, hn0, hag⟩ := hw
  have hFc : ∀ q, va_A (ev_w ρ hp) H.size q → A q := by
    intro q h
    rcases h with ⟨j, x, hj⟩ | h
    · exact hD.2 j _ hj
    · exact hA q (Nat.le_trans hS.1 h)
  have fin : ∀ (ρ' : ev_R) (t : State) (H1 : Heap) (locs1 : List Loc), t.heap = H1 → s.vm.Alike t.vm → ev_ag ρ hp o1.2 ρ' → ev_Bq D γ ρ hp o1.2 H.size ρ' t → va_S A s.heap H1 locs1 → ev_lo ρ' ls nL lo ∧ st'.map (ev_v ρ') = st'.map (ev_v ρ) ∧ ev_wd D γ.1 A s ρ0 n0 ρ' o1.2 H1 locs1 := by
    intro ρ' t H1 locs1 ht hvm hg hB hS1
    obtain ⟨b1, b2, b3⟩ := hB
    rw [ht] at b1
    exact ⟨hl.grow hg.1 o2, ev_oks_eq hg.1 o3, b1, b3.weaken (fun _ _ _ h => hFc _ h), hS1, ev_T.moved hvm.symm b2, Nat.le_trans hn0 hg.2, fun j hj => by rw [hg.1 j (by omega)]; exact hag j hj⟩
  obtain ⟨v, hp'⟩ := o1
  have bad : (∀ T : State, T.heap = H → Stand p l e R s m args below meth c T locs ce sl → False) → W p l e R s m args below meth c H locs ce sl Q (F0 m pc ls st0) := fun h T hT' XS => (h T hT' XS).elim
  match v, hrun, hk, fin with
  | none, hrun, hk, fin =>
    refine va_callv (a := a) hrun hS (fun q _ h => hFc q h) hFc (fun ρ' t H1 locs1 ht hvm hg hB _ _ hS1 => ?_)
    obtain ⟨f1, f2, f3⟩ := fin ρ' t H1 locs1 ht hvm hg hB hS1
    rw [← f2]
    exact hk ρ' H1 locs1 f1 f3
  | some (.int r), hrun, hk, fin =>
    refine va_calli (a := a) hrun hS (fun q _ h => hFc q h) hFc (fun r' ρ' t H1 locs1 ht hvm hg hB _ _ hS1 => ?_)
    obtain ⟨rfl, hg⟩ := hg
    obtain ⟨f1, f2, f3⟩ := fin ρ' t H1 locs1 ht hvm hg hB hS1
    rw [← f2]
    exact hk ρ' H1 locs1 f1 f3
  | some (.long r), hrun, hk, fin => exact bad fun T hT' XS => by obtain ⟨_, _, _, _, _, _, _, _, _, _, hf, _⟩ := hrun T hT' XS; exact hf
  | some (.float r), hrun, hk, fin => exact bad fun T hT' XS => by obtain ⟨_, _, _, _, _, _, _, _, _, _, hf, _⟩ := hrun T hT' XS; exact hf
  | some (.double r), hrun, hk, fin => exact bad fun T hT' XS => by obtain ⟨_, _, _, _, _, _, _, _, _, _, hf, _⟩ := hrun T hT' XS; exact hf
  | some (.ref r), hrun, hk, fin => exact bad fun T hT' XS => by obtain ⟨_, _, _, _, _, _, _, _, _, _, hf, _⟩ := hrun T hT' XS; exact hf
  | some (.retAddr r), hrun, hk, fin => exact bad fun T hT' XS => by obtain ⟨_, _, _, _, _, _, _, _, _, _, hf, _⟩ := hrun T hT' XS; exact hf
  | some .null, hrun, hk, fin => exact bad fun T hT' XS => by obtain ⟨_, _, _, _, _, _, _, _, _, _, hf, _⟩ := hrun T hT' XS; exact hf
theorem ev_pre {s : State} {A : Nat → Prop} {ρ0 ρ : ev_R} {n0 : Nat} {H : Heap} {locs : List Loc} {as : List Value} (hK : va_K D γ.1 [] s) (hN : ∀ q ∈ γ.2.1, va_Nw (.methodLinkNest q.1 q.2.1 q.2.2.1 q.2.2.2) s) (hw : ev_wd D γ.1 A s ρ0 n0 ρ hp H locs) : PreS s H (va_Pc (as.map (ev_v ρ)) (ev_Pw D γ ρ hp H.size)) (as.map (ev_v ρ)) := by
  obtain ⟨hP, hD, hS, hT, hn0, hag⟩ := hw
  exact ⟨ev_blind, fun U hU hW => ⟨rfl, by rw [hU], by rw [hU]; exact hP, va_K.moved hW.alike hK, ev_T.moved hW.alike hT, hD.weaken (fun _ _ _ _ => trivial), fun q hq => va_Nw.warmM hW (hN q hq)⟩⟩
theorem js_callV {α : Type} {na idx ci b : Nat} {C : String} {μ' : ev_mu} {tl : u_T × Nat} {as' st' fs : List Value} {y1 : Option α} {w1 : α → ev_O} {k : α → Option β} (X : ev_X l D γ μ κ) (hd : decode μ.1 pc = .ok (.invokevirtual idx, 3)) (hn : pc + 3 = n) (hM : ev_M l D γ μ' (.ref b :: as') hp y1 w1) (hg : GoodIn γ.2.2 (wsV μ.2.2.2.1.cls idx C μ'.2.2.2.1 (Jvm.Cond.code μ'.2.2.2.1 μ'.1 μ'.2.1 μ'.2.2.1 :: γ.2.2))) (hrc : μ'.2.2.2.2.1.cells = μ'.2.2.2.2.2.1) (hrs : μ'.2.2.2.2.1.slots = μ'.2.2.2.2.2.2)
    (hyy : μ'.2.2.2.1.cls = C ∧ μ'.2.2.2.1.cls ≠ "java/lang/invoke/MethodHandle" ∧ μ'.2.2.2.1.cls ≠ "java/lang/invoke/VarHandle" ∧ (parseMethodDescriptor μ'.2.2.2.1.desc).map (fun d => d.parameters.length) = some na) (hR : μ'.2.2.2.2.1.frames + 1 ≤ μ.2.2.2.2.1.frames ∧ 8 + (μ'.2.1 + 11) + μ'.2.2.2.2.1.locals ≤ μ.2.2.2.2.1.locals) (hc : γ.1[ci]? = some (C, tl)) (hf : ce + μ'.2.2.2.2.2.1 ≤ μ.2.2.2.2.1.cells ∧ sl + μ'.2.2.2.2.2.2 ≤ μ.2.2.2.2.1.slots) (hpop : ev_pop (na + 1) st [] = some (.ref b :: as', st')) (hb : ev_n hp b = some (.inr (ci, fs))) (o2 : ev_okl hp.length lo = true) (o3 : ev_oks hp.length st' = true) (o4 : Nat.ble (ev_cs st') 8 = true) (hk : ∀ q1, ev_J l D γ μ κ n (ce + μ'.2.2.2.2.2.1) (sl + μ'.2.2.2.2.2.2) lo (ev_push (w1 q1).1 st') (w1 q1).2 (k q1) w) : ev_J l D γ μ κ pc ce sl lo st hp (bd y1 k) w := by
  obtain ⟨p, e, s, m, args, below, meth, c, Q, A, ρ0, n0, Ex⟩ := κ
  subst hn
  intro q hy E ρ ls H locs hl hw
  obtain ⟨q1, hy1, hy⟩ := bd_t hy
  obtain ⟨hst, hlen⟩ := ev_pop_eq hpop
  have hst' : st.map (ev_v ρ) = (as'.map (ev_v ρ)).reverse ++ .ref (ρ b).1 :: st'.map (ev_v ρ) := by
    rw [show st = _ from hst.symm]
    simp [ev_v]
  have hlen' : (as'.map (ev_v ρ)).length = na := by
    simp only [List.length_cons, List.length_nil] at hlen
    rw [List.length_map]
    omega
  have hroom : ((st'.map (ev_v ρ)).map fun v => v.category).sum ≤ 8 := by
    rw [ev_v_cats, ev_cs_eq]
    exact Nat.le_of_ble_eq_true o4
  have hpre := ev_pre (as := .ref b :: as') X.2.2.2.2.2.1 X.2.2.2.2.2.2.2.1 hw
  exact ev_after X.2.2.2.2.2.2.1 hl hw o2 o3 (va_runV (As := as'.map (ev_v ρ)) (rest := st'.map (ev_v ρ)) (b := (ρ b).1) ⟨X.1, X.2.1, X.2.2.1, X.2.2.2.1, X.2.2.2.2.1⟩ (hM q1 hy1 ρ H.size) (cwV na X.2.2.2.2.1 hg rfl hrc hrs hyy hR) ⟨hpre.1, va_recv X.2.2.2.2.2.1 hw.1 hc (ev_w_at hb), hpre.2⟩ rfl hlen' hl.1 hst' (lv_room hroom) hd hf) (fun ρ' H1 locs1 a1 a2 => hk q1 q hy E ρ' ls H1 locs1 a1 a2)
theorem js_callS {α : Type} {na idx : Nat} {μ' : ev_mu} {as st' : List Value} {y1 : Option α} {w1 : α → ev_O} {k : α → Option β} (X : ev_X l D γ μ κ) (hd : decode μ.1 pc = .ok (.invokestatic idx, 3)) (hn : pc + 3 = n) (hM : ev_M l D γ μ' as hp y1 w1) (hg : GoodIn γ.2.2 (va_wsS μ.2.2.2.1.cls idx μ'.2.2.2.1 (Jvm.Cond.code μ'.2.2.2.1 μ'.1 μ'.2.1 μ'.2.2.1 :: γ.2.2))) (hrc : μ'.2.2.2.2.1.cells = μ'.2.2.2.2.2.1) (hrs : μ'.2.2.2.2.1.slots = μ'.2.2.2.2.2.2)
    (hyy : μ'.2.2.2.1.cls ≠ "java/lang/invoke/MethodHandle" ∧ μ'.2.2.2.1.cls ≠ "java/lang/invoke/VarHandle" ∧ (parseMethodDescriptor μ'.2.2.2.1.desc).map (fun d => d.parameters.length) = some na) (hR : μ'.2.2.2.2.1.frames + 1 ≤ μ.2.2.2.2.1.frames ∧ 8 + (μ'.2.1 + 11) + μ'.2.2.2.2.1.locals ≤ μ.2.2.2.2.1.locals) (hf : ce + μ'.2.2.2.2.2.1 ≤ μ.2.2.2.2.1.cells ∧ sl + μ'.2.2.2.2.2.2 ≤ μ.2.2.2.2.1.slots) (hpop : ev_pop na st [] = some (as, st')) (o2 : ev_okl hp.length lo = true) (o3 : ev_oks hp.length st' = true) (o4 : Nat.ble (ev_cs st') 8 = true) (hk : ∀ q1, ev_J l D γ μ κ n (ce + μ'.2.2.2.2.2.1) (sl + μ'.2.2.2.2.2.2) lo (ev_push (w1 q1).1 st') (w1 q1).2 (k q1) w) : ev_J l D γ μ κ pc ce sl lo st hp (bd y1 k) w := by
  obtain ⟨p, e, s, m, args, below, meth, c, Q, A, ρ0, n0, Ex⟩ := κ
  subst hn
  intro q hy E ρ ls H locs hl hw
  obtain ⟨q1, hy1, hy⟩ := bd_t hy
  obtain ⟨hst, hlen⟩ := ev_pop_eq hpop
  have hst' : st.map (ev_v ρ) = (as.map (ev_v ρ)).reverse ++ st'.map (ev_v ρ) := by
    rw [show st = _ from hst.symm]
    simp
  have hlen' : (as.map (ev_v ρ)).length = na := by
    simp only [List.length_nil] at hlen
    rw [List.length_map]
    omega
  have hroom : ((st'.map (ev_v ρ)).map fun v => v.category).sum ≤ 8 := by
    rw [ev_v_cats, ev_cs_eq]
    exact Nat.le_of_ble_eq_true o4
  exact ev_after X.2.2.2.2.2.2.1 hl hw o2 o3 (va_runS (As := as.map (ev_v ρ)) (rest := st'.map (ev_v ρ)) ⟨X.1, X.2.1, X.2.2.1, X.2.2.2.1, X.2.2.2.2.1⟩ (hM q1 hy1 ρ H.size) (va_cwS na X.2.2.2.2.1 hg rfl hrc hrs hyy hR) (ev_pre X.2.2.2.2.2.1 X.2.2.2.2.2.2.2.1 hw) rfl hlen' hl.1 hst' (lv_room hroom) hd hf) (fun ρ' H1 locs1 a1 a2 => hk q1 q hy E ρ' ls H1 locs1 a1 a2)
theorem js_callI {α : Type} {na idx b : Nat} {μ' : ev_mu} {as' st' : List Value} {y1 : Option α} {w1 : α → ev_O} {k : α → Option β} (X : ev_X l D γ μ κ) (hd : decode μ.1 pc = .ok (.invokespecial idx, 3)) (hn : pc + 3 = n) (hM : ev_M l D γ μ' (.ref b :: as') hp y1 w1) (hg : GoodIn γ.2.2 (Jvm.Cond.code μ'.2.2.2.1 μ'.1 μ'.2.1 μ'.2.2.1 :: γ.2.2)) (hrc : μ'.2.2.2.2.1.cells = μ'.2.2.2.2.2.1) (hrs : μ'.2.2.2.2.1.slots = μ'.2.2.2.2.2.2) (hret : μ'.2.2.1 = none) (hini : Jvm.Cond.initialized μ'.2.2.2.1.cls ∈ γ.2.2) (hml : (Jvm.Cond.methodLink μ.2.2.2.1.cls idx μ'.2.2.2.1 ∈ γ.2.2) ∨ ∃ host, (μ.2.2.2.1.cls, idx, μ'.2.2.2.1, host) ∈ γ.2.1) (him : Jvm.Cond.instanceMethod μ'.2.2.2.1 ∈ γ.2.2) (hyn : μ'.2.2.2.1.name = "<init>")
    (hyy : μ'.2.2.2.1.cls ≠ "java/lang/invoke/MethodHandle" ∧ μ'.2.2.2.1.cls ≠ "java/lang/invoke/VarHandle" ∧ (parseMethodDescriptor μ'.2.2.2.1.desc).map (fun d => d.parameters.length) = some na) (hR : μ'.2.2.2.2.1.frames + 1 ≤ μ.2.2.2.2.1.frames ∧ 8 + (μ'.2.1 + 11) + μ'.2.2.2.2.1.locals ≤ μ.2.2.2.2.1.locals) (hf : ce + μ'.2.2.2.2.2.1 ≤ μ.2.2.2.2.1.cells ∧ sl + μ'.2.2.2.2.2.2 ≤ μ.2.2.2.2.1.slots) (hpop : ev_pop (na + 1) st [] = some (.ref b :: as', st')) (o2 : ev_okl hp.length lo = true) (o3 : ev_oks hp.length st' = true) (o4 : Nat.ble (ev_cs st') 8 = true) (hk : ∀ q1, ev_J l D γ μ κ n (ce + μ'.2.2.2.2.2.1) (sl + μ'.2.2.2.2.2.2) lo (ev_push (w1 q1).1 st') (w1 q1).2 (k q1) w) : ev_J l D γ μ κ pc ce sl lo st hp (bd y1 k) w := by
  obtain ⟨p, e, s, m, args, below, meth, c, Q, A, ρ0, n0, Ex⟩ := κ
  subst hn
  intro q hy E ρ ls H locs hl hw
  obtain ⟨q1, hy1, hy⟩ := bd_t hy
  obtain ⟨hst, hlen⟩ := ev_pop_eq hpop
  have hst' : st.map (ev_v ρ) = (as'.map (ev_v ρ)).reverse ++ .ref (ρ b).1 :: st'.map (ev_v ρ) := by
    rw [show st = _ from hst.symm]
    simp [ev_v]
  have hlen' : (as'.map (ev_v ρ)).length = na := by
    simp only [List.length_cons, List.length_nil] at hlen
    rw [List.length_map]
    omega
  have hroom : ((st'.map (ev_v ρ)).map fun v => v.category).sum ≤ 8 := by
    rw [ev_v_cats, ev_cs_eq]
    exact Nat.le_of_ble_eq_true o4
  have hpre := ev_pre (as := .ref b :: as') X.2.2.2.2.2.1 X.2.2.2.2.2.2.2.1 hw
  have hM1 := hM q1 hy1 ρ H.size
  rw [hret] at hg hM1
  rcases hml with hml | ⟨host, hml⟩
  · exact ev_after X.2.2.2.2.2.2.1 hl hw o2 o3 (va_runI (As := as'.map (ev_v ρ)) (rest := st'.map (ev_v ρ)) (b := (ρ b).1) ⟨X.1, X.2.1, X.2.2.1, X.2.2.2.1, X.2.2.2.2.1⟩ hM1 (cwI na X.2.2.2.2.1 hg rfl hrc hrs (X.2.2.2.2.1 _ hini) (X.2.2.2.2.1 _ hml) (X.2.2.2.2.1 _ him) hyn hyy hR) hpre rfl hlen' hl.1 hst' (lv_room hroom) hd hf) (fun ρ' H1 locs1 a1 a2 => hk q1 q hy E ρ' ls H1 locs1 a1 a2)
  · exact ev_after X.2.2.2.2.2.2.1 hl hw o2 o3 (va_runIN (As := as'.map (ev_v ρ)) (rest := st'.map (ev_v ρ)) (b := (ρ b).1) ⟨X.1, X.2.1, X.2.2.1, X.2.2.2.1, X.2.2.2.2.1⟩ hM1 ⟨va_cnB na X.2.2.2.2.1 hg rfl hrc hrs (X.2.2.2.2.2.2.2.1 _ hml) (X.2.2.2.2.1 _ hini) hyy hR, hyn, X.2.2.2.2.1 _ him⟩ hpre rfl hlen' hl.1 hst' (lv_room hroom) hd hf) (fun ρ' H1 locs1 a1 a2 => hk q1 q hy E ρ' ls H1 locs1 a1 a2)
/-! returns -/
theorem js_retI {x : Int32} {q : β} (X : ev_X l D γ μ κ) (hd : decode μ.1 pc = .ok (.ireturn, 1)) (hret : μ.2.2.1 = some .int) (h1 : ce ≤ μ.2.2.2.2.2.1) (h2 : sl ≤ μ.2.2.2.2.2.2) (hq : w q = (some (.int x), hp)) : ev_J l D γ μ κ pc ce sl lo [.int x] hp (some q) w := by
  obtain ⟨p, e, s, m, args, below, meth, c, Q, A, ρ0, n0, Ex⟩ := κ
  intro q' hy E ρ ls H locs hl hw
  cases hy
  rw [hq] at E
  have E := X.2.2.2.2.2.2.2.2.2 _ E
  exact W.widen h1 h2 (E pc ρ ls H locs ⟨hd, Or.inl hret⟩ hw)
theorem js_retZ {x : Int32} {q : β} (X : ev_X l D γ μ κ) (hd : decode μ.1 pc = .ok (.ireturn, 1)) (hret : μ.2.2.1 = some .boolean) (h1 : ce ≤ μ.2.2.2.2.2.1) (h2 : sl ≤ μ.2.2.2.2.2.2) (hq : w q = (some (.int x), hp)) : ev_J l D γ μ κ pc ce sl lo [.int x] hp (ck (isB x) (some q)) w := by
  obtain ⟨p, e, s, m, args, below, meth, c, Q, A, ρ0, n0, Ex⟩ := κ
  intro q' hy E ρ ls H locs hl hw
  obtain ⟨hb, hy⟩ := ck_t hy
  cases hy
  rw [hq] at E
  have E := X.2.2.2.2.2.2.2.2.2 _ E
  exact W.widen h1 h2 (E pc ρ ls H locs ⟨hd, Or.inr ⟨hret, hb⟩⟩ hw)
theorem js_retV {q : β} (X : ev_X l D γ μ κ) (hd : decode μ.1 pc = .ok (.return_, 1)) (hret : μ.2.2.1 = none) (h1 : ce ≤ μ.2.2.2.2.2.1) (h2 : sl ≤ μ.2.2.2.2.2.2) (hq : w q = (none, hp)) : ev_J l D γ μ κ pc ce sl lo [] hp (some q) w := by
  obtain ⟨p, e, s, m, args, below, meth, c, Q, A, ρ0, n0, Ex⟩ := κ
  intro q' hy E ρ ls H locs hl hw
  cases hy
  rw [hq] at E
  have E := X.2.2.2.2.2.2.2.2.2 _ E
  exact W.widen h1 h2 (E pc ρ ls H locs ⟨hret, hd⟩ hw)
end EVM
theorem ev_sl_len : ∀ (vs : List Value), (lg_sl vs).length = ev_cs vs
  | [] => rfl
  | v :: vs => by
    have h : lg_sl (v :: vs) = (if v.category = 2 then [.val v, .second] else [.val v]) ++ lg_sl vs := by simp [lg_sl]
    rw [h, List.length_append, ev_sl_len vs]
    cases v <;> simp [ev_cs, Value.category] <;> omega
theorem ev_cs_v (ρ : ev_R) (vs : List Value) : ev_cs (vs.map (ev_v ρ)) = ev_cs vs := by rw [← ev_cs_eq, ← ev_cs_eq, ev_v_cats]
set_option maxHeartbeats 4000000 in
theorem ev_met {α : Type} {l : Launch} {D : va_G} {γ : ev_ga} {μ : ev_mu} {as : List Value} {hp : ev_H} {y : Option α} {w : α → ev_O} (hpl : plainName μ.2.2.2.1.cls = true) (hlen : Nat.ble (ev_cs as) μ.2.1 = true) {lo0 : ev_L} (hlo : ev_ent μ.2.1 as = lo0)
    (hJ : ∀ κ : ev_ka, ev_X l D γ μ κ → ev_J l D γ μ κ 0 0 0 lo0 [] hp y w) : ev_M l D γ μ as hp y w := by
  subst hlo
  intro q hy ρ sz
  have hlen := Nat.le_of_ble_eq_true hlen
  refine Met.ofW (cc := μ.1) (maxL := μ.2.1) (ret := μ.2.2.1) hpl rfl ?_
  intro p e s m args below meth c s₁ B hml hv
  obtain ⟨rfl, hsz, hP, hK, hT, hD0, hN⟩ := hv
  have hts0 := atoms_spec (ws := Jvm.Cond.code μ.2.2.2.1 μ.1 μ.2.1 μ.2.2.1 :: γ.2.2) B.pre
  have hts : ∀ w ∈ γ.2.2, w.before (as.map (ev_v ρ)).toArray s = true := fun w h => hts0 w (List.mem_cons_of_mem _ h)
  have hown : s.vm.findClass μ.2.2.2.1.cls = some m.cls := findClass_of_methodNamed B.named
  have hlocks := B.notSynchronized
  have hin : meth.name = μ.2.2.2.1.name := (name_of_methodNamed B.named B.method).1
  subst hsz
  have hD := hD0.self (sz := s.heap.size)
  have hA : ∀ q : Nat, s.heap.size ≤ q → va_A (ev_w ρ hp) s.heap.size q := fun q h => Or.inr h
  have hl := lv_entry (as.map (ev_v ρ)) (n := μ.2.1) (by rw [ev_sl_len, ev_cs_v]; exact hlen)
  rw [lg_entry_eq]
  generalize (lg_sl (as.map (ev_v ρ)) ++ List.replicate (μ.2.1 - (lg_sl (as.map (ev_v ρ))).length) Slot.unset).toArray = ls at hl ⊢
  have HJ := hJ (p, e, s, m, (as.map (ev_v ρ)).toArray, below, meth, c, MQ below (ev_Q D γ ρ hp (w q) s.heap.size) (as.map (ev_v ρ)).toArray s μ.2.2.2.2.2.1 μ.2.2.2.2.2.2 (va_A (ev_w ρ hp) s.heap.size), va_A (ev_w ρ hp) s.heap.size, ρ, hp.length, ev_Ex l D γ μ p e s m (as.map (ev_v ρ)).toArray below meth c (MQ below (ev_Q D γ ρ hp (w q) s.heap.size) (as.map (ev_v ρ)).toArray s μ.2.2.2.2.2.1 μ.2.2.2.2.2.2 (va_A (ev_w ρ hp) s.heap.size)) (va_A (ev_w ρ hp) s.heap.size) ρ hp.length) ⟨B.exec, B.bytes, hml, hown, hts, hK, hA, hN, hin, fun _ h => h⟩
  refine HJ q hy ?_ ρ ls s.heap [] (ev_ent_lo hl) ⟨hP, hD, va_S.rf, hT, Nat.le_refl _, fun _ _ => rfl⟩
  intro pc ρ' ls' H locs hrd hw
  obtain ⟨hP1, hD1, hS1, hT1, hn1, hag1⟩ := hw
  have hB : ∀ t : State, t.heap = H → s.WarmedH t.vm → ev_Bq D γ ρ hp (w q).2 s.heap.size ρ' t := fun t ht hW => ⟨by rw [ht]; exact hP1, ev_T.moved hW.alike hT1, hD1⟩
  have hr := B.returns
  generalize w q = o at hrd hn1 hB ⊢
  obtain ⟨v, hp'⟩ := o
  match v, hrd with
  | none, ⟨e1, hd⟩ =>
    rw [e1] at hr
    exact W.vret B.exec B.bytes hr (fun t ht hW => ⟨⟨ρ', rfl, ⟨hag1, hn1⟩, hB t ht hW⟩, hS1.F ht⟩) hS1.2.2 hd hlocks
  | some (.int x), ⟨hd, hret⟩ =>
    rcases hret with e1 | ⟨e1, hb⟩
    · rw [e1] at hr
      exact W.iret B.exec B.bytes hr (fun t ht hW => ⟨⟨x, ρ', rfl, ⟨rfl, hag1, hn1⟩, hB t ht hW⟩, hS1.F ht⟩) hS1.2.2 hd hlocks
    · rw [e1] at hr
      exact W.zret B.exec B.bytes hr (by rcases isB_or hb with rfl | rfl <;> rfl) (fun t ht hW => ⟨⟨x, ρ', rfl, ⟨rfl, hag1, hn1⟩, hB t ht hW⟩, hS1.F ht⟩) hS1.2.2 hd hlocks
def dq (b : ByteArray) (q : Nat × Instr × Nat) : Bool := decide (decode b q.1 = .ok q.2)
theorem dq_t {b : ByteArray} {q : Nat × Instr × Nat} (h : dq b q = true) : decode b q.1 = .ok q.2 := by
  unfold dq at h
  exact of_decide_eq_true h
theorem dg {b : ByteArray} {L : List (Nat × Instr × Nat)} (h : L.all (dq b) = true) (i : Nat) {pc len : Nat} {ins : Instr} (hi : L[i]? = some (pc, ins, len)) : decode b pc = .ok (ins, len) := by
  have h1 := dq_t (List.all_eq_true.mp h _ (List.mem_of_getElem? hi))
  exact h1
end
