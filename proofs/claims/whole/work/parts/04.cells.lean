def ev_C (γ : ev_ga) (ci : Nat) (C : String) (T : u_T) (N : Nat) (ty : Nat → FieldType) : Prop :=
  γ.1[ci]? = some (C, T, N) ∧ (∀ w ∈ u_ws C T N, w ∈ γ.2.2) ∧ (∀ k, k < N → parseFieldDescriptor (T k).2.2.1 = some (ty k)) ∧ ∀ a, a < N → ∀ b, b < N → a ≠ b → (T a).2.1 ≠ (T b).2.1
theorem ev_w_setf (ρ : ev_R) (hp : ev_H) (a ci j : Nat) (fs : List Value) (v : Value) : ev_w ρ (ev_s hp a (.inr (ci, ev_s fs j v))) = (ev_w ρ hp).set a ((ρ a).1, .inr (ci, (fs.map (ev_v ρ)).set j (ev_v ρ v))) := by
  rw [ev_w_set]
  have h : ev_e ρ a (.inr (ci, ev_s fs j v)) = .inr (ci, (fs.map (ev_v ρ)).set j (ev_v ρ v)) := by
    show (Sum.inr (ci, (ev_s fs j v).map (ev_v ρ)) : va_E) = _
    rw [ev_s_eq, List.map_set]
  rw [h]
def cpok (sp dp n : Int32) (n0 n1 : Nat) : Bool := decide (¬ sp < 0 ∧ ¬ dp < 0 ∧ ¬ n < 0 ∧ sp.toNatClampNeg + n.toNatClampNeg ≤ n0 ∧ dp.toNatClampNeg + n.toNatClampNeg ≤ n1)
theorem cpok_of {sp dp n : Int32} {n0 n1 : Nat} (h : cpok sp dp n n0 n1 = true) : ¬ sp < 0 ∧ ¬ dp < 0 ∧ ¬ n < 0 ∧ sp.toNatClampNeg + n.toNatClampNeg ≤ n0 ∧ dp.toNatClampNeg + n.toNatClampNeg ≤ n1 := of_decide_eq_true h
theorem ev_lo.grow {ρ ρ' : ev_R} {ls : Array Slot} {lo : ev_L} {N nL : Nat} (hl : ev_lo ρ ls nL lo) (ha : ∀ k, k < N → ρ' k = ρ k) (h : ev_okl N lo = true) : ev_lo ρ' ls nL lo := hl.to fun i v hi => ev_okl_eq ha h i v hi
section EVC
variable {β : Type} {l : Launch} {D : va_G} {γ : ev_ga} {μ : ev_mu} {κ : ev_ka} {pc n ce sl : Nat} {lo : ev_L} {st : List Value} {hp : ev_H} {y : Option β} {w : β → ev_O}
theorem js_getf {ci j N idx a : Nat} {C : String} {T : u_T} {ty : Nat → FieldType} {fs : List Value} {v : Value} (X : ev_X l D γ μ κ) (hd : decode μ.1 pc = .ok (.getfield idx, 3)) (hn : pc + 3 = n) (hC : ev_C γ ci C T N ty) (hj : j < N) (hlink : Jvm.Cond.fieldLink μ.2.2.2.1.cls idx (T j).1 (T j).2.1 (T j).2.2.1 ∈ γ.2.2) (hx : ev_n hp a = some (.inr (ci, fs))) (hv : ev_n fs j = some v) (hk : ev_J l D γ μ κ n ce sl lo (v :: st) hp y w) : ev_J l D γ μ κ pc ce sl lo (.ref a :: st) hp y w := by
  obtain ⟨p, e, s, m, args, below, meth, c, Q, A, ρ0, n0, Ex⟩ := κ
  subst hn
  intro q hy E ρ ls H locs hl hw
  exact va_get X.1 X.2.1 X.2.2.2.2.1 hC.2.1 X.2.2.2.1 X.2.2.2.2.2.1 hw.1 a (ev_w_at hx) hC.1 j hj (X.2.2.2.2.1 _ hlink) (fun _ h => h) (v := ev_v ρ v) (by rw [List.getElem?_map, ← ev_n_eq, hv]; rfl) hd (hk q hy E ρ ls H locs hl hw)
theorem js_put0 {ci j N idx a : Nat} {C : String} {T : u_T} {ty : Nat → FieldType} {fs : List Value} {v : Value} (X : ev_X l D γ μ κ) (hd : decode μ.1 pc = .ok (.putfield idx, 3)) (hn : pc + 3 = n) (hC : ev_C γ ci C T N ty) (hj : j < N) (hlink : Jvm.Cond.fieldLink μ.2.2.2.1.cls idx (T j).1 (T j).2.1 (T j).2.2.1 ∈ γ.2.2) (hx : ev_n hp a = some (.inr (ci, fs)))
    (hfin : (T j).2.2.2 = false ∨ ((T j).2.2.2 = true ∧ μ.2.2.2.1.name = "<init>" ∧ (T j).1 = μ.2.2.2.1.cls)) (hlen : j < fs.length) (hv1 : ∀ ρ, narrow (ty j) (ev_v ρ v) = ev_v ρ v) (hv2 : ∀ ρ, fits (ty j) (ev_v ρ v) = true) (hk : ev_J l D γ μ κ n ce sl lo st (ev_s hp a (.inr (ci, ev_s fs j v))) y w) : ev_J l D γ μ κ pc ce sl lo (v :: .ref a :: st) hp y w := by
  obtain ⟨p, e, s, m, args, below, meth, c, Q, A, ρ0, n0, Ex⟩ := κ
  subst hn
  intro q hy E ρ ls H locs hl hw
  obtain ⟨hP, hD, hS, hT, hn0, hag⟩ := hw
  have hlen' : j < (fs.map (ev_v ρ)).length := by rw [List.length_map]; exact hlen
  rcases hfin with hfin | ⟨hfin, hin, hdecl⟩
  · refine va_put X.1 X.2.1 X.2.2.2.2.1 hC.2.1 ty hC.2.2.1 hC.2.2.2 X.2.2.2.1 X.2.2.2.2.2.1 hP hD hS a (ev_w_at hx) hC.1 j hj (X.2.2.2.2.1 _ hlink) (fun _ h => h) hfin (hC.2.2.1 j hj) (hv1 ρ) (hv2 ρ) hlen' hd (fun H1 locs1 hP1 hD1 hS1 => ?_)
    exact hk q hy E ρ ls H1 locs1 hl ⟨by rw [ev_w_setf]; exact hP1, by rw [ev_w_setf]; exact hD1, hS1, hT.seto, by rw [ev_s_len]; exact hn0, hag⟩
  · refine va_putF X.1 X.2.1 X.2.2.2.2.1 hC.2.1 ty hC.2.2.1 hC.2.2.2 X.2.2.2.1 X.2.2.2.2.2.1 hP hD hS a (ev_w_at hx) hC.1 j hj (X.2.2.2.2.1 _ hlink) (fun _ h => h) hfin (X.2.2.2.2.2.2.2.2.1.trans hin) hdecl (hC.2.2.1 j hj) (hv1 ρ) (hv2 ρ) hlen' hd (fun H1 locs1 hP1 hD1 hS1 => ?_)
    exact hk q hy E ρ ls H1 locs1 hl ⟨by rw [ev_w_setf]; exact hP1, by rw [ev_w_setf]; exact hD1, hS1, hT.seto, by rw [ev_s_len]; exact hn0, hag⟩
theorem js_puti {ci j N idx a : Nat} {C : String} {T : u_T} {ty : Nat → FieldType} {fs : List Value} {x : Int32} (X : ev_X l D γ μ κ) (hd : decode μ.1 pc = .ok (.putfield idx, 3)) (hn : pc + 3 = n) (hC : ev_C γ ci C T N ty) (hj : j < N) (hlink : Jvm.Cond.fieldLink μ.2.2.2.1.cls idx (T j).1 (T j).2.1 (T j).2.2.1 ∈ γ.2.2) (hx : ev_n hp a = some (.inr (ci, fs))) (hty : ty j = .int) (hfin : (T j).2.2.2 = false ∨ ((T j).2.2.2 = true ∧ μ.2.2.2.1.name = "<init>" ∧ (T j).1 = μ.2.2.2.1.cls)) (hlen : j < fs.length) (hk : ev_J l D γ μ κ n ce sl lo st (ev_s hp a (.inr (ci, ev_s fs j (.int x)))) y w) : ev_J l D γ μ κ pc ce sl lo (.int x :: .ref a :: st) hp y w :=
  js_put0 X hd hn hC hj hlink hx hfin hlen (fun _ => by rw [hty]; rfl) (fun _ => by rw [hty]; rfl) hk
theorem js_putj {ci j N idx a : Nat} {C : String} {T : u_T} {ty : Nat → FieldType} {fs : List Value} {x : Int64} (X : ev_X l D γ μ κ) (hd : decode μ.1 pc = .ok (.putfield idx, 3)) (hn : pc + 3 = n) (hC : ev_C γ ci C T N ty) (hj : j < N) (hlink : Jvm.Cond.fieldLink μ.2.2.2.1.cls idx (T j).1 (T j).2.1 (T j).2.2.1 ∈ γ.2.2) (hx : ev_n hp a = some (.inr (ci, fs))) (hty : ty j = .long) (hfin : (T j).2.2.2 = false ∨ ((T j).2.2.2 = true ∧ μ.2.2.2.1.name = "<init>" ∧ (T j).1 = μ.2.2.2.1.cls)) (hlen : j < fs.length) (hk : ev_J l D γ μ κ n ce sl lo st (ev_s hp a (.inr (ci, ev_s fs j (.long x)))) y w) : ev_J l D γ μ κ pc ce sl lo (.long x :: .ref a :: st) hp y w :=
  js_put0 X hd hn hC hj hlink hx hfin hlen (fun _ => by rw [hty]; rfl) (fun _ => by rw [hty]; rfl) hk
theorem js_putr {ci j N idx a : Nat} {C : String} {T : u_T} {ty : Nat → FieldType} {fs : List Value} {x : Nat} (X : ev_X l D γ μ κ) (hd : decode μ.1 pc = .ok (.putfield idx, 3)) (hn : pc + 3 = n) (hC : ev_C γ ci C T N ty) (hj : j < N) (hlink : Jvm.Cond.fieldLink μ.2.2.2.1.cls idx (T j).1 (T j).2.1 (T j).2.2.1 ∈ γ.2.2) (hx : ev_n hp a = some (.inr (ci, fs))) (hty : (∃ E, ty j = .object E) ∨ ∃ t, ty j = .array t) (hfin : (T j).2.2.2 = false ∨ ((T j).2.2.2 = true ∧ μ.2.2.2.1.name = "<init>" ∧ (T j).1 = μ.2.2.2.1.cls)) (hlen : j < fs.length) (hk : ev_J l D γ μ κ n ce sl lo st (ev_s hp a (.inr (ci, ev_s fs j (.ref x)))) y w) : ev_J l D γ μ κ pc ce sl lo (.ref x :: .ref a :: st) hp y w :=
  js_put0 X hd hn hC hj hlink hx hfin hlen (fun _ => by rcases hty with ⟨E, hty⟩ | ⟨t, hty⟩ <;> (rw [hty]; rfl)) (fun _ => by rcases hty with ⟨E, hty⟩ | ⟨t, hty⟩ <;> (rw [hty]; rfl)) hk
theorem js_putz {ci j N idx a : Nat} {C : String} {T : u_T} {ty : Nat → FieldType} {fs : List Value} {x : Int32} (X : ev_X l D γ μ κ) (hd : decode μ.1 pc = .ok (.putfield idx, 3)) (hn : pc + 3 = n) (hC : ev_C γ ci C T N ty) (hj : j < N) (hlink : Jvm.Cond.fieldLink μ.2.2.2.1.cls idx (T j).1 (T j).2.1 (T j).2.2.1 ∈ γ.2.2) (hx : ev_n hp a = some (.inr (ci, fs))) (hty : ty j = .boolean) (hfin : (T j).2.2.2 = false ∨ ((T j).2.2.2 = true ∧ μ.2.2.2.1.name = "<init>" ∧ (T j).1 = μ.2.2.2.1.cls)) (hlen : j < fs.length) (hk : ev_J l D γ μ κ n ce sl lo st (ev_s hp a (.inr (ci, ev_s fs j (.int x)))) y w) : ev_J l D γ μ κ pc ce sl lo (.int x :: .ref a :: st) hp (ck (isB x) y) w := by
  by_cases hb : isB x = true
  · rw [hb]
    exact js_put0 X hd hn hC hj hlink hx hfin hlen (fun _ => by rw [hty]; rcases isB_or hb with rfl | rfl <;> rfl) (fun _ => by rw [hty]; rcases isB_or hb with rfl | rfl <;> rfl) hk
  · rw [Bool.not_eq_true] at hb
    rw [hb]
    exact js_none
theorem js_iaload {a N : Nat} {i : Int32} {f : Nat → Int32} (X : ev_X l D γ μ κ) (hd : decode μ.1 pc = .ok (.iaload, 1)) (hn : pc + 1 = n) (hx : ev_n hp a = some (.inl (.int, N, .inl f))) (hk : ev_J l D γ μ κ n ce sl lo (.int (f (ix i)) :: st) hp y w) : ev_J l D γ μ κ pc ce sl lo (.int i :: .ref a :: st) hp (ck (inb i N) y) w := by
  obtain ⟨p, e, s, m, args, below, meth, c, Q, A, ρ0, n0, Ex⟩ := κ
  subst hn
  intro q hy E ρ ls H locs hl hw
  obtain ⟨h1, hy⟩ := ck_t hy
  exact va_iald X.1 X.2.1 (hw.2.2.2.1.K X.2.2.2.2.2.1 hx) hw.1 a 0 (ev_w_at hx) rfl (inb_in h1) hd (hk q hy E ρ ls H locs hl hw)
theorem js_baload {a N : Nat} {i : Int32} {f : Nat → Int32} (X : ev_X l D γ μ κ) (hd : decode μ.1 pc = .ok (.baload, 1)) (hn : pc + 1 = n) (hx : ev_n hp a = some (.inl (.boolean, N, .inl f))) (hk : ev_J l D γ μ κ n ce sl lo (.int (f (ix i)) :: st) hp y w) : ev_J l D γ μ κ pc ce sl lo (.int i :: .ref a :: st) hp (ck (inb i N) y) w := by
  obtain ⟨p, e, s, m, args, below, meth, c, Q, A, ρ0, n0, Ex⟩ := κ
  subst hn
  intro q hy E ρ ls H locs hl hw
  obtain ⟨h1, hy⟩ := ck_t hy
  exact va_zald X.1 X.2.1 (hw.2.2.2.1.K X.2.2.2.2.2.1 hx) hw.1 a 0 (ev_w_at hx) rfl (inb_in h1) hd (hk q hy E ρ ls H locs hl hw)
theorem js_laload {a N : Nat} {i : Int32} {f : Nat → Int64} (X : ev_X l D γ μ κ) (hd : decode μ.1 pc = .ok (.laload, 1)) (hn : pc + 1 = n) (hx : ev_n hp a = some (.inl (.long, N, .inr f))) (hk : ev_J l D γ μ κ n ce sl lo (.long (f (ix i)) :: st) hp y w) : ev_J l D γ μ κ pc ce sl lo (.int i :: .ref a :: st) hp (ck (inb i N) y) w := by
  obtain ⟨p, e, s, m, args, below, meth, c, Q, A, ρ0, n0, Ex⟩ := κ
  subst hn
  intro q hy E ρ ls H locs hl hw
  obtain ⟨h1, hy⟩ := ck_t hy
  exact va_lald X.1 X.2.1 (hw.2.2.2.1.K X.2.2.2.2.2.1 hx) hw.1 a 0 (ev_w_at hx) rfl (inb_in h1) hd (hk q hy E ρ ls H locs hl hw)
theorem js_iastore {a N : Nat} {i : Int32} {x : Int32} {f : Nat → Int32} (X : ev_X l D γ μ κ) (hd : decode μ.1 pc = .ok (.iastore, 1)) (hn : pc + 1 = n) (hx : ev_n hp a = some (.inl (.int, N, .inl f))) (hk : ev_J l D γ μ κ n ce sl lo st (ev_s hp a (.inl (.int, N, .inl (upd f (ix i) x)))) y w) : ev_J l D γ μ κ pc ce sl lo (.int x :: .int i :: .ref a :: st) hp (ck (inb i N) y) w := by
  obtain ⟨p, e, s, m, args, below, meth, c, Q, A, ρ0, n0, Ex⟩ := κ
  subst hn
  intro q hy E ρ ls H locs hl hw
  obtain ⟨h1, hy⟩ := ck_t hy
  obtain ⟨hP, hD, hS, hT, hn0, hag⟩ := hw
  refine va_iast X.1 X.2.1 (hT.K X.2.2.2.2.2.1 hx) hP hD hS a 0 (ev_w_at hx) rfl (inb_in h1) hd (fun H1 locs1 hP1 hD1 hS1 => ?_)
  exact hk q hy E ρ ls H1 locs1 hl ⟨by rw [ev_w_set]; exact hP1, by rw [ev_w_set]; exact hD1, hS1, hT.set hx, by rw [ev_s_len]; exact hn0, hag⟩
theorem js_lastore {a N : Nat} {i : Int32} {x : Int64} {f : Nat → Int64} (X : ev_X l D γ μ κ) (hd : decode μ.1 pc = .ok (.lastore, 1)) (hn : pc + 1 = n) (hx : ev_n hp a = some (.inl (.long, N, .inr f))) (hk : ev_J l D γ μ κ n ce sl lo st (ev_s hp a (.inl (.long, N, .inr (vp_updL f (ix i) x)))) y w) : ev_J l D γ μ κ pc ce sl lo (.long x :: .int i :: .ref a :: st) hp (ck (inb i N) y) w := by
  obtain ⟨p, e, s, m, args, below, meth, c, Q, A, ρ0, n0, Ex⟩ := κ
  subst hn
  intro q hy E ρ ls H locs hl hw
  obtain ⟨h1, hy⟩ := ck_t hy
  obtain ⟨hP, hD, hS, hT, hn0, hag⟩ := hw
  refine va_last X.1 X.2.1 (hT.K X.2.2.2.2.2.1 hx) hP hD hS a 0 (ev_w_at hx) rfl (inb_in h1) hd (fun H1 locs1 hP1 hD1 hS1 => ?_)
  exact hk q hy E ρ ls H1 locs1 hl ⟨by rw [ev_w_set]; exact hP1, by rw [ev_w_set]; exact hD1, hS1, hT.set hx, by rw [ev_s_len]; exact hn0, hag⟩
theorem js_bastore {a N : Nat} {i : Int32} {x : Int32} {f : Nat → Int32} (X : ev_X l D γ μ κ) (hd : decode μ.1 pc = .ok (.bastore, 1)) (hn : pc + 1 = n) (hx : ev_n hp a = some (.inl (.boolean, N, .inl f))) (hk : ev_J l D γ μ κ n ce sl lo st (ev_s hp a (.inl (.boolean, N, .inl (upd f (ix i) x)))) y w) : ev_J l D γ μ κ pc ce sl lo (.int x :: .int i :: .ref a :: st) hp (ck (inb i N) (ck (isB x) y)) w := by
  obtain ⟨p, e, s, m, args, below, meth, c, Q, A, ρ0, n0, Ex⟩ := κ
  subst hn
  intro q hy E ρ ls H locs hl hw
  obtain ⟨h1, hy⟩ := ck_t hy
  obtain ⟨h2, hy⟩ := ck_t hy
  have hz : vp_nar .boolean x = x := by rcases isB_or h2 with rfl | rfl <;> rfl
  obtain ⟨hP, hD, hS, hT, hn0, hag⟩ := hw
  refine va_zast X.1 X.2.1 (hT.K X.2.2.2.2.2.1 hx) hP hD hS a 0 (ev_w_at hx) rfl (inb_in h1) hd (fun H1 locs1 hP1 hD1 hS1 => ?_)
  rw [hz] at hP1 hD1
  exact hk q hy E ρ ls H1 locs1 hl ⟨by rw [ev_w_set]; exact hP1, by rw [ev_w_set]; exact hD1, hS1, hT.set hx, by rw [ev_s_len]; exact hn0, hag⟩
theorem js_alen {a N : Nat} {ty : FieldType} {f : Nat → Int32} (X : ev_X l D γ μ κ) (hd : decode μ.1 pc = .ok (.arraylength, 1)) (hn : pc + 1 = n) (hx : ev_n hp a = some (.inl (ty, N, .inl f))) (hk : ev_J l D γ μ κ n ce sl lo (.int (Int32.ofNat N) :: st) hp y w) : ev_J l D γ μ κ pc ce sl lo (.ref a :: st) hp y w := by
  obtain ⟨p, e, s, m, args, below, meth, c, Q, A, ρ0, n0, Ex⟩ := κ
  subst hn
  intro q hy E ρ ls H locs hl hw
  exact va_alen X.1 X.2.1 (hw.2.2.2.1.K X.2.2.2.2.2.1 hx) hw.1 a 0 (ev_w_at hx) rfl rfl hd (hk q hy E ρ ls H locs hl hw)
theorem js_copy {idx a b N0 N1 : Nat} {sp dp k9 : Int32} {f g : Nat → Int32} (X : ev_X l D γ μ κ) (hd : decode μ.1 pc = .ok (.invokestatic idx, 3)) (hn : pc + 3 = n) (w1 : Jvm.Cond.methodLink μ.2.2.2.1.cls idx arraycopyName ∈ γ.2.2) (w2 : Jvm.Cond.native arraycopyName ∈ γ.2.2) (w3 : Jvm.Cond.static arraycopyName ∈ γ.2.2) (w4 : Jvm.Cond.initialized "java/lang/System" ∈ γ.2.2) (hf : 1 ≤ μ.2.2.2.2.1.frames) (hlo : nativeFrameWords "java/lang/System" "arraycopy" 5 + 11 ≤ μ.2.2.2.2.1.locals)
    (hx : ev_n hp a = some (.inl (.int, N0, .inl f))) (hz : ev_n hp b = some (.inl (.int, N1, .inl g))) (hk : ev_J l D γ μ κ n ce sl lo [] (ev_s hp b (.inl (.int, N1, .inl (va_cpy f g (ix sp) (ix dp) (ix k9))))) y w) : ev_J l D γ μ κ pc ce sl lo [.int k9, .int dp, .ref b, .int sp, .ref a] hp (ck (cpok sp dp k9 N0 N1) y) w := by
  obtain ⟨p, e, s, m, args, below, meth, c, Q, A, ρ0, n0, Ex⟩ := κ
  subst hn
  intro q hy E ρ ls H locs hl hw
  obtain ⟨h1, hy⟩ := ck_t hy
  obtain ⟨c1, c2, c3, c4, c5⟩ := cpok_of h1
  obtain ⟨hP, hD, hS, hT, hn0, hag⟩ := hw
  refine va_copyi (rest := []) X.1 X.2.1 (X.2.2.1.trans hl.1.symm) X.2.2.2.1 (X.2.2.2.2.1 _ w1) (X.2.2.2.2.1 _ w2) (X.2.2.2.2.1 _ w3) (X.2.2.2.2.1 _ w4) ((hT.K X.2.2.2.2.2.1 hx).app (hT.K X.2.2.2.2.2.1 hz)) hP hD hS a b 0 1 (ev_w_at hx) (ev_w_at hz) rfl rfl rfl c1 c2 c3 c4 c5 (fun _ _ => rfl) hf (by simpa using hlo) hd (fun H1 locs1 hP1 hD1 hS1 => ?_)
  exact hk q hy E ρ ls H1 locs1 hl ⟨by rw [ev_w_set]; exact hP1, by rw [ev_w_set]; exact hD1, hS1, hT.set hz, by rw [ev_s_len]; exact hn0, hag⟩
theorem js_new {ci N idx : Nat} {C : String} {T : u_T} {ty : Nat → FieldType} {fs : List Value} (X : ev_X l D γ μ κ) (hd : decode μ.1 pc = .ok (.new idx, 3)) (hn : pc + 3 = n) (hC : ev_C γ ci C T N ty) (w1 : Jvm.Cond.classLink μ.2.2.2.1.cls idx C ∈ γ.2.2) (w2 : Jvm.Cond.instantiable C N ∈ γ.2.2) (w3 : Jvm.Cond.initialized C ∈ γ.2.2) (hfs : ∀ j, j < N → defaultValue (ty j) = vp_V fs j) (hfi : ∀ ρ : ev_R, fs.map (ev_v ρ) = fs) (h1 : ce + 1 ≤ μ.2.2.2.2.1.cells) (h2 : sl + N ≤ μ.2.2.2.2.1.slots)
    (o1 : ev_okh hp.length hp = true) (o2 : ev_okl hp.length lo = true) (o3 : ev_oks hp.length st = true) (hk : ev_J l D γ μ κ n (ce + 1) (sl + N) lo (.ref hp.length :: st) (hp ++ [.inr (ci, fs)]) y w) : ev_J l D γ μ κ pc ce sl lo st hp y w := by
  obtain ⟨p, e, s, m, args, below, meth, c, Q, A, ρ0, n0, Ex⟩ := κ
  subst hn
  intro q hy E ρ ls H locs hl hw
  obtain ⟨hP, hD, hS, hT, hn0, hag⟩ := hw
  refine va_new (fs := fs) X.1 X.2.1 X.2.2.2.2.1 hC.2.1 ty hC.2.2.1 X.2.2.2.1 (X.2.2.2.2.1 _ w1) (X.2.2.2.2.1 _ w2) (X.2.2.2.2.1 _ w3) X.2.2.2.2.2.1 hP hD hS X.2.2.2.2.2.2.1 hC.1 hfs h1 h2 hd (fun q9 H1 hP1 hD1 hS1 => ?_)
  have ha : ∀ k, k < hp.length → ev_up ρ hp.length q9 (ρ 0).2 k = ρ k := fun k hk => ev_up_lt k hk
  have he : ev_w (ev_up ρ hp.length q9 (ρ 0).2) (hp ++ [.inr (ci, fs)]) = ev_w ρ hp ++ [(q9, .inr (ci, fs))] := by
    rw [ev_w_push o1]
    show _ ++ [(q9, (Sum.inr (ci, fs.map (ev_v _)) : va_E))] = _
    rw [hfi]
  have hst : List.map (ev_v (ev_up ρ hp.length q9 (ρ 0).2)) (.ref hp.length :: st) = .ref q9 :: List.map (ev_v ρ) st := by
    rw [List.map_cons, ev_oks_eq ha o3]
    show Value.ref (ev_up ρ hp.length q9 (ρ 0).2 hp.length).1 :: _ = _
    rw [ev_up_at]
  have := hk q hy E (ev_up ρ hp.length q9 (ρ 0).2) ls H1 locs (hl.grow ha o2) ⟨by rw [he]; exact hP1, by rw [he]; exact hD1, hS1, ?_, by rw [List.length_append]; omega, fun k hk => by rw [ev_up_lt k (by omega)]; exact hag k hk⟩
  · rw [hst] at this
    exact this
  · intro k t x hx
    by_cases hkl : k < hp.length
    · rw [List.getElem?_append_left hkl] at hx
      rw [ev_up_lt k hkl]
      exact hT k t x hx
    · rw [List.getElem?_append_right (by omega)] at hx
      have hz : k - hp.length < 1 := (List.getElem?_eq_some_iff.mp hx).1
      have hz0 : k - hp.length = 0 := by omega
      rw [hz0] at hx
      cases hx
def ev_a0 (a : (Nat → Int32) ⊕ (Nat → Int64)) : (Nat → Int32) ⊕ (Nat → Int64) ⊕ (Nat → UInt32) ⊕ (Nat → UInt64) ⊕ (Nat → Option Nat) := match a with
  | .inl f => .inl f
  | .inr f => .inr (.inl f)
theorem js_newa {N : Nat} {ty : FieldType} {atype : ArrayType} (a : (Nat → Int32) ⊕ (Nat → Int64)) {k9 : Int32} (X : ev_X l D γ μ κ) (hd : decode μ.1 pc = .ok (.newarray atype, 2)) (hn : pc + 2 = n) (w1 : Jvm.Cond.arrayClass (newarray.typeOf atype) ∈ γ.2.2) (hty : newarray.typeOf atype = ty) (ha0 : ∀ cA : ClassId, vp_cell cA (N, ev_a0 a) = arrV cA N (fun _ => defaultValue ty)) (hby : N * componentBytes ty ≤ 536870912) (h1 : ce + 1 ≤ μ.2.2.2.2.1.cells) (h2 : sl + N ≤ μ.2.2.2.2.1.slots)
    (g1 : ¬ k9 < 0) (g2 : ix k9 = N) (o1 : ev_okh hp.length hp = true) (o2 : ev_okl hp.length lo = true) (o3 : ev_oks hp.length st = true) (hk : ev_J l D γ μ κ n (ce + 1) (sl + N) lo (.ref hp.length :: st) (hp ++ [.inl (ty, N, a)]) y w) : ev_J l D γ μ κ pc ce sl lo (.int k9 :: st) hp y w := by
  obtain ⟨p, e, s, m, args, below, meth, c, Q, A, ρ0, n0, Ex⟩ := κ
  subst hn
  intro q hy E ρ ls H locs hl hw
  obtain ⟨hP, hD, hS, hT, hn0, hag⟩ := hw
  refine va_newa (a0 := (N, ev_a0 a)) X.1 X.2.1 (X.2.2.2.2.1 _ w1) hty X.2.2.2.2.2.1 hP hD hS X.2.2.2.2.2.2.1 ha0 g1 g2 hby h1 h2 hd (fun q9 cA H1 hK1 hP1 hD1 hS1 => ?_)
  have ha : ∀ k, k < hp.length → ev_up ρ hp.length q9 cA k = ρ k := fun k hk => ev_up_lt k hk
  have he : ev_w (ev_up ρ hp.length q9 cA) (hp ++ [.inl (ty, N, a)]) = ev_w ρ hp ++ [(q9, .inl (cA, N, ev_a0 a))] := by
    rw [ev_w_push o1]
    have : ev_e (ev_up ρ hp.length q9 cA) hp.length (.inl (ty, N, a)) = .inl (cA, N, ev_a0 a) := by
      rcases a with f | f
      · show (Sum.inl ((ev_up ρ hp.length q9 cA hp.length).2, N, _) : va_E) = _
        rw [ev_up_at]
        rfl
      · show (Sum.inl ((ev_up ρ hp.length q9 cA hp.length).2, N, _) : va_E) = _
        rw [ev_up_at]
        rfl
    rw [this]
  have hst : List.map (ev_v (ev_up ρ hp.length q9 cA)) (.ref hp.length :: st) = .ref q9 :: List.map (ev_v ρ) st := by
    rw [List.map_cons, ev_oks_eq ha o3]
    show Value.ref (ev_up ρ hp.length q9 cA hp.length).1 :: _ = _
    rw [ev_up_at]
  have := hk q hy E (ev_up ρ hp.length q9 cA) ls H1 locs (hl.grow ha o2) ⟨by rw [he]; exact hP1, by rw [he]; exact hD1, hS1, ?_, by rw [List.length_append]; omega, fun k hk => by rw [ev_up_lt k (by omega)]; exact hag k hk⟩
  · rw [hst] at this
    exact this
  · intro k t x hx
    by_cases hkl : k < hp.length
    · rw [List.getElem?_append_left hkl] at hx
      rw [ev_up_lt k hkl]
      exact hT k t x hx
    · rw [List.getElem?_append_right (by omega)] at hx
      have hz : k - hp.length < 1 := (List.getElem?_eq_some_iff.mp hx).1
      have hz0 : k = hp.length := by omega
      subst hz0
      rw [Nat.sub_self] at hx
      cases hx
      rw [ev_up_at]
      exact hK1.2 0 (cA, ty) rfl
theorem js_objI {idx a : Nat} (X : ev_X l D γ μ κ) (hd : decode μ.1 pc = .ok (.invokespecial idx, 3)) (hn : pc + 3 = n) (w1 : Jvm.Cond.methodLink μ.2.2.2.1.cls idx Lib.objectInit ∈ γ.2.2) (w2 : Jvm.Cond.instanceMethod Lib.objectInit ∈ γ.2.2) (w3 : Jvm.Cond.code Lib.objectInit ⟨#[0xb1]⟩ 1 none ∈ γ.2.2) (hf : 1 ≤ μ.2.2.2.2.1.frames) (hlo : 12 ≤ μ.2.2.2.2.1.locals) (hk : ev_J l D γ μ κ n ce sl lo [] hp y w) : ev_J l D γ μ κ pc ce sl lo [.ref a] hp y w := by
  obtain ⟨p, e, s, m, args, below, meth, c, Q, A, ρ0, n0, Ex⟩ := κ
  subst hn
  intro q hy E ρ ls H locs hl hw
  refine W.objInit (rest := []) X.1 X.2.1 X.2.2.2.1 (X.2.2.2.2.1 _ w1) (X.2.2.2.2.1 _ w2) (X.2.2.2.2.1 _ w3) rfl (by rw [X.2.2.1]; exact hl.1) rfl hd hf hlo ?_
  exact hk q hy E ρ ls H locs hl hw
end EVC