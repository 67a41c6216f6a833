abbrev mu_L_law : ev_mu := (code, 7, ret, y_L_law, room_1, 601024, 7293034)
abbrev wL : S_H × S_R × (Nat → Int64) → ev_O := fun q => (some (.int 1), hpW q.1 q.2.1 q.2.2)
section LWR
variable {β : Type} {l : Launch} {D : va_G} {γ γ' : ev_ga} {μ : ev_mu} {κ : ev_ka} {pc n ce sl : Nat} {lo : ev_L} {st : List Value} {hp : ev_H} {y : Option β} {w : β → ev_O} {δ : ev_de} {ns : List (String × String)} {hh : List (Nat × Nat × Nat × Nat)}
theorem js_saldT {b N : Nat} {xs : Nat → Int32} {i : Int32} (X : ev_X l D γ μ κ) (hS : ev_Sc κ b N xs) (hd : decode μ.1 pc = .ok (.iaload, 1)) (hn : pc + 1 = n) (h : inb i N = true) (hk : ev_J l D γ μ κ n ce sl lo (.int (xs (ix i)) :: st) hp y w) : ev_J l D γ μ κ pc ce sl lo (.int i :: .retAddr b :: st) hp y w := by
  have e : y = ck (inb i N) y := by rw [h]; rfl
  rw [e]
  exact js_sald X hS hd hn hk
theorem js_laloadT {a N : Nat} {i : Int32} {f : Nat → Int64} (X : ev_X l D γ μ κ) (hd : decode μ.1 pc = .ok (.laload, 1)) (hn : pc + 1 = n) (hx : ev_n hp a = some (.inl (.long, N, .inr f))) (h : inb i N = true) (hk : ev_J l D γ μ κ n ce sl lo (.long (f (ix i)) :: st) hp y w) : ev_J l D γ μ κ pc ce sl lo (.int i :: .ref a :: st) hp y w := by
  have e : y = ck (inb i N) y := by rw [h]; rfl
  rw [e]
  exact js_laload X hd hn hx hk
theorem js_callSWT {α : Type} {na idx : Nat} {μ' : ev_mu} {hh' : List (Nat × Nat × Nat × Nat)} {as st' : List Value} {y1 : Option α} {w1 : α → ev_O} (v : α) (hv : y1 = some v) (X : ev_X l D γ μ κ) (TW : ev_TW δ ns hh κ) (hd : decode μ.1 pc = .ok (.invokestatic idx, 3)) (hn : pc + 3 = n) (hM : ev_MW l D γ δ ns μ' hh' as hp y1 w1) (hg : GoodIn γ.2.2 (va_wsS μ.2.2.2.1.cls idx μ'.2.2.2.1 (Jvm.Cond.codeWith μ'.2.2.2.1 μ'.1 μ'.2.1 μ'.2.2.1 hh' :: γ.2.2))) (hrc : μ'.2.2.2.2.1.cells = μ'.2.2.2.2.2.1) (hrs : μ'.2.2.2.2.1.slots = μ'.2.2.2.2.2.2)
    (hyy : μ'.2.2.2.1.cls ≠ "java/lang/invoke/MethodHandle" ∧ μ'.2.2.2.1.cls ≠ "java/lang/invoke/VarHandle" ∧ (parseMethodDescriptor μ'.2.2.2.1.desc).map (fun d => d.parameters.length) = some na) (hR : μ'.2.2.2.2.1.frames + 1 ≤ μ.2.2.2.2.1.frames ∧ 8 + (μ'.2.1 + 11) + μ'.2.2.2.2.1.locals ≤ μ.2.2.2.2.1.locals) (hf : ce + μ'.2.2.2.2.2.1 ≤ μ.2.2.2.2.1.cells ∧ sl + μ'.2.2.2.2.2.2 ≤ μ.2.2.2.2.1.slots) (hpop : ev_pop na st [] = some (as, st')) (o2 : ev_okl hp.length lo = true) (o3 : ev_oks hp.length st' = true) (o4 : Nat.ble (ev_cs st') 8 = true) (hk : ev_J l D γ μ κ n (ce + μ'.2.2.2.2.2.1) (sl + μ'.2.2.2.2.2.2) lo (ev_push (w1 v).1 st') (w1 v).2 y w) : ev_J l D γ μ κ pc ce sl lo st hp y w :=
  js_callSW (y1 := some ()) (w1 := fun _ : Unit => w1 v) (k := fun _ => y) X TW hd hn (fun _ _ => hM v hv) hg hrc hrs hyy hR hf hpop o2 o3 o4 (fun _ => hk)
theorem js_callVgT {α : Type} {na idx ci b : Nat} {C : String} {μ' : ev_mu} {tl : u_T × Nat} {as' st' fs : List Value} {y1 : Option α} {w1 : α → ev_O} (v : α) (hv : y1 = some v) (X : ev_X l D γ μ κ) (hd : decode μ.1 pc = .ok (.invokevirtual idx, 3)) (hn : pc + 3 = n) (hγ : γ'.1 = γ.1 ∧ γ'.2.1 = γ.2.1) (hM : ev_M l D γ' μ' (.ref b :: as') hp y1 w1) (hg : GoodIn γ.2.2 (wsV μ.2.2.2.1.cls idx C μ'.2.2.2.1 (Jvm.Cond.code μ'.2.2.2.1 μ'.1 μ'.2.1 μ'.2.2.1 :: γ'.2.2))) (hrc : μ'.2.2.2.2.1.cells = μ'.2.2.2.2.2.1) (hrs : μ'.2.2.2.2.1.slots = μ'.2.2.2.2.2.2)
    (hyy : μ'.2.2.2.1.cls = C ∧ μ'.2.2.2.1.cls ≠ "java/lang/invoke/MethodHandle" ∧ μ'.2.2.2.1.cls ≠ "java/lang/invoke/VarHandle" ∧ (parseMethodDescriptor μ'.2.2.2.1.desc).map (fun d => d.parameters.length) = some na) (hR : μ'.2.2.2.2.1.frames + 1 ≤ μ.2.2.2.2.1.frames ∧ 8 + (μ'.2.1 + 11) + μ'.2.2.2.2.1.locals ≤ μ.2.2.2.2.1.locals) (hc : γ.1[ci]? = some (C, tl)) (hf : ce + μ'.2.2.2.2.2.1 ≤ μ.2.2.2.2.1.cells ∧ sl + μ'.2.2.2.2.2.2 ≤ μ.2.2.2.2.1.slots) (hpop : ev_pop (na + 1) st [] = some (.ref b :: as', st')) (hb : ev_n hp b = some (.inr (ci, fs))) (o2 : ev_okl hp.length lo = true) (o3 : ev_oks hp.length st' = true) (o4 : Nat.ble (ev_cs st') 8 = true) (hk : ev_J l D γ μ κ n (ce + μ'.2.2.2.2.2.1) (sl + μ'.2.2.2.2.2.2) lo (ev_push (w1 v).1 st') (w1 v).2 y w) : ev_J l D γ μ κ pc ce sl lo st hp y w :=
  js_callVg (y1 := some ()) (w1 := fun _ : Unit => w1 v) (k := fun _ => y) X hd hn hγ (fun _ _ => hM v hv) hg hrc hrs hyy hR hc hf hpop hb o2 o3 o4 (fun _ => hk)
end LWR

set_option maxHeartbeats 4000000 in
theorem lc_add {l : Launch} (hst : l.stackTraces = false) {Dv : va_G} {κ : ev_ka} (X : ev_X l Dv gaL mu_L_law κ) (T : ev_TW deX nsX [] κ) {b N : Nat} {xs : Nat → Int32} (S : ev_Sc κ b N xs) {fu : Nat} (hf : 20000 ≤ fu) {H : S_H} {R : S_R} (out : Nat → Int64) (hHR : HR H R) {i : Int32} {ce sl : Nat} (hc : ce + 1 ≤ 601024) (hs : sl + 6 ≤ 7293034) (n1 : inb (i + 1) N = true) (n2 : inb (i + 2) N = true) (n3 : inb (i + 3) N = true) (n4 : inb (i + 4) N = true) (n5 : inb (i + 5) N = true)
    (hk : ∀ H' R' out', HR H' R' → ∃ q, ev_J l Dv gaL mu_L_law κ 1016 (ce + 1) (sl + 6) [some (.retAddr b), some (.ref 0), some (.ref 25), some (.ref 44), some (.int i), none, none] [] (hpW H' R' out') (some q) wL) : ∃ q, ev_J l Dv gaL mu_L_law κ 108 ce sl [some (.retAddr b), some (.ref 0), some (.ref 25), some (.ref 44), some (.int i), none, none] [] (hpW H R out) (some q) wL := by
  obtain ⟨k, H', out', bb, R', e1, e2, e3, e4, e5⟩ := p_add hf hHR out (xs (ix (i + 1))) (xs (ix (i + 2))) (xs (ix (i + 3))) (xs (ix (i + 4)))
  obtain ⟨q, hq⟩ := hk H' R' out' e4
  refine ⟨q, ?_⟩
  refine js_aload_n (n := 109) X (dg dc_L_law_0 25 rfl) rfl rfl rfl ?_
  refine js_sload_n (n := 110) X (dg dc_L_law_0 26 rfl) rfl rfl rfl ?_
  refine js_iload (n := 112) X (dg dc_L_law_0 27 rfl) rfl rfl ?_
  refine js_iconst (n := 113) 1 X (dg dc_L_law_0 28 rfl) rfl rfl ?_
  refine js_iadd (n := 114) X (dg dc_L_law_0 29 rfl) rfl ?_
  refine js_saldT (n := 115) X S (dg dc_L_law_0 30 rfl) rfl n1 ?_
  refine js_sload_n (n := 116) X (dg dc_L_law_0 31 rfl) rfl rfl rfl ?_
  refine js_iload (n := 118) X (dg dc_L_law_0 32 rfl) rfl rfl ?_
  refine js_iconst (n := 119) 2 X (dg dc_L_law_0 33 rfl) rfl rfl ?_
  refine js_iadd (n := 120) X (dg dc_L_law_0 34 rfl) rfl ?_
  refine js_saldT (n := 121) X S (dg dc_L_law_0 35 rfl) rfl n2 ?_
  refine js_sload_n (n := 122) X (dg dc_L_law_0 36 rfl) rfl rfl rfl ?_
  refine js_iload (n := 124) X (dg dc_L_law_0 37 rfl) rfl rfl ?_
  refine js_iconst (n := 125) 3 X (dg dc_L_law_0 38 rfl) rfl rfl ?_
  refine js_iadd (n := 126) X (dg dc_L_law_0 39 rfl) rfl ?_
  refine js_saldT (n := 127) X S (dg dc_L_law_1 0 rfl) rfl n3 ?_
  refine js_sload_n (n := 128) X (dg dc_L_law_1 1 rfl) rfl rfl rfl ?_
  refine js_iload (n := 130) X (dg dc_L_law_1 2 rfl) rfl rfl ?_
  refine js_iconst (n := 131) 4 X (dg dc_L_law_1 3 rfl) rfl rfl ?_
  refine js_iadd (n := 132) X (dg dc_L_law_1 4 rfl) rfl ?_
  refine js_saldT (n := 133) X S (dg dc_L_law_1 5 rfl) rfl n4 ?_
  refine js_aload_n (n := 134) X (dg dc_L_law_1 6 rfl) rfl rfl rfl ?_
  refine js_callSWT (n := 137) (na := 6) _ e1 X T (dg dc_L_law_1 7 rfl) rfl (c_L_add l hst Dv fu R out H (xs (ix (i + 1))) (xs (ix (i + 2))) (xs (ix (i + 3))) (xs (ix (i + 4)))) gS_L_65 rfl rfl hy_L_add ⟨(Nat.le_of_ble_eq_true rfl), (Nat.le_of_ble_eq_true rfl)⟩ ⟨hc, hs⟩ rfl rfl rfl rfl ?_
  refine js_istore (lo' := [some (.retAddr b), some (.ref 0), some (.ref 25), some (.ref 44), some (.int i), some (.int k), none]) (n := 139) X (dg dc_L_law_1 8 rfl) rfl (Nat.le_of_ble_eq_true rfl) rfl ?_
  refine js_aload_n (n := 140) X (dg dc_L_law_1 9 rfl) rfl rfl rfl ?_
  refine js_sload_n (n := 141) X (dg dc_L_law_1 10 rfl) rfl rfl rfl ?_
  refine js_iload (n := 143) X (dg dc_L_law_1 11 rfl) rfl rfl ?_
  refine js_iconst (n := 144) 1 X (dg dc_L_law_1 12 rfl) rfl rfl ?_
  refine js_iadd (n := 145) X (dg dc_L_law_1 13 rfl) rfl ?_
  refine js_saldT (n := 146) X S (dg dc_L_law_1 14 rfl) rfl n1 ?_
  refine js_sload_n (n := 147) X (dg dc_L_law_1 15 rfl) rfl rfl rfl ?_
  refine js_iload (n := 149) X (dg dc_L_law_1 16 rfl) rfl rfl ?_
  refine js_iconst (n := 150) 2 X (dg dc_L_law_1 17 rfl) rfl rfl ?_
  refine js_iadd (n := 151) X (dg dc_L_law_1 18 rfl) rfl ?_
  refine js_saldT (n := 152) X S (dg dc_L_law_1 19 rfl) rfl n2 ?_
  refine js_sload_n (n := 153) X (dg dc_L_law_1 20 rfl) rfl rfl rfl ?_
  refine js_iload (n := 155) X (dg dc_L_law_1 21 rfl) rfl rfl ?_
  refine js_iconst (n := 156) 3 X (dg dc_L_law_1 22 rfl) rfl rfl ?_
  refine js_iadd (n := 157) X (dg dc_L_law_1 23 rfl) rfl ?_
  refine js_saldT (n := 158) X S (dg dc_L_law_1 24 rfl) rfl n3 ?_
  refine js_sload_n (n := 159) X (dg dc_L_law_1 25 rfl) rfl rfl rfl ?_
  refine js_iload (n := 161) X (dg dc_L_law_1 26 rfl) rfl rfl ?_
  refine js_iconst (n := 162) 4 X (dg dc_L_law_1 27 rfl) rfl rfl ?_
  refine js_iadd (n := 163) X (dg dc_L_law_1 28 rfl) rfl ?_
  refine js_saldT (n := 164) X S (dg dc_L_law_1 29 rfl) rfl n4 ?_
  refine js_callVgT (γ' := gaX) (n := 167) (na := 4) (ci := 6) _ e2 X (dg dc_L_law_1 30 rfl) rfl ⟨rfl, rfl⟩ (c_R_add_25 l Dv fu H' out' R (xs (ix (i + 1))) (xs (ix (i + 2))) (xs (ix (i + 3))) (xs (ix (i + 4)))) gV_L_70 rfl rfl hy_R_add ⟨(Nat.le_of_ble_eq_true rfl), (Nat.le_of_ble_eq_true rfl)⟩ rfl ⟨hc, hs⟩ rfl rfl rfl rfl rfl ?_
  refine js_istore (lo' := [some (.retAddr b), some (.ref 0), some (.ref 25), some (.ref 44), some (.int i), some (.int k), some (.int bb)]) (n := 169) X (dg dc_L_law_1 31 rfl) rfl (Nat.le_of_ble_eq_true rfl) rfl ?_
  refine js_aload_n (n := 170) X (dg dc_L_law_1 32 rfl) rfl rfl rfl ?_
  refine js_callVgT (γ' := gaX) (n := 173) (na := 0) (ci := 6) (y1 := f_R_thrown fu R') R'.1 rfl X (dg dc_L_law_1 33 rfl) rfl ⟨rfl, rfl⟩ (c_R_thrown_25 l Dv fu H' out' R') gV_L_71 rfl rfl hy_R_thrown ⟨(Nat.le_of_ble_eq_true rfl), (Nat.le_of_ble_eq_true rfl)⟩ rfl ⟨hc, hs⟩ rfl rfl rfl rfl rfl ?_
  refine js_iload (n := 175) X (dg dc_L_law_1 34 rfl) rfl rfl ?_
  refine js_icmp_eq_t (t := 180) X (dg dc_L_law_1 35 rfl) (by decide) e3 ?_
  refine js_iload (n := 182) X (dg dc_L_law_1 38 rfl) rfl rfl ?_
  by_cases hk0 : k = 0
  · refine js_if_ne_f (t := 197) (n := 185) X (dg dc_L_law_1 39 rfl) (by decide) rfl hk0 ?_
    refine js_aload_n (n := 186) X (dg dc_L_law_2 0 rfl) rfl rfl rfl ?_
    refine js_iconst (n := 187) 0 X (dg dc_L_law_2 1 rfl) rfl rfl ?_
    refine js_laloadT (n := 188) X (dg dc_L_law_2 2 rfl) rfl rfl rfl ?_
    rw [e5 hk0]
    refine js_iload (n := 190) X (dg dc_L_law_2 3 rfl) rfl rfl ?_
    refine js_i2l (n := 191) X (dg dc_L_law_2 4 rfl) rfl ?_
    refine js_lcmp (n := 192) X (dg dc_L_law_2 5 rfl) rfl ?_
    refine js_if_eq_t (t := 197) X (dg dc_L_law_2 6 rfl) (by decide) (lcmp_self _) ?_
    refine js_goto (t := 1016) X (dg dc_L_law_2 9 rfl) (by decide) ?_
    exact js_keep [true, true, true, true, true, false, false] hq
  · refine js_if_ne_t (t := 197) X (dg dc_L_law_1 39 rfl) (by decide) hk0 ?_
    refine js_goto (t := 1016) X (dg dc_L_law_2 9 rfl) (by decide) ?_
    exact js_keep [true, true, true, true, true, false, false] hq
set_option maxHeartbeats 4000000 in
theorem lc_clear {l : Launch} (hst : l.stackTraces = false) {Dv : va_G} {κ : ev_ka} (X : ev_X l Dv gaL mu_L_law κ) (T : ev_TW deX nsX [] κ) {b N : Nat} {xs : Nat → Int32} (S : ev_Sc κ b N xs) {fu : Nat} (hf : 20000 ≤ fu) {H : S_H} {R : S_R} (out : Nat → Int64) (hHR : HR H R) {i : Int32} {ce sl : Nat} (hc : ce + 1 ≤ 601024) (hs : sl + 6 ≤ 7293034) (n1 : inb (i + 1) N = true) (n2 : inb (i + 2) N = true) (n3 : inb (i + 3) N = true) (n4 : inb (i + 4) N = true) (n5 : inb (i + 5) N = true)
    (hk : ∀ H' R' out', HR H' R' → ∃ q, ev_J l Dv gaL mu_L_law κ 1016 (ce + 1) (sl + 6) [some (.retAddr b), some (.ref 0), some (.ref 25), some (.ref 44), some (.int i), none, none] [] (hpW H' R' out') (some q) wL) : ∃ q, ev_J l Dv gaL mu_L_law κ 200 ce sl [some (.retAddr b), some (.ref 0), some (.ref 25), some (.ref 44), some (.int i), none, none] [] (hpW H R out) (some q) wL := by
  obtain ⟨bb, H', R', e1, e2, e4⟩ := m_clear hf hHR
  obtain ⟨q, hq⟩ := hk H' R' out e4
  refine ⟨q, ?_⟩
  refine js_aload_n (n := 201) X (dg dc_L_law_2 10 rfl) rfl rfl rfl ?_
  refine js_callVgT (γ' := gaX) (n := 204) (na := 0) (ci := 0) _ e1 X (dg dc_L_law_2 11 rfl) rfl ⟨rfl, rfl⟩ (c_H_clear_0 l Dv fu R out H) gV_L_75 rfl rfl hy_H_clear ⟨(Nat.le_of_ble_eq_true rfl), (Nat.le_of_ble_eq_true rfl)⟩ rfl ⟨Nat.le_of_succ_le hc, Nat.le_trans (Nat.le_add_right _ 6) hs⟩ rfl rfl rfl rfl rfl ?_
  refine js_aload_n (n := 205) X (dg dc_L_law_2 12 rfl) rfl rfl rfl ?_
  refine js_callVgT (γ' := gaX) (n := 208) (na := 0) (ci := 6) _ e2 X (dg dc_L_law_2 13 rfl) rfl ⟨rfl, rfl⟩ (c_R_clear_25 l Dv fu H' out R) gV_L_78 rfl rfl hy_R_clear ⟨(Nat.le_of_ble_eq_true rfl), (Nat.le_of_ble_eq_true rfl)⟩ rfl ⟨Nat.le_of_succ_le hc, Nat.le_trans (Nat.le_add_right _ 6) hs⟩ rfl rfl rfl rfl rfl ?_
  refine js_icmp_eq_t (t := 1016) X (dg dc_L_law_2 14 rfl) (by decide) rfl ?_
  exact js_widen (Nat.le_add_right ce 1) (Nat.le_add_right sl 6) hq
set_option maxHeartbeats 4000000 in
theorem lc_make {l : Launch} (hst : l.stackTraces = false) {Dv : va_G} {κ : ev_ka} (X : ev_X l Dv gaL mu_L_law κ) (T : ev_TW deX nsX [] κ) {b N : Nat} {xs : Nat → Int32} (S : ev_Sc κ b N xs) {fu : Nat} (hf : 20000 ≤ fu) {H : S_H} {R : S_R} (out : Nat → Int64) (hHR : HR H R) {i : Int32} {ce sl : Nat} (hc : ce + 1 ≤ 601024) (hs : sl + 6 ≤ 7293034) (n1 : inb (i + 1) N = true) (n2 : inb (i + 2) N = true) (n3 : inb (i + 3) N = true) (n4 : inb (i + 4) N = true) (n5 : inb (i + 5) N = true)
    (hk : ∀ H' R' out', HR H' R' → ∃ q, ev_J l Dv gaL mu_L_law κ 1016 (ce + 1) (sl + 6) [some (.retAddr b), some (.ref 0), some (.ref 25), some (.ref 44), some (.int i), none, none] [] (hpW H' R' out') (some q) wL) : ∃ q, ev_J l Dv gaL mu_L_law κ 213 ce sl [some (.retAddr b), some (.ref 0), some (.ref 25), some (.ref 44), some (.int i), none, none] [] (hpW H R out) (some q) wL := by
  obtain ⟨k, H', out', bb, R', e1, e2, e3, e4, e5⟩ := p_make hf hHR out (((xs (ix (i + 1))).toInt64 <<< ((32 : Int32).toInt64 &&& 63)) ||| ((xs (ix (i + 2))).toInt64 &&& 4294967295)) (xs (ix (i + 3))) (xs (ix (i + 4))) (xs (ix (i + 5)))
  obtain ⟨q, hq⟩ := hk H' R' out' e4
  refine ⟨q, ?_⟩
  refine js_aload_n (n := 214) X (dg dc_L_law_2 17 rfl) rfl rfl rfl ?_
  refine js_sload_n (n := 215) X (dg dc_L_law_2 18 rfl) rfl rfl rfl ?_
  refine js_iload (n := 217) X (dg dc_L_law_2 19 rfl) rfl rfl ?_
  refine js_iconst (n := 218) 1 X (dg dc_L_law_2 20 rfl) rfl rfl ?_
  refine js_iadd (n := 219) X (dg dc_L_law_2 21 rfl) rfl ?_
  refine js_saldT (n := 220) X S (dg dc_L_law_2 22 rfl) rfl n1 ?_
  refine js_i2l (n := 221) X (dg dc_L_law_2 23 rfl) rfl ?_
  refine js_bipush (n := 223) 32 X (dg dc_L_law_2 24 rfl) rfl (by decide) ?_
  refine js_lshl (n := 224) X (dg dc_L_law_2 25 rfl) rfl ?_
  refine js_sload_n (n := 225) X (dg dc_L_law_2 26 rfl) rfl rfl rfl ?_
  refine js_iload (n := 227) X (dg dc_L_law_2 27 rfl) rfl rfl ?_
  refine js_iconst (n := 228) 2 X (dg dc_L_law_2 28 rfl) rfl rfl ?_
  refine js_iadd (n := 229) X (dg dc_L_law_2 29 rfl) rfl ?_
  refine js_saldT (n := 230) X S (dg dc_L_law_2 30 rfl) rfl n2 ?_
  refine js_i2l (n := 231) X (dg dc_L_law_2 31 rfl) rfl ?_
  refine js_ldc2 (n := 234) X (dg dc_L_law_2 32 rfl) rfl lx_156 ?_
  refine js_land (n := 235) X (dg dc_L_law_2 33 rfl) rfl ?_
  refine js_lor (n := 236) X (dg dc_L_law_2 34 rfl) rfl ?_
  refine js_sload_n (n := 237) X (dg dc_L_law_2 35 rfl) rfl rfl rfl ?_
  refine js_iload (n := 239) X (dg dc_L_law_2 36 rfl) rfl rfl ?_
  refine js_iconst (n := 240) 3 X (dg dc_L_law_2 37 rfl) rfl rfl ?_
  refine js_iadd (n := 241) X (dg dc_L_law_2 38 rfl) rfl ?_
  refine js_saldT (n := 242) X S (dg dc_L_law_2 39 rfl) rfl n3 ?_
  refine js_sload_n (n := 243) X (dg dc_L_law_3 0 rfl) rfl rfl rfl ?_
  refine js_iload (n := 245) X (dg dc_L_law_3 1 rfl) rfl rfl ?_
  refine js_iconst (n := 246) 4 X (dg dc_L_law_3 2 rfl) rfl rfl ?_
  refine js_iadd (n := 247) X (dg dc_L_law_3 3 rfl) rfl ?_
  refine js_saldT (n := 248) X S (dg dc_L_law_3 4 rfl) rfl n4 ?_
  refine js_sload_n (n := 249) X (dg dc_L_law_3 5 rfl) rfl rfl rfl ?_
  refine js_iload (n := 251) X (dg dc_L_law_3 6 rfl) rfl rfl ?_
  refine js_iconst (n := 252) 5 X (dg dc_L_law_3 7 rfl) rfl rfl ?_
  refine js_iadd (n := 253) X (dg dc_L_law_3 8 rfl) rfl ?_
  refine js_saldT (n := 254) X S (dg dc_L_law_3 9 rfl) rfl n5 ?_
  refine js_aload_n (n := 255) X (dg dc_L_law_3 10 rfl) rfl rfl rfl ?_
  refine js_callSWT (n := 258) (na := 6) _ e1 X T (dg dc_L_law_3 11 rfl) rfl (c_L_make l hst Dv fu R out H (((xs (ix (i + 1))).toInt64 <<< ((32 : Int32).toInt64 &&& 63)) ||| ((xs (ix (i + 2))).toInt64 &&& 4294967295)) (xs (ix (i + 3))) (xs (ix (i + 4))) (xs (ix (i + 5)))) gS_L_81 rfl rfl hy_L_make ⟨(Nat.le_of_ble_eq_true rfl), (Nat.le_of_ble_eq_true rfl)⟩ ⟨hc, hs⟩ rfl rfl rfl rfl ?_
  refine js_istore (lo' := [some (.retAddr b), some (.ref 0), some (.ref 25), some (.ref 44), some (.int i), some (.int k), none]) (n := 260) X (dg dc_L_law_3 12 rfl) rfl (Nat.le_of_ble_eq_true rfl) rfl ?_
  refine js_aload_n (n := 261) X (dg dc_L_law_3 13 rfl) rfl rfl rfl ?_
  refine js_sload_n (n := 262) X (dg dc_L_law_3 14 rfl) rfl rfl rfl ?_
  refine js_iload (n := 264) X (dg dc_L_law_3 15 rfl) rfl rfl ?_
  refine js_iconst (n := 265) 1 X (dg dc_L_law_3 16 rfl) rfl rfl ?_
  refine js_iadd (n := 266) X (dg dc_L_law_3 17 rfl) rfl ?_
  refine js_saldT (n := 267) X S (dg dc_L_law_3 18 rfl) rfl n1 ?_
  refine js_i2l (n := 268) X (dg dc_L_law_3 19 rfl) rfl ?_
  refine js_bipush (n := 270) 32 X (dg dc_L_law_3 20 rfl) rfl (by decide) ?_
  refine js_lshl (n := 271) X (dg dc_L_law_3 21 rfl) rfl ?_
  refine js_sload_n (n := 272) X (dg dc_L_law_3 22 rfl) rfl rfl rfl ?_
  refine js_iload (n := 274) X (dg dc_L_law_3 23 rfl) rfl rfl ?_
  refine js_iconst (n := 275) 2 X (dg dc_L_law_3 24 rfl) rfl rfl ?_
  refine js_iadd (n := 276) X (dg dc_L_law_3 25 rfl) rfl ?_
  refine js_saldT (n := 277) X S (dg dc_L_law_3 26 rfl) rfl n2 ?_
  refine js_i2l (n := 278) X (dg dc_L_law_3 27 rfl) rfl ?_
  refine js_ldc2 (n := 281) X (dg dc_L_law_3 28 rfl) rfl lx_156 ?_
  refine js_land (n := 282) X (dg dc_L_law_3 29 rfl) rfl ?_
  refine js_lor (n := 283) X (dg dc_L_law_3 30 rfl) rfl ?_
  refine js_sload_n (n := 284) X (dg dc_L_law_3 31 rfl) rfl rfl rfl ?_
  refine js_iload (n := 286) X (dg dc_L_law_3 32 rfl) rfl rfl ?_
  refine js_iconst (n := 287) 3 X (dg dc_L_law_3 33 rfl) rfl rfl ?_
  refine js_iadd (n := 288) X (dg dc_L_law_3 34 rfl) rfl ?_
  refine js_saldT (n := 289) X S (dg dc_L_law_3 35 rfl) rfl n3 ?_
  refine js_sload_n (n := 290) X (dg dc_L_law_3 36 rfl) rfl rfl rfl ?_
  refine js_iload (n := 292) X (dg dc_L_law_3 37 rfl) rfl rfl ?_
  refine js_iconst (n := 293) 4 X (dg dc_L_law_3 38 rfl) rfl rfl ?_
  refine js_iadd (n := 294) X (dg dc_L_law_3 39 rfl) rfl ?_
  refine js_saldT (n := 295) X S (dg dc_L_law_4 0 rfl) rfl n4 ?_
  refine js_sload_n (n := 296) X (dg dc_L_law_4 1 rfl) rfl rfl rfl ?_
  refine js_iload (n := 298) X (dg dc_L_law_4 2 rfl) rfl rfl ?_
  refine js_iconst (n := 299) 5 X (dg dc_L_law_4 3 rfl) rfl rfl ?_
  refine js_iadd (n := 300) X (dg dc_L_law_4 4 rfl) rfl ?_
  refine js_saldT (n := 301) X S (dg dc_L_law_4 5 rfl) rfl n5 ?_
  refine js_callVgT (γ' := gaX) (n := 304) (na := 4) (ci := 6) _ e2 X (dg dc_L_law_4 6 rfl) rfl ⟨rfl, rfl⟩ (c_R_make_25 l Dv fu H' out' R (((xs (ix (i + 1))).toInt64 <<< ((32 : Int32).toInt64 &&& 63)) ||| ((xs (ix (i + 2))).toInt64 &&& 4294967295)) (xs (ix (i + 3))) (xs (ix (i + 4))) (xs (ix (i + 5)))) gV_L_84 rfl rfl hy_R_make ⟨(Nat.le_of_ble_eq_true rfl), (Nat.le_of_ble_eq_true rfl)⟩ rfl ⟨hc, hs⟩ rfl rfl rfl rfl rfl ?_
  refine js_istore (lo' := [some (.retAddr b), some (.ref 0), some (.ref 25), some (.ref 44), some (.int i), some (.int k), some (.int bb)]) (n := 306) X (dg dc_L_law_4 7 rfl) rfl (Nat.le_of_ble_eq_true rfl) rfl ?_
  refine js_aload_n (n := 307) X (dg dc_L_law_4 8 rfl) rfl rfl rfl ?_
  refine js_callVgT (γ' := gaX) (n := 310) (na := 0) (ci := 6) (y1 := f_R_thrown fu R') R'.1 rfl X (dg dc_L_law_4 9 rfl) rfl ⟨rfl, rfl⟩ (c_R_thrown_25 l Dv fu H' out' R') gV_L_71 rfl rfl hy_R_thrown ⟨(Nat.le_of_ble_eq_true rfl), (Nat.le_of_ble_eq_true rfl)⟩ rfl ⟨hc, hs⟩ rfl rfl rfl rfl rfl ?_
  refine js_iload (n := 312) X (dg dc_L_law_4 10 rfl) rfl rfl ?_
  refine js_icmp_eq_t (t := 317) X (dg dc_L_law_4 11 rfl) (by decide) e3 ?_
  refine js_iload (n := 319) X (dg dc_L_law_4 14 rfl) rfl rfl ?_
  by_cases hk0 : k = 0
  · refine js_if_ne_f (t := 334) (n := 322) X (dg dc_L_law_4 15 rfl) (by decide) rfl hk0 ?_
    refine js_aload_n (n := 323) X (dg dc_L_law_4 16 rfl) rfl rfl rfl ?_
    refine js_iconst (n := 324) 0 X (dg dc_L_law_4 17 rfl) rfl rfl ?_
    refine js_laloadT (n := 325) X (dg dc_L_law_4 18 rfl) rfl rfl rfl ?_
    rw [e5 hk0]
    refine js_iload (n := 327) X (dg dc_L_law_4 19 rfl) rfl rfl ?_
    refine js_i2l (n := 328) X (dg dc_L_law_4 20 rfl) rfl ?_
    refine js_lcmp (n := 329) X (dg dc_L_law_4 21 rfl) rfl ?_
    refine js_if_eq_t (t := 334) X (dg dc_L_law_4 22 rfl) (by decide) (lcmp_self _) ?_
    refine js_goto (t := 1016) X (dg dc_L_law_4 25 rfl) (by decide) ?_
    exact js_keep [true, true, true, true, true, false, false] hq
  · refine js_if_ne_t (t := 334) X (dg dc_L_law_4 15 rfl) (by decide) hk0 ?_
    refine js_goto (t := 1016) X (dg dc_L_law_4 25 rfl) (by decide) ?_
    exact js_keep [true, true, true, true, true, false, false] hq
set_option maxHeartbeats 4000000 in
theorem lc_flaws {l : Launch} (hst : l.stackTraces = false) {Dv : va_G} {κ : ev_ka} (X : ev_X l Dv gaL mu_L_law κ) (T : ev_TW deX nsX [] κ) {b N : Nat} {xs : Nat → Int32} (S : ev_Sc κ b N xs) {fu : Nat} (hf : 20000 ≤ fu) {H : S_H} {R : S_R} (out : Nat → Int64) (hHR : HR H R) {i : Int32} {ce sl : Nat} (hc : ce + 1 ≤ 601024) (hs : sl + 6 ≤ 7293034) (n1 : inb (i + 1) N = true) (n2 : inb (i + 2) N = true) (n3 : inb (i + 3) N = true) (n4 : inb (i + 4) N = true) (n5 : inb (i + 5) N = true)
    (hk : ∀ H' R' out', HR H' R' → ∃ q, ev_J l Dv gaL mu_L_law κ 1016 (ce + 1) (sl + 6) [some (.retAddr b), some (.ref 0), some (.ref 25), some (.ref 44), some (.int i), none, none] [] (hpW H' R' out') (some q) wL) : ∃ q, ev_J l Dv gaL mu_L_law κ 337 ce sl [some (.retAddr b), some (.ref 0), some (.ref 25), some (.ref 44), some (.int i), none, none] [] (hpW H R out) (some q) wL := by
  obtain ⟨k, H', out', bb, R', e1, e2, e3, e4, e5⟩ := p_flaws hf hHR out (xs (ix (i + 1)))
  obtain ⟨q, hq⟩ := hk H' R' out' e4
  refine ⟨q, ?_⟩
  refine js_aload_n (n := 338) X (dg dc_L_law_4 26 rfl) rfl rfl rfl ?_
  refine js_sload_n (n := 339) X (dg dc_L_law_4 27 rfl) rfl rfl rfl ?_
  refine js_iload (n := 341) X (dg dc_L_law_4 28 rfl) rfl rfl ?_
  refine js_iconst (n := 342) 1 X (dg dc_L_law_4 29 rfl) rfl rfl ?_
  refine js_iadd (n := 343) X (dg dc_L_law_4 30 rfl) rfl ?_
  refine js_saldT (n := 344) X S (dg dc_L_law_4 31 rfl) rfl n1 ?_
  refine js_aload_n (n := 345) X (dg dc_L_law_4 32 rfl) rfl rfl rfl ?_
  refine js_callSWT (n := 348) (na := 3) _ e1 X T (dg dc_L_law_4 33 rfl) rfl (c_L_flaws l hst Dv fu R out H (xs (ix (i + 1)))) gS_L_85 rfl rfl hy_L_flaws ⟨(Nat.le_of_ble_eq_true rfl), (Nat.le_of_ble_eq_true rfl)⟩ ⟨hc, hs⟩ rfl rfl rfl rfl ?_
  refine js_istore (lo' := [some (.retAddr b), some (.ref 0), some (.ref 25), some (.ref 44), some (.int i), some (.int k), none]) (n := 350) X (dg dc_L_law_4 34 rfl) rfl (Nat.le_of_ble_eq_true rfl) rfl ?_
  refine js_aload_n (n := 351) X (dg dc_L_law_4 35 rfl) rfl rfl rfl ?_
  refine js_sload_n (n := 352) X (dg dc_L_law_4 36 rfl) rfl rfl rfl ?_
  refine js_iload (n := 354) X (dg dc_L_law_4 37 rfl) rfl rfl ?_
  refine js_iconst (n := 355) 1 X (dg dc_L_law_4 38 rfl) rfl rfl ?_
  refine js_iadd (n := 356) X (dg dc_L_law_4 39 rfl) rfl ?_
  refine js_saldT (n := 357) X S (dg dc_L_law_5 0 rfl) rfl n1 ?_
  refine js_callVgT (γ' := gaX) (n := 360) (na := 1) (ci := 6) _ e2 X (dg dc_L_law_5 1 rfl) rfl ⟨rfl, rfl⟩ (c_R_flaws_25 l Dv fu H' out' R (xs (ix (i + 1)))) gV_L_88 rfl rfl hy_R_flaws ⟨(Nat.le_of_ble_eq_true rfl), (Nat.le_of_ble_eq_true rfl)⟩ rfl ⟨hc, hs⟩ rfl rfl rfl rfl rfl ?_
  refine js_istore (lo' := [some (.retAddr b), some (.ref 0), some (.ref 25), some (.ref 44), some (.int i), some (.int k), some (.int bb)]) (n := 362) X (dg dc_L_law_5 2 rfl) rfl (Nat.le_of_ble_eq_true rfl) rfl ?_
  refine js_aload_n (n := 363) X (dg dc_L_law_5 3 rfl) rfl rfl rfl ?_
  refine js_callVgT (γ' := gaX) (n := 366) (na := 0) (ci := 6) (y1 := f_R_thrown fu R') R'.1 rfl X (dg dc_L_law_5 4 rfl) rfl ⟨rfl, rfl⟩ (c_R_thrown_25 l Dv fu H' out' R') gV_L_71 rfl rfl hy_R_thrown ⟨(Nat.le_of_ble_eq_true rfl), (Nat.le_of_ble_eq_true rfl)⟩ rfl ⟨hc, hs⟩ rfl rfl rfl rfl rfl ?_
  refine js_iload (n := 368) X (dg dc_L_law_5 5 rfl) rfl rfl ?_
  refine js_icmp_eq_t (t := 373) X (dg dc_L_law_5 6 rfl) (by decide) e3 ?_
  refine js_iload (n := 375) X (dg dc_L_law_5 9 rfl) rfl rfl ?_
  by_cases hk0 : k = 0
  · refine js_if_ne_f (t := 390) (n := 378) X (dg dc_L_law_5 10 rfl) (by decide) rfl hk0 ?_
    refine js_aload_n (n := 379) X (dg dc_L_law_5 11 rfl) rfl rfl rfl ?_
    refine js_iconst (n := 380) 0 X (dg dc_L_law_5 12 rfl) rfl rfl ?_
    refine js_laloadT (n := 381) X (dg dc_L_law_5 13 rfl) rfl rfl rfl ?_
    rw [e5 hk0]
    refine js_iload (n := 383) X (dg dc_L_law_5 14 rfl) rfl rfl ?_
    refine js_i2l (n := 384) X (dg dc_L_law_5 15 rfl) rfl ?_
    refine js_lcmp (n := 385) X (dg dc_L_law_5 16 rfl) rfl ?_
    refine js_if_eq_t (t := 390) X (dg dc_L_law_5 17 rfl) (by decide) (lcmp_self _) ?_
    refine js_goto (t := 1016) X (dg dc_L_law_5 20 rfl) (by decide) ?_
    exact js_keep [true, true, true, true, true, false, false] hq
  · refine js_if_ne_t (t := 390) X (dg dc_L_law_5 10 rfl) (by decide) hk0 ?_
    refine js_goto (t := 1016) X (dg dc_L_law_5 20 rfl) (by decide) ?_
    exact js_keep [true, true, true, true, true, false, false] hq
set_option maxHeartbeats 4000000 in
theorem lc_run {l : Launch} (hst : l.stackTraces = false) {Dv : va_G} {κ : ev_ka} (X : ev_X l Dv gaL mu_L_law κ) (T : ev_TW deX nsX [] κ) {b N : Nat} {xs : Nat → Int32} (S : ev_Sc κ b N xs) {fu : Nat} (hf : 20000 ≤ fu) {H : S_H} {R : S_R} (out : Nat → Int64) (hHR : HR H R) {i : Int32} {ce sl : Nat} (hc : ce + 1 ≤ 601024) (hs : sl + 6 ≤ 7293034) (n1 : inb (i + 1) N = true) (n2 : inb (i + 2) N = true) (n3 : inb (i + 3) N = true) (n4 : inb (i + 4) N = true) (n5 : inb (i + 5) N = true)
    (hk : ∀ H' R' out', HR H' R' → ∃ q, ev_J l Dv gaL mu_L_law κ 1016 (ce + 1) (sl + 6) [some (.retAddr b), some (.ref 0), some (.ref 25), some (.ref 44), some (.int i), none, none] [] (hpW H' R' out') (some q) wL) : ∃ q, ev_J l Dv gaL mu_L_law κ 393 ce sl [some (.retAddr b), some (.ref 0), some (.ref 25), some (.ref 44), some (.int i), none, none] [] (hpW H R out) (some q) wL := by
  obtain ⟨k, H', out', bb, R', e1, e2, e3, e4, e5⟩ := p_run hf hHR out (xs (ix (i + 1)))
  obtain ⟨q, hq⟩ := hk H' R' out' e4
  refine ⟨q, ?_⟩
  refine js_aload_n (n := 394) X (dg dc_L_law_5 21 rfl) rfl rfl rfl ?_
  refine js_sload_n (n := 395) X (dg dc_L_law_5 22 rfl) rfl rfl rfl ?_
  refine js_iload (n := 397) X (dg dc_L_law_5 23 rfl) rfl rfl ?_
  refine js_iconst (n := 398) 1 X (dg dc_L_law_5 24 rfl) rfl rfl ?_
  refine js_iadd (n := 399) X (dg dc_L_law_5 25 rfl) rfl ?_
  refine js_saldT (n := 400) X S (dg dc_L_law_5 26 rfl) rfl n1 ?_
  refine js_aload_n (n := 401) X (dg dc_L_law_5 27 rfl) rfl rfl rfl ?_
  refine js_callSWT (n := 404) (na := 3) _ e1 X T (dg dc_L_law_5 28 rfl) rfl (c_L_run l hst Dv fu R out H (xs (ix (i + 1)))) gS_L_89 rfl rfl hy_L_run ⟨(Nat.le_of_ble_eq_true rfl), (Nat.le_of_ble_eq_true rfl)⟩ ⟨hc, hs⟩ rfl rfl rfl rfl ?_
  refine js_istore (lo' := [some (.retAddr b), some (.ref 0), some (.ref 25), some (.ref 44), some (.int i), some (.int k), none]) (n := 406) X (dg dc_L_law_5 29 rfl) rfl (Nat.le_of_ble_eq_true rfl) rfl ?_
  refine js_aload_n (n := 407) X (dg dc_L_law_5 30 rfl) rfl rfl rfl ?_
  refine js_sload_n (n := 408) X (dg dc_L_law_5 31 rfl) rfl rfl rfl ?_
  refine js_iload (n := 410) X (dg dc_L_law_5 32 rfl) rfl rfl ?_
  refine js_iconst (n := 411) 1 X (dg dc_L_law_5 33 rfl) rfl rfl ?_
  refine js_iadd (n := 412) X (dg dc_L_law_5 34 rfl) rfl ?_
  refine js_saldT (n := 413) X S (dg dc_L_law_5 35 rfl) rfl n1 ?_
  refine js_callVgT (γ' := gaX) (n := 416) (na := 1) (ci := 6) _ e2 X (dg dc_L_law_5 36 rfl) rfl ⟨rfl, rfl⟩ (c_R_run_25 l Dv fu H' out' R (xs (ix (i + 1)))) gV_L_91 rfl rfl hy_R_run ⟨(Nat.le_of_ble_eq_true rfl), (Nat.le_of_ble_eq_true rfl)⟩ rfl ⟨hc, hs⟩ rfl rfl rfl rfl rfl ?_
  refine js_istore (lo' := [some (.retAddr b), some (.ref 0), some (.ref 25), some (.ref 44), some (.int i), some (.int k), some (.int bb)]) (n := 418) X (dg dc_L_law_5 37 rfl) rfl (Nat.le_of_ble_eq_true rfl) rfl ?_
  refine js_aload_n (n := 419) X (dg dc_L_law_5 38 rfl) rfl rfl rfl ?_
  refine js_callVgT (γ' := gaX) (n := 422) (na := 0) (ci := 6) (y1 := f_R_thrown fu R') R'.1 rfl X (dg dc_L_law_5 39 rfl) rfl ⟨rfl, rfl⟩ (c_R_thrown_25 l Dv fu H' out' R') gV_L_71 rfl rfl hy_R_thrown ⟨(Nat.le_of_ble_eq_true rfl), (Nat.le_of_ble_eq_true rfl)⟩ rfl ⟨hc, hs⟩ rfl rfl rfl rfl rfl ?_
  refine js_iload (n := 424) X (dg dc_L_law_6 0 rfl) rfl rfl ?_
  refine js_icmp_eq_t (t := 429) X (dg dc_L_law_6 1 rfl) (by decide) e3 ?_
  refine js_iload (n := 431) X (dg dc_L_law_6 4 rfl) rfl rfl ?_
  by_cases hk0 : k = 0
  · refine js_if_ne_f (t := 453) (n := 434) X (dg dc_L_law_6 5 rfl) (by decide) rfl hk0 ?_
    refine js_aload_n (n := 435) X (dg dc_L_law_6 6 rfl) rfl rfl rfl ?_
    refine js_iconst (n := 436) 0 X (dg dc_L_law_6 7 rfl) rfl rfl ?_
    refine js_laloadT (n := 437) X (dg dc_L_law_6 8 rfl) rfl rfl rfl ?_
    rw [e5 hk0]
    refine js_iload (n := 439) X (dg dc_L_law_6 9 rfl) rfl rfl ?_
    by_cases hb : bb = 0
    · rw [if_pos hb]
      refine js_if_eq_t (t := 446) X (dg dc_L_law_6 10 rfl) (by decide) hb ?_
      refine js_lconst (n := 447) 0 X (dg dc_L_law_6 13 rfl) rfl rfl ?_
      refine js_lcmp (n := 448) X (dg dc_L_law_6 14 rfl) rfl ?_
      refine js_if_eq_t (t := 453) X (dg dc_L_law_6 15 rfl) (by decide) (lcmp_self _) ?_
      refine js_goto (t := 1016) X (dg dc_L_law_6 18 rfl) (by decide) ?_
      exact js_keep [true, true, true, true, true, false, false] hq
    · rw [if_neg hb]
      refine js_if_eq_f (t := 446) (n := 442) X (dg dc_L_law_6 10 rfl) (by decide) rfl hb ?_
      refine js_lconst (n := 443) 1 X (dg dc_L_law_6 11 rfl) rfl rfl ?_
      refine js_goto (t := 447) X (dg dc_L_law_6 12 rfl) (by decide) ?_
      refine js_lcmp (n := 448) X (dg dc_L_law_6 14 rfl) rfl ?_
      refine js_if_eq_t (t := 453) X (dg dc_L_law_6 15 rfl) (by decide) (lcmp_self _) ?_
      refine js_goto (t := 1016) X (dg dc_L_law_6 18 rfl) (by decide) ?_
      exact js_keep [true, true, true, true, true, false, false] hq
  · refine js_if_ne_t (t := 453) X (dg dc_L_law_6 5 rfl) (by decide) hk0 ?_
    refine js_goto (t := 1016) X (dg dc_L_law_6 18 rfl) (by decide) ?_
    exact js_keep [true, true, true, true, true, false, false] hq
set_option maxHeartbeats 4000000 in
theorem lc_fails {l : Launch} (hst : l.stackTraces = false) {Dv : va_G} {κ : ev_ka} (X : ev_X l Dv gaL mu_L_law κ) (T : ev_TW deX nsX [] κ) {b N : Nat} {xs : Nat → Int32} (S : ev_Sc κ b N xs) {fu : Nat} (hf : 20000 ≤ fu) {H : S_H} {R : S_R} (out : Nat → Int64) (hHR : HR H R) {i : Int32} {ce sl : Nat} (hc : ce + 1 ≤ 601024) (hs : sl + 6 ≤ 7293034) (n1 : inb (i + 1) N = true) (n2 : inb (i + 2) N = true) (n3 : inb (i + 3) N = true) (n4 : inb (i + 4) N = true) (n5 : inb (i + 5) N = true)
    (hk : ∀ H' R' out', HR H' R' → ∃ q, ev_J l Dv gaL mu_L_law κ 1016 (ce + 1) (sl + 6) [some (.retAddr b), some (.ref 0), some (.ref 25), some (.ref 44), some (.int i), none, none] [] (hpW H' R' out') (some q) wL) : ∃ q, ev_J l Dv gaL mu_L_law κ 456 ce sl [some (.retAddr b), some (.ref 0), some (.ref 25), some (.ref 44), some (.int i), none, none] [] (hpW H R out) (some q) wL := by
  obtain ⟨k, H', out', bb, R', e1, e2, e3, e4, e5⟩ := p_fails hf hHR out (((xs (ix (i + 1))).toInt64 <<< ((32 : Int32).toInt64 &&& 63)) ||| ((xs (ix (i + 2))).toInt64 &&& 4294967295)) (xs (ix (i + 3)))
  obtain ⟨q, hq⟩ := hk H' R' out' e4
  refine ⟨q, ?_⟩
  refine js_aload_n (n := 457) X (dg dc_L_law_6 19 rfl) rfl rfl rfl ?_
  refine js_sload_n (n := 458) X (dg dc_L_law_6 20 rfl) rfl rfl rfl ?_
  refine js_iload (n := 460) X (dg dc_L_law_6 21 rfl) rfl rfl ?_
  refine js_iconst (n := 461) 1 X (dg dc_L_law_6 22 rfl) rfl rfl ?_
  refine js_iadd (n := 462) X (dg dc_L_law_6 23 rfl) rfl ?_
  refine js_saldT (n := 463) X S (dg dc_L_law_6 24 rfl) rfl n1 ?_
  refine js_i2l (n := 464) X (dg dc_L_law_6 25 rfl) rfl ?_
  refine js_bipush (n := 466) 32 X (dg dc_L_law_6 26 rfl) rfl (by decide) ?_
  refine js_lshl (n := 467) X (dg dc_L_law_6 27 rfl) rfl ?_
  refine js_sload_n (n := 468) X (dg dc_L_law_6 28 rfl) rfl rfl rfl ?_
  refine js_iload (n := 470) X (dg dc_L_law_6 29 rfl) rfl rfl ?_
  refine js_iconst (n := 471) 2 X (dg dc_L_law_6 30 rfl) rfl rfl ?_
  refine js_iadd (n := 472) X (dg dc_L_law_6 31 rfl) rfl ?_
  refine js_saldT (n := 473) X S (dg dc_L_law_6 32 rfl) rfl n2 ?_
  refine js_i2l (n := 474) X (dg dc_L_law_6 33 rfl) rfl ?_
  refine js_ldc2 (n := 477) X (dg dc_L_law_6 34 rfl) rfl lx_156 ?_
  refine js_land (n := 478) X (dg dc_L_law_6 35 rfl) rfl ?_
  refine js_lor (n := 479) X (dg dc_L_law_6 36 rfl) rfl ?_
  refine js_sload_n (n := 480) X (dg dc_L_law_6 37 rfl) rfl rfl rfl ?_
  refine js_iload (n := 482) X (dg dc_L_law_6 38 rfl) rfl rfl ?_
  refine js_iconst (n := 483) 3 X (dg dc_L_law_6 39 rfl) rfl rfl ?_
  refine js_iadd (n := 484) X (dg dc_L_law_7 0 rfl) rfl ?_
  refine js_saldT (n := 485) X S (dg dc_L_law_7 1 rfl) rfl n3 ?_
  refine js_aload_n (n := 486) X (dg dc_L_law_7 2 rfl) rfl rfl rfl ?_
  refine js_callSWT (n := 489) (na := 4) _ e1 X T (dg dc_L_law_7 3 rfl) rfl (c_L_fails l hst Dv fu R out H (((xs (ix (i + 1))).toInt64 <<< ((32 : Int32).toInt64 &&& 63)) ||| ((xs (ix (i + 2))).toInt64 &&& 4294967295)) (xs (ix (i + 3)))) gS_L_92 rfl rfl hy_L_fails ⟨(Nat.le_of_ble_eq_true rfl), (Nat.le_of_ble_eq_true rfl)⟩ ⟨hc, hs⟩ rfl rfl rfl rfl ?_
  refine js_istore (lo' := [some (.retAddr b), some (.ref 0), some (.ref 25), some (.ref 44), some (.int i), some (.int k), none]) (n := 491) X (dg dc_L_law_7 4 rfl) rfl (Nat.le_of_ble_eq_true rfl) rfl ?_
  refine js_aload_n (n := 492) X (dg dc_L_law_7 5 rfl) rfl rfl rfl ?_
  refine js_sload_n (n := 493) X (dg dc_L_law_7 6 rfl) rfl rfl rfl ?_
  refine js_iload (n := 495) X (dg dc_L_law_7 7 rfl) rfl rfl ?_
  refine js_iconst (n := 496) 1 X (dg dc_L_law_7 8 rfl) rfl rfl ?_
  refine js_iadd (n := 497) X (dg dc_L_law_7 9 rfl) rfl ?_
  refine js_saldT (n := 498) X S (dg dc_L_law_7 10 rfl) rfl n1 ?_
  refine js_i2l (n := 499) X (dg dc_L_law_7 11 rfl) rfl ?_
  refine js_bipush (n := 501) 32 X (dg dc_L_law_7 12 rfl) rfl (by decide) ?_
  refine js_lshl (n := 502) X (dg dc_L_law_7 13 rfl) rfl ?_
  refine js_sload_n (n := 503) X (dg dc_L_law_7 14 rfl) rfl rfl rfl ?_
  refine js_iload (n := 505) X (dg dc_L_law_7 15 rfl) rfl rfl ?_
  refine js_iconst (n := 506) 2 X (dg dc_L_law_7 16 rfl) rfl rfl ?_
  refine js_iadd (n := 507) X (dg dc_L_law_7 17 rfl) rfl ?_
  refine js_saldT (n := 508) X S (dg dc_L_law_7 18 rfl) rfl n2 ?_
  refine js_i2l (n := 509) X (dg dc_L_law_7 19 rfl) rfl ?_
  refine js_ldc2 (n := 512) X (dg dc_L_law_7 20 rfl) rfl lx_156 ?_
  refine js_land (n := 513) X (dg dc_L_law_7 21 rfl) rfl ?_
  refine js_lor (n := 514) X (dg dc_L_law_7 22 rfl) rfl ?_
  refine js_sload_n (n := 515) X (dg dc_L_law_7 23 rfl) rfl rfl rfl ?_
  refine js_iload (n := 517) X (dg dc_L_law_7 24 rfl) rfl rfl ?_
  refine js_iconst (n := 518) 3 X (dg dc_L_law_7 25 rfl) rfl rfl ?_
  refine js_iadd (n := 519) X (dg dc_L_law_7 26 rfl) rfl ?_
  refine js_saldT (n := 520) X S (dg dc_L_law_7 27 rfl) rfl n3 ?_
  refine js_callVgT (γ' := gaX) (n := 523) (na := 2) (ci := 6) _ e2 X (dg dc_L_law_7 28 rfl) rfl ⟨rfl, rfl⟩ (c_R_fails_25 l Dv fu H' out' R (((xs (ix (i + 1))).toInt64 <<< ((32 : Int32).toInt64 &&& 63)) ||| ((xs (ix (i + 2))).toInt64 &&& 4294967295)) (xs (ix (i + 3)))) gV_L_95 rfl rfl hy_R_fails ⟨(Nat.le_of_ble_eq_true rfl), (Nat.le_of_ble_eq_true rfl)⟩ rfl ⟨hc, hs⟩ rfl rfl rfl rfl rfl ?_
  refine js_istore (lo' := [some (.retAddr b), some (.ref 0), some (.ref 25), some (.ref 44), some (.int i), some (.int k), some (.int bb)]) (n := 525) X (dg dc_L_law_7 29 rfl) rfl (Nat.le_of_ble_eq_true rfl) rfl ?_
  refine js_aload_n (n := 526) X (dg dc_L_law_7 30 rfl) rfl rfl rfl ?_
  refine js_callVgT (γ' := gaX) (n := 529) (na := 0) (ci := 6) (y1 := f_R_thrown fu R') R'.1 rfl X (dg dc_L_law_7 31 rfl) rfl ⟨rfl, rfl⟩ (c_R_thrown_25 l Dv fu H' out' R') gV_L_71 rfl rfl hy_R_thrown ⟨(Nat.le_of_ble_eq_true rfl), (Nat.le_of_ble_eq_true rfl)⟩ rfl ⟨hc, hs⟩ rfl rfl rfl rfl rfl ?_
  refine js_iload (n := 531) X (dg dc_L_law_7 32 rfl) rfl rfl ?_
  refine js_icmp_eq_t (t := 536) X (dg dc_L_law_7 33 rfl) (by decide) e3 ?_
  refine js_iload (n := 538) X (dg dc_L_law_7 36 rfl) rfl rfl ?_
  by_cases hk0 : k = 0
  · refine js_if_ne_f (t := 553) (n := 541) X (dg dc_L_law_7 37 rfl) (by decide) rfl hk0 ?_
    refine js_aload_n (n := 542) X (dg dc_L_law_7 38 rfl) rfl rfl rfl ?_
    refine js_iconst (n := 543) 0 X (dg dc_L_law_7 39 rfl) rfl rfl ?_
    refine js_laloadT (n := 544) X (dg dc_L_law_8 0 rfl) rfl rfl rfl ?_
    rw [e5 hk0]
    refine js_iload (n := 546) X (dg dc_L_law_8 1 rfl) rfl rfl ?_
    refine js_i2l (n := 547) X (dg dc_L_law_8 2 rfl) rfl ?_
    refine js_lcmp (n := 548) X (dg dc_L_law_8 3 rfl) rfl ?_
    refine js_if_eq_t (t := 553) X (dg dc_L_law_8 4 rfl) (by decide) (lcmp_self _) ?_
    refine js_goto (t := 1016) X (dg dc_L_law_8 7 rfl) (by decide) ?_
    exact js_keep [true, true, true, true, true, false, false] hq
  · refine js_if_ne_t (t := 553) X (dg dc_L_law_7 37 rfl) (by decide) hk0 ?_
    refine js_goto (t := 1016) X (dg dc_L_law_8 7 rfl) (by decide) ?_
    exact js_keep [true, true, true, true, true, false, false] hq
set_option maxHeartbeats 4000000 in
theorem lc_shrink {l : Launch} (hst : l.stackTraces = false) {Dv : va_G} {κ : ev_ka} (X : ev_X l Dv gaL mu_L_law κ) (T : ev_TW deX nsX [] κ) {b N : Nat} {xs : Nat → Int32} (S : ev_Sc κ b N xs) {fu : Nat} (hf : 20000 ≤ fu) {H : S_H} {R : S_R} (out : Nat → Int64) (hHR : HR H R) {i : Int32} {ce sl : Nat} (hc : ce + 1 ≤ 601024) (hs : sl + 6 ≤ 7293034) (n1 : inb (i + 1) N = true) (n2 : inb (i + 2) N = true) (n3 : inb (i + 3) N = true) (n4 : inb (i + 4) N = true) (n5 : inb (i + 5) N = true)
    (hk : ∀ H' R' out', HR H' R' → ∃ q, ev_J l Dv gaL mu_L_law κ 1016 (ce + 1) (sl + 6) [some (.retAddr b), some (.ref 0), some (.ref 25), some (.ref 44), some (.int i), none, none] [] (hpW H' R' out') (some q) wL) : ∃ q, ev_J l Dv gaL mu_L_law κ 556 ce sl [some (.retAddr b), some (.ref 0), some (.ref 25), some (.ref 44), some (.int i), none, none] [] (hpW H R out) (some q) wL := by
  obtain ⟨k, H', out', bb, R', e1, e2, e3, e4, e5⟩ := p_shrink hf hHR out (((xs (ix (i + 1))).toInt64 <<< ((32 : Int32).toInt64 &&& 63)) ||| ((xs (ix (i + 2))).toInt64 &&& 4294967295)) (xs (ix (i + 3)))
  obtain ⟨q, hq⟩ := hk H' R' out' e4
  refine ⟨q, ?_⟩
  refine js_aload_n (n := 557) X (dg dc_L_law_8 8 rfl) rfl rfl rfl ?_
  refine js_sload_n (n := 558) X (dg dc_L_law_8 9 rfl) rfl rfl rfl ?_
  refine js_iload (n := 560) X (dg dc_L_law_8 10 rfl) rfl rfl ?_
  refine js_iconst (n := 561) 1 X (dg dc_L_law_8 11 rfl) rfl rfl ?_
  refine js_iadd (n := 562) X (dg dc_L_law_8 12 rfl) rfl ?_
  refine js_saldT (n := 563) X S (dg dc_L_law_8 13 rfl) rfl n1 ?_
  refine js_i2l (n := 564) X (dg dc_L_law_8 14 rfl) rfl ?_
  refine js_bipush (n := 566) 32 X (dg dc_L_law_8 15 rfl) rfl (by decide) ?_
  refine js_lshl (n := 567) X (dg dc_L_law_8 16 rfl) rfl ?_
  refine js_sload_n (n := 568) X (dg dc_L_law_8 17 rfl) rfl rfl rfl ?_
  refine js_iload (n := 570) X (dg dc_L_law_8 18 rfl) rfl rfl ?_
  refine js_iconst (n := 571) 2 X (dg dc_L_law_8 19 rfl) rfl rfl ?_
  refine js_iadd (n := 572) X (dg dc_L_law_8 20 rfl) rfl ?_
  refine js_saldT (n := 573) X S (dg dc_L_law_8 21 rfl) rfl n2 ?_
  refine js_i2l (n := 574) X (dg dc_L_law_8 22 rfl) rfl ?_
  refine js_ldc2 (n := 577) X (dg dc_L_law_8 23 rfl) rfl lx_156 ?_
  refine js_land (n := 578) X (dg dc_L_law_8 24 rfl) rfl ?_
  refine js_lor (n := 579) X (dg dc_L_law_8 25 rfl) rfl ?_
  refine js_sload_n (n := 580) X (dg dc_L_law_8 26 rfl) rfl rfl rfl ?_
  refine js_iload (n := 582) X (dg dc_L_law_8 27 rfl) rfl rfl ?_
  refine js_iconst (n := 583) 3 X (dg dc_L_law_8 28 rfl) rfl rfl ?_
  refine js_iadd (n := 584) X (dg dc_L_law_8 29 rfl) rfl ?_
  refine js_saldT (n := 585) X S (dg dc_L_law_8 30 rfl) rfl n3 ?_
  refine js_aload_n (n := 586) X (dg dc_L_law_8 31 rfl) rfl rfl rfl ?_
  refine js_callSWT (n := 589) (na := 4) _ e1 X T (dg dc_L_law_8 32 rfl) rfl (c_L_shrink l hst Dv fu R out H (((xs (ix (i + 1))).toInt64 <<< ((32 : Int32).toInt64 &&& 63)) ||| ((xs (ix (i + 2))).toInt64 &&& 4294967295)) (xs (ix (i + 3)))) gS_L_96 rfl rfl hy_L_shrink ⟨(Nat.le_of_ble_eq_true rfl), (Nat.le_of_ble_eq_true rfl)⟩ ⟨hc, hs⟩ rfl rfl rfl rfl ?_
  refine js_istore (lo' := [some (.retAddr b), some (.ref 0), some (.ref 25), some (.ref 44), some (.int i), some (.int k), none]) (n := 591) X (dg dc_L_law_8 33 rfl) rfl (Nat.le_of_ble_eq_true rfl) rfl ?_
  refine js_aload_n (n := 592) X (dg dc_L_law_8 34 rfl) rfl rfl rfl ?_
  refine js_sload_n (n := 593) X (dg dc_L_law_8 35 rfl) rfl rfl rfl ?_
  refine js_iload (n := 595) X (dg dc_L_law_8 36 rfl) rfl rfl ?_
  refine js_iconst (n := 596) 1 X (dg dc_L_law_8 37 rfl) rfl rfl ?_
  refine js_iadd (n := 597) X (dg dc_L_law_8 38 rfl) rfl ?_
  refine js_saldT (n := 598) X S (dg dc_L_law_8 39 rfl) rfl n1 ?_
  refine js_i2l (n := 599) X (dg dc_L_law_9 0 rfl) rfl ?_
  refine js_bipush (n := 601) 32 X (dg dc_L_law_9 1 rfl) rfl (by decide) ?_
  refine js_lshl (n := 602) X (dg dc_L_law_9 2 rfl) rfl ?_
  refine js_sload_n (n := 603) X (dg dc_L_law_9 3 rfl) rfl rfl rfl ?_
  refine js_iload (n := 605) X (dg dc_L_law_9 4 rfl) rfl rfl ?_
  refine js_iconst (n := 606) 2 X (dg dc_L_law_9 5 rfl) rfl rfl ?_
  refine js_iadd (n := 607) X (dg dc_L_law_9 6 rfl) rfl ?_
  refine js_saldT (n := 608) X S (dg dc_L_law_9 7 rfl) rfl n2 ?_
  refine js_i2l (n := 609) X (dg dc_L_law_9 8 rfl) rfl ?_
  refine js_ldc2 (n := 612) X (dg dc_L_law_9 9 rfl) rfl lx_156 ?_
  refine js_land (n := 613) X (dg dc_L_law_9 10 rfl) rfl ?_
  refine js_lor (n := 614) X (dg dc_L_law_9 11 rfl) rfl ?_
  refine js_sload_n (n := 615) X (dg dc_L_law_9 12 rfl) rfl rfl rfl ?_
  refine js_iload (n := 617) X (dg dc_L_law_9 13 rfl) rfl rfl ?_
  refine js_iconst (n := 618) 3 X (dg dc_L_law_9 14 rfl) rfl rfl ?_
  refine js_iadd (n := 619) X (dg dc_L_law_9 15 rfl) rfl ?_
  refine js_saldT (n := 620) X S (dg dc_L_law_9 16 rfl) rfl n3 ?_
  refine js_callVgT (γ' := gaX) (n := 623) (na := 2) (ci := 6) _ e2 X (dg dc_L_law_9 17 rfl) rfl ⟨rfl, rfl⟩ (c_R_shrink_25 l Dv fu H' out' R (((xs (ix (i + 1))).toInt64 <<< ((32 : Int32).toInt64 &&& 63)) ||| ((xs (ix (i + 2))).toInt64 &&& 4294967295)) (xs (ix (i + 3)))) gV_L_98 rfl rfl hy_R_shrink ⟨(Nat.le_of_ble_eq_true rfl), (Nat.le_of_ble_eq_true rfl)⟩ rfl ⟨hc, hs⟩ rfl rfl rfl rfl rfl ?_
  refine js_istore (lo' := [some (.retAddr b), some (.ref 0), some (.ref 25), some (.ref 44), some (.int i), some (.int k), some (.int bb)]) (n := 625) X (dg dc_L_law_9 18 rfl) rfl (Nat.le_of_ble_eq_true rfl) rfl ?_
  refine js_aload_n (n := 626) X (dg dc_L_law_9 19 rfl) rfl rfl rfl ?_
  refine js_callVgT (γ' := gaX) (n := 629) (na := 0) (ci := 6) (y1 := f_R_thrown fu R') R'.1 rfl X (dg dc_L_law_9 20 rfl) rfl ⟨rfl, rfl⟩ (c_R_thrown_25 l Dv fu H' out' R') gV_L_71 rfl rfl hy_R_thrown ⟨(Nat.le_of_ble_eq_true rfl), (Nat.le_of_ble_eq_true rfl)⟩ rfl ⟨hc, hs⟩ rfl rfl rfl rfl rfl ?_
  refine js_iload (n := 631) X (dg dc_L_law_9 21 rfl) rfl rfl ?_
  refine js_icmp_eq_t (t := 636) X (dg dc_L_law_9 22 rfl) (by decide) e3 ?_
  refine js_iload (n := 638) X (dg dc_L_law_9 25 rfl) rfl rfl ?_
  by_cases hk0 : k = 0
  · refine js_if_ne_f (t := 653) (n := 641) X (dg dc_L_law_9 26 rfl) (by decide) rfl hk0 ?_
    refine js_aload_n (n := 642) X (dg dc_L_law_9 27 rfl) rfl rfl rfl ?_
    refine js_iconst (n := 643) 0 X (dg dc_L_law_9 28 rfl) rfl rfl ?_
    refine js_laloadT (n := 644) X (dg dc_L_law_9 29 rfl) rfl rfl rfl ?_
    rw [e5 hk0]
    refine js_iload (n := 646) X (dg dc_L_law_9 30 rfl) rfl rfl ?_
    refine js_i2l (n := 647) X (dg dc_L_law_9 31 rfl) rfl ?_
    refine js_lcmp (n := 648) X (dg dc_L_law_9 32 rfl) rfl ?_
    refine js_if_eq_t (t := 653) X (dg dc_L_law_9 33 rfl) (by decide) (lcmp_self _) ?_
    refine js_goto (t := 1016) X (dg dc_L_law_9 36 rfl) (by decide) ?_
    exact js_keep [true, true, true, true, true, false, false] hq
  · refine js_if_ne_t (t := 653) X (dg dc_L_law_9 26 rfl) (by decide) hk0 ?_
    refine js_goto (t := 1016) X (dg dc_L_law_9 36 rfl) (by decide) ?_
    exact js_keep [true, true, true, true, true, false, false] hq
set_option maxHeartbeats 4000000 in
theorem lc_command {l : Launch} (hst : l.stackTraces = false) {Dv : va_G} {κ : ev_ka} (X : ev_X l Dv gaL mu_L_law κ) (T : ev_TW deX nsX [] κ) {b N : Nat} {xs : Nat → Int32} (S : ev_Sc κ b N xs) {fu : Nat} (hf : 20000 ≤ fu) {H : S_H} {R : S_R} (out : Nat → Int64) (hHR : HR H R) {i : Int32} {ce sl : Nat} (hc : ce + 1 ≤ 601024) (hs : sl + 6 ≤ 7293034) (n1 : inb (i + 1) N = true) (n2 : inb (i + 2) N = true) (n3 : inb (i + 3) N = true) (n4 : inb (i + 4) N = true) (n5 : inb (i + 5) N = true)
    (hk : ∀ H' R' out', HR H' R' → ∃ q, ev_J l Dv gaL mu_L_law κ 1016 (ce + 1) (sl + 6) [some (.retAddr b), some (.ref 0), some (.ref 25), some (.ref 44), some (.int i), none, none] [] (hpW H' R' out') (some q) wL) : ∃ q, ev_J l Dv gaL mu_L_law κ 656 ce sl [some (.retAddr b), some (.ref 0), some (.ref 25), some (.ref 44), some (.int i), none, none] [] (hpW H R out) (some q) wL := by
  obtain ⟨k, H', out', bb, R', e1, e2, e3, e4, e5⟩ := p_command hf hHR out (xs (ix (i + 1))) (xs (ix (i + 2)))
  obtain ⟨q, hq⟩ := hk H' R' out' e4
  refine ⟨q, ?_⟩
  refine js_aload_n (n := 657) X (dg dc_L_law_9 37 rfl) rfl rfl rfl ?_
  refine js_sload_n (n := 658) X (dg dc_L_law_9 38 rfl) rfl rfl rfl ?_
  refine js_iload (n := 660) X (dg dc_L_law_9 39 rfl) rfl rfl ?_
  refine js_iconst (n := 661) 1 X (dg dc_L_law_10 0 rfl) rfl rfl ?_
  refine js_iadd (n := 662) X (dg dc_L_law_10 1 rfl) rfl ?_
  refine js_saldT (n := 663) X S (dg dc_L_law_10 2 rfl) rfl n1 ?_
  refine js_sload_n (n := 664) X (dg dc_L_law_10 3 rfl) rfl rfl rfl ?_
  refine js_iload (n := 666) X (dg dc_L_law_10 4 rfl) rfl rfl ?_
  refine js_iconst (n := 667) 2 X (dg dc_L_law_10 5 rfl) rfl rfl ?_
  refine js_iadd (n := 668) X (dg dc_L_law_10 6 rfl) rfl ?_
  refine js_saldT (n := 669) X S (dg dc_L_law_10 7 rfl) rfl n2 ?_
  refine js_aload_n (n := 670) X (dg dc_L_law_10 8 rfl) rfl rfl rfl ?_
  refine js_callSWT (n := 673) (na := 4) _ e1 X T (dg dc_L_law_10 9 rfl) rfl (c_L_command l hst Dv fu R out H (xs (ix (i + 1))) (xs (ix (i + 2)))) gS_L_99 rfl rfl hy_L_command ⟨(Nat.le_of_ble_eq_true rfl), (Nat.le_of_ble_eq_true rfl)⟩ ⟨hc, hs⟩ rfl rfl rfl rfl ?_
  refine js_istore (lo' := [some (.retAddr b), some (.ref 0), some (.ref 25), some (.ref 44), some (.int i), some (.int k), none]) (n := 675) X (dg dc_L_law_10 10 rfl) rfl (Nat.le_of_ble_eq_true rfl) rfl ?_
  refine js_aload_n (n := 676) X (dg dc_L_law_10 11 rfl) rfl rfl rfl ?_
  refine js_sload_n (n := 677) X (dg dc_L_law_10 12 rfl) rfl rfl rfl ?_
  refine js_iload (n := 679) X (dg dc_L_law_10 13 rfl) rfl rfl ?_
  refine js_iconst (n := 680) 1 X (dg dc_L_law_10 14 rfl) rfl rfl ?_
  refine js_iadd (n := 681) X (dg dc_L_law_10 15 rfl) rfl ?_
  refine js_saldT (n := 682) X S (dg dc_L_law_10 16 rfl) rfl n1 ?_
  refine js_sload_n (n := 683) X (dg dc_L_law_10 17 rfl) rfl rfl rfl ?_
  refine js_iload (n := 685) X (dg dc_L_law_10 18 rfl) rfl rfl ?_
  refine js_iconst (n := 686) 2 X (dg dc_L_law_10 19 rfl) rfl rfl ?_
  refine js_iadd (n := 687) X (dg dc_L_law_10 20 rfl) rfl ?_
  refine js_saldT (n := 688) X S (dg dc_L_law_10 21 rfl) rfl n2 ?_
  refine js_callVgT (γ' := gaX) (n := 691) (na := 2) (ci := 6) _ e2 X (dg dc_L_law_10 22 rfl) rfl ⟨rfl, rfl⟩ (c_R_command_25 l Dv fu H' out' R (xs (ix (i + 1))) (xs (ix (i + 2)))) gV_L_102 rfl rfl hy_R_command ⟨(Nat.le_of_ble_eq_true rfl), (Nat.le_of_ble_eq_true rfl)⟩ rfl ⟨hc, hs⟩ rfl rfl rfl rfl rfl ?_
  refine js_istore (lo' := [some (.retAddr b), some (.ref 0), some (.ref 25), some (.ref 44), some (.int i), some (.int k), some (.int bb)]) (n := 693) X (dg dc_L_law_10 23 rfl) rfl (Nat.le_of_ble_eq_true rfl) rfl ?_
  refine js_aload_n (n := 694) X (dg dc_L_law_10 24 rfl) rfl rfl rfl ?_
  refine js_callVgT (γ' := gaX) (n := 697) (na := 0) (ci := 6) (y1 := f_R_thrown fu R') R'.1 rfl X (dg dc_L_law_10 25 rfl) rfl ⟨rfl, rfl⟩ (c_R_thrown_25 l Dv fu H' out' R') gV_L_71 rfl rfl hy_R_thrown ⟨(Nat.le_of_ble_eq_true rfl), (Nat.le_of_ble_eq_true rfl)⟩ rfl ⟨hc, hs⟩ rfl rfl rfl rfl rfl ?_
  refine js_iload (n := 699) X (dg dc_L_law_10 26 rfl) rfl rfl ?_
  refine js_icmp_eq_t (t := 704) X (dg dc_L_law_10 27 rfl) (by decide) e3 ?_
  refine js_iload (n := 706) X (dg dc_L_law_10 30 rfl) rfl rfl ?_
  by_cases hk0 : k = 0
  · refine js_if_ne_f (t := 721) (n := 709) X (dg dc_L_law_10 31 rfl) (by decide) rfl hk0 ?_
    refine js_aload_n (n := 710) X (dg dc_L_law_10 32 rfl) rfl rfl rfl ?_
    refine js_iconst (n := 711) 0 X (dg dc_L_law_10 33 rfl) rfl rfl ?_
    refine js_laloadT (n := 712) X (dg dc_L_law_10 34 rfl) rfl rfl rfl ?_
    rw [e5 hk0]
    refine js_iload (n := 714) X (dg dc_L_law_10 35 rfl) rfl rfl ?_
    refine js_i2l (n := 715) X (dg dc_L_law_10 36 rfl) rfl ?_
    refine js_lcmp (n := 716) X (dg dc_L_law_10 37 rfl) rfl ?_
    refine js_if_eq_t (t := 721) X (dg dc_L_law_10 38 rfl) (by decide) (lcmp_self _) ?_
    refine js_goto (t := 1016) X (dg dc_L_law_11 1 rfl) (by decide) ?_
    exact js_keep [true, true, true, true, true, false, false] hq
  · refine js_if_ne_t (t := 721) X (dg dc_L_law_10 31 rfl) (by decide) hk0 ?_
    refine js_goto (t := 1016) X (dg dc_L_law_11 1 rfl) (by decide) ?_
    exact js_keep [true, true, true, true, true, false, false] hq
set_option maxHeartbeats 4000000 in
theorem lc_event {l : Launch} (hst : l.stackTraces = false) {Dv : va_G} {κ : ev_ka} (X : ev_X l Dv gaL mu_L_law κ) (T : ev_TW deX nsX [] κ) {b N : Nat} {xs : Nat → Int32} (S : ev_Sc κ b N xs) {fu : Nat} (hf : 20000 ≤ fu) {H : S_H} {R : S_R} (out : Nat → Int64) (hHR : HR H R) {i : Int32} {ce sl : Nat} (hc : ce + 1 ≤ 601024) (hs : sl + 6 ≤ 7293034) (n1 : inb (i + 1) N = true) (n2 : inb (i + 2) N = true) (n3 : inb (i + 3) N = true) (n4 : inb (i + 4) N = true) (n5 : inb (i + 5) N = true)
    (hk : ∀ H' R' out', HR H' R' → ∃ q, ev_J l Dv gaL mu_L_law κ 1016 (ce + 1) (sl + 6) [some (.retAddr b), some (.ref 0), some (.ref 25), some (.ref 44), some (.int i), none, none] [] (hpW H' R' out') (some q) wL) : ∃ q, ev_J l Dv gaL mu_L_law κ 724 ce sl [some (.retAddr b), some (.ref 0), some (.ref 25), some (.ref 44), some (.int i), none, none] [] (hpW H R out) (some q) wL := by
  obtain ⟨k, H', out', bb, R', e1, e2, e3, e4, e5⟩ := p_event hf hHR out (xs (ix (i + 1))) (xs (ix (i + 2)))
  obtain ⟨q, hq⟩ := hk H' R' out' e4
  refine ⟨q, ?_⟩
  refine js_aload_n (n := 725) X (dg dc_L_law_11 2 rfl) rfl rfl rfl ?_
  refine js_sload_n (n := 726) X (dg dc_L_law_11 3 rfl) rfl rfl rfl ?_
  refine js_iload (n := 728) X (dg dc_L_law_11 4 rfl) rfl rfl ?_
  refine js_iconst (n := 729) 1 X (dg dc_L_law_11 5 rfl) rfl rfl ?_
  refine js_iadd (n := 730) X (dg dc_L_law_11 6 rfl) rfl ?_
  refine js_saldT (n := 731) X S (dg dc_L_law_11 7 rfl) rfl n1 ?_
  refine js_sload_n (n := 732) X (dg dc_L_law_11 8 rfl) rfl rfl rfl ?_
  refine js_iload (n := 734) X (dg dc_L_law_11 9 rfl) rfl rfl ?_
  refine js_iconst (n := 735) 2 X (dg dc_L_law_11 10 rfl) rfl rfl ?_
  refine js_iadd (n := 736) X (dg dc_L_law_11 11 rfl) rfl ?_
  refine js_saldT (n := 737) X S (dg dc_L_law_11 12 rfl) rfl n2 ?_
  refine js_aload_n (n := 738) X (dg dc_L_law_11 13 rfl) rfl rfl rfl ?_
  refine js_callSWT (n := 741) (na := 4) _ e1 X T (dg dc_L_law_11 14 rfl) rfl (c_L_event l hst Dv fu R out H (xs (ix (i + 1))) (xs (ix (i + 2)))) gS_L_103 rfl rfl hy_L_event ⟨(Nat.le_of_ble_eq_true rfl), (Nat.le_of_ble_eq_true rfl)⟩ ⟨hc, hs⟩ rfl rfl rfl rfl ?_
  refine js_istore (lo' := [some (.retAddr b), some (.ref 0), some (.ref 25), some (.ref 44), some (.int i), some (.int k), none]) (n := 743) X (dg dc_L_law_11 15 rfl) rfl (Nat.le_of_ble_eq_true rfl) rfl ?_
  refine js_aload_n (n := 744) X (dg dc_L_law_11 16 rfl) rfl rfl rfl ?_
  refine js_sload_n (n := 745) X (dg dc_L_law_11 17 rfl) rfl rfl rfl ?_
  refine js_iload (n := 747) X (dg dc_L_law_11 18 rfl) rfl rfl ?_
  refine js_iconst (n := 748) 1 X (dg dc_L_law_11 19 rfl) rfl rfl ?_
  refine js_iadd (n := 749) X (dg dc_L_law_11 20 rfl) rfl ?_
  refine js_saldT (n := 750) X S (dg dc_L_law_11 21 rfl) rfl n1 ?_
  refine js_sload_n (n := 751) X (dg dc_L_law_11 22 rfl) rfl rfl rfl ?_
  refine js_iload (n := 753) X (dg dc_L_law_11 23 rfl) rfl rfl ?_
  refine js_iconst (n := 754) 2 X (dg dc_L_law_11 24 rfl) rfl rfl ?_
  refine js_iadd (n := 755) X (dg dc_L_law_11 25 rfl) rfl ?_
  refine js_saldT (n := 756) X S (dg dc_L_law_11 26 rfl) rfl n2 ?_
  refine js_callVgT (γ' := gaX) (n := 759) (na := 2) (ci := 6) _ e2 X (dg dc_L_law_11 27 rfl) rfl ⟨rfl, rfl⟩ (c_R_event_25 l Dv fu H' out' R (xs (ix (i + 1))) (xs (ix (i + 2)))) gV_L_105 rfl rfl hy_R_event ⟨(Nat.le_of_ble_eq_true rfl), (Nat.le_of_ble_eq_true rfl)⟩ rfl ⟨hc, hs⟩ rfl rfl rfl rfl rfl ?_
  refine js_istore (lo' := [some (.retAddr b), some (.ref 0), some (.ref 25), some (.ref 44), some (.int i), some (.int k), some (.int bb)]) (n := 761) X (dg dc_L_law_11 28 rfl) rfl (Nat.le_of_ble_eq_true rfl) rfl ?_
  refine js_aload_n (n := 762) X (dg dc_L_law_11 29 rfl) rfl rfl rfl ?_
  refine js_callVgT (γ' := gaX) (n := 765) (na := 0) (ci := 6) (y1 := f_R_thrown fu R') R'.1 rfl X (dg dc_L_law_11 30 rfl) rfl ⟨rfl, rfl⟩ (c_R_thrown_25 l Dv fu H' out' R') gV_L_71 rfl rfl hy_R_thrown ⟨(Nat.le_of_ble_eq_true rfl), (Nat.le_of_ble_eq_true rfl)⟩ rfl ⟨hc, hs⟩ rfl rfl rfl rfl rfl ?_
  refine js_iload (n := 767) X (dg dc_L_law_11 31 rfl) rfl rfl ?_
  refine js_icmp_eq_t (t := 772) X (dg dc_L_law_11 32 rfl) (by decide) e3 ?_
  refine js_iload (n := 774) X (dg dc_L_law_11 35 rfl) rfl rfl ?_
  by_cases hk0 : k = 0
  · refine js_if_ne_f (t := 789) (n := 777) X (dg dc_L_law_11 36 rfl) (by decide) rfl hk0 ?_
    refine js_aload_n (n := 778) X (dg dc_L_law_11 37 rfl) rfl rfl rfl ?_
    refine js_iconst (n := 779) 0 X (dg dc_L_law_11 38 rfl) rfl rfl ?_
    refine js_laloadT (n := 780) X (dg dc_L_law_11 39 rfl) rfl rfl rfl ?_
    rw [e5 hk0]
    refine js_iload (n := 782) X (dg dc_L_law_12 0 rfl) rfl rfl ?_
    refine js_i2l (n := 783) X (dg dc_L_law_12 1 rfl) rfl ?_
    refine js_lcmp (n := 784) X (dg dc_L_law_12 2 rfl) rfl ?_
    refine js_if_eq_t (t := 789) X (dg dc_L_law_12 3 rfl) (by decide) (lcmp_self _) ?_
    refine js_goto (t := 1016) X (dg dc_L_law_12 6 rfl) (by decide) ?_
    exact js_keep [true, true, true, true, true, false, false] hq
  · refine js_if_ne_t (t := 789) X (dg dc_L_law_11 36 rfl) (by decide) hk0 ?_
    refine js_goto (t := 1016) X (dg dc_L_law_12 6 rfl) (by decide) ?_
    exact js_keep [true, true, true, true, true, false, false] hq
set_option maxHeartbeats 4000000 in
theorem lc_order {l : Launch} (hst : l.stackTraces = false) {Dv : va_G} {κ : ev_ka} (X : ev_X l Dv gaL mu_L_law κ) (T : ev_TW deX nsX [] κ) {b N : Nat} {xs : Nat → Int32} (S : ev_Sc κ b N xs) {fu : Nat} (hf : 20000 ≤ fu) {H : S_H} {R : S_R} (out : Nat → Int64) (hHR : HR H R) {i : Int32} {ce sl : Nat} (hc : ce + 1 ≤ 601024) (hs : sl + 6 ≤ 7293034) (n1 : inb (i + 1) N = true) (n2 : inb (i + 2) N = true) (n3 : inb (i + 3) N = true) (n4 : inb (i + 4) N = true) (n5 : inb (i + 5) N = true)
    (hk : ∀ H' R' out', HR H' R' → ∃ q, ev_J l Dv gaL mu_L_law κ 1016 (ce + 1) (sl + 6) [some (.retAddr b), some (.ref 0), some (.ref 25), some (.ref 44), some (.int i), none, none] [] (hpW H' R' out') (some q) wL) : ∃ q, ev_J l Dv gaL mu_L_law κ 792 ce sl [some (.retAddr b), some (.ref 0), some (.ref 25), some (.ref 44), some (.int i), none, none] [] (hpW H R out) (some q) wL := by
  obtain ⟨k, H', out', bb, R', e1, e2, e3, e4, e5⟩ := p_order hf hHR out (xs (ix (i + 1)))
  obtain ⟨q, hq⟩ := hk H' R' out' e4
  refine ⟨q, ?_⟩
  refine js_aload_n (n := 793) X (dg dc_L_law_12 7 rfl) rfl rfl rfl ?_
  refine js_sload_n (n := 794) X (dg dc_L_law_12 8 rfl) rfl rfl rfl ?_
  refine js_iload (n := 796) X (dg dc_L_law_12 9 rfl) rfl rfl ?_
  refine js_iconst (n := 797) 1 X (dg dc_L_law_12 10 rfl) rfl rfl ?_
  refine js_iadd (n := 798) X (dg dc_L_law_12 11 rfl) rfl ?_
  refine js_saldT (n := 799) X S (dg dc_L_law_12 12 rfl) rfl n1 ?_
  refine js_aload_n (n := 800) X (dg dc_L_law_12 13 rfl) rfl rfl rfl ?_
  refine js_callSWT (n := 803) (na := 3) _ e1 X T (dg dc_L_law_12 14 rfl) rfl (c_L_order l hst Dv fu R out H (xs (ix (i + 1)))) gS_L_106 rfl rfl hy_L_order ⟨(Nat.le_of_ble_eq_true rfl), (Nat.le_of_ble_eq_true rfl)⟩ ⟨hc, hs⟩ rfl rfl rfl rfl ?_
  refine js_istore (lo' := [some (.retAddr b), some (.ref 0), some (.ref 25), some (.ref 44), some (.int i), some (.int k), none]) (n := 805) X (dg dc_L_law_12 15 rfl) rfl (Nat.le_of_ble_eq_true rfl) rfl ?_
  refine js_aload_n (n := 806) X (dg dc_L_law_12 16 rfl) rfl rfl rfl ?_
  refine js_sload_n (n := 807) X (dg dc_L_law_12 17 rfl) rfl rfl rfl ?_
  refine js_iload (n := 809) X (dg dc_L_law_12 18 rfl) rfl rfl ?_
  refine js_iconst (n := 810) 1 X (dg dc_L_law_12 19 rfl) rfl rfl ?_
  refine js_iadd (n := 811) X (dg dc_L_law_12 20 rfl) rfl ?_
  refine js_saldT (n := 812) X S (dg dc_L_law_12 21 rfl) rfl n1 ?_
  refine js_callVgT (γ' := gaX) (n := 815) (na := 1) (ci := 6) _ e2 X (dg dc_L_law_12 22 rfl) rfl ⟨rfl, rfl⟩ (c_R_order_25 l Dv fu H' out' R (xs (ix (i + 1)))) gV_L_108 rfl rfl hy_R_order ⟨(Nat.le_of_ble_eq_true rfl), (Nat.le_of_ble_eq_true rfl)⟩ rfl ⟨hc, hs⟩ rfl rfl rfl rfl rfl ?_
  refine js_istore (lo' := [some (.retAddr b), some (.ref 0), some (.ref 25), some (.ref 44), some (.int i), some (.int k), some (.int bb)]) (n := 817) X (dg dc_L_law_12 23 rfl) rfl (Nat.le_of_ble_eq_true rfl) rfl ?_
  refine js_aload_n (n := 818) X (dg dc_L_law_12 24 rfl) rfl rfl rfl ?_
  refine js_callVgT (γ' := gaX) (n := 821) (na := 0) (ci := 6) (y1 := f_R_thrown fu R') R'.1 rfl X (dg dc_L_law_12 25 rfl) rfl ⟨rfl, rfl⟩ (c_R_thrown_25 l Dv fu H' out' R') gV_L_71 rfl rfl hy_R_thrown ⟨(Nat.le_of_ble_eq_true rfl), (Nat.le_of_ble_eq_true rfl)⟩ rfl ⟨hc, hs⟩ rfl rfl rfl rfl rfl ?_
  refine js_iload (n := 823) X (dg dc_L_law_12 26 rfl) rfl rfl ?_
  refine js_icmp_eq_t (t := 828) X (dg dc_L_law_12 27 rfl) (by decide) e3 ?_
  refine js_iload (n := 830) X (dg dc_L_law_12 30 rfl) rfl rfl ?_
  by_cases hk0 : k = 0
  · refine js_if_ne_f (t := 845) (n := 833) X (dg dc_L_law_12 31 rfl) (by decide) rfl hk0 ?_
    refine js_aload_n (n := 834) X (dg dc_L_law_12 32 rfl) rfl rfl rfl ?_
    refine js_iconst (n := 835) 0 X (dg dc_L_law_12 33 rfl) rfl rfl ?_
    refine js_laloadT (n := 836) X (dg dc_L_law_12 34 rfl) rfl rfl rfl ?_
    rw [e5 hk0]
    refine js_iload (n := 838) X (dg dc_L_law_12 35 rfl) rfl rfl ?_
    refine js_i2l (n := 839) X (dg dc_L_law_12 36 rfl) rfl ?_
    refine js_lcmp (n := 840) X (dg dc_L_law_12 37 rfl) rfl ?_
    refine js_if_eq_t (t := 845) X (dg dc_L_law_12 38 rfl) (by decide) (lcmp_self _) ?_
    refine js_goto (t := 1016) X (dg dc_L_law_13 1 rfl) (by decide) ?_
    exact js_keep [true, true, true, true, true, false, false] hq
  · refine js_if_ne_t (t := 845) X (dg dc_L_law_12 31 rfl) (by decide) hk0 ?_
    refine js_goto (t := 1016) X (dg dc_L_law_13 1 rfl) (by decide) ?_
    exact js_keep [true, true, true, true, true, false, false] hq
set_option maxHeartbeats 4000000 in
theorem lc_cell {l : Launch} (hst : l.stackTraces = false) {Dv : va_G} {κ : ev_ka} (X : ev_X l Dv gaL mu_L_law κ) (T : ev_TW deX nsX [] κ) {b N : Nat} {xs : Nat → Int32} (S : ev_Sc κ b N xs) {fu : Nat} (hf : 20000 ≤ fu) {H : S_H} {R : S_R} (out : Nat → Int64) (hHR : HR H R) {i : Int32} {ce sl : Nat} (hc : ce + 1 ≤ 601024) (hs : sl + 6 ≤ 7293034) (n1 : inb (i + 1) N = true) (n2 : inb (i + 2) N = true) (n3 : inb (i + 3) N = true) (n4 : inb (i + 4) N = true) (n5 : inb (i + 5) N = true)
    (hk : ∀ H' R' out', HR H' R' → ∃ q, ev_J l Dv gaL mu_L_law κ 1016 (ce + 1) (sl + 6) [some (.retAddr b), some (.ref 0), some (.ref 25), some (.ref 44), some (.int i), none, none] [] (hpW H' R' out') (some q) wL) : ∃ q, ev_J l Dv gaL mu_L_law κ 848 ce sl [some (.retAddr b), some (.ref 0), some (.ref 25), some (.ref 44), some (.int i), none, none] [] (hpW H R out) (some q) wL := by
  obtain ⟨k, H', out', bb, R', e1, e2, e3, e4, e5⟩ := p_cell hf hHR out (xs (ix (i + 1)))
  obtain ⟨q, hq⟩ := hk H' R' out' e4
  refine ⟨q, ?_⟩
  refine js_aload_n (n := 849) X (dg dc_L_law_13 2 rfl) rfl rfl rfl ?_
  refine js_sload_n (n := 850) X (dg dc_L_law_13 3 rfl) rfl rfl rfl ?_
  refine js_iload (n := 852) X (dg dc_L_law_13 4 rfl) rfl rfl ?_
  refine js_iconst (n := 853) 1 X (dg dc_L_law_13 5 rfl) rfl rfl ?_
  refine js_iadd (n := 854) X (dg dc_L_law_13 6 rfl) rfl ?_
  refine js_saldT (n := 855) X S (dg dc_L_law_13 7 rfl) rfl n1 ?_
  refine js_aload_n (n := 856) X (dg dc_L_law_13 8 rfl) rfl rfl rfl ?_
  refine js_callSWT (n := 859) (na := 3) _ e1 X T (dg dc_L_law_13 9 rfl) rfl (c_L_cell l hst Dv fu R out H (xs (ix (i + 1)))) gS_L_109 rfl rfl hy_L_cell ⟨(Nat.le_of_ble_eq_true rfl), (Nat.le_of_ble_eq_true rfl)⟩ ⟨hc, hs⟩ rfl rfl rfl rfl ?_
  refine js_istore (lo' := [some (.retAddr b), some (.ref 0), some (.ref 25), some (.ref 44), some (.int i), some (.int k), none]) (n := 861) X (dg dc_L_law_13 10 rfl) rfl (Nat.le_of_ble_eq_true rfl) rfl ?_
  refine js_aload_n (n := 862) X (dg dc_L_law_13 11 rfl) rfl rfl rfl ?_
  refine js_sload_n (n := 863) X (dg dc_L_law_13 12 rfl) rfl rfl rfl ?_
  refine js_iload (n := 865) X (dg dc_L_law_13 13 rfl) rfl rfl ?_
  refine js_iconst (n := 866) 1 X (dg dc_L_law_13 14 rfl) rfl rfl ?_
  refine js_iadd (n := 867) X (dg dc_L_law_13 15 rfl) rfl ?_
  refine js_saldT (n := 868) X S (dg dc_L_law_13 16 rfl) rfl n1 ?_
  refine js_callVgT (γ' := gaX) (n := 871) (na := 1) (ci := 6) _ e2 X (dg dc_L_law_13 17 rfl) rfl ⟨rfl, rfl⟩ (c_R_cell_25 l Dv fu H' out' R (xs (ix (i + 1)))) gV_L_111 rfl rfl hy_R_cell ⟨(Nat.le_of_ble_eq_true rfl), (Nat.le_of_ble_eq_true rfl)⟩ rfl ⟨hc, hs⟩ rfl rfl rfl rfl rfl ?_
  refine js_istore (lo' := [some (.retAddr b), some (.ref 0), some (.ref 25), some (.ref 44), some (.int i), some (.int k), some (.int bb)]) (n := 873) X (dg dc_L_law_13 18 rfl) rfl (Nat.le_of_ble_eq_true rfl) rfl ?_
  refine js_aload_n (n := 874) X (dg dc_L_law_13 19 rfl) rfl rfl rfl ?_
  refine js_callVgT (γ' := gaX) (n := 877) (na := 0) (ci := 6) (y1 := f_R_thrown fu R') R'.1 rfl X (dg dc_L_law_13 20 rfl) rfl ⟨rfl, rfl⟩ (c_R_thrown_25 l Dv fu H' out' R') gV_L_71 rfl rfl hy_R_thrown ⟨(Nat.le_of_ble_eq_true rfl), (Nat.le_of_ble_eq_true rfl)⟩ rfl ⟨hc, hs⟩ rfl rfl rfl rfl rfl ?_
  refine js_iload (n := 879) X (dg dc_L_law_13 21 rfl) rfl rfl ?_
  refine js_icmp_eq_t (t := 884) X (dg dc_L_law_13 22 rfl) (by decide) e3 ?_
  refine js_iload (n := 886) X (dg dc_L_law_13 25 rfl) rfl rfl ?_
  by_cases hk0 : k = 0
  · refine js_if_ne_f (t := 901) (n := 889) X (dg dc_L_law_13 26 rfl) (by decide) rfl hk0 ?_
    refine js_aload_n (n := 890) X (dg dc_L_law_13 27 rfl) rfl rfl rfl ?_
    refine js_iconst (n := 891) 0 X (dg dc_L_law_13 28 rfl) rfl rfl ?_
    refine js_laloadT (n := 892) X (dg dc_L_law_13 29 rfl) rfl rfl rfl ?_
    rw [e5 hk0]
    refine js_iload (n := 894) X (dg dc_L_law_13 30 rfl) rfl rfl ?_
    refine js_i2l (n := 895) X (dg dc_L_law_13 31 rfl) rfl ?_
    refine js_lcmp (n := 896) X (dg dc_L_law_13 32 rfl) rfl ?_
    refine js_if_eq_t (t := 901) X (dg dc_L_law_13 33 rfl) (by decide) (lcmp_self _) ?_
    refine js_goto (t := 1016) X (dg dc_L_law_13 36 rfl) (by decide) ?_
    exact js_keep [true, true, true, true, true, false, false] hq
  · refine js_if_ne_t (t := 901) X (dg dc_L_law_13 26 rfl) (by decide) hk0 ?_
    refine js_goto (t := 1016) X (dg dc_L_law_13 36 rfl) (by decide) ?_
    exact js_keep [true, true, true, true, true, false, false] hq
set_option maxHeartbeats 4000000 in
theorem lc_count {l : Launch} (hst : l.stackTraces = false) {Dv : va_G} {κ : ev_ka} (X : ev_X l Dv gaL mu_L_law κ) (T : ev_TW deX nsX [] κ) {b N : Nat} {xs : Nat → Int32} (S : ev_Sc κ b N xs) {fu : Nat} (hf : 20000 ≤ fu) {H : S_H} {R : S_R} (out : Nat → Int64) (hHR : HR H R) {i : Int32} {ce sl : Nat} (hc : ce + 1 ≤ 601024) (hs : sl + 6 ≤ 7293034) (n1 : inb (i + 1) N = true) (n2 : inb (i + 2) N = true) (n3 : inb (i + 3) N = true) (n4 : inb (i + 4) N = true) (n5 : inb (i + 5) N = true)
    (hk : ∀ H' R' out', HR H' R' → ∃ q, ev_J l Dv gaL mu_L_law κ 1016 (ce + 1) (sl + 6) [some (.retAddr b), some (.ref 0), some (.ref 25), some (.ref 44), some (.int i), none, none] [] (hpW H' R' out') (some q) wL) : ∃ q, ev_J l Dv gaL mu_L_law κ 904 ce sl [some (.retAddr b), some (.ref 0), some (.ref 25), some (.ref 44), some (.int i), none, none] [] (hpW H R out) (some q) wL := by
  obtain ⟨k, H', out', bb, R', e1, e2, e3, e4, e5⟩ := p_count hf hHR out (xs (ix (i + 1)))
  obtain ⟨q, hq⟩ := hk H' R' out' e4
  refine ⟨q, ?_⟩
  refine js_aload_n (n := 905) X (dg dc_L_law_13 37 rfl) rfl rfl rfl ?_
  refine js_sload_n (n := 906) X (dg dc_L_law_13 38 rfl) rfl rfl rfl ?_
  refine js_iload (n := 908) X (dg dc_L_law_13 39 rfl) rfl rfl ?_
  refine js_iconst (n := 909) 1 X (dg dc_L_law_14 0 rfl) rfl rfl ?_
  refine js_iadd (n := 910) X (dg dc_L_law_14 1 rfl) rfl ?_
  refine js_saldT (n := 911) X S (dg dc_L_law_14 2 rfl) rfl n1 ?_
  refine js_aload_n (n := 912) X (dg dc_L_law_14 3 rfl) rfl rfl rfl ?_
  refine js_callSWT (n := 915) (na := 3) _ e1 X T (dg dc_L_law_14 4 rfl) rfl (c_L_count l hst Dv fu R out H (xs (ix (i + 1)))) gS_L_112 rfl rfl hy_L_count ⟨(Nat.le_of_ble_eq_true rfl), (Nat.le_of_ble_eq_true rfl)⟩ ⟨hc, hs⟩ rfl rfl rfl rfl ?_
  refine js_istore (lo' := [some (.retAddr b), some (.ref 0), some (.ref 25), some (.ref 44), some (.int i), some (.int k), none]) (n := 917) X (dg dc_L_law_14 5 rfl) rfl (Nat.le_of_ble_eq_true rfl) rfl ?_
  refine js_aload_n (n := 918) X (dg dc_L_law_14 6 rfl) rfl rfl rfl ?_
  refine js_sload_n (n := 919) X (dg dc_L_law_14 7 rfl) rfl rfl rfl ?_
  refine js_iload (n := 921) X (dg dc_L_law_14 8 rfl) rfl rfl ?_
  refine js_iconst (n := 922) 1 X (dg dc_L_law_14 9 rfl) rfl rfl ?_
  refine js_iadd (n := 923) X (dg dc_L_law_14 10 rfl) rfl ?_
  refine js_saldT (n := 924) X S (dg dc_L_law_14 11 rfl) rfl n1 ?_
  refine js_callVgT (γ' := gaX) (n := 927) (na := 1) (ci := 6) _ e2 X (dg dc_L_law_14 12 rfl) rfl ⟨rfl, rfl⟩ (c_R_count_25 l Dv fu H' out' R (xs (ix (i + 1)))) gV_L_114 rfl rfl hy_R_count ⟨(Nat.le_of_ble_eq_true rfl), (Nat.le_of_ble_eq_true rfl)⟩ rfl ⟨hc, hs⟩ rfl rfl rfl rfl rfl ?_
  refine js_istore (lo' := [some (.retAddr b), some (.ref 0), some (.ref 25), some (.ref 44), some (.int i), some (.int k), some (.int bb)]) (n := 929) X (dg dc_L_law_14 13 rfl) rfl (Nat.le_of_ble_eq_true rfl) rfl ?_
  refine js_aload_n (n := 930) X (dg dc_L_law_14 14 rfl) rfl rfl rfl ?_
  refine js_callVgT (γ' := gaX) (n := 933) (na := 0) (ci := 6) (y1 := f_R_thrown fu R') R'.1 rfl X (dg dc_L_law_14 15 rfl) rfl ⟨rfl, rfl⟩ (c_R_thrown_25 l Dv fu H' out' R') gV_L_71 rfl rfl hy_R_thrown ⟨(Nat.le_of_ble_eq_true rfl), (Nat.le_of_ble_eq_true rfl)⟩ rfl ⟨hc, hs⟩ rfl rfl rfl rfl rfl ?_
  refine js_iload (n := 935) X (dg dc_L_law_14 16 rfl) rfl rfl ?_
  refine js_icmp_eq_t (t := 940) X (dg dc_L_law_14 17 rfl) (by decide) e3 ?_
  refine js_iload (n := 942) X (dg dc_L_law_14 20 rfl) rfl rfl ?_
  by_cases hk0 : k = 0
  · refine js_if_ne_f (t := 957) (n := 945) X (dg dc_L_law_14 21 rfl) (by decide) rfl hk0 ?_
    refine js_aload_n (n := 946) X (dg dc_L_law_14 22 rfl) rfl rfl rfl ?_
    refine js_iconst (n := 947) 0 X (dg dc_L_law_14 23 rfl) rfl rfl ?_
    refine js_laloadT (n := 948) X (dg dc_L_law_14 24 rfl) rfl rfl rfl ?_
    rw [e5 hk0]
    refine js_iload (n := 950) X (dg dc_L_law_14 25 rfl) rfl rfl ?_
    refine js_i2l (n := 951) X (dg dc_L_law_14 26 rfl) rfl ?_
    refine js_lcmp (n := 952) X (dg dc_L_law_14 27 rfl) rfl ?_
    refine js_if_eq_t (t := 957) X (dg dc_L_law_14 28 rfl) (by decide) (lcmp_self _) ?_
    refine js_goto (t := 1016) X (dg dc_L_law_14 31 rfl) (by decide) ?_
    exact js_keep [true, true, true, true, true, false, false] hq
  · refine js_if_ne_t (t := 957) X (dg dc_L_law_14 21 rfl) (by decide) hk0 ?_
    refine js_goto (t := 1016) X (dg dc_L_law_14 31 rfl) (by decide) ?_
    exact js_keep [true, true, true, true, true, false, false] hq
set_option maxHeartbeats 4000000 in
theorem lc_tally {l : Launch} (hst : l.stackTraces = false) {Dv : va_G} {κ : ev_ka} (X : ev_X l Dv gaL mu_L_law κ) (T : ev_TW deX nsX [] κ) {b N : Nat} {xs : Nat → Int32} (S : ev_Sc κ b N xs) {fu : Nat} (hf : 20000 ≤ fu) {H : S_H} {R : S_R} (out : Nat → Int64) (hHR : HR H R) {i : Int32} {ce sl : Nat} (hc : ce + 1 ≤ 601024) (hs : sl + 6 ≤ 7293034) (n1 : inb (i + 1) N = true) (n2 : inb (i + 2) N = true) (n3 : inb (i + 3) N = true) (n4 : inb (i + 4) N = true) (n5 : inb (i + 5) N = true)
    (hk : ∀ H' R' out', HR H' R' → ∃ q, ev_J l Dv gaL mu_L_law κ 1016 (ce + 1) (sl + 6) [some (.retAddr b), some (.ref 0), some (.ref 25), some (.ref 44), some (.int i), none, none] [] (hpW H' R' out') (some q) wL) : ∃ q, ev_J l Dv gaL mu_L_law κ 960 ce sl [some (.retAddr b), some (.ref 0), some (.ref 25), some (.ref 44), some (.int i), none, none] [] (hpW H R out) (some q) wL := by
  obtain ⟨k, H', out', bb, R', e1, e2, e3, e4, e5⟩ := p_tally hf hHR out (xs (ix (i + 1)))
  obtain ⟨q, hq⟩ := hk H' R' out' e4
  refine ⟨q, ?_⟩
  refine js_aload_n (n := 961) X (dg dc_L_law_14 32 rfl) rfl rfl rfl ?_
  refine js_sload_n (n := 962) X (dg dc_L_law_14 33 rfl) rfl rfl rfl ?_
  refine js_iload (n := 964) X (dg dc_L_law_14 34 rfl) rfl rfl ?_
  refine js_iconst (n := 965) 1 X (dg dc_L_law_14 35 rfl) rfl rfl ?_
  refine js_iadd (n := 966) X (dg dc_L_law_14 36 rfl) rfl ?_
  refine js_saldT (n := 967) X S (dg dc_L_law_14 37 rfl) rfl n1 ?_
  refine js_aload_n (n := 968) X (dg dc_L_law_14 38 rfl) rfl rfl rfl ?_
  refine js_callSWT (n := 971) (na := 3) _ e1 X T (dg dc_L_law_14 39 rfl) rfl (c_L_tally l hst Dv fu R out H (xs (ix (i + 1)))) gS_L_115 rfl rfl hy_L_tally ⟨(Nat.le_of_ble_eq_true rfl), (Nat.le_of_ble_eq_true rfl)⟩ ⟨hc, hs⟩ rfl rfl rfl rfl ?_
  refine js_istore (lo' := [some (.retAddr b), some (.ref 0), some (.ref 25), some (.ref 44), some (.int i), some (.int k), none]) (n := 973) X (dg dc_L_law_15 0 rfl) rfl (Nat.le_of_ble_eq_true rfl) rfl ?_
  refine js_aload_n (n := 974) X (dg dc_L_law_15 1 rfl) rfl rfl rfl ?_
  refine js_sload_n (n := 975) X (dg dc_L_law_15 2 rfl) rfl rfl rfl ?_
  refine js_iload (n := 977) X (dg dc_L_law_15 3 rfl) rfl rfl ?_
  refine js_iconst (n := 978) 1 X (dg dc_L_law_15 4 rfl) rfl rfl ?_
  refine js_iadd (n := 979) X (dg dc_L_law_15 5 rfl) rfl ?_
  refine js_saldT (n := 980) X S (dg dc_L_law_15 6 rfl) rfl n1 ?_
  refine js_callVgT (γ' := gaX) (n := 983) (na := 1) (ci := 6) _ e2 X (dg dc_L_law_15 7 rfl) rfl ⟨rfl, rfl⟩ (c_R_tally_25 l Dv fu H' out' R (xs (ix (i + 1)))) gV_L_117 rfl rfl hy_R_tally ⟨(Nat.le_of_ble_eq_true rfl), (Nat.le_of_ble_eq_true rfl)⟩ rfl ⟨hc, hs⟩ rfl rfl rfl rfl rfl ?_
  refine js_istore (lo' := [some (.retAddr b), some (.ref 0), some (.ref 25), some (.ref 44), some (.int i), some (.int k), some (.int bb)]) (n := 985) X (dg dc_L_law_15 8 rfl) rfl (Nat.le_of_ble_eq_true rfl) rfl ?_
  refine js_aload_n (n := 986) X (dg dc_L_law_15 9 rfl) rfl rfl rfl ?_
  refine js_callVgT (γ' := gaX) (n := 989) (na := 0) (ci := 6) (y1 := f_R_thrown fu R') R'.1 rfl X (dg dc_L_law_15 10 rfl) rfl ⟨rfl, rfl⟩ (c_R_thrown_25 l Dv fu H' out' R') gV_L_71 rfl rfl hy_R_thrown ⟨(Nat.le_of_ble_eq_true rfl), (Nat.le_of_ble_eq_true rfl)⟩ rfl ⟨hc, hs⟩ rfl rfl rfl rfl rfl ?_
  refine js_iload (n := 991) X (dg dc_L_law_15 11 rfl) rfl rfl ?_
  refine js_icmp_eq_t (t := 996) X (dg dc_L_law_15 12 rfl) (by decide) e3 ?_
  refine js_iload (n := 998) X (dg dc_L_law_15 15 rfl) rfl rfl ?_
  by_cases hk0 : k = 0
  · refine js_if_ne_f (t := 1013) (n := 1001) X (dg dc_L_law_15 16 rfl) (by decide) rfl hk0 ?_
    refine js_aload_n (n := 1002) X (dg dc_L_law_15 17 rfl) rfl rfl rfl ?_
    refine js_iconst (n := 1003) 0 X (dg dc_L_law_15 18 rfl) rfl rfl ?_
    refine js_laloadT (n := 1004) X (dg dc_L_law_15 19 rfl) rfl rfl rfl ?_
    rw [e5 hk0]
    refine js_iload (n := 1006) X (dg dc_L_law_15 20 rfl) rfl rfl ?_
    refine js_i2l (n := 1007) X (dg dc_L_law_15 21 rfl) rfl ?_
    refine js_lcmp (n := 1008) X (dg dc_L_law_15 22 rfl) rfl ?_
    refine js_if_eq_t (t := 1013) X (dg dc_L_law_15 23 rfl) (by decide) (lcmp_self _) ?_
    refine js_goto (t := 1016) X (dg dc_L_law_15 26 rfl) (by decide) ?_
    exact js_keep [true, true, true, true, true, false, false] hq
  · refine js_if_ne_t (t := 1013) X (dg dc_L_law_15 16 rfl) (by decide) hk0 ?_
    refine js_goto (t := 1016) X (dg dc_L_law_15 26 rfl) (by decide) ?_
    exact js_keep [true, true, true, true, true, false, false] hq
