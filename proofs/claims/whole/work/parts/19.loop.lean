set_option maxHeartbeats 4000000 in
theorem lp_sw {l : Launch} (hst : l.stackTraces = false) {Dv : va_G} {κ : ev_ka} (X : ev_X l Dv gaL mu_L_law κ) (T : ev_TW deX nsX [] κ) {b N : Nat} {xs : Nat → Int32} (S : ev_Sc κ b N xs) {fu : Nat} (hf : 20000 ≤ fu) {H : S_H} {R : S_R} (out : Nat → Int64) (hHR : HR H R) {i : Int32} {ce sl : Nat} (hc : ce + 1 ≤ 601024) (hs : sl + 6 ≤ 7293034) (n1 : inb (i + 1) N = true) (n2 : inb (i + 2) N = true) (n3 : inb (i + 3) N = true) (n4 : inb (i + 4) N = true) (n5 : inb (i + 5) N = true)
    (hk : ∀ H' R' out', HR H' R' → ∃ q, ev_J l Dv gaL mu_L_law κ 1016 (ce + 1) (sl + 6) [some (.retAddr b), some (.ref 0), some (.ref 25), some (.ref 44), some (.int i), none, none] [] (hpW H' R' out') (some q) wL) (x : Int32) : ∃ q, ev_J l Dv gaL mu_L_law κ 40 ce sl [some (.retAddr b), some (.ref 0), some (.ref 25), some (.ref 44), some (.int i), none, none] [.int x] (hpW H R out) (some q) wL := by
  by_cases x0 : x = 0
  · subst x0
    obtain ⟨q, hq⟩ := lc_add hst X T S hf out hHR hc hs n1 n2 n3 n4 n5 hk
    exact ⟨q, js_tsw X (dg dc_L_law_0 24 rfl) (by decide) ⟨68, 108, by decide, by decide, hq⟩⟩
  by_cases x1 : x = 1
  · subst x1
    obtain ⟨q, hq⟩ := lc_clear hst X T S hf out hHR hc hs n1 n2 n3 n4 n5 hk
    exact ⟨q, js_tsw X (dg dc_L_law_0 24 rfl) (by decide) ⟨160, 200, by decide, by decide, hq⟩⟩
  by_cases x2 : x = 2
  · subst x2
    obtain ⟨q, hq⟩ := lc_make hst X T S hf out hHR hc hs n1 n2 n3 n4 n5 hk
    exact ⟨q, js_tsw X (dg dc_L_law_0 24 rfl) (by decide) ⟨173, 213, by decide, by decide, hq⟩⟩
  by_cases x3 : x = 3
  · subst x3
    obtain ⟨q, hq⟩ := lc_flaws hst X T S hf out hHR hc hs n1 n2 n3 n4 n5 hk
    exact ⟨q, js_tsw X (dg dc_L_law_0 24 rfl) (by decide) ⟨297, 337, by decide, by decide, hq⟩⟩
  by_cases x4 : x = 4
  · subst x4
    obtain ⟨q, hq⟩ := lc_run hst X T S hf out hHR hc hs n1 n2 n3 n4 n5 hk
    exact ⟨q, js_tsw X (dg dc_L_law_0 24 rfl) (by decide) ⟨353, 393, by decide, by decide, hq⟩⟩
  by_cases x5 : x = 5
  · subst x5
    obtain ⟨q, hq⟩ := lc_fails hst X T S hf out hHR hc hs n1 n2 n3 n4 n5 hk
    exact ⟨q, js_tsw X (dg dc_L_law_0 24 rfl) (by decide) ⟨416, 456, by decide, by decide, hq⟩⟩
  by_cases x6 : x = 6
  · subst x6
    obtain ⟨q, hq⟩ := lc_shrink hst X T S hf out hHR hc hs n1 n2 n3 n4 n5 hk
    exact ⟨q, js_tsw X (dg dc_L_law_0 24 rfl) (by decide) ⟨516, 556, by decide, by decide, hq⟩⟩
  by_cases x7 : x = 7
  · subst x7
    obtain ⟨q, hq⟩ := lc_command hst X T S hf out hHR hc hs n1 n2 n3 n4 n5 hk
    exact ⟨q, js_tsw X (dg dc_L_law_0 24 rfl) (by decide) ⟨616, 656, by decide, by decide, hq⟩⟩
  by_cases x8 : x = 8
  · subst x8
    obtain ⟨q, hq⟩ := lc_event hst X T S hf out hHR hc hs n1 n2 n3 n4 n5 hk
    exact ⟨q, js_tsw X (dg dc_L_law_0 24 rfl) (by decide) ⟨684, 724, by decide, by decide, hq⟩⟩
  by_cases x9 : x = 9
  · subst x9
    obtain ⟨q, hq⟩ := lc_order hst X T S hf out hHR hc hs n1 n2 n3 n4 n5 hk
    exact ⟨q, js_tsw X (dg dc_L_law_0 24 rfl) (by decide) ⟨752, 792, by decide, by decide, hq⟩⟩
  by_cases x10 : x = 10
  · subst x10
    obtain ⟨q, hq⟩ := lc_cell hst X T S hf out hHR hc hs n1 n2 n3 n4 n5 hk
    exact ⟨q, js_tsw X (dg dc_L_law_0 24 rfl) (by decide) ⟨808, 848, by decide, by decide, hq⟩⟩
  by_cases x11 : x = 11
  · subst x11
    obtain ⟨q, hq⟩ := lc_count hst X T S hf out hHR hc hs n1 n2 n3 n4 n5 hk
    exact ⟨q, js_tsw X (dg dc_L_law_0 24 rfl) (by decide) ⟨864, 904, by decide, by decide, hq⟩⟩
  by_cases x12 : x = 12
  · subst x12
    obtain ⟨q, hq⟩ := lc_tally hst X T S hf out hHR hc hs n1 n2 n3 n4 n5 hk
    exact ⟨q, js_tsw X (dg dc_L_law_0 24 rfl) (by decide) ⟨920, 960, by decide, by decide, hq⟩⟩
  obtain ⟨q, hq⟩ := hk H R out hHR
  refine ⟨q, js_tsw X (dg dc_L_law_0 24 rfl) (by decide) ⟨976, 1016, (ev_tab (lo1 := 0) (dflt := 976) (x := x.toInt) _ 0).1 ?_, by decide, js_widen (Nat.le_succ _) (Nat.le_add_right _ _) hq⟩⟩
  have y0 : x.toInt ≠ 0 := fun z => x0 (Int32.toInt_inj.mp (z.trans (by decide)))
  have y1 : x.toInt ≠ 1 := fun z => x1 (Int32.toInt_inj.mp (z.trans (by decide)))
  have y2 : x.toInt ≠ 2 := fun z => x2 (Int32.toInt_inj.mp (z.trans (by decide)))
  have y3 : x.toInt ≠ 3 := fun z => x3 (Int32.toInt_inj.mp (z.trans (by decide)))
  have y4 : x.toInt ≠ 4 := fun z => x4 (Int32.toInt_inj.mp (z.trans (by decide)))
  have y5 : x.toInt ≠ 5 := fun z => x5 (Int32.toInt_inj.mp (z.trans (by decide)))
  have y6 : x.toInt ≠ 6 := fun z => x6 (Int32.toInt_inj.mp (z.trans (by decide)))
  have y7 : x.toInt ≠ 7 := fun z => x7 (Int32.toInt_inj.mp (z.trans (by decide)))
  have y8 : x.toInt ≠ 8 := fun z => x8 (Int32.toInt_inj.mp (z.trans (by decide)))
  have y9 : x.toInt ≠ 9 := fun z => x9 (Int32.toInt_inj.mp (z.trans (by decide)))
  have y10 : x.toInt ≠ 10 := fun z => x10 (Int32.toInt_inj.mp (z.trans (by decide)))
  have y11 : x.toInt ≠ 11 := fun z => x11 (Int32.toInt_inj.mp (z.trans (by decide)))
  have y12 : x.toInt ≠ 12 := fun z => x12 (Int32.toInt_inj.mp (z.trans (by decide)))
  simp only [List.length_cons, List.length_nil]
  omega
theorem lp_le {N i : Nat} (hN : N ≤ 4000) (hi : i ≤ 4000) : (Int32.ofNat N - 6 < qn i) = (N < i + 6) := by
  rw [Int32.lt_iff_toInt_lt, show Int32.ofNat N = qn N from rfl, q6, Int32.toInt_sub, qn_toInt (by omega), qn_toInt (by omega), qn_toInt (by omega)]
  rw [show ((N : Int) - ((6 : Nat) : Int)).bmod (2 ^ 32) = (N : Int) - ((6 : Nat) : Int) by apply Int.bmod_eq_of_le <;> simp <;> omega]
  apply propext
  constructor <;> intro h <;> omega
theorem lp_n {N a k : Nat} (h : a + k < N) (hN : N ≤ 4000) : inb (qn a + qn k) N = true := by
  rw [qn_add]
  exact qn_inb h (by omega)
set_option maxHeartbeats 4000000 in
theorem lp_loop {l : Launch} (hst : l.stackTraces = false) {Dv : va_G} {κ : ev_ka} (X : ev_X l Dv gaL mu_L_law κ) (T : ev_TW deX nsX [] κ) {b N : Nat} {xs : Nat → Int32} (S : ev_Sc κ b N xs) {fu : Nat} (hf : 20000 ≤ fu) (hN : N ≤ 3072) : ∀ (d j ce sl : Nat) (H : S_H) (R : S_R) (out : Nat → Int64), HR H R → j ≤ 512 → N < 6 * (j + d) + 6 → ce + d ≤ 601024 → sl + 6 * d ≤ 7293034 → ∃ q, ev_J l Dv gaL mu_L_law κ 23 ce sl [some (.retAddr b), some (.ref 0), some (.ref 25), some (.ref 44), some (.int (qn (6 * j))), none, none] [] (hpW H R out) (some q) wL := by
  intro d
  induction d with
  | zero =>
    intro j ce sl H R out h hj h1 h2 h3
    refine ⟨(H, R, out), ?_⟩
    refine js_iload (n := 25) X (dg dc_L_law_0 13 rfl) rfl rfl ?_
    refine js_sload_n (n := 26) X (dg dc_L_law_0 14 rfl) rfl rfl rfl ?_
    refine js_slen (n := 27) X S (dg dc_L_law_0 15 rfl) rfl ?_
    refine js_bipush (n := 29) 6 X (dg dc_L_law_0 16 rfl) rfl (by decide) ?_
    refine js_isub (n := 30) X (dg dc_L_law_0 17 rfl) rfl ?_
    refine js_icmp_gt_t (t := 1022) X (dg dc_L_law_0 18 rfl) (by decide) ?_ ?_
    · rw [lp_le (by omega) (by omega)]; omega
    refine js_iconst (n := 1023) 1 X (dg dc_L_law_15 29 rfl) rfl rfl ?_
    exact js_retZ (x := 1) (q := (H, R, out)) X (dg dc_L_law_15 30 rfl) rfl (show ce ≤ 601024 by omega) (show sl ≤ 7293034 by omega) rfl
  | succ d ih =>
    intro j ce sl H R out h hj h1 h2 h3
    by_cases hx : N < 6 * j + 6
    · refine ⟨(H, R, out), ?_⟩
      refine js_iload (n := 25) X (dg dc_L_law_0 13 rfl) rfl rfl ?_
      refine js_sload_n (n := 26) X (dg dc_L_law_0 14 rfl) rfl rfl rfl ?_
      refine js_slen (n := 27) X S (dg dc_L_law_0 15 rfl) rfl ?_
      refine js_bipush (n := 29) 6 X (dg dc_L_law_0 16 rfl) rfl (by decide) ?_
      refine js_isub (n := 30) X (dg dc_L_law_0 17 rfl) rfl ?_
      refine js_icmp_gt_t (t := 1022) X (dg dc_L_law_0 18 rfl) (by decide) ?_ ?_
      · rw [lp_le (by omega) (by omega)]; omega
      refine js_iconst (n := 1023) 1 X (dg dc_L_law_15 29 rfl) rfl rfl ?_
      exact js_retZ (x := 1) (q := (H, R, out)) X (dg dc_L_law_15 30 rfl) rfl (show ce ≤ 601024 by omega) (show sl ≤ 7293034 by omega) rfl
    · have hk : ∀ H' R' out', HR H' R' → ∃ q, ev_J l Dv gaL mu_L_law κ 1016 (ce + 1) (sl + 6) [some (.retAddr b), some (.ref 0), some (.ref 25), some (.ref 44), some (.int (qn (6 * j))), none, none] [] (hpW H' R' out') (some q) wL := by
        intro H' R' out' h'
        obtain ⟨q, hq⟩ := ih (j + 1) (ce + 1) (sl + 6) H' R' out' h' (by omega) (by omega) (by omega) (by omega)
        refine ⟨q, ?_⟩
        refine js_iinc (lo' := [some (.retAddr b), some (.ref 0), some (.ref 25), some (.ref 44), some (.int (qn (6 * (j + 1)))), none, none]) (n := 1019) 6 X (dg dc_L_law_15 27 rfl) rfl (by decide) (Nat.le_of_ble_eq_true rfl) rfl ?_ ?_
        · rw [q6, qn_add, show 6 * j + 6 = 6 * (j + 1) by omega]; rfl
        exact js_goto (t := 23) X (dg dc_L_law_15 28 rfl) (by decide) hq
      obtain ⟨q, hq⟩ := lp_sw hst X T S hf out h (i := qn (6 * j)) (ce := ce) (sl := sl) (by omega) (by omega) (lp_n (k := 1) (by omega) (by omega)) (lp_n (k := 2) (by omega) (by omega)) (lp_n (k := 3) (by omega) (by omega)) (lp_n (k := 4) (by omega) (by omega)) (lp_n (k := 5) (by omega) (by omega)) hk (xs (ix (qn (6 * j))) &&& 15)
      refine ⟨q, ?_⟩
      refine js_iload (n := 25) X (dg dc_L_law_0 13 rfl) rfl rfl ?_
      refine js_sload_n (n := 26) X (dg dc_L_law_0 14 rfl) rfl rfl rfl ?_
      refine js_slen (n := 27) X S (dg dc_L_law_0 15 rfl) rfl ?_
      refine js_bipush (n := 29) 6 X (dg dc_L_law_0 16 rfl) rfl (by decide) ?_
      refine js_isub (n := 30) X (dg dc_L_law_0 17 rfl) rfl ?_
      refine js_icmp_gt_f (t := 1022) (n := 33) X (dg dc_L_law_0 18 rfl) (by decide) rfl ?_ ?_
      · rw [lp_le (by omega) (by omega)]; exact hx
      refine js_sload_n (n := 34) X (dg dc_L_law_0 19 rfl) rfl rfl rfl ?_
      refine js_iload (n := 36) X (dg dc_L_law_0 20 rfl) rfl rfl ?_
      refine js_saldT (n := 37) X S (dg dc_L_law_0 21 rfl) rfl (qn_inb (by omega) (by omega)) ?_
      refine js_bipush (n := 39) 15 X (dg dc_L_law_0 22 rfl) rfl (by decide) ?_
      refine js_iand (n := 40) X (dg dc_L_law_0 23 rfl) rfl ?_
      exact hq
def sP0 : S_P := (fun _ => 0, fun _ => 0, fun _ => 0, fun _ => 0)
def sH0 : S_H := (sP0, sP0, ((fun _ => 0, fun _ => 0, fun _ => 0, fun _ => 0, 0, fun _ => 0, fun _ => 0, fun _ => 0, 0), fun _ => 0, fun _ => 0, 0, 0, 0, 0, 0, 0), 0, 0, 0)
def sR0 : S_R := (0, fun _ => 0, fun _ => 0, fun _ => 0, fun _ => 0, fun _ => 0, fun _ => 0, 0, 0, fun _ => 0, fun _ => 0, fun _ => 0, fun _ => 0, 0, 0, fun _ => 0, fun _ => 0, fun _ => 0, fun _ => 0, fun _ => 0, fun _ => 0, fun _ => 0, 0, 0, 0, 0, 0, fun _ => 0)
theorem a8_0 : a8 (fun _ => 0) := by
  unfold a8
  intros
  first | exact ⟨0, by omega, rfl⟩ | decide | simp
theorem HR0 : HR sH0 sR0 := by
  refine ⟨((0, 0, 0), fun _ => 0, fun _ => 0, fun _ => 0), 0, sP0, sP0, fun _ => 0, fun _ => 0, fun _ => 0, fun _ => 0, fun _ => 0, fun _ => 0, fun _ => 0, fun _ => 0, fun _ => 0, fun _ => 0, fun _ => 0, fun _ => 0, fun _ => 0, fun _ => 0, fun _ => 0, fun _ => 0, fun _ => 0, fun _ => 0, fun _ => 0, fun _ => 0, fun _ => 0, fun _ => 0, 0, 0, 0, 0, 0, 0, 0, 0, 0, 0, 0, 0, 0, 0, 0, rfl, rfl, ?_, ?_, ?_, by omega, a8_0, a8_0, Or.inl rfl⟩
  · exact ⟨rfl, rfl, rfl, fun i hi => absurd hi (Nat.not_lt_zero i)⟩
  · exact ⟨rfl, rfl, rfl, fun i hi => absurd hi (Nat.not_lt_zero i)⟩
  · exact ⟨Nat.zero_le _, Nat.zero_le _, Nat.zero_le _, fun i hi => absurd hi (Nat.not_lt_zero i)⟩
theorem hCL_H : ev_C gaL 0 RX_H TX_H 6 tyX_H := ⟨hC_H.1, fun w hw => lgL_r (hC_H.2.1 w hw), hC_H.2.2⟩
theorem hCL_R : ev_C gaL 6 RX_R TX_R 28 tyX_R := ⟨hC_R.1, fun w hw => lgL_r (hC_R.2.1 w hw), hC_R.2.2⟩
set_option maxHeartbeats 4000000 in
theorem lp_start {l : Launch} (hst : l.stackTraces = false) {Dv : va_G} {κ : ev_ka} (X : ev_X l Dv gaL mu_L_law κ) (T : ev_TW deX nsX [] κ) {b N : Nat} {xs : Nat → Int32} (S : ev_Sc κ b N xs) {fu : Nat} (hf : 20000 ≤ fu) (hN : N ≤ 3072) : ∃ q, ev_J l Dv gaL mu_L_law κ 0 0 0 [some (.retAddr b), none, none, none, none, none, none] [] [] (some q) wL := by
  obtain ⟨q, hq⟩ := lp_loop hst X T S hf hN 512 0 45 419 sH0 sR0 (fun _ => 0) HR0 (by omega) (by omega) (by omega) (by omega)
  refine ⟨q, ?_⟩
  refine js_new (fs := [.null, .null, .null, .null, .int 0, .int 0]) (n := 3) X (dg dc_L_law_0 0 rfl) rfl hCL_H lx_152 lx_158 lx_7 hfs_H (fun _ => rfl) (Nat.le_of_ble_eq_true rfl) (Nat.le_of_ble_eq_true rfl) rfl rfl rfl ?_
  refine js_dup (n := 4) X (dg dc_L_law_0 1 rfl) rfl rfl ?_
  refine js_callIg (γ' := gaX) (k := fun _ => some q) (na := 0) (n := 7) X (dg dc_L_law_0 2 rfl) rfl ⟨rfl, rfl⟩ (c_H_init_1 l Dv) (ev_goodIL lx_162) rfl rfl rfl lx_7 lx_154 lx_160 rfl hy_H_init.2 ⟨(Nat.le_of_ble_eq_true rfl), (Nat.le_of_ble_eq_true rfl)⟩ ⟨(Nat.le_of_ble_eq_true rfl), (Nat.le_of_ble_eq_true rfl)⟩ rfl rfl rfl rfl ?_
  intro _
  refine js_astore_n (lo' := [some (.retAddr b), some (.ref 0), none, none, none, none, none]) (n := 8) X (dg dc_L_law_0 3 rfl) rfl rfl (Nat.le_of_ble_eq_true rfl) rfl ?_
  refine js_new (fs := [.int 0, .null, .null, .null, .null, .null, .null, .int 0, .long 0, .null, .null, .null, .null, .int 0, .int 0, .null, .null, .null, .null, .null, .null, .null, .int 0, .int 0, .int 0, .int 0, .int 0, .null]) (n := 11) X (dg dc_L_law_0 4 rfl) rfl hCL_R lx_153 lx_159 lx_94 hfs_R (fun _ => rfl) (Nat.le_of_ble_eq_true rfl) (Nat.le_of_ble_eq_true rfl) rfl rfl rfl ?_
  refine js_dup (n := 12) X (dg dc_L_law_0 5 rfl) rfl rfl ?_
  refine js_callIg (γ' := gaX) (k := fun _ => some q) (na := 0) (n := 15) X (dg dc_L_law_0 6 rfl) rfl ⟨rfl, rfl⟩ (c_R_init_1 l Dv) (ev_goodIL lx_163) rfl rfl rfl lx_94 lx_155 lx_161 rfl hy_R_init.2 ⟨(Nat.le_of_ble_eq_true rfl), (Nat.le_of_ble_eq_true rfl)⟩ ⟨(Nat.le_of_ble_eq_true rfl), (Nat.le_of_ble_eq_true rfl)⟩ rfl rfl rfl rfl ?_
  intro _
  refine js_astore_n (lo' := [some (.retAddr b), some (.ref 0), some (.ref 25), none, none, none, none]) (n := 16) X (dg dc_L_law_0 7 rfl) rfl rfl (Nat.le_of_ble_eq_true rfl) rfl ?_
  refine js_iconst (n := 17) 1 X (dg dc_L_law_0 8 rfl) rfl rfl ?_
  refine js_newa (N := 1) (n := 19) (.inr fun _ => 0) X (dg dc_L_law_0 9 rfl) rfl lx_157 rfl (fun _ => rfl) (by decide) (Nat.le_of_ble_eq_true rfl) (Nat.le_of_ble_eq_true rfl) (by decide) (by decide) rfl rfl rfl ?_
  refine js_astore_n (lo' := [some (.retAddr b), some (.ref 0), some (.ref 25), some (.ref 44), none, none, none]) (n := 20) X (dg dc_L_law_0 10 rfl) rfl rfl (Nat.le_of_ble_eq_true rfl) rfl ?_
  refine js_iconst (n := 21) 0 X (dg dc_L_law_0 11 rfl) rfl rfl ?_
  refine js_istore (lo' := [some (.retAddr b), some (.ref 0), some (.ref 25), some (.ref 44), some (.int (qn (6 * 0))), none, none]) (n := 23) X (dg dc_L_law_0 12 rfl) rfl (Nat.le_of_ble_eq_true rfl) rfl ?_
  exact hq
