set_option maxRecDepth 100000 in
set_option maxHeartbeats 4000000 in
theorem jl_R_make_25_L95 (l : Launch) (Dv : va_G) (fu : Nat) (h : S_H) (out : Nat → Int64) (κ : ev_ka) (X : ev_X l Dv gaX mu_R_make κ) : ∀ (n : Nat) (R : S_R) (v5 : Int32) (v6 : Int32), ev_J l Dv gaX mu_R_make κ 95 0 0 [some (.ref 25), none, none, none, none, some (.int v5), some (.int v6)] [] (hpW h R out) (f_R_make_L95 fu n R v5 v6) (fun q => (some (.int q.1), hpW h q.2 out)) := by
  intro n
  induction n with
  | zero => exact fun _ _ _ => js_none
  | succ n ih =>
    intro R v5 v6
    unfold f_R_make_L95
    refine js_iload (n := 97) X (dg dc_R_make 50 rfl) rfl rfl ?_
    refine js_iload (n := 99) X (dg dc_R_make 51 rfl) rfl rfl ?_
    refine js_icmp_ge (t := 113) (n := 102) X (dg dc_R_make 52 rfl) (by decide) rfl ?_ ?_
    · refine js_aload_n (n := 114) X (dg dc_R_make 58 rfl) rfl rfl rfl ?_
      refine js_callV (na := 0) (ci := 6) (n := 117) X (dg dc_R_make 59 rfl) rfl (c_R_many_25 l Dv fu h out R) gV_R_84 rfl rfl hy_R_many ⟨(Nat.le_of_ble_eq_true rfl), (Nat.le_of_ble_eq_true rfl)⟩ rfl ⟨(Nat.le_of_ble_eq_true rfl), (Nat.le_of_ble_eq_true rfl)⟩ rfl rfl rfl rfl rfl ?_
      intro r114
      exact js_retI X (dg dc_R_make 60 rfl) rfl (Nat.le_of_ble_eq_true rfl) (Nat.le_of_ble_eq_true rfl) rfl
    refine js_aload_n (n := 103) X (dg dc_R_make 53 rfl) rfl rfl rfl ?_
    refine js_iconst (n := 104) 2 X (dg dc_R_make 54 rfl) rfl (by decide) ?_
    refine js_callV (na := 1) (ci := 6) (n := 107) X (dg dc_R_make 55 rfl) rfl (c_R_tried_25 l Dv fu h out R 2) gV_R_144 rfl rfl hy_R_tried ⟨(Nat.le_of_ble_eq_true rfl), (Nat.le_of_ble_eq_true rfl)⟩ rfl ⟨(Nat.le_of_ble_eq_true rfl), (Nat.le_of_ble_eq_true rfl)⟩ rfl rfl rfl rfl rfl ?_
    intro R_104
    refine js_iinc (lo' := [some (.ref 25), none, none, none, none, some (.int v5), some (.int (v6 + 1))]) (n := 110) 1 X (dg dc_R_make 56 rfl) rfl (by decide) (Nat.le_of_ble_eq_true rfl) rfl rfl ?_
    refine js_goto (t := 95) X (dg dc_R_make 57 rfl) (by decide) ?_
    exact js_keep [true, false, false, false, false, true, true] (ih R_104 v5 (v6 + 1))
set_option maxRecDepth 100000 in
set_option maxHeartbeats 4000000 in
theorem jl_R_make_25_L74 (l : Launch) (Dv : va_G) (fu : Nat) (h : S_H) (out : Nat → Int64) (κ : ev_ka) (X : ev_X l Dv gaX mu_R_make κ) : ∀ (n : Nat) (R : S_R) (v4 : Int32) (v5 : Int32) (v6 : Int32), ev_J l Dv gaX mu_R_make κ 74 0 0 [some (.ref 25), none, none, none, some (.int v4), some (.int v5), some (.int v6)] [] (hpW h R out) (f_R_make_L74 fu n R v4 v5 v6) (fun q => (some (.int q.1), hpW h q.2 out)) := by
  intro n
  induction n with
  | zero => exact fun _ _ _ _ => js_none
  | succ n ih =>
    intro R v4 v5 v6
    unfold f_R_make_L74
    refine js_iload (n := 76) X (dg dc_R_make 40 rfl) rfl rfl ?_
    refine js_iload (n := 78) X (dg dc_R_make 41 rfl) rfl rfl ?_
    refine js_icmp_ge (t := 92) (n := 81) X (dg dc_R_make 42 rfl) (by decide) rfl ?_ ?_
    · refine js_iconst (n := 93) 0 X (dg dc_R_make 48 rfl) rfl (by decide) ?_
      refine js_istore (lo' := [some (.ref 25), none, none, none, some (.int v4), some (.int v5), some (.int 0)]) (n := 95) X (dg dc_R_make 49 rfl) rfl (Nat.le_of_ble_eq_true rfl) rfl ?_
      exact js_keep [true, false, false, false, false, true, true] (jl_R_make_25_L95 l Dv fu h out κ X fu R v5 0)
    refine js_aload_n (n := 82) X (dg dc_R_make 43 rfl) rfl rfl rfl ?_
    refine js_iconst (n := 83) 1 X (dg dc_R_make 44 rfl) rfl (by decide) ?_
    refine js_callV (na := 1) (ci := 6) (n := 86) X (dg dc_R_make 45 rfl) rfl (c_R_tried_25 l Dv fu h out R 1) gV_R_144 rfl rfl hy_R_tried ⟨(Nat.le_of_ble_eq_true rfl), (Nat.le_of_ble_eq_true rfl)⟩ rfl ⟨(Nat.le_of_ble_eq_true rfl), (Nat.le_of_ble_eq_true rfl)⟩ rfl rfl rfl rfl rfl ?_
    intro R_83
    refine js_iinc (lo' := [some (.ref 25), none, none, none, some (.int v4), some (.int v5), some (.int (v6 + 1))]) (n := 89) 1 X (dg dc_R_make 46 rfl) rfl (by decide) (Nat.le_of_ble_eq_true rfl) rfl rfl ?_
    refine js_goto (t := 74) X (dg dc_R_make 47 rfl) (by decide) ?_
    exact js_keep [true, false, false, false, true, true, true] (ih R_83 v4 v5 (v6 + 1))
set_option maxRecDepth 100000 in
set_option maxHeartbeats 4000000 in
theorem jl_R_make_25_L54 (l : Launch) (Dv : va_G) (fu : Nat) (h : S_H) (out : Nat → Int64) (κ : ev_ka) (X : ev_X l Dv gaX mu_R_make κ) : ∀ (n : Nat) (R : S_R) (v3 : Int32) (v4 : Int32) (v5 : Int32) (v6 : Int32), ev_J l Dv gaX mu_R_make κ 54 0 0 [some (.ref 25), none, none, some (.int v3), some (.int v4), some (.int v5), some (.int v6)] [] (hpW h R out) (f_R_make_L54 fu n R v3 v4 v5 v6) (fun q => (some (.int q.1), hpW h q.2 out)) := by
  intro n
  induction n with
  | zero => exact fun _ _ _ _ _ => js_none
  | succ n ih =>
    intro R v3 v4 v5 v6
    unfold f_R_make_L54
    refine js_iload (n := 56) X (dg dc_R_make 30 rfl) rfl rfl ?_
    refine js_iload_n (n := 57) X (dg dc_R_make 31 rfl) rfl rfl rfl ?_
    refine js_icmp_ge (t := 71) (n := 60) X (dg dc_R_make 32 rfl) (by decide) rfl ?_ ?_
    · refine js_iconst (n := 72) 0 X (dg dc_R_make 38 rfl) rfl (by decide) ?_
      refine js_istore (lo' := [some (.ref 25), none, none, some (.int v3), some (.int v4), some (.int v5), some (.int 0)]) (n := 74) X (dg dc_R_make 39 rfl) rfl (Nat.le_of_ble_eq_true rfl) rfl ?_
      exact js_keep [true, false, false, false, true, true, true] (jl_R_make_25_L74 l Dv fu h out κ X fu R v4 v5 0)
    refine js_aload_n (n := 61) X (dg dc_R_make 33 rfl) rfl rfl rfl ?_
    refine js_iconst (n := 62) 0 X (dg dc_R_make 34 rfl) rfl (by decide) ?_
    refine js_callV (na := 1) (ci := 6) (n := 65) X (dg dc_R_make 35 rfl) rfl (c_R_tried_25 l Dv fu h out R 0) gV_R_144 rfl rfl hy_R_tried ⟨(Nat.le_of_ble_eq_true rfl), (Nat.le_of_ble_eq_true rfl)⟩ rfl ⟨(Nat.le_of_ble_eq_true rfl), (Nat.le_of_ble_eq_true rfl)⟩ rfl rfl rfl rfl rfl ?_
    intro R_62
    refine js_iinc (lo' := [some (.ref 25), none, none, some (.int v3), some (.int v4), some (.int v5), some (.int (v6 + 1))]) (n := 68) 1 X (dg dc_R_make 36 rfl) rfl (by decide) (Nat.le_of_ble_eq_true rfl) rfl rfl ?_
    refine js_goto (t := 54) X (dg dc_R_make 37 rfl) (by decide) ?_
    exact js_keep [true, false, false, true, true, true, true] (ih R_62 v3 v4 v5 (v6 + 1))
set_option maxRecDepth 100000 in
set_option maxHeartbeats 4000000 in
theorem c_R_make_25 (l : Launch) (Dv : va_G) (fu : Nat) (h : S_H) (out : Nat → Int64) (R : S_R) (a1 : Int64) (a3 : Int32) (a4 : Int32) (a5 : Int32) : ev_M l Dv gaX mu_R_make [.ref 25, .long a1, .int a3, .int a4, .int a5] (hpW h R out) (f_R_make fu R a1 a3 a4 a5) (fun q => (some (.int q.1), hpW h q.2 out)) := by
  refine ev_met (lo0 := [some (.ref 25), some (.long a1), none, some (.int a3), some (.int a4), some (.int a5), none]) rfl rfl rfl (fun κ X => ?_)
  unfold f_R_make
  refine js_aload_n (n := 1) X (dg dc_R_make 0 rfl) rfl rfl rfl ?_
  refine js_iconst (n := 2) 0 X (dg dc_R_make 1 rfl) rfl (by decide) ?_
  refine js_puti (j := 0) (n := 5) X (dg dc_R_make 2 rfl) rfl hC_R (Nat.le_of_ble_eq_true rfl) hw_126 rfl rfl (Or.inl rfl) (Nat.le_of_ble_eq_true rfl) ?_
  refine js_iload_n (n := 6) X (dg dc_R_make 3 rfl) rfl rfl rfl ?_
  refine js_iconst (n := 7) 0 X (dg dc_R_make 4 rfl) rfl (by decide) ?_
  refine js_bipush (n := 9) 6 X (dg dc_R_make 5 rfl) rfl (by decide) ?_
  refine js_callS (na := 3) (n := 12) X (dg dc_R_make 6 rfl) rfl (c_R_within l Dv fu _ a3 0 6) gS_R_102 rfl rfl hy_R_within.2 ⟨(Nat.le_of_ble_eq_true rfl), (Nat.le_of_ble_eq_true rfl)⟩ ⟨(Nat.le_of_ble_eq_true rfl), (Nat.le_of_ble_eq_true rfl)⟩ rfl rfl rfl rfl ?_
  intro r9
  refine js_if_eq (t := 35) (n := 15) X (dg dc_R_make 7 rfl) (by decide) rfl ?_ ?_
  · refine js_aload_n (n := 36) X (dg dc_R_make 18 rfl) rfl rfl rfl ?_
    refine js_iconst (n := 37) 1 X (dg dc_R_make 19 rfl) rfl (by decide) ?_
    refine js_callV (na := 1) (ci := 6) (n := 40) X (dg dc_R_make 20 rfl) rfl (c_R_fail_25 l Dv fu h out (0, R.2) 1) gV_R_105 rfl rfl hy_R_fail ⟨(Nat.le_of_ble_eq_true rfl), (Nat.le_of_ble_eq_true rfl)⟩ rfl ⟨(Nat.le_of_ble_eq_true rfl), (Nat.le_of_ble_eq_true rfl)⟩ rfl rfl rfl rfl rfl ?_
    rintro ⟨r37, R_37⟩
    exact js_retI X (dg dc_R_make 21 rfl) rfl (Nat.le_of_ble_eq_true rfl) (Nat.le_of_ble_eq_true rfl) rfl
  refine js_iload (n := 17) X (dg dc_R_make 8 rfl) rfl rfl ?_
  refine js_iconst (n := 18) 0 X (dg dc_R_make 9 rfl) rfl (by decide) ?_
  refine js_iconst (n := 19) 4 X (dg dc_R_make 10 rfl) rfl (by decide) ?_
  refine js_callS (na := 3) (n := 22) X (dg dc_R_make 11 rfl) rfl (c_R_within l Dv fu _ a4 0 4) gS_R_102 rfl rfl hy_R_within.2 ⟨(Nat.le_of_ble_eq_true rfl), (Nat.le_of_ble_eq_true rfl)⟩ ⟨(Nat.le_of_ble_eq_true rfl), (Nat.le_of_ble_eq_true rfl)⟩ rfl rfl rfl rfl ?_
  intro r19
  refine js_if_eq (t := 35) (n := 25) X (dg dc_R_make 12 rfl) (by decide) rfl ?_ ?_
  · refine js_aload_n (n := 36) X (dg dc_R_make 18 rfl) rfl rfl rfl ?_
    refine js_iconst (n := 37) 1 X (dg dc_R_make 19 rfl) rfl (by decide) ?_
    refine js_callV (na := 1) (ci := 6) (n := 40) X (dg dc_R_make 20 rfl) rfl (c_R_fail_25 l Dv fu h out (0, R.2) 1) gV_R_105 rfl rfl hy_R_fail ⟨(Nat.le_of_ble_eq_true rfl), (Nat.le_of_ble_eq_true rfl)⟩ rfl ⟨(Nat.le_of_ble_eq_true rfl), (Nat.le_of_ble_eq_true rfl)⟩ rfl rfl rfl rfl rfl ?_
    rintro ⟨r37, R_37⟩
    exact js_retI X (dg dc_R_make 21 rfl) rfl (Nat.le_of_ble_eq_true rfl) (Nat.le_of_ble_eq_true rfl) rfl
  refine js_iload (n := 27) X (dg dc_R_make 13 rfl) rfl rfl ?_
  refine js_iconst (n := 28) 0 X (dg dc_R_make 14 rfl) rfl (by decide) ?_
  refine js_iconst (n := 29) 4 X (dg dc_R_make 15 rfl) rfl (by decide) ?_
  refine js_callS (na := 3) (n := 32) X (dg dc_R_make 16 rfl) rfl (c_R_within l Dv fu _ a5 0 4) gS_R_102 rfl rfl hy_R_within.2 ⟨(Nat.le_of_ble_eq_true rfl), (Nat.le_of_ble_eq_true rfl)⟩ ⟨(Nat.le_of_ble_eq_true rfl), (Nat.le_of_ble_eq_true rfl)⟩ rfl rfl rfl rfl ?_
  intro r29
  refine js_if_ne (t := 41) (n := 35) X (dg dc_R_make 17 rfl) (by decide) rfl ?_ ?_
  · refine js_aload_n (n := 42) X (dg dc_R_make 22 rfl) rfl rfl rfl ?_
    refine js_callV (na := 0) (ci := 6) (n := 45) X (dg dc_R_make 23 rfl) rfl (c_R_clear_25 l Dv fu h out (0, R.2)) gV_R_141 rfl rfl hy_R_clear ⟨(Nat.le_of_ble_eq_true rfl), (Nat.le_of_ble_eq_true rfl)⟩ rfl ⟨(Nat.le_of_ble_eq_true rfl), (Nat.le_of_ble_eq_true rfl)⟩ rfl rfl rfl rfl rfl ?_
    rintro ⟨r42, R_42⟩
    refine js_pop (n := 46) X (dg dc_R_make 24 rfl) rfl rfl ?_
    refine js_aload_n (n := 47) X (dg dc_R_make 25 rfl) rfl rfl rfl ?_
    refine js_lload_n (n := 48) X (dg dc_R_make 26 rfl) rfl rfl rfl ?_
    refine js_putj (j := 8) (n := 51) X (dg dc_R_make 27 rfl) rfl hC_R (Nat.le_of_ble_eq_true rfl) hw_195 rfl rfl (Or.inl rfl) (Nat.le_of_ble_eq_true rfl) ?_
    refine js_iconst (n := 52) 0 X (dg dc_R_make 28 rfl) rfl (by decide) ?_
    refine js_istore (lo' := [some (.ref 25), some (.long a1), none, some (.int a3), some (.int a4), some (.int a5), some (.int 0)]) (n := 54) X (dg dc_R_make 29 rfl) rfl (Nat.le_of_ble_eq_true rfl) rfl ?_
    exact js_keep [true, false, false, true, true, true, true] (jl_R_make_25_L54 l Dv fu h out κ X fu (R_42.1, R_42.2.1, R_42.2.2.1, R_42.2.2.2.1, R_42.2.2.2.2.1, R_42.2.2.2.2.2.1, R_42.2.2.2.2.2.2.1, R_42.2.2.2.2.2.2.2.1, a1, R_42.2.2.2.2.2.2.2.2.2) a3 a4 a5 0)
  refine js_aload_n (n := 36) X (dg dc_R_make 18 rfl) rfl rfl rfl ?_
  refine js_iconst (n := 37) 1 X (dg dc_R_make 19 rfl) rfl (by decide) ?_
  refine js_callV (na := 1) (ci := 6) (n := 40) X (dg dc_R_make 20 rfl) rfl (c_R_fail_25 l Dv fu h out (0, R.2) 1) gV_R_105 rfl rfl hy_R_fail ⟨(Nat.le_of_ble_eq_true rfl), (Nat.le_of_ble_eq_true rfl)⟩ rfl ⟨(Nat.le_of_ble_eq_true rfl), (Nat.le_of_ble_eq_true rfl)⟩ rfl rfl rfl rfl rfl ?_
  rintro ⟨r37, R_37⟩
  exact js_retI X (dg dc_R_make 21 rfl) rfl (Nat.le_of_ble_eq_true rfl) (Nat.le_of_ble_eq_true rfl) rfl
set_option maxRecDepth 100000 in
set_option maxHeartbeats 4000000 in
theorem c_R_flaws_25 (l : Launch) (Dv : va_G) (fu : Nat) (h : S_H) (out : Nat → Int64) (R : S_R) (a1 : Int32) : ev_M l Dv gaX mu_R_flaws [.ref 25, .int a1] (hpW h R out) (f_R_flaws fu R a1) (fun q => (some (.int q.1), hpW h q.2 out)) := by
  refine ev_met (lo0 := [some (.ref 25), some (.int a1), none]) rfl rfl rfl (fun κ X => ?_)
  unfold f_R_flaws
  refine js_aload_n (n := 1) X (dg dc_R_flaws 0 rfl) rfl rfl rfl ?_
  refine js_iconst (n := 2) 0 X (dg dc_R_flaws 1 rfl) rfl (by decide) ?_
  refine js_puti (j := 0) (n := 5) X (dg dc_R_flaws 2 rfl) rfl hC_R (Nat.le_of_ble_eq_true rfl) hw_126 rfl rfl (Or.inl rfl) (Nat.le_of_ble_eq_true rfl) ?_
  refine js_iload_n (n := 6) X (dg dc_R_flaws 3 rfl) rfl rfl rfl ?_
  refine js_iconst (n := 7) 0 X (dg dc_R_flaws 4 rfl) rfl (by decide) ?_
  refine js_bipush (n := 9) 15 X (dg dc_R_flaws 5 rfl) rfl (by decide) ?_
  refine js_callS (na := 3) (n := 12) X (dg dc_R_flaws 6 rfl) rfl (c_R_within l Dv fu _ a1 0 15) gS_R_102 rfl rfl hy_R_within.2 ⟨(Nat.le_of_ble_eq_true rfl), (Nat.le_of_ble_eq_true rfl)⟩ ⟨(Nat.le_of_ble_eq_true rfl), (Nat.le_of_ble_eq_true rfl)⟩ rfl rfl rfl rfl ?_
  intro r9
  refine js_if_ne (t := 21) (n := 15) X (dg dc_R_flaws 7 rfl) (by decide) rfl ?_ ?_
  · refine js_aload_n (n := 22) X (dg dc_R_flaws 12 rfl) rfl rfl rfl ?_
    refine js_getf (j := 7) (v := .int R.2.2.2.2.2.2.2.1) (n := 25) X (dg dc_R_flaws 13 rfl) rfl hC_R (Nat.le_of_ble_eq_true rfl) hw_214 rfl rfl ?_
    refine js_istore_n (lo' := [some (.ref 25), some (.int a1), some (.int R.2.2.2.2.2.2.2.1)]) (n := 26) X (dg dc_R_flaws 14 rfl) rfl rfl (Nat.le_of_ble_eq_true rfl) rfl ?_
    refine js_aload_n (n := 27) X (dg dc_R_flaws 15 rfl) rfl rfl rfl ?_
    refine js_iload_n (n := 28) X (dg dc_R_flaws 16 rfl) rfl rfl rfl ?_
    refine js_puti (j := 7) (n := 31) X (dg dc_R_flaws 17 rfl) rfl hC_R (Nat.le_of_ble_eq_true rfl) hw_214 rfl rfl (Or.inl rfl) (Nat.le_of_ble_eq_true rfl) ?_
    refine js_iload_n (n := 32) X (dg dc_R_flaws 18 rfl) rfl rfl rfl ?_
    exact js_retI X (dg dc_R_flaws 19 rfl) rfl (Nat.le_of_ble_eq_true rfl) (Nat.le_of_ble_eq_true rfl) rfl
  refine js_aload_n (n := 16) X (dg dc_R_flaws 8 rfl) rfl rfl rfl ?_
  refine js_iconst (n := 17) 1 X (dg dc_R_flaws 9 rfl) rfl (by decide) ?_
  refine js_callV (na := 1) (ci := 6) (n := 20) X (dg dc_R_flaws 10 rfl) rfl (c_R_fail_25 l Dv fu h out (0, R.2) 1) gV_R_105 rfl rfl hy_R_fail ⟨(Nat.le_of_ble_eq_true rfl), (Nat.le_of_ble_eq_true rfl)⟩ rfl ⟨(Nat.le_of_ble_eq_true rfl), (Nat.le_of_ble_eq_true rfl)⟩ rfl rfl rfl rfl rfl ?_
  rintro ⟨r17, R_17⟩
  exact js_retI X (dg dc_R_flaws 11 rfl) rfl (Nat.le_of_ble_eq_true rfl) (Nat.le_of_ble_eq_true rfl) rfl
set_option maxRecDepth 100000 in
set_option maxHeartbeats 4000000 in
theorem jl_R_twoParts_25_L38 (l : Launch) (Dv : va_G) (fu : Nat) (h : S_H) (out : Nat → Int64) (κ : ev_ka) (X : ev_X l Dv gaX mu_R_twoParts κ) (R : S_R) (v1 : Int32) : ev_J l Dv gaX mu_R_twoParts κ 38 0 0 [some (.ref 25), some (.int v1)] [] (hpW h R out) (f_R_twoParts_L38 fu R v1) (fun q => (some (.int q), hpW h R out)) := by
  unfold f_R_twoParts_L38
  refine js_aload_n (n := 39) X (dg dc_R_twoParts 22 rfl) rfl rfl rfl ?_
  refine js_getf (j := 2) (v := .ref 27) (n := 42) X (dg dc_R_twoParts 23 rfl) rfl hC_R (Nat.le_of_ble_eq_true rfl) hw_138 rfl rfl ?_
  refine js_iload_n (n := 43) X (dg dc_R_twoParts 24 rfl) rfl rfl rfl ?_
  refine js_iaload (f := R.2.2.1) (n := 44) X (dg dc_R_twoParts 25 rfl) rfl rfl ?_
  refine js_bipush (n := 46) 6 X (dg dc_R_twoParts 26 rfl) rfl (by decide) ?_
  refine js_icmp_ne (t := 62) (n := 49) X (dg dc_R_twoParts 27 rfl) (by decide) rfl ?_ ?_
  · refine js_iconst (n := 63) 0 X (dg dc_R_twoParts 35 rfl) rfl (by decide) ?_
    exact js_retZ X (dg dc_R_twoParts 36 rfl) rfl (Nat.le_of_ble_eq_true rfl) (Nat.le_of_ble_eq_true rfl) rfl
  refine js_aload_n (n := 50) X (dg dc_R_twoParts 28 rfl) rfl rfl rfl ?_
  refine js_getf (j := 7) (v := .int R.2.2.2.2.2.2.2.1) (n := 53) X (dg dc_R_twoParts 29 rfl) rfl hC_R (Nat.le_of_ble_eq_true rfl) hw_214 rfl rfl ?_
  refine js_iconst (n := 54) 4 X (dg dc_R_twoParts 30 rfl) rfl (by decide) ?_
  refine js_iand (n := 55) X (dg dc_R_twoParts 31 rfl) rfl ?_
  refine js_if_eq (t := 62) (n := 58) X (dg dc_R_twoParts 32 rfl) (by decide) rfl ?_ ?_
  · refine js_iconst (n := 63) 0 X (dg dc_R_twoParts 35 rfl) rfl (by decide) ?_
    exact js_retZ X (dg dc_R_twoParts 36 rfl) rfl (Nat.le_of_ble_eq_true rfl) (Nat.le_of_ble_eq_true rfl) rfl
  refine js_iconst (n := 59) 1 X (dg dc_R_twoParts 33 rfl) rfl (by decide) ?_
  refine js_goto (t := 63) X (dg dc_R_twoParts 34 rfl) (by decide) ?_
  exact js_retZ X (dg dc_R_twoParts 36 rfl) rfl (Nat.le_of_ble_eq_true rfl) (Nat.le_of_ble_eq_true rfl) rfl
set_option maxRecDepth 100000 in
set_option maxHeartbeats 4000000 in
theorem jl_R_twoParts_25_L19 (l : Launch) (Dv : va_G) (fu : Nat) (h : S_H) (out : Nat → Int64) (κ : ev_ka) (X : ev_X l Dv gaX mu_R_twoParts κ) (R : S_R) (v1 : Int32) : ev_J l Dv gaX mu_R_twoParts κ 19 0 0 [some (.ref 25), some (.int v1)] [] (hpW h R out) (f_R_twoParts_L19 fu R v1) (fun q => (some (.int q), hpW h R out)) := by
  unfold f_R_twoParts_L19
  refine js_aload_n (n := 20) X (dg dc_R_twoParts 11 rfl) rfl rfl rfl ?_
  refine js_getf (j := 2) (v := .ref 27) (n := 23) X (dg dc_R_twoParts 12 rfl) rfl hC_R (Nat.le_of_ble_eq_true rfl) hw_138 rfl rfl ?_
  refine js_iload_n (n := 24) X (dg dc_R_twoParts 13 rfl) rfl rfl rfl ?_
  refine js_iaload (f := R.2.2.1) (n := 25) X (dg dc_R_twoParts 14 rfl) rfl rfl ?_
  refine js_iconst (n := 26) 5 X (dg dc_R_twoParts 15 rfl) rfl (by decide) ?_
  refine js_icmp_ne (t := 38) (n := 29) X (dg dc_R_twoParts 16 rfl) (by decide) rfl ?_ ?_
  · exact js_keep [true, true] (jl_R_twoParts_25_L38 l Dv fu h out κ X R v1)
  refine js_aload_n (n := 30) X (dg dc_R_twoParts 17 rfl) rfl rfl rfl ?_
  refine js_getf (j := 7) (v := .int R.2.2.2.2.2.2.2.1) (n := 33) X (dg dc_R_twoParts 18 rfl) rfl hC_R (Nat.le_of_ble_eq_true rfl) hw_214 rfl rfl ?_
  refine js_iconst (n := 34) 2 X (dg dc_R_twoParts 19 rfl) rfl (by decide) ?_
  refine js_iand (n := 35) X (dg dc_R_twoParts 20 rfl) rfl ?_
  refine js_if_ne (t := 58) (n := 38) X (dg dc_R_twoParts 21 rfl) (by decide) rfl ?_ ?_
  · refine js_iconst (n := 59) 1 X (dg dc_R_twoParts 33 rfl) rfl (by decide) ?_
    refine js_goto (t := 63) X (dg dc_R_twoParts 34 rfl) (by decide) ?_
    exact js_retZ X (dg dc_R_twoParts 36 rfl) rfl (Nat.le_of_ble_eq_true rfl) (Nat.le_of_ble_eq_true rfl) rfl
  exact js_keep [true, true] (jl_R_twoParts_25_L38 l Dv fu h out κ X R v1)
set_option maxRecDepth 100000 in
set_option maxHeartbeats 4000000 in
theorem c_R_twoParts_25 (l : Launch) (Dv : va_G) (fu : Nat) (h : S_H) (out : Nat → Int64) (R : S_R) (a1 : Int32) : ev_M l Dv gaX mu_R_twoParts [.ref 25, .int a1] (hpW h R out) (f_R_twoParts fu R a1) (fun q => (some (.int q), hpW h R out)) := by
  refine ev_met (lo0 := [some (.ref 25), some (.int a1)]) rfl rfl rfl (fun κ X => ?_)
  unfold f_R_twoParts
  refine js_aload_n (n := 1) X (dg dc_R_twoParts 0 rfl) rfl rfl rfl ?_
  refine js_getf (j := 2) (v := .ref 27) (n := 4) X (dg dc_R_twoParts 1 rfl) rfl hC_R (Nat.le_of_ble_eq_true rfl) hw_138 rfl rfl ?_
  refine js_iload_n (n := 5) X (dg dc_R_twoParts 2 rfl) rfl rfl rfl ?_
  refine js_iaload (f := R.2.2.1) (n := 6) X (dg dc_R_twoParts 3 rfl) rfl rfl ?_
  refine js_iconst (n := 7) 4 X (dg dc_R_twoParts 4 rfl) rfl (by decide) ?_
  refine js_icmp_ne (t := 19) (n := 10) X (dg dc_R_twoParts 5 rfl) (by decide) rfl ?_ ?_
  · exact js_keep [true, true] (jl_R_twoParts_25_L19 l Dv fu h out κ X R a1)
  refine js_aload_n (n := 11) X (dg dc_R_twoParts 6 rfl) rfl rfl rfl ?_
  refine js_getf (j := 7) (v := .int R.2.2.2.2.2.2.2.1) (n := 14) X (dg dc_R_twoParts 7 rfl) rfl hC_R (Nat.le_of_ble_eq_true rfl) hw_214 rfl rfl ?_
  refine js_iconst (n := 15) 1 X (dg dc_R_twoParts 8 rfl) rfl (by decide) ?_
  refine js_iand (n := 16) X (dg dc_R_twoParts 9 rfl) rfl ?_
  refine js_if_ne (t := 58) (n := 19) X (dg dc_R_twoParts 10 rfl) (by decide) rfl ?_ ?_
  · refine js_iconst (n := 59) 1 X (dg dc_R_twoParts 33 rfl) rfl (by decide) ?_
    refine js_goto (t := 63) X (dg dc_R_twoParts 34 rfl) (by decide) ?_
    exact js_retZ X (dg dc_R_twoParts 36 rfl) rfl (Nat.le_of_ble_eq_true rfl) (Nat.le_of_ble_eq_true rfl) rfl
  exact js_keep [true, true] (jl_R_twoParts_25_L19 l Dv fu h out κ X R a1)
set_option maxRecDepth 100000 in
set_option maxHeartbeats 4000000 in
theorem c_R_isLate_25 (l : Launch) (Dv : va_G) (fu : Nat) (h : S_H) (out : Nat → Int64) (R : S_R) (a1 : Int32) : ev_M l Dv gaX mu_R_isLate [.ref 25, .int a1] (hpW h R out) (f_R_isLate fu R a1) (fun q => (some (.int q), hpW h R out)) := by
  refine ev_met (lo0 := [some (.ref 25), some (.int a1)]) rfl rfl rfl (fun κ X => ?_)
  unfold f_R_isLate
  refine js_aload_n (n := 1) X (dg dc_R_isLate 0 rfl) rfl rfl rfl ?_
  refine js_getf (j := 2) (v := .ref 27) (n := 4) X (dg dc_R_isLate 1 rfl) rfl hC_R (Nat.le_of_ble_eq_true rfl) hw_138 rfl rfl ?_
  refine js_iload_n (n := 5) X (dg dc_R_isLate 2 rfl) rfl rfl rfl ?_
  refine js_iaload (f := R.2.2.1) (n := 6) X (dg dc_R_isLate 3 rfl) rfl rfl ?_
  refine js_iconst (n := 7) 3 X (dg dc_R_isLate 4 rfl) rfl (by decide) ?_
  refine js_icmp_ne (t := 24) (n := 10) X (dg dc_R_isLate 5 rfl) (by decide) rfl ?_ ?_
  · refine js_iconst (n := 25) 0 X (dg dc_R_isLate 13 rfl) rfl (by decide) ?_
    exact js_retZ X (dg dc_R_isLate 14 rfl) rfl (Nat.le_of_ble_eq_true rfl) (Nat.le_of_ble_eq_true rfl) rfl
  refine js_aload_n (n := 11) X (dg dc_R_isLate 6 rfl) rfl rfl rfl ?_
  refine js_getf (j := 7) (v := .int R.2.2.2.2.2.2.2.1) (n := 14) X (dg dc_R_isLate 7 rfl) rfl hC_R (Nat.le_of_ble_eq_true rfl) hw_214 rfl rfl ?_
  refine js_bipush (n := 16) 8 X (dg dc_R_isLate 8 rfl) rfl (by decide) ?_
  refine js_iand (n := 17) X (dg dc_R_isLate 9 rfl) rfl ?_
  refine js_if_eq (t := 24) (n := 20) X (dg dc_R_isLate 10 rfl) (by decide) rfl ?_ ?_
  · refine js_iconst (n := 25) 0 X (dg dc_R_isLate 13 rfl) rfl (by decide) ?_
    exact js_retZ X (dg dc_R_isLate 14 rfl) rfl (Nat.le_of_ble_eq_true rfl) (Nat.le_of_ble_eq_true rfl) rfl
  refine js_iconst (n := 21) 1 X (dg dc_R_isLate 11 rfl) rfl (by decide) ?_
  refine js_goto (t := 25) X (dg dc_R_isLate 12 rfl) (by decide) ?_
  exact js_retZ X (dg dc_R_isLate 14 rfl) rfl (Nat.le_of_ble_eq_true rfl) (Nat.le_of_ble_eq_true rfl) rfl
set_option maxRecDepth 100000 in
set_option maxHeartbeats 4000000 in
theorem c_R_source_25 (l : Launch) (Dv : va_G) (fu : Nat) (h : S_H) (out : Nat → Int64) (R : S_R) (a1 : Int32) : ev_M l Dv gaX mu_R_source [.ref 25, .int a1] (hpW h R out) (f_R_source fu R a1) (fun q => (some (.int q), hpW h R out)) := by
  refine ev_met (lo0 := [some (.ref 25), some (.int a1)]) rfl rfl rfl (fun κ X => ?_)
  unfold f_R_source
  refine js_aload_n (n := 1) X (dg dc_R_source 0 rfl) rfl rfl rfl ?_
  refine js_getf (j := 2) (v := .ref 27) (n := 4) X (dg dc_R_source 1 rfl) rfl hC_R (Nat.le_of_ble_eq_true rfl) hw_138 rfl rfl ?_
  refine js_iload_n (n := 5) X (dg dc_R_source 2 rfl) rfl rfl rfl ?_
  refine js_iaload (f := R.2.2.1) (n := 6) X (dg dc_R_source 3 rfl) rfl rfl ?_
  refine js_bipush (n := 8) 6 X (dg dc_R_source 4 rfl) rfl (by decide) ?_
  refine js_icmp_ne (t := 24) (n := 11) X (dg dc_R_source 5 rfl) (by decide) rfl ?_ ?_
  · refine js_aload_n (n := 25) X (dg dc_R_source 15 rfl) rfl rfl rfl ?_
    refine js_getf (j := 3) (v := .ref 28) (n := 28) X (dg dc_R_source 16 rfl) rfl hC_R (Nat.le_of_ble_eq_true rfl) hw_137 rfl rfl ?_
    refine js_iload_n (n := 29) X (dg dc_R_source 17 rfl) rfl rfl rfl ?_
    refine js_iaload (f := R.2.2.2.1) (n := 30) X (dg dc_R_source 18 rfl) rfl rfl ?_
    exact js_retI X (dg dc_R_source 19 rfl) rfl (Nat.le_of_ble_eq_true rfl) (Nat.le_of_ble_eq_true rfl) rfl
  refine js_aload_n (n := 12) X (dg dc_R_source 6 rfl) rfl rfl rfl ?_
  refine js_getf (j := 3) (v := .ref 28) (n := 15) X (dg dc_R_source 7 rfl) rfl hC_R (Nat.le_of_ble_eq_true rfl) hw_137 rfl rfl ?_
  refine js_iload_n (n := 16) X (dg dc_R_source 8 rfl) rfl rfl rfl ?_
  refine js_iaload (f := R.2.2.2.1) (n := 17) X (dg dc_R_source 9 rfl) rfl rfl ?_
  refine js_iconst (n := 18) 1 X (dg dc_R_source 10 rfl) rfl (by decide) ?_
  refine js_iadd (n := 19) X (dg dc_R_source 11 rfl) rfl ?_
  refine js_iconst (n := 20) 3 X (dg dc_R_source 12 rfl) rfl (by decide) ?_
  refine js_irem (n := 21) X (dg dc_R_source 13 rfl) rfl ?_
  refine js_goto (t := 30) X (dg dc_R_source 14 rfl) (by decide) ?_
  exact js_retI X (dg dc_R_source 19 rfl) rfl (Nat.le_of_ble_eq_true rfl) (Nat.le_of_ble_eq_true rfl) rfl
set_option maxRecDepth 100000 in
set_option maxHeartbeats 4000000 in
theorem jl_R_does_25_L236 (l : Launch) (Dv : va_G) (fu : Nat) (h : S_H) (out : Nat → Int64) (κ : ev_ka) (X : ev_X l Dv gaX mu_R_does κ) (R : S_R) (v1 : Int32) (v2 : Int32) (v4 : Int32) : ev_J l Dv gaX mu_R_does κ 236 0 0 [some (.ref 25), some (.int v1), some (.int v2), none, some (.int v4)] [] (hpW h R out) (f_R_does_L236 fu R v1 v2 v4) (fun q => (none, hpW h q out)) := by
  unfold f_R_does_L236
  refine js_aload_n (n := 237) X (dg dc_R_does 143 rfl) rfl rfl rfl ?_
  refine js_getf (j := 2) (v := .ref 27) (n := 240) X (dg dc_R_does 144 rfl) rfl hC_R (Nat.le_of_ble_eq_true rfl) hw_138 rfl rfl ?_
  refine js_iload_n (n := 241) X (dg dc_R_does 145 rfl) rfl rfl rfl ?_
  refine js_iaload (f := R.2.2.1) (n := 242) X (dg dc_R_does 146 rfl) rfl rfl ?_
  refine js_bipush (n := 244) 6 X (dg dc_R_does 147 rfl) rfl (by decide) ?_
  refine js_icmp_ne (t := 255) (n := 247) X (dg dc_R_does 148 rfl) (by decide) rfl ?_ ?_
  · exact js_retV X (dg dc_R_does 154 rfl) rfl (Nat.le_of_ble_eq_true rfl) (Nat.le_of_ble_eq_true rfl) rfl
  refine js_aload_n (n := 248) X (dg dc_R_does 149 rfl) rfl rfl rfl ?_
  refine js_getf (j := 11) (v := .ref 34) (n := 251) X (dg dc_R_does 150 rfl) rfl hC_R (Nat.le_of_ble_eq_true rfl) hw_218 rfl rfl ?_
  refine js_iload_n (n := 252) X (dg dc_R_does 151 rfl) rfl rfl rfl ?_
  refine js_iload (n := 254) X (dg dc_R_does 152 rfl) rfl rfl ?_
  refine js_iastore (f := R.2.2.2.2.2.2.2.2.2.2.2.1) (n := 255) X (dg dc_R_does 153 rfl) rfl rfl ?_
  exact js_retV X (dg dc_R_does 154 rfl) rfl (Nat.le_of_ble_eq_true rfl) (Nat.le_of_ble_eq_true rfl) rfl
set_option maxRecDepth 100000 in
set_option maxHeartbeats 4000000 in
theorem jl_R_does_25_L213 (l : Launch) (Dv : va_G) (fu : Nat) (h : S_H) (out : Nat → Int64) (κ : ev_ka) (X : ev_X l Dv gaX mu_R_does κ) (R : S_R) (v1 : Int32) (v2 : Int32) (v3 : Int32) (v4 : Int32) : ev_J l Dv gaX mu_R_does κ 213 0 0 [some (.ref 25), some (.int v1), some (.int v2), some (.int v3), some (.int v4)] [] (hpW h R out) (f_R_does_L213 fu R v1 v2 v3 v4) (fun q => (none, hpW h q out)) := by
  unfold f_R_does_L213
  refine js_aload_n (n := 214) X (dg dc_R_does 128 rfl) rfl rfl rfl ?_
  refine js_getf (j := 2) (v := .ref 27) (n := 217) X (dg dc_R_does 129 rfl) rfl hC_R (Nat.le_of_ble_eq_true rfl) hw_138 rfl rfl ?_
  refine js_iload_n (n := 218) X (dg dc_R_does 130 rfl) rfl rfl rfl ?_
  refine js_iaload (f := R.2.2.1) (n := 219) X (dg dc_R_does 131 rfl) rfl rfl ?_
  refine js_iconst (n := 220) 4 X (dg dc_R_does 132 rfl) rfl (by decide) ?_
  refine js_icmp_ne (t := 236) (n := 223) X (dg dc_R_does 133 rfl) (by decide) rfl ?_ ?_
  · exact js_keep [true, true, true, false, true] (jl_R_does_25_L236 l Dv fu h out κ X R v1 v2 v4)
  refine js_aload_n (n := 224) X (dg dc_R_does 134 rfl) rfl rfl rfl ?_
  refine js_getf (j := 11) (v := .ref 34) (n := 227) X (dg dc_R_does 135 rfl) rfl hC_R (Nat.le_of_ble_eq_true rfl) hw_218 rfl rfl ?_
  refine js_iload_n (n := 228) X (dg dc_R_does 136 rfl) rfl rfl rfl ?_
  refine js_iload (n := 230) X (dg dc_R_does 137 rfl) rfl rfl ?_
  refine js_iload_n (n := 231) X (dg dc_R_does 138 rfl) rfl rfl rfl ?_
  refine js_iadd (n := 232) X (dg dc_R_does 139 rfl) rfl ?_
  refine js_bipush (n := 234) 8 X (dg dc_R_does 140 rfl) rfl (by decide) ?_
  refine js_irem (n := 235) X (dg dc_R_does 141 rfl) rfl ?_
  refine js_iastore (f := R.2.2.2.2.2.2.2.2.2.2.2.1) (n := 236) X (dg dc_R_does 142 rfl) rfl rfl ?_
  exact js_keep [true, true, true, false, true] (jl_R_does_25_L236 l Dv fu h out κ X (R.1, R.2.1, R.2.2.1, R.2.2.2.1, R.2.2.2.2.1, R.2.2.2.2.2.1, R.2.2.2.2.2.2.1, R.2.2.2.2.2.2.2.1, R.2.2.2.2.2.2.2.2.1, R.2.2.2.2.2.2.2.2.2.1, R.2.2.2.2.2.2.2.2.2.2.1, (upd R.2.2.2.2.2.2.2.2.2.2.2.1 (ix v2) ((v4 + v3) - (v4 + v3) / 8 * 8)), R.2.2.2.2.2.2.2.2.2.2.2.2) v1 v2 v4)
set_option maxRecDepth 100000 in
set_option maxHeartbeats 4000000 in
theorem jl_R_does_25_L196 (l : Launch) (Dv : va_G) (fu : Nat) (h : S_H) (out : Nat → Int64) (κ : ev_ka) (X : ev_X l Dv gaX mu_R_does κ) (R : S_R) (v1 : Int32) (v2 : Int32) (v3 : Int32) (v4 : Int32) : ev_J l Dv gaX mu_R_does κ 196 0 0 [some (.ref 25), some (.int v1), some (.int v2), some (.int v3), some (.int v4)] [] (hpW h R out) (f_R_does_L196 fu R v1 v2 v3 v4) (fun q => (none, hpW h q out)) := by
  unfold f_R_does_L196
  refine js_aload_n (n := 197) X (dg dc_R_does 117 rfl) rfl rfl rfl ?_
  refine js_getf (j := 2) (v := .ref 27) (n := 200) X (dg dc_R_does 118 rfl) rfl hC_R (Nat.le_of_ble_eq_true rfl) hw_138 rfl rfl ?_
  refine js_iload_n (n := 201) X (dg dc_R_does 119 rfl) rfl rfl rfl ?_
  refine js_iaload (f := R.2.2.1) (n := 202) X (dg dc_R_does 120 rfl) rfl rfl ?_
  refine js_iconst (n := 203) 1 X (dg dc_R_does 121 rfl) rfl (by decide) ?_
  refine js_icmp_ne (t := 213) (n := 206) X (dg dc_R_does 122 rfl) (by decide) rfl ?_ ?_
  · exact js_keep [true, true, true, true, true] (jl_R_does_25_L213 l Dv fu h out κ X R v1 v2 v3 v4)
  refine js_aload_n (n := 207) X (dg dc_R_does 123 rfl) rfl rfl rfl ?_
  refine js_getf (j := 11) (v := .ref 34) (n := 210) X (dg dc_R_does 124 rfl) rfl hC_R (Nat.le_of_ble_eq_true rfl) hw_218 rfl rfl ?_
  refine js_iload_n (n := 211) X (dg dc_R_does 125 rfl) rfl rfl rfl ?_
  refine js_iconst (n := 212) 0 X (dg dc_R_does 126 rfl) rfl (by decide) ?_
  refine js_iastore (f := R.2.2.2.2.2.2.2.2.2.2.2.1) (n := 213) X (dg dc_R_does 127 rfl) rfl rfl ?_
  exact js_keep [true, true, true, true, true] (jl_R_does_25_L213 l Dv fu h out κ X (R.1, R.2.1, R.2.2.1, R.2.2.2.1, R.2.2.2.2.1, R.2.2.2.2.2.1, R.2.2.2.2.2.2.1, R.2.2.2.2.2.2.2.1, R.2.2.2.2.2.2.2.2.1, R.2.2.2.2.2.2.2.2.2.1, R.2.2.2.2.2.2.2.2.2.2.1, (upd R.2.2.2.2.2.2.2.2.2.2.2.1 (ix v2) 0), R.2.2.2.2.2.2.2.2.2.2.2.2) v1 v2 v3 v4)
set_option maxRecDepth 100000 in
set_option maxHeartbeats 4000000 in
theorem jl_R_does_25_L151 (l : Launch) (Dv : va_G) (fu : Nat) (h : S_H) (out : Nat → Int64) (κ : ev_ka) (X : ev_X l Dv gaX mu_R_does κ) (R : S_R) (v1 : Int32) (v2 : Int32) (v3 : Int32) (v4 : Int32) (s1 : Int32) (s2 : Int32) : ev_J l Dv gaX mu_R_does κ 151 0 0 [some (.ref 25), some (.int v1), some (.int v2), some (.int v3), some (.int v4)] [.int s2, .int s1, .ref 35] (hpW h R out) (f_R_does_L151 fu R v1 v2 v3 v4 s1 s2) (fun q => (none, hpW h q out)) := by
  unfold f_R_does_L151
  refine js_bastore (f := R.2.2.2.2.2.2.2.2.2.2.2.2.1) (n := 152) X (dg dc_R_does 90 rfl) rfl rfl ?_
  refine js_aload_n (n := 153) X (dg dc_R_does 91 rfl) rfl rfl rfl ?_
  refine js_getf (j := 2) (v := .ref 27) (n := 156) X (dg dc_R_does 92 rfl) rfl hC_R (Nat.le_of_ble_eq_true rfl) hw_138 rfl rfl ?_
  refine js_iload_n (n := 157) X (dg dc_R_does 93 rfl) rfl rfl rfl ?_
  refine js_iaload (f := R.2.2.1) (n := 158) X (dg dc_R_does 94 rfl) rfl rfl ?_
  refine js_if_eq (t := 189) (n := 161) X (dg dc_R_does 95 rfl) (by decide) rfl ?_ ?_
  · refine js_aload_n (n := 190) X (dg dc_R_does 112 rfl) rfl rfl rfl ?_
    refine js_getf (j := 11) (v := .ref 34) (n := 193) X (dg dc_R_does 113 rfl) rfl hC_R (Nat.le_of_ble_eq_true rfl) hw_218 rfl rfl ?_
    refine js_iload_n (n := 194) X (dg dc_R_does 114 rfl) rfl rfl rfl ?_
    refine js_iload_n (n := 195) X (dg dc_R_does 115 rfl) rfl rfl rfl ?_
    refine js_iastore (f := R.2.2.2.2.2.2.2.2.2.2.2.1) (n := 196) X (dg dc_R_does 116 rfl) rfl rfl ?_
    exact js_keep [true, true, true, true, true] (jl_R_does_25_L196 l Dv fu h out κ X (R.1, R.2.1, R.2.2.1, R.2.2.2.1, R.2.2.2.2.1, R.2.2.2.2.2.1, R.2.2.2.2.2.2.1, R.2.2.2.2.2.2.2.1, R.2.2.2.2.2.2.2.2.1, R.2.2.2.2.2.2.2.2.2.1, R.2.2.2.2.2.2.2.2.2.2.1, (upd R.2.2.2.2.2.2.2.2.2.2.2.1 (ix v2) v3), (upd R.2.2.2.2.2.2.2.2.2.2.2.2.1 (ix s1) s2), R.2.2.2.2.2.2.2.2.2.2.2.2.2) v1 v2 v3 v4)
  refine js_aload_n (n := 162) X (dg dc_R_does 96 rfl) rfl rfl rfl ?_
  refine js_getf (j := 2) (v := .ref 27) (n := 165) X (dg dc_R_does 97 rfl) rfl hC_R (Nat.le_of_ble_eq_true rfl) hw_138 rfl rfl ?_
  refine js_iload_n (n := 166) X (dg dc_R_does 98 rfl) rfl rfl rfl ?_
  refine js_iaload (f := R.2.2.1) (n := 167) X (dg dc_R_does 99 rfl) rfl rfl ?_
  refine js_iconst (n := 168) 5 X (dg dc_R_does 100 rfl) rfl (by decide) ?_
  refine js_icmp_eq (t := 189) (n := 171) X (dg dc_R_does 101 rfl) (by decide) rfl ?_ ?_
  · refine js_aload_n (n := 190) X (dg dc_R_does 112 rfl) rfl rfl rfl ?_
    refine js_getf (j := 11) (v := .ref 34) (n := 193) X (dg dc_R_does 113 rfl) rfl hC_R (Nat.le_of_ble_eq_true rfl) hw_218 rfl rfl ?_
    refine js_iload_n (n := 194) X (dg dc_R_does 114 rfl) rfl rfl rfl ?_
    refine js_iload_n (n := 195) X (dg dc_R_does 115 rfl) rfl rfl rfl ?_
    refine js_iastore (f := R.2.2.2.2.2.2.2.2.2.2.2.1) (n := 196) X (dg dc_R_does 116 rfl) rfl rfl ?_
    exact js_keep [true, true, true, true, true] (jl_R_does_25_L196 l Dv fu h out κ X (R.1, R.2.1, R.2.2.1, R.2.2.2.1, R.2.2.2.2.1, R.2.2.2.2.2.1, R.2.2.2.2.2.2.1, R.2.2.2.2.2.2.2.1, R.2.2.2.2.2.2.2.2.1, R.2.2.2.2.2.2.2.2.2.1, R.2.2.2.2.2.2.2.2.2.2.1, (upd R.2.2.2.2.2.2.2.2.2.2.2.1 (ix v2) v3), (upd R.2.2.2.2.2.2.2.2.2.2.2.2.1 (ix s1) s2), R.2.2.2.2.2.2.2.2.2.2.2.2.2) v1 v2 v3 v4)
  refine js_aload_n (n := 172) X (dg dc_R_does 102 rfl) rfl rfl rfl ?_
  refine js_getf (j := 2) (v := .ref 27) (n := 175) X (dg dc_R_does 103 rfl) rfl hC_R (Nat.le_of_ble_eq_true rfl) hw_138 rfl rfl ?_
  refine js_iload_n (n := 176) X (dg dc_R_does 104 rfl) rfl rfl rfl ?_
  refine js_iaload (f := R.2.2.1) (n := 177) X (dg dc_R_does 105 rfl) rfl rfl ?_
  refine js_iconst (n := 178) 3 X (dg dc_R_does 106 rfl) rfl (by decide) ?_
  refine js_icmp_ne (t := 196) (n := 181) X (dg dc_R_does 107 rfl) (by decide) rfl ?_ ?_
  · exact js_keep [true, true, true, true, true] (jl_R_does_25_L196 l Dv fu h out κ X (R.1, R.2.1, R.2.2.1, R.2.2.2.1, R.2.2.2.2.1, R.2.2.2.2.2.1, R.2.2.2.2.2.2.1, R.2.2.2.2.2.2.2.1, R.2.2.2.2.2.2.2.2.1, R.2.2.2.2.2.2.2.2.2.1, R.2.2.2.2.2.2.2.2.2.2.1, R.2.2.2.2.2.2.2.2.2.2.2.1, (upd R.2.2.2.2.2.2.2.2.2.2.2.2.1 (ix s1) s2), R.2.2.2.2.2.2.2.2.2.2.2.2.2) v1 v2 v3 v4)
  refine js_aload_n (n := 182) X (dg dc_R_does 108 rfl) rfl rfl rfl ?_
  refine js_iload_n (n := 183) X (dg dc_R_does 109 rfl) rfl rfl rfl ?_
  refine js_callV (na := 1) (ci := 6) (n := 186) X (dg dc_R_does 110 rfl) rfl (c_R_isLate_25 l Dv fu h out (R.1, R.2.1, R.2.2.1, R.2.2.2.1, R.2.2.2.2.1, R.2.2.2.2.2.1, R.2.2.2.2.2.2.1, R.2.2.2.2.2.2.2.1, R.2.2.2.2.2.2.2.2.1, R.2.2.2.2.2.2.2.2.2.1, R.2.2.2.2.2.2.2.2.2.2.1, R.2.2.2.2.2.2.2.2.2.2.2.1, (upd R.2.2.2.2.2.2.2.2.2.2.2.2.1 (ix s1) s2), R.2.2.2.2.2.2.2.2.2.2.2.2.2) v1) gV_R_151 rfl rfl hy_R_isLate ⟨(Nat.le_of_ble_eq_true rfl), (Nat.le_of_ble_eq_true rfl)⟩ rfl ⟨(Nat.le_of_ble_eq_true rfl), (Nat.le_of_ble_eq_true rfl)⟩ rfl rfl rfl rfl rfl ?_
  intro r183
  refine js_if_ne (t := 196) (n := 189) X (dg dc_R_does 111 rfl) (by decide) rfl ?_ ?_
  · exact js_keep [true, true, true, true, true] (jl_R_does_25_L196 l Dv fu h out κ X (R.1, R.2.1, R.2.2.1, R.2.2.2.1, R.2.2.2.2.1, R.2.2.2.2.2.1, R.2.2.2.2.2.2.1, R.2.2.2.2.2.2.2.1, R.2.2.2.2.2.2.2.2.1, R.2.2.2.2.2.2.2.2.2.1, R.2.2.2.2.2.2.2.2.2.2.1, R.2.2.2.2.2.2.2.2.2.2.2.1, (upd R.2.2.2.2.2.2.2.2.2.2.2.2.1 (ix s1) s2), R.2.2.2.2.2.2.2.2.2.2.2.2.2) v1 v2 v3 v4)
  refine js_aload_n (n := 190) X (dg dc_R_does 112 rfl) rfl rfl rfl ?_
  refine js_getf (j := 11) (v := .ref 34) (n := 193) X (dg dc_R_does 113 rfl) rfl hC_R (Nat.le_of_ble_eq_true rfl) hw_218 rfl rfl ?_
  refine js_iload_n (n := 194) X (dg dc_R_does 114 rfl) rfl rfl rfl ?_
  refine js_iload_n (n := 195) X (dg dc_R_does 115 rfl) rfl rfl rfl ?_
  refine js_iastore (f := R.2.2.2.2.2.2.2.2.2.2.2.1) (n := 196) X (dg dc_R_does 116 rfl) rfl rfl ?_
  exact js_keep [true, true, true, true, true] (jl_R_does_25_L196 l Dv fu h out κ X (R.1, R.2.1, R.2.2.1, R.2.2.2.1, R.2.2.2.2.1, R.2.2.2.2.2.1, R.2.2.2.2.2.2.1, R.2.2.2.2.2.2.2.1, R.2.2.2.2.2.2.2.2.1, R.2.2.2.2.2.2.2.2.2.1, R.2.2.2.2.2.2.2.2.2.2.1, (upd R.2.2.2.2.2.2.2.2.2.2.2.1 (ix v2) v3), (upd R.2.2.2.2.2.2.2.2.2.2.2.2.1 (ix s1) s2), R.2.2.2.2.2.2.2.2.2.2.2.2.2) v1 v2 v3 v4)
set_option maxRecDepth 100000 in
set_option maxHeartbeats 4000000 in
theorem jl_R_does_25_L112 (l : Launch) (Dv : va_G) (fu : Nat) (h : S_H) (out : Nat → Int64) (κ : ev_ka) (X : ev_X l Dv gaX mu_R_does κ) (R : S_R) (v1 : Int32) (v2 : Int32) (v3 : Int32) (v4 : Int32) (s1 : Int32) (s2 : Int32) : ev_J l Dv gaX mu_R_does κ 112 0 0 [some (.ref 25), some (.int v1), some (.int v2), some (.int v3), some (.int v4)] [.int s2, .int s1, .ref 36] (hpW h R out) (f_R_does_L112 fu R v1 v2 v3 v4 s1 s2) (fun q => (none, hpW h q out)) := by
  unfold f_R_does_L112
  refine js_iastore (f := R.2.2.2.2.2.2.2.2.2.2.2.2.2.2.2.1) (n := 113) X (dg dc_R_does 67 rfl) rfl rfl ?_
  refine js_aload_n (n := 114) X (dg dc_R_does 68 rfl) rfl rfl rfl ?_
  refine js_getf (j := 12) (v := .ref 35) (n := 117) X (dg dc_R_does 69 rfl) rfl hC_R (Nat.le_of_ble_eq_true rfl) hw_219 rfl rfl ?_
  refine js_iload_n (n := 118) X (dg dc_R_does 70 rfl) rfl rfl rfl ?_
  refine js_aload_n (n := 119) X (dg dc_R_does 71 rfl) rfl rfl rfl ?_
  refine js_getf (j := 2) (v := .ref 27) (n := 122) X (dg dc_R_does 72 rfl) rfl hC_R (Nat.le_of_ble_eq_true rfl) hw_138 rfl rfl ?_
  refine js_iload_n (n := 123) X (dg dc_R_does 73 rfl) rfl rfl rfl ?_
  refine js_iaload (f := R.2.2.1) (n := 124) X (dg dc_R_does 74 rfl) rfl rfl ?_
  refine js_iconst (n := 125) 1 X (dg dc_R_does 75 rfl) rfl (by decide) ?_
  refine js_icmp_eq (t := 150) (n := 128) X (dg dc_R_does 76 rfl) (by decide) rfl ?_ ?_
  · refine js_iconst (n := 151) 0 X (dg dc_R_does 89 rfl) rfl (by decide) ?_
    exact js_keep [true, true, true, true, true] (jl_R_does_25_L151 l Dv fu h out κ X (R.1, R.2.1, R.2.2.1, R.2.2.2.1, R.2.2.2.2.1, R.2.2.2.2.2.1, R.2.2.2.2.2.2.1, R.2.2.2.2.2.2.2.1, R.2.2.2.2.2.2.2.2.1, R.2.2.2.2.2.2.2.2.2.1, R.2.2.2.2.2.2.2.2.2.2.1, R.2.2.2.2.2.2.2.2.2.2.2.1, R.2.2.2.2.2.2.2.2.2.2.2.2.1, R.2.2.2.2.2.2.2.2.2.2.2.2.2.1, R.2.2.2.2.2.2.2.2.2.2.2.2.2.2.1, (upd R.2.2.2.2.2.2.2.2.2.2.2.2.2.2.2.1 (ix s1) s2), R.2.2.2.2.2.2.2.2.2.2.2.2.2.2.2.2) v1 v2 v3 v4 v2 0)
  refine js_aload_n (n := 129) X (dg dc_R_does 77 rfl) rfl rfl rfl ?_
  refine js_getf (j := 2) (v := .ref 27) (n := 132) X (dg dc_R_does 78 rfl) rfl hC_R (Nat.le_of_ble_eq_true rfl) hw_138 rfl rfl ?_
  refine js_iload_n (n := 133) X (dg dc_R_does 79 rfl) rfl rfl rfl ?_
  refine js_iaload (f := R.2.2.1) (n := 134) X (dg dc_R_does 80 rfl) rfl rfl ?_
  refine js_if_eq (t := 146) (n := 137) X (dg dc_R_does 81 rfl) (by decide) rfl ?_ ?_
  · refine js_iconst (n := 147) 1 X (dg dc_R_does 87 rfl) rfl (by decide) ?_
    refine js_goto (t := 151) X (dg dc_R_does 88 rfl) (by decide) ?_
    exact js_keep [true, true, true, true, true] (jl_R_does_25_L151 l Dv fu h out κ X (R.1, R.2.1, R.2.2.1, R.2.2.2.1, R.2.2.2.2.1, R.2.2.2.2.2.1, R.2.2.2.2.2.2.1, R.2.2.2.2.2.2.2.1, R.2.2.2.2.2.2.2.2.1, R.2.2.2.2.2.2.2.2.2.1, R.2.2.2.2.2.2.2.2.2.2.1, R.2.2.2.2.2.2.2.2.2.2.2.1, R.2.2.2.2.2.2.2.2.2.2.2.2.1, R.2.2.2.2.2.2.2.2.2.2.2.2.2.1, R.2.2.2.2.2.2.2.2.2.2.2.2.2.2.1, (upd R.2.2.2.2.2.2.2.2.2.2.2.2.2.2.2.1 (ix s1) s2), R.2.2.2.2.2.2.2.2.2.2.2.2.2.2.2.2) v1 v2 v3 v4 v2 1)
  refine js_aload_n (n := 138) X (dg dc_R_does 82 rfl) rfl rfl rfl ?_
  refine js_getf (j := 12) (v := .ref 35) (n := 141) X (dg dc_R_does 83 rfl) rfl hC_R (Nat.le_of_ble_eq_true rfl) hw_219 rfl rfl ?_
  refine js_iload_n (n := 142) X (dg dc_R_does 84 rfl) rfl rfl rfl ?_
  refine js_baload (f := R.2.2.2.2.2.2.2.2.2.2.2.2.1) (n := 143) X (dg dc_R_does 85 rfl) rfl rfl ?_
  refine js_if_eq (t := 150) (n := 146) X (dg dc_R_does 86 rfl) (by decide) rfl ?_ ?_
  · refine js_iconst (n := 151) 0 X (dg dc_R_does 89 rfl) rfl (by decide) ?_
    exact js_keep [true, true, true, true, true] (jl_R_does_25_L151 l Dv fu h out κ X (R.1, R.2.1, R.2.2.1, R.2.2.2.1, R.2.2.2.2.1, R.2.2.2.2.2.1, R.2.2.2.2.2.2.1, R.2.2.2.2.2.2.2.1, R.2.2.2.2.2.2.2.2.1, R.2.2.2.2.2.2.2.2.2.1, R.2.2.2.2.2.2.2.2.2.2.1, R.2.2.2.2.2.2.2.2.2.2.2.1, R.2.2.2.2.2.2.2.2.2.2.2.2.1, R.2.2.2.2.2.2.2.2.2.2.2.2.2.1, R.2.2.2.2.2.2.2.2.2.2.2.2.2.2.1, (upd R.2.2.2.2.2.2.2.2.2.2.2.2.2.2.2.1 (ix s1) s2), R.2.2.2.2.2.2.2.2.2.2.2.2.2.2.2.2) v1 v2 v3 v4 v2 0)
  refine js_iconst (n := 147) 1 X (dg dc_R_does 87 rfl) rfl (by decide) ?_
  refine js_goto (t := 151) X (dg dc_R_does 88 rfl) (by decide) ?_
  exact js_keep [true, true, true, true, true] (jl_R_does_25_L151 l Dv fu h out κ X (R.1, R.2.1, R.2.2.1, R.2.2.2.1, R.2.2.2.2.1, R.2.2.2.2.2.1, R.2.2.2.2.2.2.1, R.2.2.2.2.2.2.2.1, R.2.2.2.2.2.2.2.2.1, R.2.2.2.2.2.2.2.2.2.1, R.2.2.2.2.2.2.2.2.2.2.1, R.2.2.2.2.2.2.2.2.2.2.2.1, R.2.2.2.2.2.2.2.2.2.2.2.2.1, R.2.2.2.2.2.2.2.2.2.2.2.2.2.1, R.2.2.2.2.2.2.2.2.2.2.2.2.2.2.1, (upd R.2.2.2.2.2.2.2.2.2.2.2.2.2.2.2.1 (ix s1) s2), R.2.2.2.2.2.2.2.2.2.2.2.2.2.2.2.2) v1 v2 v3 v4 v2 1)
set_option maxRecDepth 100000 in
set_option maxHeartbeats 4000000 in
theorem c_R_does_25 (l : Launch) (Dv : va_G) (fu : Nat) (h : S_H) (out : Nat → Int64) (R : S_R) (a1 : Int32) : ev_M l Dv gaX mu_R_does [.ref 25, .int a1] (hpW h R out) (f_R_does fu R a1) (fun q => (none, hpW h q out)) := by
  refine ev_met (lo0 := [some (.ref 25), some (.int a1), none, none, none]) rfl rfl rfl (fun κ X => ?_)
  unfold f_R_does
  refine js_aload_n (n := 1) X (dg dc_R_does 0 rfl) rfl rfl rfl ?_
  refine js_getf (j := 3) (v := .ref 28) (n := 4) X (dg dc_R_does 1 rfl) rfl hC_R (Nat.le_of_ble_eq_true rfl) hw_137 rfl rfl ?_
  refine js_iload_n (n := 5) X (dg dc_R_does 2 rfl) rfl rfl rfl ?_
  refine js_iaload (f := R.2.2.2.1) (n := 6) X (dg dc_R_does 3 rfl) rfl rfl ?_
  refine js_istore_n (lo' := [some (.ref 25), some (.int a1), some (.int (R.2.2.2.1 (ix a1))), none, none]) (n := 7) X (dg dc_R_does 4 rfl) rfl rfl (Nat.le_of_ble_eq_true rfl) rfl ?_
  refine js_aload_n (n := 8) X (dg dc_R_does 5 rfl) rfl rfl rfl ?_
  refine js_getf (j := 16) (v := .ref 37) (n := 11) X (dg dc_R_does 6 rfl) rfl hC_R (Nat.le_of_ble_eq_true rfl) hw_215 rfl rfl ?_
  refine js_iload_n (n := 12) X (dg dc_R_does 7 rfl) rfl rfl rfl ?_
  refine js_iaload (f := R.2.2.2.2.2.2.2.2.2.2.2.2.2.2.2.2.1) (n := 13) X (dg dc_R_does 8 rfl) rfl rfl ?_
  refine js_istore_n (lo' := [some (.ref 25), some (.int a1), some (.int (R.2.2.2.1 (ix a1))), some (.int (R.2.2.2.2.2.2.2.2.2.2.2.2.2.2.2.2.1 (ix a1))), none]) (n := 14) X (dg dc_R_does 9 rfl) rfl rfl (Nat.le_of_ble_eq_true rfl) rfl ?_
  refine js_aload_n (n := 15) X (dg dc_R_does 10 rfl) rfl rfl rfl ?_
  refine js_getf (j := 19) (v := .ref 40) (n := 18) X (dg dc_R_does 11 rfl) rfl hC_R (Nat.le_of_ble_eq_true rfl) hw_216 rfl rfl ?_
  refine js_iload_n (n := 19) X (dg dc_R_does 12 rfl) rfl rfl rfl ?_
  refine js_iaload (f := R.2.2.2.2.2.2.2.2.2.2.2.2.2.2.2.2.2.2.2.1) (n := 20) X (dg dc_R_does 13 rfl) rfl rfl ?_
  refine js_istore (lo' := [some (.ref 25), some (.int a1), some (.int (R.2.2.2.1 (ix a1))), some (.int (R.2.2.2.2.2.2.2.2.2.2.2.2.2.2.2.2.1 (ix a1))), some (.int (R.2.2.2.2.2.2.2.2.2.2.2.2.2.2.2.2.2.2.2.1 (ix a1)))]) (n := 22) X (dg dc_R_does 14 rfl) rfl (Nat.le_of_ble_eq_true rfl) rfl ?_
  refine js_aload_n (n := 23) X (dg dc_R_does 15 rfl) rfl rfl rfl ?_
  refine js_getf (j := 15) (v := .ref 36) (n := 26) X (dg dc_R_does 16 rfl) rfl hC_R (Nat.le_of_ble_eq_true rfl) hw_217 rfl rfl ?_
  refine js_iload_n (n := 27) X (dg dc_R_does 17 rfl) rfl rfl rfl ?_
  refine js_aload_n (n := 28) X (dg dc_R_does 18 rfl) rfl rfl rfl ?_
  refine js_getf (j := 2) (v := .ref 27) (n := 31) X (dg dc_R_does 19 rfl) rfl hC_R (Nat.le_of_ble_eq_true rfl) hw_138 rfl rfl ?_
  refine js_iload_n (n := 32) X (dg dc_R_does 20 rfl) rfl rfl rfl ?_
  refine js_iaload (f := R.2.2.1) (n := 33) X (dg dc_R_does 21 rfl) rfl rfl ?_
  refine js_iconst (n := 34) 1 X (dg dc_R_does 22 rfl) rfl (by decide) ?_
  refine js_icmp_eq (t := 47) (n := 37) X (dg dc_R_does 23 rfl) (by decide) rfl ?_ ?_
  · refine js_aload_n (n := 48) X (dg dc_R_does 30 rfl) rfl rfl rfl ?_
    refine js_getf (j := 11) (v := .ref 34) (n := 51) X (dg dc_R_does 31 rfl) rfl hC_R (Nat.le_of_ble_eq_true rfl) hw_218 rfl rfl ?_
    refine js_iload_n (n := 52) X (dg dc_R_does 32 rfl) rfl rfl rfl ?_
    refine js_iaload (f := R.2.2.2.2.2.2.2.2.2.2.2.1) (n := 53) X (dg dc_R_does 33 rfl) rfl rfl ?_
    refine js_goto (t := 112) X (dg dc_R_does 34 rfl) (by decide) ?_
    exact js_keep [true, true, true, true, true] (jl_R_does_25_L112 l Dv fu h out κ X R a1 (R.2.2.2.1 (ix a1)) (R.2.2.2.2.2.2.2.2.2.2.2.2.2.2.2.2.1 (ix a1)) (R.2.2.2.2.2.2.2.2.2.2.2.2.2.2.2.2.2.2.2.1 (ix a1)) a1 (R.2.2.2.2.2.2.2.2.2.2.2.1 (ix (R.2.2.2.1 (ix a1)))))
  refine js_aload_n (n := 38) X (dg dc_R_does 24 rfl) rfl rfl rfl ?_
  refine js_getf (j := 2) (v := .ref 27) (n := 41) X (dg dc_R_does 25 rfl) rfl hC_R (Nat.le_of_ble_eq_true rfl) hw_138 rfl rfl ?_
  refine js_iload_n (n := 42) X (dg dc_R_does 26 rfl) rfl rfl rfl ?_
  refine js_iaload (f := R.2.2.1) (n := 43) X (dg dc_R_does 27 rfl) rfl rfl ?_
  refine js_iconst (n := 44) 2 X (dg dc_R_does 28 rfl) rfl (by decide) ?_
  refine js_icmp_ne (t := 56) (n := 47) X (dg dc_R_does 29 rfl) (by decide) rfl ?_ ?_
  · refine js_aload_n (n := 57) X (dg dc_R_does 35 rfl) rfl rfl rfl ?_
    refine js_getf (j := 2) (v := .ref 27) (n := 60) X (dg dc_R_does 36 rfl) rfl hC_R (Nat.le_of_ble_eq_true rfl) hw_138 rfl rfl ?_
    refine js_iload_n (n := 61) X (dg dc_R_does 37 rfl) rfl rfl rfl ?_
    refine js_iaload (f := R.2.2.1) (n := 62) X (dg dc_R_does 38 rfl) rfl rfl ?_
    refine js_iconst (n := 63) 4 X (dg dc_R_does 39 rfl) rfl (by decide) ?_
    refine js_icmp_ne (t := 76) (n := 66) X (dg dc_R_does 40 rfl) (by decide) rfl ?_ ?_
    · refine js_aload_n (n := 77) X (dg dc_R_does 47 rfl) rfl rfl rfl ?_
      refine js_getf (j := 2) (v := .ref 27) (n := 80) X (dg dc_R_does 48 rfl) rfl hC_R (Nat.le_of_ble_eq_true rfl) hw_138 rfl rfl ?_
      refine js_iload_n (n := 81) X (dg dc_R_does 49 rfl) rfl rfl rfl ?_
      refine js_iaload (f := R.2.2.1) (n := 82) X (dg dc_R_does 50 rfl) rfl rfl ?_
      refine js_iconst (n := 83) 5 X (dg dc_R_does 51 rfl) rfl (by decide) ?_
      refine js_icmp_ne (t := 91) (n := 86) X (dg dc_R_does 52 rfl) (by decide) rfl ?_ ?_
      · refine js_aload_n (n := 92) X (dg dc_R_does 55 rfl) rfl rfl rfl ?_
        refine js_getf (j := 2) (v := .ref 27) (n := 95) X (dg dc_R_does 56 rfl) rfl hC_R (Nat.le_of_ble_eq_true rfl) hw_138 rfl rfl ?_
        refine js_iload_n (n := 96) X (dg dc_R_does 57 rfl) rfl rfl rfl ?_
        refine js_iaload (f := R.2.2.1) (n := 97) X (dg dc_R_does 58 rfl) rfl rfl ?_
        refine js_bipush (n := 99) 6 X (dg dc_R_does 59 rfl) rfl (by decide) ?_
        refine js_icmp_ne (t := 111) (n := 102) X (dg dc_R_does 60 rfl) (by decide) rfl ?_ ?_
        · refine js_iconst (n := 112) 0 X (dg dc_R_does 66 rfl) rfl (by decide) ?_
          exact js_keep [true, true, true, true, true] (jl_R_does_25_L112 l Dv fu h out κ X R a1 (R.2.2.2.1 (ix a1)) (R.2.2.2.2.2.2.2.2.2.2.2.2.2.2.2.2.1 (ix a1)) (R.2.2.2.2.2.2.2.2.2.2.2.2.2.2.2.2.2.2.2.1 (ix a1)) a1 0)
        refine js_aload_n (n := 103) X (dg dc_R_does 61 rfl) rfl rfl rfl ?_
        refine js_getf (j := 11) (v := .ref 34) (n := 106) X (dg dc_R_does 62 rfl) rfl hC_R (Nat.le_of_ble_eq_true rfl) hw_218 rfl rfl ?_
        refine js_iload_n (n := 107) X (dg dc_R_does 63 rfl) rfl rfl rfl ?_
        refine js_iaload (f := R.2.2.2.2.2.2.2.2.2.2.2.1) (n := 108) X (dg dc_R_does 64 rfl) rfl rfl ?_
        refine js_goto (t := 112) X (dg dc_R_does 65 rfl) (by decide) ?_
        exact js_keep [true, true, true, true, true] (jl_R_does_25_L112 l Dv fu h out κ X R a1 (R.2.2.2.1 (ix a1)) (R.2.2.2.2.2.2.2.2.2.2.2.2.2.2.2.2.1 (ix a1)) (R.2.2.2.2.2.2.2.2.2.2.2.2.2.2.2.2.2.2.2.1 (ix a1)) a1 (R.2.2.2.2.2.2.2.2.2.2.2.1 (ix (R.2.2.2.1 (ix a1)))))
      refine js_iload (n := 88) X (dg dc_R_does 53 rfl) rfl rfl ?_
      refine js_goto (t := 112) X (dg dc_R_does 54 rfl) (by decide) ?_
      exact js_keep [true, true, true, true, true] (jl_R_does_25_L112 l Dv fu h out κ X R a1 (R.2.2.2.1 (ix a1)) (R.2.2.2.2.2.2.2.2.2.2.2.2.2.2.2.2.1 (ix a1)) (R.2.2.2.2.2.2.2.2.2.2.2.2.2.2.2.2.2.2.2.1 (ix a1)) a1 (R.2.2.2.2.2.2.2.2.2.2.2.2.2.2.2.2.2.2.2.1 (ix a1)))
    refine js_iload (n := 68) X (dg dc_R_does 41 rfl) rfl rfl ?_
    refine js_iload_n (n := 69) X (dg dc_R_does 42 rfl) rfl rfl rfl ?_
    refine js_iadd (n := 70) X (dg dc_R_does 43 rfl) rfl ?_
    refine js_bipush (n := 72) 8 X (dg dc_R_does 44 rfl) rfl (by decide) ?_
    refine js_irem (n := 73) X (dg dc_R_does 45 rfl) rfl ?_
    refine js_goto (t := 112) X (dg dc_R_does 46 rfl) (by decide) ?_
    exact js_keep [true, true, true, true, true] (jl_R_does_25_L112 l Dv fu h out κ X R a1 (R.2.2.2.1 (ix a1)) (R.2.2.2.2.2.2.2.2.2.2.2.2.2.2.2.2.1 (ix a1)) (R.2.2.2.2.2.2.2.2.2.2.2.2.2.2.2.2.2.2.2.1 (ix a1)) a1 (((R.2.2.2.2.2.2.2.2.2.2.2.2.2.2.2.2.2.2.2.1 (ix a1)) + (R.2.2.2.2.2.2.2.2.2.2.2.2.2.2.2.2.1 (ix a1))) - ((R.2.2.2.2.2.2.2.2.2.2.2.2.2.2.2.2.2.2.2.1 (ix a1)) + (R.2.2.2.2.2.2.2.2.2.2.2.2.2.2.2.2.1 (ix a1))) / 8 * 8))
  refine js_aload_n (n := 48) X (dg dc_R_does 30 rfl) rfl rfl rfl ?_
  refine js_getf (j := 11) (v := .ref 34) (n := 51) X (dg dc_R_does 31 rfl) rfl hC_R (Nat.le_of_ble_eq_true rfl) hw_218 rfl rfl ?_
  refine js_iload_n (n := 52) X (dg dc_R_does 32 rfl) rfl rfl rfl ?_
  refine js_iaload (f := R.2.2.2.2.2.2.2.2.2.2.2.1) (n := 53) X (dg dc_R_does 33 rfl) rfl rfl ?_
  refine js_goto (t := 112) X (dg dc_R_does 34 rfl) (by decide) ?_
  exact js_keep [true, true, true, true, true] (jl_R_does_25_L112 l Dv fu h out κ X R a1 (R.2.2.2.1 (ix a1)) (R.2.2.2.2.2.2.2.2.2.2.2.2.2.2.2.2.1 (ix a1)) (R.2.2.2.2.2.2.2.2.2.2.2.2.2.2.2.2.2.2.2.1 (ix a1)) a1 (R.2.2.2.2.2.2.2.2.2.2.2.1 (ix (R.2.2.2.1 (ix a1)))))
set_option maxRecDepth 100000 in
set_option maxHeartbeats 4000000 in
theorem c_R_calls_25 (l : Launch) (Dv : va_G) (fu : Nat) (h : S_H) (out : Nat → Int64) (R : S_R) (a1 : Int32) : ev_M l Dv gaX mu_R_calls [.ref 25, .int a1] (hpW h R out) (f_R_calls fu R a1) (fun q => (none, hpW h q out)) := by
  refine ev_met (lo0 := [some (.ref 25), some (.int a1)]) rfl rfl rfl (fun κ X => ?_)
  unfold f_R_calls
  refine js_aload_n (n := 1) X (dg dc_R_calls 0 rfl) rfl rfl rfl ?_
  refine js_getf (j := 16) (v := .ref 37) (n := 4) X (dg dc_R_calls 1 rfl) rfl hC_R (Nat.le_of_ble_eq_true rfl) hw_215 rfl rfl ?_
  refine js_iload_n (n := 5) X (dg dc_R_calls 2 rfl) rfl rfl rfl ?_
  refine js_aload_n (n := 6) X (dg dc_R_calls 3 rfl) rfl rfl rfl ?_
  refine js_getf (j := 4) (v := .ref 29) (n := 9) X (dg dc_R_calls 4 rfl) rfl hC_R (Nat.le_of_ble_eq_true rfl) hw_160 rfl rfl ?_
  refine js_iload_n (n := 10) X (dg dc_R_calls 5 rfl) rfl rfl rfl ?_
  refine js_iaload (f := R.2.2.2.2.1) (n := 11) X (dg dc_R_calls 6 rfl) rfl rfl ?_
  refine js_bipush (n := 13) 8 X (dg dc_R_calls 7 rfl) rfl (by decide) ?_
  refine js_icmp_ge (t := 25) (n := 16) X (dg dc_R_calls 8 rfl) (by decide) rfl ?_ ?_
  · refine js_aload_n (n := 26) X (dg dc_R_calls 14 rfl) rfl rfl rfl ?_
    refine js_getf (j := 15) (v := .ref 36) (n := 29) X (dg dc_R_calls 15 rfl) rfl hC_R (Nat.le_of_ble_eq_true rfl) hw_217 rfl rfl ?_
    refine js_aload_n (n := 30) X (dg dc_R_calls 16 rfl) rfl rfl rfl ?_
    refine js_getf (j := 4) (v := .ref 29) (n := 33) X (dg dc_R_calls 17 rfl) rfl hC_R (Nat.le_of_ble_eq_true rfl) hw_160 rfl rfl ?_
    refine js_iload_n (n := 34) X (dg dc_R_calls 18 rfl) rfl rfl rfl ?_
    refine js_iaload (f := R.2.2.2.2.1) (n := 35) X (dg dc_R_calls 19 rfl) rfl rfl ?_
    refine js_bipush (n := 37) 8 X (dg dc_R_calls 20 rfl) rfl (by decide) ?_
    refine js_isub (n := 38) X (dg dc_R_calls 21 rfl) rfl ?_
    refine js_iaload (f := R.2.2.2.2.2.2.2.2.2.2.2.2.2.2.2.1) (n := 39) X (dg dc_R_calls 22 rfl) rfl rfl ?_
    refine js_iastore (f := R.2.2.2.2.2.2.2.2.2.2.2.2.2.2.2.2.1) (n := 40) X (dg dc_R_calls 23 rfl) rfl rfl ?_
    exact js_retV X (dg dc_R_calls 24 rfl) rfl (Nat.le_of_ble_eq_true rfl) (Nat.le_of_ble_eq_true rfl) rfl
  refine js_aload_n (n := 17) X (dg dc_R_calls 9 rfl) rfl rfl rfl ?_
  refine js_getf (j := 4) (v := .ref 29) (n := 20) X (dg dc_R_calls 10 rfl) rfl hC_R (Nat.le_of_ble_eq_true rfl) hw_160 rfl rfl ?_
  refine js_iload_n (n := 21) X (dg dc_R_calls 11 rfl) rfl rfl rfl ?_
  refine js_iaload (f := R.2.2.2.2.1) (n := 22) X (dg dc_R_calls 12 rfl) rfl rfl ?_
  refine js_goto (t := 39) X (dg dc_R_calls 13 rfl) (by decide) ?_
  refine js_iastore (f := R.2.2.2.2.2.2.2.2.2.2.2.2.2.2.2.2.1) (n := 40) X (dg dc_R_calls 23 rfl) rfl rfl ?_
  exact js_retV X (dg dc_R_calls 24 rfl) rfl (Nat.le_of_ble_eq_true rfl) (Nat.le_of_ble_eq_true rfl) rfl
set_option maxRecDepth 100000 in
set_option maxHeartbeats 4000000 in
theorem jl_R_events_25_L13 (l : Launch) (Dv : va_G) (fu : Nat) (h : S_H) (out : Nat → Int64) (κ : ev_ka) (X : ev_X l Dv gaX mu_R_events κ) (R : S_R) (v1 : Int32) (s0 : Int32) : ev_J l Dv gaX mu_R_events κ 13 0 0 [some (.ref 25), some (.int v1)] [.int s0] (hpW h R out) (f_R_events_L13 fu R v1 s0) (fun q => (some (.int q), hpW h R out)) := by
  unfold f_R_events_L13
  refine js_aload_n (n := 14) X (dg dc_R_events 7 rfl) rfl rfl rfl ?_
  refine js_iload_n (n := 15) X (dg dc_R_events 8 rfl) rfl rfl rfl ?_
  refine js_callV (na := 1) (ci := 6) (n := 18) X (dg dc_R_events 9 rfl) rfl (c_R_isLate_25 l Dv fu h out R v1) gV_R_151 rfl rfl hy_R_isLate ⟨(Nat.le_of_ble_eq_true rfl), (Nat.le_of_ble_eq_true rfl)⟩ rfl ⟨(Nat.le_of_ble_eq_true rfl), (Nat.le_of_ble_eq_true rfl)⟩ rfl rfl rfl rfl rfl ?_
  intro r15
  refine js_if_eq (t := 25) (n := 21) X (dg dc_R_events 10 rfl) (by decide) rfl ?_ ?_
  · refine js_iconst (n := 26) 0 X (dg dc_R_events 13 rfl) rfl (by decide) ?_
    refine js_iadd (n := 27) X (dg dc_R_events 14 rfl) rfl ?_
    exact js_retI X (dg dc_R_events 15 rfl) rfl (Nat.le_of_ble_eq_true rfl) (Nat.le_of_ble_eq_true rfl) rfl
  refine js_iconst (n := 22) 1 X (dg dc_R_events 11 rfl) rfl (by decide) ?_
  refine js_goto (t := 26) X (dg dc_R_events 12 rfl) (by decide) ?_
  refine js_iadd (n := 27) X (dg dc_R_events 14 rfl) rfl ?_
  exact js_retI X (dg dc_R_events 15 rfl) rfl (Nat.le_of_ble_eq_true rfl) (Nat.le_of_ble_eq_true rfl) rfl
set_option maxRecDepth 100000 in
set_option maxHeartbeats 4000000 in
theorem c_R_events_25 (l : Launch) (Dv : va_G) (fu : Nat) (h : S_H) (out : Nat → Int64) (R : S_R) (a1 : Int32) : ev_M l Dv gaX mu_R_events [.ref 25, .int a1] (hpW h R out) (f_R_events fu R a1) (fun q => (some (.int q), hpW h R out)) := by
  refine ev_met (lo0 := [some (.ref 25), some (.int a1)]) rfl rfl rfl (fun κ X => ?_)
  unfold f_R_events
  refine js_aload_n (n := 1) X (dg dc_R_events 0 rfl) rfl rfl rfl ?_
  refine js_iload_n (n := 2) X (dg dc_R_events 1 rfl) rfl rfl rfl ?_
  refine js_callV (na := 1) (ci := 6) (n := 5) X (dg dc_R_events 2 rfl) rfl (c_R_twoParts_25 l Dv fu h out R a1) gV_R_154 rfl rfl hy_R_twoParts ⟨(Nat.le_of_ble_eq_true rfl), (Nat.le_of_ble_eq_true rfl)⟩ rfl ⟨(Nat.le_of_ble_eq_true rfl), (Nat.le_of_ble_eq_true rfl)⟩ rfl rfl rfl rfl rfl ?_
  intro r2
  refine js_if_eq (t := 12) (n := 8) X (dg dc_R_events 3 rfl) (by decide) rfl ?_ ?_
  · refine js_iconst (n := 13) 3 X (dg dc_R_events 6 rfl) rfl (by decide) ?_
    exact js_keep [true, true] (jl_R_events_25_L13 l Dv fu h out κ X R a1 3)
  refine js_iconst (n := 9) 4 X (dg dc_R_events 4 rfl) rfl (by decide) ?_
  refine js_goto (t := 13) X (dg dc_R_events 5 rfl) (by decide) ?_
  exact js_keep [true, true] (jl_R_events_25_L13 l Dv fu h out κ X R a1 4)
set_option maxRecDepth 100000 in
set_option maxHeartbeats 4000000 in
theorem jl_R_happens_25_L78 (l : Launch) (Dv : va_G) (fu : Nat) (h : S_H) (out : Nat → Int64) (κ : ev_ka) (X : ev_X l Dv gaX mu_R_happens κ) (R : S_R) (v1 : Int32) (v2 : Int32) (v4 : Int32) : ev_J l Dv gaX mu_R_happens κ 78 0 0 [some (.ref 25), some (.int v1), some (.int v2), none, some (.int v4)] [] (hpW h R out) (f_R_happens_L78 fu R v1 v2 v4) (fun q => (none, hpW h q out)) := by
  unfold f_R_happens_L78
  refine js_iload_n (n := 79) X (dg dc_R_happens 47 rfl) rfl rfl rfl ?_
  refine js_iload (n := 81) X (dg dc_R_happens 48 rfl) rfl rfl ?_
  refine js_iconst (n := 82) 2 X (dg dc_R_happens 49 rfl) rfl (by decide) ?_
  refine js_iadd (n := 83) X (dg dc_R_happens 50 rfl) rfl ?_
  refine js_icmp_ne (t := 103) (n := 86) X (dg dc_R_happens 51 rfl) (by decide) rfl ?_ ?_
  · exact js_retV X (dg dc_R_happens 63 rfl) rfl (Nat.le_of_ble_eq_true rfl) (Nat.le_of_ble_eq_true rfl) rfl
  refine js_aload_n (n := 87) X (dg dc_R_happens 52 rfl) rfl rfl rfl ?_
  refine js_getf (j := 11) (v := .ref 34) (n := 90) X (dg dc_R_happens 53 rfl) rfl hC_R (Nat.le_of_ble_eq_true rfl) hw_218 rfl rfl ?_
  refine js_aload_n (n := 91) X (dg dc_R_happens 54 rfl) rfl rfl rfl ?_
  refine js_getf (j := 3) (v := .ref 28) (n := 94) X (dg dc_R_happens 55 rfl) rfl hC_R (Nat.le_of_ble_eq_true rfl) hw_137 rfl rfl ?_
  refine js_iload_n (n := 95) X (dg dc_R_happens 56 rfl) rfl rfl rfl ?_
  refine js_iaload (f := R.2.2.2.1) (n := 96) X (dg dc_R_happens 57 rfl) rfl rfl ?_
  refine js_aload_n (n := 97) X (dg dc_R_happens 58 rfl) rfl rfl rfl ?_
  refine js_getf (j := 16) (v := .ref 37) (n := 100) X (dg dc_R_happens 59 rfl) rfl hC_R (Nat.le_of_ble_eq_true rfl) hw_215 rfl rfl ?_
  refine js_iload_n (n := 101) X (dg dc_R_happens 60 rfl) rfl rfl rfl ?_
  refine js_iaload (f := R.2.2.2.2.2.2.2.2.2.2.2.2.2.2.2.2.1) (n := 102) X (dg dc_R_happens 61 rfl) rfl rfl ?_
  refine js_iastore (f := R.2.2.2.2.2.2.2.2.2.2.2.1) (n := 103) X (dg dc_R_happens 62 rfl) rfl rfl ?_
  exact js_retV X (dg dc_R_happens 63 rfl) rfl (Nat.le_of_ble_eq_true rfl) (Nat.le_of_ble_eq_true rfl) rfl
set_option maxRecDepth 100000 in
set_option maxHeartbeats 4000000 in
theorem jl_R_happens_25_L63 (l : Launch) (Dv : va_G) (fu : Nat) (h : S_H) (out : Nat → Int64) (κ : ev_ka) (X : ev_X l Dv gaX mu_R_happens κ) (R : S_R) (v1 : Int32) (v2 : Int32) (v3 : Int32) (v4 : Int32) : ev_J l Dv gaX mu_R_happens κ 63 0 0 [some (.ref 25), some (.int v1), some (.int v2), some (.int v3), some (.int v4)] [] (hpW h R out) (f_R_happens_L63 fu R v1 v2 v3 v4) (fun q => (none, hpW h q out)) := by
  unfold f_R_happens_L63
  refine js_iload_n (n := 64) X (dg dc_R_happens 37 rfl) rfl rfl rfl ?_
  refine js_iload (n := 66) X (dg dc_R_happens 38 rfl) rfl rfl ?_
  refine js_iconst (n := 67) 1 X (dg dc_R_happens 39 rfl) rfl (by decide) ?_
  refine js_iadd (n := 68) X (dg dc_R_happens 40 rfl) rfl ?_
  refine js_icmp_ne (t := 78) (n := 71) X (dg dc_R_happens 41 rfl) (by decide) rfl ?_ ?_
  · exact js_keep [true, true, true, false, true] (jl_R_happens_25_L78 l Dv fu h out κ X R v1 v2 v4)
  refine js_aload_n (n := 72) X (dg dc_R_happens 42 rfl) rfl rfl rfl ?_
  refine js_getf (j := 18) (v := .ref 39) (n := 75) X (dg dc_R_happens 43 rfl) rfl hC_R (Nat.le_of_ble_eq_true rfl) hw_228 rfl rfl ?_
  refine js_iload_n (n := 76) X (dg dc_R_happens 44 rfl) rfl rfl rfl ?_
  refine js_iload_n (n := 77) X (dg dc_R_happens 45 rfl) rfl rfl rfl ?_
  refine js_iastore (f := R.2.2.2.2.2.2.2.2.2.2.2.2.2.2.2.2.2.2.1) (n := 78) X (dg dc_R_happens 46 rfl) rfl rfl ?_
  exact js_keep [true, true, true, false, true] (jl_R_happens_25_L78 l Dv fu h out κ X (R.1, R.2.1, R.2.2.1, R.2.2.2.1, R.2.2.2.2.1, R.2.2.2.2.2.1, R.2.2.2.2.2.2.1, R.2.2.2.2.2.2.2.1, R.2.2.2.2.2.2.2.2.1, R.2.2.2.2.2.2.2.2.2.1, R.2.2.2.2.2.2.2.2.2.2.1, R.2.2.2.2.2.2.2.2.2.2.2.1, R.2.2.2.2.2.2.2.2.2.2.2.2.1, R.2.2.2.2.2.2.2.2.2.2.2.2.2.1, R.2.2.2.2.2.2.2.2.2.2.2.2.2.2.1, R.2.2.2.2.2.2.2.2.2.2.2.2.2.2.2.1, R.2.2.2.2.2.2.2.2.2.2.2.2.2.2.2.2.1, R.2.2.2.2.2.2.2.2.2.2.2.2.2.2.2.2.2.1, (upd R.2.2.2.2.2.2.2.2.2.2.2.2.2.2.2.2.2.2.1 (ix v1) v3), R.2.2.2.2.2.2.2.2.2.2.2.2.2.2.2.2.2.2.2) v1 v2 v4)
set_option maxRecDepth 100000 in
set_option maxHeartbeats 4000000 in
theorem jl_R_happens_25_L31 (l : Launch) (Dv : va_G) (fu : Nat) (h : S_H) (out : Nat → Int64) (κ : ev_ka) (X : ev_X l Dv gaX mu_R_happens κ) (R : S_R) (v1 : Int32) (v2 : Int32) (v3 : Int32) (v4 : Int32) : ev_J l Dv gaX mu_R_happens κ 31 0 0 [some (.ref 25), some (.int v1), some (.int v2), some (.int v3), some (.int v4)] [] (hpW h R out) (f_R_happens_L31 fu R v1 v2 v3 v4) (fun q => (none, hpW h q out)) := by
  unfold f_R_happens_L31
  refine js_iload_n (n := 32) X (dg dc_R_happens 18 rfl) rfl rfl rfl ?_
  refine js_iconst (n := 33) 1 X (dg dc_R_happens 19 rfl) rfl (by decide) ?_
  refine js_icmp_ne (t := 52) (n := 36) X (dg dc_R_happens 20 rfl) (by decide) rfl ?_ ?_
  · refine js_iload_n (n := 53) X (dg dc_R_happens 31 rfl) rfl rfl rfl ?_
    refine js_iload (n := 55) X (dg dc_R_happens 32 rfl) rfl rfl ?_
    refine js_icmp_ne (t := 63) (n := 58) X (dg dc_R_happens 33 rfl) (by decide) rfl ?_ ?_
    · exact js_keep [true, true, true, true, true] (jl_R_happens_25_L63 l Dv fu h out κ X R v1 v2 v3 v4)
    refine js_aload_n (n := 59) X (dg dc_R_happens 34 rfl) rfl rfl rfl ?_
    refine js_iload_n (n := 60) X (dg dc_R_happens 35 rfl) rfl rfl rfl ?_
    refine js_callV (na := 1) (ci := 6) (n := 63) X (dg dc_R_happens 36 rfl) rfl (c_R_does_25 l Dv fu h out R v1) gV_R_163 rfl rfl hy_R_does ⟨(Nat.le_of_ble_eq_true rfl), (Nat.le_of_ble_eq_true rfl)⟩ rfl ⟨(Nat.le_of_ble_eq_true rfl), (Nat.le_of_ble_eq_true rfl)⟩ rfl rfl rfl rfl rfl ?_
    intro R_60
    exact js_keep [true, true, true, true, true] (jl_R_happens_25_L63 l Dv fu h out κ X R_60 v1 v2 v3 v4)
  refine js_aload_n (n := 37) X (dg dc_R_happens 21 rfl) rfl rfl rfl ?_
  refine js_getf (j := 19) (v := .ref 40) (n := 40) X (dg dc_R_happens 22 rfl) rfl hC_R (Nat.le_of_ble_eq_true rfl) hw_216 rfl rfl ?_
  refine js_iload_n (n := 41) X (dg dc_R_happens 23 rfl) rfl rfl rfl ?_
  refine js_aload_n (n := 42) X (dg dc_R_happens 24 rfl) rfl rfl rfl ?_
  refine js_getf (j := 11) (v := .ref 34) (n := 45) X (dg dc_R_happens 25 rfl) rfl hC_R (Nat.le_of_ble_eq_true rfl) hw_218 rfl rfl ?_
  refine js_aload_n (n := 46) X (dg dc_R_happens 26 rfl) rfl rfl rfl ?_
  refine js_iload_n (n := 47) X (dg dc_R_happens 27 rfl) rfl rfl rfl ?_
  refine js_callV (na := 1) (ci := 6) (n := 50) X (dg dc_R_happens 28 rfl) rfl (c_R_source_25 l Dv fu h out R v1) gV_R_160 rfl rfl hy_R_source ⟨(Nat.le_of_ble_eq_true rfl), (Nat.le_of_ble_eq_true rfl)⟩ rfl ⟨(Nat.le_of_ble_eq_true rfl), (Nat.le_of_ble_eq_true rfl)⟩ rfl rfl rfl rfl rfl ?_
  intro r47
  refine js_iaload (f := R.2.2.2.2.2.2.2.2.2.2.2.1) (n := 51) X (dg dc_R_happens 29 rfl) rfl rfl ?_
  refine js_iastore (f := R.2.2.2.2.2.2.2.2.2.2.2.2.2.2.2.2.2.2.2.1) (n := 52) X (dg dc_R_happens 30 rfl) rfl rfl ?_
  refine js_iload_n (n := 53) X (dg dc_R_happens 31 rfl) rfl rfl rfl ?_
  refine js_iload (n := 55) X (dg dc_R_happens 32 rfl) rfl rfl ?_
  refine js_icmp_ne (t := 63) (n := 58) X (dg dc_R_happens 33 rfl) (by decide) rfl ?_ ?_
  · exact js_keep [true, true, true, true, true] (jl_R_happens_25_L63 l Dv fu h out κ X (R.1, R.2.1, R.2.2.1, R.2.2.2.1, R.2.2.2.2.1, R.2.2.2.2.2.1, R.2.2.2.2.2.2.1, R.2.2.2.2.2.2.2.1, R.2.2.2.2.2.2.2.2.1, R.2.2.2.2.2.2.2.2.2.1, R.2.2.2.2.2.2.2.2.2.2.1, R.2.2.2.2.2.2.2.2.2.2.2.1, R.2.2.2.2.2.2.2.2.2.2.2.2.1, R.2.2.2.2.2.2.2.2.2.2.2.2.2.1, R.2.2.2.2.2.2.2.2.2.2.2.2.2.2.1, R.2.2.2.2.2.2.2.2.2.2.2.2.2.2.2.1, R.2.2.2.2.2.2.2.2.2.2.2.2.2.2.2.2.1, R.2.2.2.2.2.2.2.2.2.2.2.2.2.2.2.2.2.1, R.2.2.2.2.2.2.2.2.2.2.2.2.2.2.2.2.2.2.1, (upd R.2.2.2.2.2.2.2.2.2.2.2.2.2.2.2.2.2.2.2.1 (ix v1) (R.2.2.2.2.2.2.2.2.2.2.2.1 (ix r47))), R.2.2.2.2.2.2.2.2.2.2.2.2.2.2.2.2.2.2.2.2) v1 v2 v3 v4)
  refine js_aload_n (n := 59) X (dg dc_R_happens 34 rfl) rfl rfl rfl ?_
  refine js_iload_n (n := 60) X (dg dc_R_happens 35 rfl) rfl rfl rfl ?_
  refine js_callV (na := 1) (ci := 6) (n := 63) X (dg dc_R_happens 36 rfl) rfl (c_R_does_25 l Dv fu h out (R.1, R.2.1, R.2.2.1, R.2.2.2.1, R.2.2.2.2.1, R.2.2.2.2.2.1, R.2.2.2.2.2.2.1, R.2.2.2.2.2.2.2.1, R.2.2.2.2.2.2.2.2.1, R.2.2.2.2.2.2.2.2.2.1, R.2.2.2.2.2.2.2.2.2.2.1, R.2.2.2.2.2.2.2.2.2.2.2.1, R.2.2.2.2.2.2.2.2.2.2.2.2.1, R.2.2.2.2.2.2.2.2.2.2.2.2.2.1, R.2.2.2.2.2.2.2.2.2.2.2.2.2.2.1, R.2.2.2.2.2.2.2.2.2.2.2.2.2.2.2.1, R.2.2.2.2.2.2.2.2.2.2.2.2.2.2.2.2.1, R.2.2.2.2.2.2.2.2.2.2.2.2.2.2.2.2.2.1, R.2.2.2.2.2.2.2.2.2.2.2.2.2.2.2.2.2.2.1, (upd R.2.2.2.2.2.2.2.2.2.2.2.2.2.2.2.2.2.2.2.1 (ix v1) (R.2.2.2.2.2.2.2.2.2.2.2.1 (ix r47))), R.2.2.2.2.2.2.2.2.2.2.2.2.2.2.2.2.2.2.2.2) v1) gV_R_163 rfl rfl hy_R_does ⟨(Nat.le_of_ble_eq_true rfl), (Nat.le_of_ble_eq_true rfl)⟩ rfl ⟨(Nat.le_of_ble_eq_true rfl), (Nat.le_of_ble_eq_true rfl)⟩ rfl rfl rfl rfl rfl ?_
  intro R_60
  exact js_keep [true, true, true, true, true] (jl_R_happens_25_L63 l Dv fu h out κ X R_60 v1 v2 v3 v4)
set_option maxRecDepth 100000 in
set_option maxHeartbeats 4000000 in
theorem jl_R_happens_25_L13 (l : Launch) (Dv : va_G) (fu : Nat) (h : S_H) (out : Nat → Int64) (κ : ev_ka) (X : ev_X l Dv gaX mu_R_happens κ) (R : S_R) (v1 : Int32) (v2 : Int32) (v3 : Int32) (s0 : Int32) : ev_J l Dv gaX mu_R_happens κ 13 0 0 [some (.ref 25), some (.int v1), some (.int v2), some (.int v3), none] [.int s0] (hpW h R out) (f_R_happens_L13 fu R v1 v2 v3 s0) (fun q => (none, hpW h q out)) := by
  unfold f_R_happens_L13
  refine js_istore (lo' := [some (.ref 25), some (.int v1), some (.int v2), some (.int v3), some (.int s0)]) (n := 15) X (dg dc_R_happens 7 rfl) rfl (Nat.le_of_ble_eq_true rfl) rfl ?_
  refine js_iload_n (n := 16) X (dg dc_R_happens 8 rfl) rfl rfl rfl ?_
  refine js_if_ne (t := 31) (n := 19) X (dg dc_R_happens 9 rfl) (by decide) rfl ?_ ?_
  · exact js_keep [true, true, true, true, true] (jl_R_happens_25_L31 l Dv fu h out κ X R v1 v2 v3 s0)
  refine js_aload_n (n := 20) X (dg dc_R_happens 10 rfl) rfl rfl rfl ?_
  refine js_iload_n (n := 21) X (dg dc_R_happens 11 rfl) rfl rfl rfl ?_
  refine js_callV (na := 1) (ci := 6) (n := 24) X (dg dc_R_happens 12 rfl) rfl (c_R_calls_25 l Dv fu h out R v1) gV_R_157 rfl rfl hy_R_calls ⟨(Nat.le_of_ble_eq_true rfl), (Nat.le_of_ble_eq_true rfl)⟩ rfl ⟨(Nat.le_of_ble_eq_true rfl), (Nat.le_of_ble_eq_true rfl)⟩ rfl rfl rfl rfl rfl ?_
  intro R_21
  refine js_aload_n (n := 25) X (dg dc_R_happens 13 rfl) rfl rfl rfl ?_
  refine js_getf (j := 17) (v := .ref 38) (n := 28) X (dg dc_R_happens 14 rfl) rfl hC_R (Nat.le_of_ble_eq_true rfl) hw_241 rfl rfl ?_
  refine js_iload_n (n := 29) X (dg dc_R_happens 15 rfl) rfl rfl rfl ?_
  refine js_iload_n (n := 30) X (dg dc_R_happens 16 rfl) rfl rfl rfl ?_
  refine js_iastore (f := R_21.2.2.2.2.2.2.2.2.2.2.2.2.2.2.2.2.2.1) (n := 31) X (dg dc_R_happens 17 rfl) rfl rfl ?_
  exact js_keep [true, true, true, true, true] (jl_R_happens_25_L31 l Dv fu h out κ X (R_21.1, R_21.2.1, R_21.2.2.1, R_21.2.2.2.1, R_21.2.2.2.2.1, R_21.2.2.2.2.2.1, R_21.2.2.2.2.2.2.1, R_21.2.2.2.2.2.2.2.1, R_21.2.2.2.2.2.2.2.2.1, R_21.2.2.2.2.2.2.2.2.2.1, R_21.2.2.2.2.2.2.2.2.2.2.1, R_21.2.2.2.2.2.2.2.2.2.2.2.1, R_21.2.2.2.2.2.2.2.2.2.2.2.2.1, R_21.2.2.2.2.2.2.2.2.2.2.2.2.2.1, R_21.2.2.2.2.2.2.2.2.2.2.2.2.2.2.1, R_21.2.2.2.2.2.2.2.2.2.2.2.2.2.2.2.1, R_21.2.2.2.2.2.2.2.2.2.2.2.2.2.2.2.2.1, (upd R_21.2.2.2.2.2.2.2.2.2.2.2.2.2.2.2.2.2.1 (ix v1) v3), R_21.2.2.2.2.2.2.2.2.2.2.2.2.2.2.2.2.2.2) v1 v2 v3 s0)
set_option maxRecDepth 100000 in
set_option maxHeartbeats 4000000 in
theorem c_R_happens_25 (l : Launch) (Dv : va_G) (fu : Nat) (h : S_H) (out : Nat → Int64) (R : S_R) (a1 : Int32) (a2 : Int32) (a3 : Int32) : ev_M l Dv gaX mu_R_happens [.ref 25, .int a1, .int a2, .int a3] (hpW h R out) (f_R_happens fu R a1 a2 a3) (fun q => (none, hpW h q out)) := by
  refine ev_met (lo0 := [some (.ref 25), some (.int a1), some (.int a2), some (.int a3), none]) rfl rfl rfl (fun κ X => ?_)
  unfold f_R_happens
  refine js_aload_n (n := 1) X (dg dc_R_happens 0 rfl) rfl rfl rfl ?_
  refine js_iload_n (n := 2) X (dg dc_R_happens 1 rfl) rfl rfl rfl ?_
  refine js_callV (na := 1) (ci := 6) (n := 5) X (dg dc_R_happens 2 rfl) rfl (c_R_twoParts_25 l Dv fu h out R a1) gV_R_154 rfl rfl hy_R_twoParts ⟨(Nat.le_of_ble_eq_true rfl), (Nat.le_of_ble_eq_true rfl)⟩ rfl ⟨(Nat.le_of_ble_eq_true rfl), (Nat.le_of_ble_eq_true rfl)⟩ rfl rfl rfl rfl rfl ?_
  intro r2
  refine js_if_eq (t := 12) (n := 8) X (dg dc_R_happens 3 rfl) (by decide) rfl ?_ ?_
  · refine js_iconst (n := 13) 1 X (dg dc_R_happens 6 rfl) rfl (by decide) ?_
    exact js_keep [true, true, true, true, false] (jl_R_happens_25_L13 l Dv fu h out κ X R a1 a2 a3 1)
  refine js_iconst (n := 9) 2 X (dg dc_R_happens 4 rfl) rfl (by decide) ?_
  refine js_goto (t := 13) X (dg dc_R_happens 5 rfl) (by decide) ?_
  exact js_keep [true, true, true, true, false] (jl_R_happens_25_L13 l Dv fu h out κ X R a1 a2 a3 2)
set_option maxRecDepth 100000 in
set_option maxHeartbeats 4000000 in
theorem c_R_hasLeft_25 (l : Launch) (Dv : va_G) (fu : Nat) (h : S_H) (out : Nat → Int64) (R : S_R) (a1 : Int32) : ev_M l Dv gaX mu_R_hasLeft [.ref 25, .int a1] (hpW h R out) (f_R_hasLeft fu R a1) (fun q => (some (.int q), hpW h R out)) := by
  refine ev_met (lo0 := [some (.ref 25), some (.int a1)]) rfl rfl rfl (fun κ X => ?_)
  unfold f_R_hasLeft
  refine js_aload_n (n := 1) X (dg dc_R_hasLeft 0 rfl) rfl rfl rfl ?_
  refine js_getf (j := 20) (v := .ref 41) (n := 4) X (dg dc_R_hasLeft 1 rfl) rfl hC_R (Nat.le_of_ble_eq_true rfl) hw_242 rfl rfl ?_
  refine js_iload_n (n := 5) X (dg dc_R_hasLeft 2 rfl) rfl rfl rfl ?_
  refine js_iaload (f := R.2.2.2.2.2.2.2.2.2.2.2.2.2.2.2.2.2.2.2.2.1) (n := 6) X (dg dc_R_hasLeft 3 rfl) rfl rfl ?_
  refine js_aload_n (n := 7) X (dg dc_R_hasLeft 4 rfl) rfl rfl rfl ?_
  refine js_iload_n (n := 8) X (dg dc_R_hasLeft 5 rfl) rfl rfl rfl ?_
  refine js_callV (na := 1) (ci := 6) (n := 11) X (dg dc_R_hasLeft 6 rfl) rfl (c_R_first_25 l Dv fu h out R a1) gV_R_73 rfl rfl hy_R_first ⟨(Nat.le_of_ble_eq_true rfl), (Nat.le_of_ble_eq_true rfl)⟩ rfl ⟨(Nat.le_of_ble_eq_true rfl), (Nat.le_of_ble_eq_true rfl)⟩ rfl rfl rfl rfl rfl ?_
  intro r8
  refine js_aload_n (n := 12) X (dg dc_R_hasLeft 7 rfl) rfl rfl rfl ?_
  refine js_getf (j := 1) (v := .ref 26) (n := 15) X (dg dc_R_hasLeft 8 rfl) rfl hC_R (Nat.le_of_ble_eq_true rfl) hw_127 rfl rfl ?_
  refine js_iload_n (n := 16) X (dg dc_R_hasLeft 9 rfl) rfl rfl rfl ?_
  refine js_iaload (f := R.2.1) (n := 17) X (dg dc_R_hasLeft 10 rfl) rfl rfl ?_
  refine js_iadd (n := 18) X (dg dc_R_hasLeft 11 rfl) rfl ?_
  refine js_icmp_ge (t := 25) (n := 21) X (dg dc_R_hasLeft 12 rfl) (by decide) rfl ?_ ?_
  · refine js_iconst (n := 26) 0 X (dg dc_R_hasLeft 15 rfl) rfl (by decide) ?_
    exact js_retZ X (dg dc_R_hasLeft 16 rfl) rfl (Nat.le_of_ble_eq_true rfl) (Nat.le_of_ble_eq_true rfl) rfl
  refine js_iconst (n := 22) 1 X (dg dc_R_hasLeft 13 rfl) rfl (by decide) ?_
  refine js_goto (t := 26) X (dg dc_R_hasLeft 14 rfl) (by decide) ?_
  exact js_retZ X (dg dc_R_hasLeft 16 rfl) rfl (Nat.le_of_ble_eq_true rfl) (Nat.le_of_ble_eq_true rfl) rfl
set_option maxRecDepth 100000 in
set_option maxHeartbeats 4000000 in
theorem jl_R_go_25_L152 (l : Launch) (Dv : va_G) (fu : Nat) (h : S_H) (out : Nat → Int64) (κ : ev_ka) (X : ev_X l Dv gaX mu_R_go κ) (k102 : S_R → Int32 → Int32 → Option (S_R)) (hk102 : ∀ (R : S_R) (v1 : Int32) (v2 : Int32), ev_J l Dv gaX mu_R_go κ 102 0 0 [some (.ref 25), some (.int v1), some (.int v2), none] [] (hpW h R out) (k102 R v1 v2) (fun q => (none, hpW h q out))) (R : S_R) (v1 : Int32) (v2 : Int32) (s0 : Int32) : ev_J l Dv gaX mu_R_go κ 152 0 0 [some (.ref 25), some (.int v1), some (.int v2), none] [.int s0] (hpW h R out) (f_R_go_L152 fu k102 R v1 v2 s0) (fun q => (none, hpW h q out)) := by
  unfold f_R_go_L152
  refine js_istore_n (lo' := [some (.ref 25), some (.int v1), some (.int v2), some (.int s0)]) (n := 153) X (dg dc_R_go 91 rfl) rfl rfl (Nat.le_of_ble_eq_true rfl) rfl ?_
  refine js_aload_n (n := 154) X (dg dc_R_go 92 rfl) rfl rfl rfl ?_
  refine js_aload_n (n := 155) X (dg dc_R_go 93 rfl) rfl rfl rfl ?_
  refine js_getf (j := 20) (v := .ref 41) (n := 158) X (dg dc_R_go 94 rfl) rfl hC_R (Nat.le_of_ble_eq_true rfl) hw_242 rfl rfl ?_
  refine js_iload_n (n := 159) X (dg dc_R_go 95 rfl) rfl rfl rfl ?_
  refine js_iaload (f := R.2.2.2.2.2.2.2.2.2.2.2.2.2.2.2.2.2.2.2.2.1) (n := 160) X (dg dc_R_go 96 rfl) rfl rfl ?_
  refine js_aload_n (n := 161) X (dg dc_R_go 97 rfl) rfl rfl rfl ?_
  refine js_getf (j := 21) (v := .ref 42) (n := 164) X (dg dc_R_go 98 rfl) rfl hC_R (Nat.le_of_ble_eq_true rfl) hw_247 rfl rfl ?_
  refine js_iload_n (n := 165) X (dg dc_R_go 99 rfl) rfl rfl rfl ?_
  refine js_iaload (f := R.2.2.2.2.2.2.2.2.2.2.2.2.2.2.2.2.2.2.2.2.2.1) (n := 166) X (dg dc_R_go 100 rfl) rfl rfl ?_
  refine js_iload_n (n := 167) X (dg dc_R_go 101 rfl) rfl rfl rfl ?_
  refine js_callV (na := 3) (ci := 6) (n := 170) X (dg dc_R_go 102 rfl) rfl (c_R_happens_25 l Dv fu h out R (R.2.2.2.2.2.2.2.2.2.2.2.2.2.2.2.2.2.2.2.2.1 (ix s0)) (R.2.2.2.2.2.2.2.2.2.2.2.2.2.2.2.2.2.2.2.2.2.1 (ix s0)) v2) gV_R_169 rfl rfl hy_R_happens ⟨(Nat.le_of_ble_eq_true rfl), (Nat.le_of_ble_eq_true rfl)⟩ rfl ⟨(Nat.le_of_ble_eq_true rfl), (Nat.le_of_ble_eq_true rfl)⟩ rfl rfl rfl rfl rfl ?_
  intro R_167
  refine js_aload_n (n := 171) X (dg dc_R_go 103 rfl) rfl rfl rfl ?_
  refine js_getf (j := 21) (v := .ref 42) (n := 174) X (dg dc_R_go 104 rfl) rfl hC_R (Nat.le_of_ble_eq_true rfl) hw_247 rfl rfl ?_
  refine js_iload_n (n := 175) X (dg dc_R_go 105 rfl) rfl rfl rfl ?_
  refine js_dup2 (n := 176) X (dg dc_R_go 106 rfl) rfl rfl rfl ?_
  refine js_iaload (f := R_167.2.2.2.2.2.2.2.2.2.2.2.2.2.2.2.2.2.2.2.2.2.1) (n := 177) X (dg dc_R_go 107 rfl) rfl rfl ?_
  refine js_iconst (n := 178) 1 X (dg dc_R_go 108 rfl) rfl (by decide) ?_
  refine js_iadd (n := 179) X (dg dc_R_go 109 rfl) rfl ?_
  refine js_iastore (f := R_167.2.2.2.2.2.2.2.2.2.2.2.2.2.2.2.2.2.2.2.2.2.1) (n := 180) X (dg dc_R_go 110 rfl) rfl rfl ?_
  refine js_aload_n (n := 181) X (dg dc_R_go 111 rfl) rfl rfl rfl ?_
  refine js_getf (j := 21) (v := .ref 42) (n := 184) X (dg dc_R_go 112 rfl) rfl hC_R (Nat.le_of_ble_eq_true rfl) hw_247 rfl rfl ?_
  refine js_iload_n (n := 185) X (dg dc_R_go 113 rfl) rfl rfl rfl ?_
  refine js_iaload (f := (upd R_167.2.2.2.2.2.2.2.2.2.2.2.2.2.2.2.2.2.2.2.2.2.1 (ix s0) ((R_167.2.2.2.2.2.2.2.2.2.2.2.2.2.2.2.2.2.2.2.2.2.1 (ix s0)) + 1))) (n := 186) X (dg dc_R_go 114 rfl) rfl rfl ?_
  refine js_aload_n (n := 187) X (dg dc_R_go 115 rfl) rfl rfl rfl ?_
  refine js_aload_n (n := 188) X (dg dc_R_go 116 rfl) rfl rfl rfl ?_
  refine js_getf (j := 20) (v := .ref 41) (n := 191) X (dg dc_R_go 117 rfl) rfl hC_R (Nat.le_of_ble_eq_true rfl) hw_242 rfl rfl ?_
  refine js_iload_n (n := 192) X (dg dc_R_go 118 rfl) rfl rfl rfl ?_
  refine js_iaload (f := R_167.2.2.2.2.2.2.2.2.2.2.2.2.2.2.2.2.2.2.2.2.1) (n := 193) X (dg dc_R_go 119 rfl) rfl rfl ?_
  refine js_callV (na := 1) (ci := 6) (n := 196) X (dg dc_R_go 120 rfl) rfl (c_R_events_25 l Dv fu h out (R_167.1, R_167.2.1, R_167.2.2.1, R_167.2.2.2.1, R_167.2.2.2.2.1, R_167.2.2.2.2.2.1, R_167.2.2.2.2.2.2.1, R_167.2.2.2.2.2.2.2.1, R_167.2.2.2.2.2.2.2.2.1, R_167.2.2.2.2.2.2.2.2.2.1, R_167.2.2.2.2.2.2.2.2.2.2.1, R_167.2.2.2.2.2.2.2.2.2.2.2.1, R_167.2.2.2.2.2.2.2.2.2.2.2.2.1, R_167.2.2.2.2.2.2.2.2.2.2.2.2.2.1, R_167.2.2.2.2.2.2.2.2.2.2.2.2.2.2.1, R_167.2.2.2.2.2.2.2.2.2.2.2.2.2.2.2.1, R_167.2.2.2.2.2.2.2.2.2.2.2.2.2.2.2.2.1, R_167.2.2.2.2.2.2.2.2.2.2.2.2.2.2.2.2.2.1, R_167.2.2.2.2.2.2.2.2.2.2.2.2.2.2.2.2.2.2.1, R_167.2.2.2.2.2.2.2.2.2.2.2.2.2.2.2.2.2.2.2.1, R_167.2.2.2.2.2.2.2.2.2.2.2.2.2.2.2.2.2.2.2.2.1, (upd R_167.2.2.2.2.2.2.2.2.2.2.2.2.2.2.2.2.2.2.2.2.2.1 (ix s0) ((R_167.2.2.2.2.2.2.2.2.2.2.2.2.2.2.2.2.2.2.2.2.2.1 (ix s0)) + 1)), R_167.2.2.2.2.2.2.2.2.2.2.2.2.2.2.2.2.2.2.2.2.2.2) (R_167.2.2.2.2.2.2.2.2.2.2.2.2.2.2.2.2.2.2.2.2.1 (ix s0))) gV_R_166 rfl rfl hy_R_events ⟨(Nat.le_of_ble_eq_true rfl), (Nat.le_of_ble_eq_true rfl)⟩ rfl ⟨(Nat.le_of_ble_eq_true rfl), (Nat.le_of_ble_eq_true rfl)⟩ rfl rfl rfl rfl rfl ?_
  intro r193
  refine js_icmp_ne (t := 216) (n := 199) X (dg dc_R_go 121 rfl) (by decide) rfl ?_ ?_
  · refine js_iinc (lo' := [some (.ref 25), some (.int v1), some (.int (v2 + 1)), some (.int s0)]) (n := 219) 1 X (dg dc_R_go 135 rfl) rfl (by decide) (Nat.le_of_ble_eq_true rfl) rfl rfl ?_
    refine js_goto (t := 102) X (dg dc_R_go 136 rfl) (by decide) ?_
    exact js_keep [true, true, true, false] (hk102 (R_167.1, R_167.2.1, R_167.2.2.1, R_167.2.2.2.1, R_167.2.2.2.2.1, R_167.2.2.2.2.2.1, R_167.2.2.2.2.2.2.1, R_167.2.2.2.2.2.2.2.1, R_167.2.2.2.2.2.2.2.2.1, R_167.2.2.2.2.2.2.2.2.2.1, R_167.2.2.2.2.2.2.2.2.2.2.1, R_167.2.2.2.2.2.2.2.2.2.2.2.1, R_167.2.2.2.2.2.2.2.2.2.2.2.2.1, R_167.2.2.2.2.2.2.2.2.2.2.2.2.2.1, R_167.2.2.2.2.2.2.2.2.2.2.2.2.2.2.1, R_167.2.2.2.2.2.2.2.2.2.2.2.2.2.2.2.1, R_167.2.2.2.2.2.2.2.2.2.2.2.2.2.2.2.2.1, R_167.2.2.2.2.2.2.2.2.2.2.2.2.2.2.2.2.2.1, R_167.2.2.2.2.2.2.2.2.2.2.2.2.2.2.2.2.2.2.1, R_167.2.2.2.2.2.2.2.2.2.2.2.2.2.2.2.2.2.2.2.1, R_167.2.2.2.2.2.2.2.2.2.2.2.2.2.2.2.2.2.2.2.2.1, (upd R_167.2.2.2.2.2.2.2.2.2.2.2.2.2.2.2.2.2.2.2.2.2.1 (ix s0) ((R_167.2.2.2.2.2.2.2.2.2.2.2.2.2.2.2.2.2.2.2.2.2.1 (ix s0)) + 1)), R_167.2.2.2.2.2.2.2.2.2.2.2.2.2.2.2.2.2.2.2.2.2.2) v1 (v2 + 1))
  refine js_aload_n (n := 200) X (dg dc_R_go 122 rfl) rfl rfl rfl ?_
  refine js_getf (j := 21) (v := .ref 42) (n := 203) X (dg dc_R_go 123 rfl) rfl hC_R (Nat.le_of_ble_eq_true rfl) hw_247 rfl rfl ?_
  refine js_iload_n (n := 204) X (dg dc_R_go 124 rfl) rfl rfl rfl ?_
  refine js_iconst (n := 205) 0 X (dg dc_R_go 125 rfl) rfl (by decide) ?_
  refine js_iastore (f := (upd R_167.2.2.2.2.2.2.2.2.2.2.2.2.2.2.2.2.2.2.2.2.2.1 (ix s0) ((R_167.2.2.2.2.2.2.2.2.2.2.2.2.2.2.2.2.2.2.2.2.2.1 (ix s0)) + 1))) (n := 206) X (dg dc_R_go 126 rfl) rfl rfl ?_
  refine js_aload_n (n := 207) X (dg dc_R_go 127 rfl) rfl rfl rfl ?_
  refine js_getf (j := 20) (v := .ref 41) (n := 210) X (dg dc_R_go 128 rfl) rfl hC_R (Nat.le_of_ble_eq_true rfl) hw_242 rfl rfl ?_
  refine js_iload_n (n := 211) X (dg dc_R_go 129 rfl) rfl rfl rfl ?_
  refine js_dup2 (n := 212) X (dg dc_R_go 130 rfl) rfl rfl rfl ?_
  refine js_iaload (f := R_167.2.2.2.2.2.2.2.2.2.2.2.2.2.2.2.2.2.2.2.2.1) (n := 213) X (dg dc_R_go 131 rfl) rfl rfl ?_
  refine js_iconst (n := 214) 1 X (dg dc_R_go 132 rfl) rfl (by decide) ?_
  refine js_iadd (n := 215) X (dg dc_R_go 133 rfl) rfl ?_
  refine js_iastore (f := R_167.2.2.2.2.2.2.2.2.2.2.2.2.2.2.2.2.2.2.2.2.1) (n := 216) X (dg dc_R_go 134 rfl) rfl rfl ?_
  refine js_iinc (lo' := [some (.ref 25), some (.int v1), some (.int (v2 + 1)), some (.int s0)]) (n := 219) 1 X (dg dc_R_go 135 rfl) rfl (by decide) (Nat.le_of_ble_eq_true rfl) rfl rfl ?_
  refine js_goto (t := 102) X (dg dc_R_go 136 rfl) (by decide) ?_
  exact js_keep [true, true, true, false] (hk102 (R_167.1, R_167.2.1, R_167.2.2.1, R_167.2.2.2.1, R_167.2.2.2.2.1, R_167.2.2.2.2.2.1, R_167.2.2.2.2.2.2.1, R_167.2.2.2.2.2.2.2.1, R_167.2.2.2.2.2.2.2.2.1, R_167.2.2.2.2.2.2.2.2.2.1, R_167.2.2.2.2.2.2.2.2.2.2.1, R_167.2.2.2.2.2.2.2.2.2.2.2.1, R_167.2.2.2.2.2.2.2.2.2.2.2.2.1, R_167.2.2.2.2.2.2.2.2.2.2.2.2.2.1, R_167.2.2.2.2.2.2.2.2.2.2.2.2.2.2.1, R_167.2.2.2.2.2.2.2.2.2.2.2.2.2.2.2.1, R_167.2.2.2.2.2.2.2.2.2.2.2.2.2.2.2.2.1, R_167.2.2.2.2.2.2.2.2.2.2.2.2.2.2.2.2.2.1, R_167.2.2.2.2.2.2.2.2.2.2.2.2.2.2.2.2.2.2.1, R_167.2.2.2.2.2.2.2.2.2.2.2.2.2.2.2.2.2.2.2.1, (upd R_167.2.2.2.2.2.2.2.2.2.2.2.2.2.2.2.2.2.2.2.2.1 (ix s0) ((R_167.2.2.2.2.2.2.2.2.2.2.2.2.2.2.2.2.2.2.2.2.1 (ix s0)) + 1)), (upd (upd R_167.2.2.2.2.2.2.2.2.2.2.2.2.2.2.2.2.2.2.2.2.2.1 (ix s0) ((R_167.2.2.2.2.2.2.2.2.2.2.2.2.2.2.2.2.2.2.2.2.2.1 (ix s0)) + 1)) (ix s0) 0), R_167.2.2.2.2.2.2.2.2.2.2.2.2.2.2.2.2.2.2.2.2.2.2) v1 (v2 + 1))
set_option maxRecDepth 100000 in
set_option maxHeartbeats 4000000 in
theorem jl_R_go_25_L118 (l : Launch) (Dv : va_G) (fu : Nat) (h : S_H) (out : Nat → Int64) (κ : ev_ka) (X : ev_X l Dv gaX mu_R_go κ) (k102 : S_R → Int32 → Int32 → Option (S_R)) (hk102 : ∀ (R : S_R) (v1 : Int32) (v2 : Int32), ev_J l Dv gaX mu_R_go κ 102 0 0 [some (.ref 25), some (.int v1), some (.int v2), none] [] (hpW h R out) (k102 R v1 v2) (fun q => (none, hpW h q out))) (R : S_R) (v1 : Int32) (v2 : Int32) : ev_J l Dv gaX mu_R_go κ 118 0 0 [some (.ref 25), some (.int v1), some (.int v2), none] [] (hpW h R out) (f_R_go_L118 fu k102 R v1 v2) (fun q => (none, hpW h q out)) := by
  unfold f_R_go_L118
  refine js_aload_n (n := 119) X (dg dc_R_go 70 rfl) rfl rfl rfl ?_
  refine js_iconst (n := 120) 2 X (dg dc_R_go 71 rfl) rfl (by decide) ?_
  refine js_callV (na := 1) (ci := 6) (n := 123) X (dg dc_R_go 72 rfl) rfl (c_R_hasLeft_25 l Dv fu h out R 2) gV_R_173 rfl rfl hy_R_hasLeft ⟨(Nat.le_of_ble_eq_true rfl), (Nat.le_of_ble_eq_true rfl)⟩ rfl ⟨(Nat.le_of_ble_eq_true rfl), (Nat.le_of_ble_eq_true rfl)⟩ rfl rfl rfl rfl rfl ?_
  intro r120
  refine js_if_ne (t := 130) (n := 126) X (dg dc_R_go 73 rfl) (by decide) rfl ?_ ?_
  · refine js_aload_n (n := 131) X (dg dc_R_go 76 rfl) rfl rfl rfl ?_
    refine js_iconst (n := 132) 1 X (dg dc_R_go 77 rfl) rfl (by decide) ?_
    refine js_callV (na := 1) (ci := 6) (n := 135) X (dg dc_R_go 78 rfl) rfl (c_R_hasLeft_25 l Dv fu h out R 1) gV_R_173 rfl rfl hy_R_hasLeft ⟨(Nat.le_of_ble_eq_true rfl), (Nat.le_of_ble_eq_true rfl)⟩ rfl ⟨(Nat.le_of_ble_eq_true rfl), (Nat.le_of_ble_eq_true rfl)⟩ rfl rfl rfl rfl rfl ?_
    intro r132
    refine js_if_ne (t := 142) (n := 138) X (dg dc_R_go 79 rfl) (by decide) rfl ?_ ?_
    · refine js_iconst (n := 143) 1 X (dg dc_R_go 82 rfl) rfl (by decide) ?_
      refine js_iload_n (n := 144) X (dg dc_R_go 83 rfl) rfl rfl rfl ?_
      refine js_iload_n (n := 145) X (dg dc_R_go 84 rfl) rfl rfl rfl ?_
      refine js_bipush (n := 147) 31 X (dg dc_R_go 85 rfl) rfl (by decide) ?_
      refine js_irem (n := 148) X (dg dc_R_go 86 rfl) rfl ?_
      refine js_ishr (n := 149) X (dg dc_R_go 87 rfl) rfl ?_
      refine js_iconst (n := 150) 1 X (dg dc_R_go 88 rfl) rfl (by decide) ?_
      refine js_iand (n := 151) X (dg dc_R_go 89 rfl) rfl ?_
      refine js_iadd (n := 152) X (dg dc_R_go 90 rfl) rfl ?_
      exact js_keep [true, true, true, false] (jl_R_go_25_L152 l Dv fu h out κ X k102 (fun z0 z1 z2 => hk102 z0 z1 z2) R v1 v2 (1 + ((v1 >>> ((v2 - v2 / 31 * 31) &&& 31)) &&& 1)))
    refine js_iconst (n := 139) 2 X (dg dc_R_go 80 rfl) rfl (by decide) ?_
    refine js_goto (t := 152) X (dg dc_R_go 81 rfl) (by decide) ?_
    exact js_keep [true, true, true, false] (jl_R_go_25_L152 l Dv fu h out κ X k102 (fun z0 z1 z2 => hk102 z0 z1 z2) R v1 v2 2)
  refine js_iconst (n := 127) 1 X (dg dc_R_go 74 rfl) rfl (by decide) ?_
  refine js_goto (t := 152) X (dg dc_R_go 75 rfl) (by decide) ?_
  exact js_keep [true, true, true, false] (jl_R_go_25_L152 l Dv fu h out κ X k102 (fun z0 z1 z2 => hk102 z0 z1 z2) R v1 v2 1)
set_option maxRecDepth 100000 in
set_option maxHeartbeats 4000000 in
theorem jl_R_go_25_L102 (l : Launch) (Dv : va_G) (fu : Nat) (h : S_H) (out : Nat → Int64) (κ : ev_ka) (X : ev_X l Dv gaX mu_R_go κ) : ∀ (n : Nat) (R : S_R) (v1 : Int32) (v2 : Int32), ev_J l Dv gaX mu_R_go κ 102 0 0 [some (.ref 25), some (.int v1), some (.int v2), none] [] (hpW h R out) (f_R_go_L102 fu n R v1 v2) (fun q => (none, hpW h q out)) := by
  intro n
  induction n with
  | zero => exact fun _ _ _ => js_none
  | succ n ih =>
    intro R v1 v2
    unfold f_R_go_L102
    refine js_aload_n (n := 103) X (dg dc_R_go 62 rfl) rfl rfl rfl ?_
    refine js_iconst (n := 104) 1 X (dg dc_R_go 63 rfl) rfl (by decide) ?_
    refine js_callV (na := 1) (ci := 6) (n := 107) X (dg dc_R_go 64 rfl) rfl (c_R_hasLeft_25 l Dv fu h out R 1) gV_R_173 rfl rfl hy_R_hasLeft ⟨(Nat.le_of_ble_eq_true rfl), (Nat.le_of_ble_eq_true rfl)⟩ rfl ⟨(Nat.le_of_ble_eq_true rfl), (Nat.le_of_ble_eq_true rfl)⟩ rfl rfl rfl rfl rfl ?_
    intro r104
    refine js_if_ne (t := 118) (n := 110) X (dg dc_R_go 65 rfl) (by decide) rfl ?_ ?_
    · exact js_keep [true, true, true, false] (jl_R_go_25_L118 l Dv fu h out κ X (f_R_go_L102 fu n) (fun z0 z1 z2 => ih z0 z1 z2) R v1 v2)
    refine js_aload_n (n := 111) X (dg dc_R_go 66 rfl) rfl rfl rfl ?_
    refine js_iconst (n := 112) 2 X (dg dc_R_go 67 rfl) rfl (by decide) ?_
    refine js_callV (na := 1) (ci := 6) (n := 115) X (dg dc_R_go 68 rfl) rfl (c_R_hasLeft_25 l Dv fu h out R 2) gV_R_173 rfl rfl hy_R_hasLeft ⟨(Nat.le_of_ble_eq_true rfl), (Nat.le_of_ble_eq_true rfl)⟩ rfl ⟨(Nat.le_of_ble_eq_true rfl), (Nat.le_of_ble_eq_true rfl)⟩ rfl rfl rfl rfl rfl ?_
    intro r112
    refine js_if_eq (t := 222) (n := 118) X (dg dc_R_go 69 rfl) (by decide) rfl ?_ ?_
    · exact js_retV X (dg dc_R_go 137 rfl) rfl (Nat.le_of_ble_eq_true rfl) (Nat.le_of_ble_eq_true rfl) rfl
    exact js_keep [true, true, true, false] (jl_R_go_25_L118 l Dv fu h out κ X (f_R_go_L102 fu n) (fun z0 z1 z2 => ih z0 z1 z2) R v1 v2)
set_option maxRecDepth 100000 in
set_option maxHeartbeats 4000000 in
theorem jl_R_go_25_L71 (l : Launch) (Dv : va_G) (fu : Nat) (h : S_H) (out : Nat → Int64) (κ : ev_ka) (X : ev_X l Dv gaX mu_R_go κ) : ∀ (n : Nat) (R : S_R) (v1 : Int32) (v2 : Int32), ev_J l Dv gaX mu_R_go κ 71 0 0 [some (.ref 25), some (.int v1), some (.int v2), none] [] (hpW h R out) (f_R_go_L71 fu n R v1 v2) (fun q => (none, hpW h q out)) := by
  intro n
  induction n with
  | zero => exact fun _ _ _ => js_none
  | succ n ih =>
    intro R v1 v2
    unfold f_R_go_L71
    refine js_iload_n (n := 72) X (dg dc_R_go 43 rfl) rfl rfl rfl ?_
    refine js_iconst (n := 73) 3 X (dg dc_R_go 44 rfl) rfl (by decide) ?_
    refine js_icmp_ge (t := 100) (n := 76) X (dg dc_R_go 45 rfl) (by decide) rfl ?_ ?_
    · refine js_iconst (n := 101) 0 X (dg dc_R_go 60 rfl) rfl (by decide) ?_
      refine js_istore_n (lo' := [some (.ref 25), some (.int v1), some (.int 0), none]) (n := 102) X (dg dc_R_go 61 rfl) rfl rfl (Nat.le_of_ble_eq_true rfl) rfl ?_
      exact js_keep [true, true, true, false] (jl_R_go_25_L102 l Dv fu h out κ X fu R v1 0)
    refine js_aload_n (n := 77) X (dg dc_R_go 46 rfl) rfl rfl rfl ?_
    refine js_getf (j := 20) (v := .ref 41) (n := 80) X (dg dc_R_go 47 rfl) rfl hC_R (Nat.le_of_ble_eq_true rfl) hw_242 rfl rfl ?_
    refine js_iload_n (n := 81) X (dg dc_R_go 48 rfl) rfl rfl rfl ?_
    refine js_aload_n (n := 82) X (dg dc_R_go 49 rfl) rfl rfl rfl ?_
    refine js_iload_n (n := 83) X (dg dc_R_go 50 rfl) rfl rfl rfl ?_
    refine js_callV (na := 1) (ci := 6) (n := 86) X (dg dc_R_go 51 rfl) rfl (c_R_first_25 l Dv fu h out R v2) gV_R_73 rfl rfl hy_R_first ⟨(Nat.le_of_ble_eq_true rfl), (Nat.le_of_ble_eq_true rfl)⟩ rfl ⟨(Nat.le_of_ble_eq_true rfl), (Nat.le_of_ble_eq_true rfl)⟩ rfl rfl rfl rfl rfl ?_
    intro r83
    refine js_iastore (f := R.2.2.2.2.2.2.2.2.2.2.2.2.2.2.2.2.2.2.2.2.1) (n := 87) X (dg dc_R_go 52 rfl) rfl rfl ?_
    refine js_aload_n (n := 88) X (dg dc_R_go 53 rfl) rfl rfl rfl ?_
    refine js_getf (j := 21) (v := .ref 42) (n := 91) X (dg dc_R_go 54 rfl) rfl hC_R (Nat.le_of_ble_eq_true rfl) hw_247 rfl rfl ?_
    refine js_iload_n (n := 92) X (dg dc_R_go 55 rfl) rfl rfl rfl ?_
    refine js_iconst (n := 93) 0 X (dg dc_R_go 56 rfl) rfl (by decide) ?_
    refine js_iastore (f := R.2.2.2.2.2.2.2.2.2.2.2.2.2.2.2.2.2.2.2.2.2.1) (n := 94) X (dg dc_R_go 57 rfl) rfl rfl ?_
    refine js_iinc (lo' := [some (.ref 25), some (.int v1), some (.int (v2 + 1)), none]) (n := 97) 1 X (dg dc_R_go 58 rfl) rfl (by decide) (Nat.le_of_ble_eq_true rfl) rfl rfl ?_
    refine js_goto (t := 71) X (dg dc_R_go 59 rfl) (by decide) ?_
    exact js_keep [true, true, true, false] (ih (R.1, R.2.1, R.2.2.1, R.2.2.2.1, R.2.2.2.2.1, R.2.2.2.2.2.1, R.2.2.2.2.2.2.1, R.2.2.2.2.2.2.2.1, R.2.2.2.2.2.2.2.2.1, R.2.2.2.2.2.2.2.2.2.1, R.2.2.2.2.2.2.2.2.2.2.1, R.2.2.2.2.2.2.2.2.2.2.2.1, R.2.2.2.2.2.2.2.2.2.2.2.2.1, R.2.2.2.2.2.2.2.2.2.2.2.2.2.1, R.2.2.2.2.2.2.2.2.2.2.2.2.2.2.1, R.2.2.2.2.2.2.2.2.2.2.2.2.2.2.2.1, R.2.2.2.2.2.2.2.2.2.2.2.2.2.2.2.2.1, R.2.2.2.2.2.2.2.2.2.2.2.2.2.2.2.2.2.1, R.2.2.2.2.2.2.2.2.2.2.2.2.2.2.2.2.2.2.1, R.2.2.2.2.2.2.2.2.2.2.2.2.2.2.2.2.2.2.2.1, (upd R.2.2.2.2.2.2.2.2.2.2.2.2.2.2.2.2.2.2.2.2.1 (ix v2) r83), (upd R.2.2.2.2.2.2.2.2.2.2.2.2.2.2.2.2.2.2.2.2.2.1 (ix v2) 0), R.2.2.2.2.2.2.2.2.2.2.2.2.2.2.2.2.2.2.2.2.2.2) v1 (v2 + 1))
set_option maxRecDepth 100000 in
set_option maxHeartbeats 4000000 in
theorem jl_R_go_25_L41 (l : Launch) (Dv : va_G) (fu : Nat) (h : S_H) (out : Nat → Int64) (κ : ev_ka) (X : ev_X l Dv gaX mu_R_go κ) (k29 : S_R → Int32 → Int32 → Option (S_R)) (hk29 : ∀ (R : S_R) (v1 : Int32) (v2 : Int32), ev_J l Dv gaX mu_R_go κ 29 0 0 [some (.ref 25), some (.int v1), some (.int v2), none] [] (hpW h R out) (k29 R v1 v2) (fun q => (none, hpW h q out))) : ∀ (n : Nat) (R : S_R) (v1 : Int32) (v2 : Int32) (v3 : Int32), ev_J l Dv gaX mu_R_go κ 41 0 0 [some (.ref 25), some (.int v1), some (.int v2), some (.int v3)] [] (hpW h R out) (f_R_go_L41 fu k29 n R v1 v2 v3) (fun q => (none, hpW h q out)) := by
  intro n
  induction n with
  | zero => exact fun _ _ _ _ => js_none
  | succ n ih =>
    intro R v1 v2 v3
    unfold f_R_go_L41
    refine js_iload_n (n := 42) X (dg dc_R_go 27 rfl) rfl rfl rfl ?_
    refine js_aload_n (n := 43) X (dg dc_R_go 28 rfl) rfl rfl rfl ?_
    refine js_iload_n (n := 44) X (dg dc_R_go 29 rfl) rfl rfl rfl ?_
    refine js_callV (na := 1) (ci := 6) (n := 47) X (dg dc_R_go 30 rfl) rfl (c_R_events_25 l Dv fu h out R v2) gV_R_166 rfl rfl hy_R_events ⟨(Nat.le_of_ble_eq_true rfl), (Nat.le_of_ble_eq_true rfl)⟩ rfl ⟨(Nat.le_of_ble_eq_true rfl), (Nat.le_of_ble_eq_true rfl)⟩ rfl rfl rfl rfl rfl ?_
    intro r44
    refine js_icmp_ge (t := 63) (n := 50) X (dg dc_R_go 31 rfl) (by decide) rfl ?_ ?_
    · refine js_iinc (lo' := [some (.ref 25), some (.int v1), some (.int (v2 + 1)), some (.int v3)]) (n := 66) 1 X (dg dc_R_go 39 rfl) rfl (by decide) (Nat.le_of_ble_eq_true rfl) rfl rfl ?_
      refine js_goto (t := 29) X (dg dc_R_go 40 rfl) (by decide) ?_
      exact js_keep [true, true, true, false] (hk29 R v1 (v2 + 1))
    refine js_aload_n (n := 51) X (dg dc_R_go 32 rfl) rfl rfl rfl ?_
    refine js_iload_n (n := 52) X (dg dc_R_go 33 rfl) rfl rfl rfl ?_
    refine js_iload_n (n := 53) X (dg dc_R_go 34 rfl) rfl rfl rfl ?_
    refine js_iconst (n := 54) (-1) X (dg dc_R_go 35 rfl) rfl (by decide) ?_
    refine js_callV (na := 3) (ci := 6) (n := 57) X (dg dc_R_go 36 rfl) rfl (c_R_happens_25 l Dv fu h out R v2 v3 (-1)) gV_R_169 rfl rfl hy_R_happens ⟨(Nat.le_of_ble_eq_true rfl), (Nat.le_of_ble_eq_true rfl)⟩ rfl ⟨(Nat.le_of_ble_eq_true rfl), (Nat.le_of_ble_eq_true rfl)⟩ rfl rfl rfl rfl rfl ?_
    intro R_54
    refine js_iinc (lo' := [some (.ref 25), some (.int v1), some (.int v2), some (.int (v3 + 1))]) (n := 60) 1 X (dg dc_R_go 37 rfl) rfl (by decide) (Nat.le_of_ble_eq_true rfl) rfl rfl ?_
    refine js_goto (t := 41) X (dg dc_R_go 38 rfl) (by decide) ?_
    exact js_keep [true, true, true, true] (ih R_54 v1 v2 (v3 + 1))
set_option maxRecDepth 100000 in
set_option maxHeartbeats 4000000 in
theorem jl_R_go_25_L29 (l : Launch) (Dv : va_G) (fu : Nat) (h : S_H) (out : Nat → Int64) (κ : ev_ka) (X : ev_X l Dv gaX mu_R_go κ) : ∀ (n : Nat) (R : S_R) (v1 : Int32) (v2 : Int32), ev_J l Dv gaX mu_R_go κ 29 0 0 [some (.ref 25), some (.int v1), some (.int v2), none] [] (hpW h R out) (f_R_go_L29 fu n R v1 v2) (fun q => (none, hpW h q out)) := by
  intro n
  induction n with
  | zero => exact fun _ _ _ => js_none
  | succ n ih =>
    intro R v1 v2
    unfold f_R_go_L29
    refine js_iload_n (n := 30) X (dg dc_R_go 19 rfl) rfl rfl rfl ?_
    refine js_aload_n (n := 31) X (dg dc_R_go 20 rfl) rfl rfl rfl ?_
    refine js_getf (j := 1) (v := .ref 26) (n := 34) X (dg dc_R_go 21 rfl) rfl hC_R (Nat.le_of_ble_eq_true rfl) hw_127 rfl rfl ?_
    refine js_iconst (n := 35) 0 X (dg dc_R_go 22 rfl) rfl (by decide) ?_
    refine js_iaload (f := R.2.1) (n := 36) X (dg dc_R_go 23 rfl) rfl rfl ?_
    refine js_icmp_ge (t := 69) (n := 39) X (dg dc_R_go 24 rfl) (by decide) rfl ?_ ?_
    · refine js_iconst (n := 70) 1 X (dg dc_R_go 41 rfl) rfl (by decide) ?_
      refine js_istore_n (lo' := [some (.ref 25), some (.int v1), some (.int 1), none]) (n := 71) X (dg dc_R_go 42 rfl) rfl rfl (Nat.le_of_ble_eq_true rfl) rfl ?_
      exact js_keep [true, true, true, false] (jl_R_go_25_L71 l Dv fu h out κ X fu R v1 1)
    refine js_iconst (n := 40) 0 X (dg dc_R_go 25 rfl) rfl (by decide) ?_
    refine js_istore_n (lo' := [some (.ref 25), some (.int v1), some (.int v2), some (.int 0)]) (n := 41) X (dg dc_R_go 26 rfl) rfl rfl (Nat.le_of_ble_eq_true rfl) rfl ?_
    exact js_keep [true, true, true, true] (jl_R_go_25_L41 l Dv fu h out κ X (f_R_go_L29 fu n) (fun z0 z1 z2 => ih z0 z1 z2) fu R v1 v2 0)
set_option maxRecDepth 100000 in
set_option maxHeartbeats 4000000 in
theorem jl_R_go_25_L2 (l : Launch) (Dv : va_G) (fu : Nat) (h : S_H) (out : Nat → Int64) (κ : ev_ka) (X : ev_X l Dv gaX mu_R_go κ) : ∀ (n : Nat) (R : S_R) (v1 : Int32) (v2 : Int32), ev_J l Dv gaX mu_R_go κ 2 0 0 [some (.ref 25), some (.int v1), some (.int v2), none] [] (hpW h R out) (f_R_go_L2 fu n R v1 v2) (fun q => (none, hpW h q out)) := by
  intro n
  induction n with
  | zero => exact fun _ _ _ => js_none
  | succ n ih =>
    intro R v1 v2
    unfold f_R_go_L2
    refine js_iload_n (n := 3) X (dg dc_R_go 2 rfl) rfl rfl rfl ?_
    refine js_iconst (n := 4) 3 X (dg dc_R_go 3 rfl) rfl (by decide) ?_
    refine js_icmp_ge (t := 27) (n := 7) X (dg dc_R_go 4 rfl) (by decide) rfl ?_ ?_
    · refine js_iconst (n := 28) 0 X (dg dc_R_go 17 rfl) rfl (by decide) ?_
      refine js_istore_n (lo' := [some (.ref 25), some (.int v1), some (.int 0), none]) (n := 29) X (dg dc_R_go 18 rfl) rfl rfl (Nat.le_of_ble_eq_true rfl) rfl ?_
      exact js_keep [true, true, true, false] (jl_R_go_25_L29 l Dv fu h out κ X fu R v1 0)
    refine js_aload_n (n := 8) X (dg dc_R_go 5 rfl) rfl rfl rfl ?_
    refine js_getf (j := 11) (v := .ref 34) (n := 11) X (dg dc_R_go 6 rfl) rfl hC_R (Nat.le_of_ble_eq_true rfl) hw_218 rfl rfl ?_
    refine js_iload_n (n := 12) X (dg dc_R_go 7 rfl) rfl rfl rfl ?_
    refine js_iconst (n := 13) 0 X (dg dc_R_go 8 rfl) rfl (by decide) ?_
    refine js_iastore (f := R.2.2.2.2.2.2.2.2.2.2.2.1) (n := 14) X (dg dc_R_go 9 rfl) rfl rfl ?_
    refine js_aload_n (n := 15) X (dg dc_R_go 10 rfl) rfl rfl rfl ?_
    refine js_getf (j := 12) (v := .ref 35) (n := 18) X (dg dc_R_go 11 rfl) rfl hC_R (Nat.le_of_ble_eq_true rfl) hw_219 rfl rfl ?_
    refine js_iload_n (n := 19) X (dg dc_R_go 12 rfl) rfl rfl rfl ?_
    refine js_iconst (n := 20) 0 X (dg dc_R_go 13 rfl) rfl (by decide) ?_
    refine js_bastore (f := R.2.2.2.2.2.2.2.2.2.2.2.2.1) (n := 21) X (dg dc_R_go 14 rfl) rfl rfl ?_
    refine js_iinc (lo' := [some (.ref 25), some (.int v1), some (.int (v2 + 1)), none]) (n := 24) 1 X (dg dc_R_go 15 rfl) rfl (by decide) (Nat.le_of_ble_eq_true rfl) rfl rfl ?_
    refine js_goto (t := 2) X (dg dc_R_go 16 rfl) (by decide) ?_
    exact js_keep [true, true, true, false] (ih (R.1, R.2.1, R.2.2.1, R.2.2.2.1, R.2.2.2.2.1, R.2.2.2.2.2.1, R.2.2.2.2.2.2.1, R.2.2.2.2.2.2.2.1, R.2.2.2.2.2.2.2.2.1, R.2.2.2.2.2.2.2.2.2.1, R.2.2.2.2.2.2.2.2.2.2.1, (upd R.2.2.2.2.2.2.2.2.2.2.2.1 (ix v2) 0), (upd R.2.2.2.2.2.2.2.2.2.2.2.2.1 (ix v2) 0), R.2.2.2.2.2.2.2.2.2.2.2.2.2) v1 (v2 + 1))
set_option maxRecDepth 100000 in
set_option maxHeartbeats 4000000 in
theorem c_R_go_25 (l : Launch) (Dv : va_G) (fu : Nat) (h : S_H) (out : Nat → Int64) (R : S_R) (a1 : Int32) : ev_M l Dv gaX mu_R_go [.ref 25, .int a1] (hpW h R out) (f_R_go fu R a1) (fun q => (none, hpW h q out)) := by
  refine ev_met (lo0 := [some (.ref 25), some (.int a1), none, none]) rfl rfl rfl (fun κ X => ?_)
  unfold f_R_go
  refine js_iconst (n := 1) 0 X (dg dc_R_go 0 rfl) rfl (by decide) ?_
  refine js_istore_n (lo' := [some (.ref 25), some (.int a1), some (.int 0), none]) (n := 2) X (dg dc_R_go 1 rfl) rfl rfl (Nat.le_of_ble_eq_true rfl) rfl ?_
  exact js_keep [true, true, true, false] (jl_R_go_25_L2 l Dv fu h out κ X fu R a1 0)
