set_option maxRecDepth 100000 in
set_option maxHeartbeats 4000000 in
theorem c_R_copy_25 (l : Launch) (Dv : va_G) (fu : Nat) (h : S_H) (out : Nat → Int64) (R : S_R) (a1 : Int32) (a2 : Int32) : ev_M l Dv gaX mu_R_copy [.ref 25, .int a1, .int a2] (hpW h R out) (f_R_copy fu R a1 a2) (fun q => (none, hpW h q out)) := by
  refine ev_met (lo0 := [some (.ref 25), some (.int a1), some (.int a2)]) rfl rfl rfl (fun κ X => ?_)
  unfold f_R_copy
  refine js_aload_n (n := 1) X (dg dc_R_copy 0 rfl) rfl rfl rfl ?_
  refine js_getf (j := 2) (v := .ref 27) (n := 4) X (dg dc_R_copy 1 rfl) rfl hC_R (Nat.le_of_ble_eq_true rfl) hw_138 rfl rfl ?_
  refine js_iload_n (n := 5) X (dg dc_R_copy 2 rfl) rfl rfl rfl ?_
  refine js_aload_n (n := 6) X (dg dc_R_copy 3 rfl) rfl rfl rfl ?_
  refine js_getf (j := 2) (v := .ref 27) (n := 9) X (dg dc_R_copy 4 rfl) rfl hC_R (Nat.le_of_ble_eq_true rfl) hw_138 rfl rfl ?_
  refine js_iload_n (n := 10) X (dg dc_R_copy 5 rfl) rfl rfl rfl ?_
  refine js_iaload (f := R.2.2.1) (n := 11) X (dg dc_R_copy 6 rfl) rfl rfl ?_
  refine js_iastore (f := R.2.2.1) (n := 12) X (dg dc_R_copy 7 rfl) rfl rfl ?_
  refine js_aload_n (n := 13) X (dg dc_R_copy 8 rfl) rfl rfl rfl ?_
  refine js_getf (j := 3) (v := .ref 28) (n := 16) X (dg dc_R_copy 9 rfl) rfl hC_R (Nat.le_of_ble_eq_true rfl) hw_137 rfl rfl ?_
  refine js_iload_n (n := 17) X (dg dc_R_copy 10 rfl) rfl rfl rfl ?_
  refine js_aload_n (n := 18) X (dg dc_R_copy 11 rfl) rfl rfl rfl ?_
  refine js_getf (j := 3) (v := .ref 28) (n := 21) X (dg dc_R_copy 12 rfl) rfl hC_R (Nat.le_of_ble_eq_true rfl) hw_137 rfl rfl ?_
  refine js_iload_n (n := 22) X (dg dc_R_copy 13 rfl) rfl rfl rfl ?_
  refine js_iaload (f := R.2.2.2.1) (n := 23) X (dg dc_R_copy 14 rfl) rfl rfl ?_
  refine js_iastore (f := R.2.2.2.1) (n := 24) X (dg dc_R_copy 15 rfl) rfl rfl ?_
  refine js_aload_n (n := 25) X (dg dc_R_copy 16 rfl) rfl rfl rfl ?_
  refine js_getf (j := 4) (v := .ref 29) (n := 28) X (dg dc_R_copy 17 rfl) rfl hC_R (Nat.le_of_ble_eq_true rfl) hw_160 rfl rfl ?_
  refine js_iload_n (n := 29) X (dg dc_R_copy 18 rfl) rfl rfl rfl ?_
  refine js_aload_n (n := 30) X (dg dc_R_copy 19 rfl) rfl rfl rfl ?_
  refine js_getf (j := 4) (v := .ref 29) (n := 33) X (dg dc_R_copy 20 rfl) rfl hC_R (Nat.le_of_ble_eq_true rfl) hw_160 rfl rfl ?_
  refine js_iload_n (n := 34) X (dg dc_R_copy 21 rfl) rfl rfl rfl ?_
  refine js_iaload (f := R.2.2.2.2.1) (n := 35) X (dg dc_R_copy 22 rfl) rfl rfl ?_
  refine js_iastore (f := R.2.2.2.2.1) (n := 36) X (dg dc_R_copy 23 rfl) rfl rfl ?_
  exact js_retV X (dg dc_R_copy 24 rfl) rfl (Nat.le_of_ble_eq_true rfl) (Nat.le_of_ble_eq_true rfl) rfl
set_option maxRecDepth 100000 in
set_option maxHeartbeats 4000000 in
theorem jl_R_insert_25_L104 (l : Launch) (Dv : va_G) (fu : Nat) (h : S_H) (out : Nat → Int64) (κ : ev_ka) (X : ev_X l Dv gaX mu_R_insert κ) (R : S_R) (v2 : Int32) (v3 : Int32) (v4 : Int32) (v5 : Int32) : ev_J l Dv gaX mu_R_insert κ 104 0 0 [some (.ref 25), none, some (.int v2), some (.int v3), some (.int v4), some (.int v5), none] [] (hpW h R out) (f_R_insert_L104 fu R v2 v3 v4 v5) (fun q => (some (.int q.1), hpW h q.2 out)) := by
  unfold f_R_insert_L104
  refine js_aload_n (n := 105) X (dg dc_R_insert 59 rfl) rfl rfl rfl ?_
  refine js_getf (j := 2) (v := .ref 27) (n := 108) X (dg dc_R_insert 60 rfl) rfl hC_R (Nat.le_of_ble_eq_true rfl) hw_138 rfl rfl ?_
  refine js_iload (n := 110) X (dg dc_R_insert 61 rfl) rfl rfl ?_
  refine js_iload_n (n := 111) X (dg dc_R_insert 62 rfl) rfl rfl rfl ?_
  refine js_iastore (f := R.2.2.1) (n := 112) X (dg dc_R_insert 63 rfl) rfl rfl ?_
  refine js_aload_n (n := 113) X (dg dc_R_insert 64 rfl) rfl rfl rfl ?_
  refine js_getf (j := 3) (v := .ref 28) (n := 116) X (dg dc_R_insert 65 rfl) rfl hC_R (Nat.le_of_ble_eq_true rfl) hw_137 rfl rfl ?_
  refine js_iload (n := 118) X (dg dc_R_insert 66 rfl) rfl rfl ?_
  refine js_iload_n (n := 119) X (dg dc_R_insert 67 rfl) rfl rfl rfl ?_
  refine js_iastore (f := R.2.2.2.1) (n := 120) X (dg dc_R_insert 68 rfl) rfl rfl ?_
  refine js_aload_n (n := 121) X (dg dc_R_insert 69 rfl) rfl rfl rfl ?_
  refine js_getf (j := 4) (v := .ref 29) (n := 124) X (dg dc_R_insert 70 rfl) rfl hC_R (Nat.le_of_ble_eq_true rfl) hw_160 rfl rfl ?_
  refine js_iload (n := 126) X (dg dc_R_insert 71 rfl) rfl rfl ?_
  refine js_iload (n := 128) X (dg dc_R_insert 72 rfl) rfl rfl ?_
  refine js_iastore (f := R.2.2.2.2.1) (n := 129) X (dg dc_R_insert 73 rfl) rfl rfl ?_
  refine js_iload (n := 131) X (dg dc_R_insert 74 rfl) rfl rfl ?_
  exact js_retI X (dg dc_R_insert 75 rfl) rfl (Nat.le_of_ble_eq_true rfl) (Nat.le_of_ble_eq_true rfl) rfl
set_option maxRecDepth 100000 in
set_option maxHeartbeats 4000000 in
theorem jl_R_insert_25_L59 (l : Launch) (Dv : va_G) (fu : Nat) (h : S_H) (out : Nat → Int64) (κ : ev_ka) (X : ev_X l Dv gaX mu_R_insert κ) : ∀ (n : Nat) (R : S_R) (v2 : Int32) (v3 : Int32) (v4 : Int32) (v5 : Int32) (v6 : Int32), ev_J l Dv gaX mu_R_insert κ 59 0 0 [some (.ref 25), none, some (.int v2), some (.int v3), some (.int v4), some (.int v5), some (.int v6)] [] (hpW h R out) (f_R_insert_L59 fu n R v2 v3 v4 v5 v6) (fun q => (some (.int q.1), hpW h q.2 out)) := by
  intro n
  induction n with
  | zero => exact fun _ _ _ _ _ _ => js_none
  | succ n ih =>
    intro R v2 v3 v4 v5 v6
    unfold f_R_insert_L59
    refine js_iload (n := 61) X (dg dc_R_insert 35 rfl) rfl rfl ?_
    refine js_aload_n (n := 62) X (dg dc_R_insert 36 rfl) rfl rfl rfl ?_
    refine js_callV (na := 0) (ci := 6) (n := 65) X (dg dc_R_insert 37 rfl) rfl (c_R_many_25 l Dv fu h out R) gV_R_84 rfl rfl hy_R_many ⟨(Nat.le_of_ble_eq_true rfl), (Nat.le_of_ble_eq_true rfl)⟩ rfl ⟨(Nat.le_of_ble_eq_true rfl), (Nat.le_of_ble_eq_true rfl)⟩ rfl rfl rfl rfl rfl ?_
    intro r62
    refine js_icmp_ge (t := 104) (n := 68) X (dg dc_R_insert 38 rfl) (by decide) rfl ?_ ?_
    · exact js_keep [true, false, true, true, true, true, false] (jl_R_insert_25_L104 l Dv fu h out κ X R v2 v3 v4 v5)
    refine js_aload_n (n := 69) X (dg dc_R_insert 39 rfl) rfl rfl rfl ?_
    refine js_getf (j := 4) (v := .ref 29) (n := 72) X (dg dc_R_insert 40 rfl) rfl hC_R (Nat.le_of_ble_eq_true rfl) hw_160 rfl rfl ?_
    refine js_iload (n := 74) X (dg dc_R_insert 41 rfl) rfl rfl ?_
    refine js_dup2 (n := 75) X (dg dc_R_insert 42 rfl) rfl rfl rfl ?_
    refine js_iaload (f := R.2.2.2.2.1) (n := 76) X (dg dc_R_insert 43 rfl) rfl rfl ?_
    refine js_aload_n (n := 77) X (dg dc_R_insert 44 rfl) rfl rfl rfl ?_
    refine js_getf (j := 4) (v := .ref 29) (n := 80) X (dg dc_R_insert 45 rfl) rfl hC_R (Nat.le_of_ble_eq_true rfl) hw_160 rfl rfl ?_
    refine js_iload (n := 82) X (dg dc_R_insert 46 rfl) rfl rfl ?_
    refine js_iaload (f := R.2.2.2.2.1) (n := 83) X (dg dc_R_insert 47 rfl) rfl rfl ?_
    refine js_bipush (n := 85) 8 X (dg dc_R_insert 48 rfl) rfl (by decide) ?_
    refine js_iload (n := 87) X (dg dc_R_insert 49 rfl) rfl rfl ?_
    refine js_iadd (n := 88) X (dg dc_R_insert 50 rfl) rfl ?_
    refine js_icmp_lt (t := 95) (n := 91) X (dg dc_R_insert 51 rfl) (by decide) rfl ?_ ?_
    · refine js_iconst (n := 96) 0 X (dg dc_R_insert 54 rfl) rfl (by decide) ?_
      refine js_iadd (n := 97) X (dg dc_R_insert 55 rfl) rfl ?_
      refine js_iastore (f := R.2.2.2.2.1) (n := 98) X (dg dc_R_insert 56 rfl) rfl rfl ?_
      refine js_iinc (lo' := [some (.ref 25), none, some (.int v2), some (.int v3), some (.int v4), some (.int v5), some (.int (v6 + 1))]) (n := 101) 1 X (dg dc_R_insert 57 rfl) rfl (by decide) (Nat.le_of_ble_eq_true rfl) rfl rfl ?_
      refine js_goto (t := 59) X (dg dc_R_insert 58 rfl) (by decide) ?_
      exact js_keep [true, false, true, true, true, true, true] (ih (R.1, R.2.1, R.2.2.1, R.2.2.2.1, (upd R.2.2.2.2.1 (ix v6) ((R.2.2.2.2.1 (ix v6)) + 0)), R.2.2.2.2.2) v2 v3 v4 v5 (v6 + 1))
    refine js_iconst (n := 92) 1 X (dg dc_R_insert 52 rfl) rfl (by decide) ?_
    refine js_goto (t := 96) X (dg dc_R_insert 53 rfl) (by decide) ?_
    refine js_iadd (n := 97) X (dg dc_R_insert 55 rfl) rfl ?_
    refine js_iastore (f := R.2.2.2.2.1) (n := 98) X (dg dc_R_insert 56 rfl) rfl rfl ?_
    refine js_iinc (lo' := [some (.ref 25), none, some (.int v2), some (.int v3), some (.int v4), some (.int v5), some (.int (v6 + 1))]) (n := 101) 1 X (dg dc_R_insert 57 rfl) rfl (by decide) (Nat.le_of_ble_eq_true rfl) rfl rfl ?_
    refine js_goto (t := 59) X (dg dc_R_insert 58 rfl) (by decide) ?_
    exact js_keep [true, false, true, true, true, true, true] (ih (R.1, R.2.1, R.2.2.1, R.2.2.2.1, (upd R.2.2.2.2.1 (ix v6) ((R.2.2.2.2.1 (ix v6)) + 1)), R.2.2.2.2.2) v2 v3 v4 v5 (v6 + 1))
set_option maxRecDepth 100000 in
set_option maxHeartbeats 4000000 in
theorem jl_R_insert_25_L43 (l : Launch) (Dv : va_G) (fu : Nat) (h : S_H) (out : Nat → Int64) (κ : ev_ka) (X : ev_X l Dv gaX mu_R_insert κ) (R : S_R) (v1 : Int32) (v2 : Int32) (v3 : Int32) (v4 : Int32) (v5 : Int32) : ev_J l Dv gaX mu_R_insert κ 43 0 0 [some (.ref 25), some (.int v1), some (.int v2), some (.int v3), some (.int v4), some (.int v5), none] [] (hpW h R out) (f_R_insert_L43 fu R v1 v2 v3 v4 v5) (fun q => (some (.int q.1), hpW h q.2 out)) := by
  unfold f_R_insert_L43
  refine js_aload_n (n := 44) X (dg dc_R_insert 23 rfl) rfl rfl rfl ?_
  refine js_getf (j := 1) (v := .ref 26) (n := 47) X (dg dc_R_insert 24 rfl) rfl hC_R (Nat.le_of_ble_eq_true rfl) hw_127 rfl rfl ?_
  refine js_iload_n (n := 48) X (dg dc_R_insert 25 rfl) rfl rfl rfl ?_
  refine js_dup2 (n := 49) X (dg dc_R_insert 26 rfl) rfl rfl rfl ?_
  refine js_iaload (f := R.2.1) (n := 50) X (dg dc_R_insert 27 rfl) rfl rfl ?_
  refine js_iconst (n := 51) 1 X (dg dc_R_insert 28 rfl) rfl (by decide) ?_
  refine js_iadd (n := 52) X (dg dc_R_insert 29 rfl) rfl ?_
  refine js_iastore (f := R.2.1) (n := 53) X (dg dc_R_insert 30 rfl) rfl rfl ?_
  refine js_iload (n := 55) X (dg dc_R_insert 31 rfl) rfl rfl ?_
  refine js_iconst (n := 56) 1 X (dg dc_R_insert 32 rfl) rfl (by decide) ?_
  refine js_iadd (n := 57) X (dg dc_R_insert 33 rfl) rfl ?_
  refine js_istore (lo' := [some (.ref 25), some (.int v1), some (.int v2), some (.int v3), some (.int v4), some (.int v5), some (.int (v5 + 1))]) (n := 59) X (dg dc_R_insert 34 rfl) rfl (Nat.le_of_ble_eq_true rfl) rfl ?_
  exact js_keep [true, false, true, true, true, true, true] (jl_R_insert_25_L59 l Dv fu h out κ X fu (R.1, (upd R.2.1 (ix v1) ((R.2.1 (ix v1)) + 1)), R.2.2) v2 v3 v4 v5 (v5 + 1))
set_option maxRecDepth 100000 in
set_option maxHeartbeats 4000000 in
theorem jl_R_insert_25_L20 (l : Launch) (Dv : va_G) (fu : Nat) (h : S_H) (out : Nat → Int64) (κ : ev_ka) (X : ev_X l Dv gaX mu_R_insert κ) : ∀ (n : Nat) (R : S_R) (v1 : Int32) (v2 : Int32) (v3 : Int32) (v4 : Int32) (v5 : Int32) (v6 : Int32), ev_J l Dv gaX mu_R_insert κ 20 0 0 [some (.ref 25), some (.int v1), some (.int v2), some (.int v3), some (.int v4), some (.int v5), some (.int v6)] [] (hpW h R out) (f_R_insert_L20 fu n R v1 v2 v3 v4 v5 v6) (fun q => (some (.int q.1), hpW h q.2 out)) := by
  intro n
  induction n with
  | zero => exact fun _ _ _ _ _ _ _ => js_none
  | succ n ih =>
    intro R v1 v2 v3 v4 v5 v6
    unfold f_R_insert_L20
    refine js_iload (n := 22) X (dg dc_R_insert 12 rfl) rfl rfl ?_
    refine js_iload (n := 24) X (dg dc_R_insert 13 rfl) rfl rfl ?_
    refine js_icmp_le (t := 43) (n := 27) X (dg dc_R_insert 14 rfl) (by decide) rfl ?_ ?_
    · exact js_keep [true, true, true, true, true, true, false] (jl_R_insert_25_L43 l Dv fu h out κ X R v1 v2 v3 v4 v5)
    refine js_aload_n (n := 28) X (dg dc_R_insert 15 rfl) rfl rfl rfl ?_
    refine js_iload (n := 30) X (dg dc_R_insert 16 rfl) rfl rfl ?_
    refine js_iconst (n := 31) 1 X (dg dc_R_insert 17 rfl) rfl (by decide) ?_
    refine js_isub (n := 32) X (dg dc_R_insert 18 rfl) rfl ?_
    refine js_iload (n := 34) X (dg dc_R_insert 19 rfl) rfl rfl ?_
    refine js_callV (na := 2) (ci := 6) (n := 37) X (dg dc_R_insert 20 rfl) rfl (c_R_copy_25 l Dv fu h out R (v6 - 1) v6) gV_R_98 rfl rfl hy_R_copy ⟨(Nat.le_of_ble_eq_true rfl), (Nat.le_of_ble_eq_true rfl)⟩ rfl ⟨(Nat.le_of_ble_eq_true rfl), (Nat.le_of_ble_eq_true rfl)⟩ rfl rfl rfl rfl rfl ?_
    intro R_34
    refine js_iinc (lo' := [some (.ref 25), some (.int v1), some (.int v2), some (.int v3), some (.int v4), some (.int v5), some (.int (v6 + (-1)))]) (n := 40) (-1) X (dg dc_R_insert 21 rfl) rfl (by decide) (Nat.le_of_ble_eq_true rfl) rfl rfl ?_
    refine js_goto (t := 20) X (dg dc_R_insert 22 rfl) (by decide) ?_
    exact js_keep [true, true, true, true, true, true, true] (ih R_34 v1 v2 v3 v4 v5 (v6 + (-1)))
set_option maxRecDepth 100000 in
set_option maxHeartbeats 4000000 in
theorem c_R_insert_25 (l : Launch) (Dv : va_G) (fu : Nat) (h : S_H) (out : Nat → Int64) (R : S_R) (a1 : Int32) (a2 : Int32) (a3 : Int32) (a4 : Int32) : ev_M l Dv gaX mu_R_insert [.ref 25, .int a1, .int a2, .int a3, .int a4] (hpW h R out) (f_R_insert fu R a1 a2 a3 a4) (fun q => (some (.int q.1), hpW h q.2 out)) := by
  refine ev_met (lo0 := [some (.ref 25), some (.int a1), some (.int a2), some (.int a3), some (.int a4), none, none]) rfl rfl rfl (fun κ X => ?_)
  unfold f_R_insert
  refine js_aload_n (n := 1) X (dg dc_R_insert 0 rfl) rfl rfl rfl ?_
  refine js_iload_n (n := 2) X (dg dc_R_insert 1 rfl) rfl rfl rfl ?_
  refine js_callV (na := 1) (ci := 6) (n := 5) X (dg dc_R_insert 2 rfl) rfl (c_R_first_25 l Dv fu h out R a1) gV_R_73 rfl rfl hy_R_first ⟨(Nat.le_of_ble_eq_true rfl), (Nat.le_of_ble_eq_true rfl)⟩ rfl ⟨(Nat.le_of_ble_eq_true rfl), (Nat.le_of_ble_eq_true rfl)⟩ rfl rfl rfl rfl rfl ?_
  intro r2
  refine js_aload_n (n := 6) X (dg dc_R_insert 3 rfl) rfl rfl rfl ?_
  refine js_getf (j := 1) (v := .ref 26) (n := 9) X (dg dc_R_insert 4 rfl) rfl hC_R (Nat.le_of_ble_eq_true rfl) hw_127 rfl rfl ?_
  refine js_iload_n (n := 10) X (dg dc_R_insert 5 rfl) rfl rfl rfl ?_
  refine js_iaload (f := R.2.1) (n := 11) X (dg dc_R_insert 6 rfl) rfl rfl ?_
  refine js_iadd (n := 12) X (dg dc_R_insert 7 rfl) rfl ?_
  refine js_istore (lo' := [some (.ref 25), some (.int a1), some (.int a2), some (.int a3), some (.int a4), some (.int (r2 + (R.2.1 (ix a1)))), none]) (n := 14) X (dg dc_R_insert 8 rfl) rfl (Nat.le_of_ble_eq_true rfl) rfl ?_
  refine js_aload_n (n := 15) X (dg dc_R_insert 9 rfl) rfl rfl rfl ?_
  refine js_callV (na := 0) (ci := 6) (n := 18) X (dg dc_R_insert 10 rfl) rfl (c_R_many_25 l Dv fu h out R) gV_R_84 rfl rfl hy_R_many ⟨(Nat.le_of_ble_eq_true rfl), (Nat.le_of_ble_eq_true rfl)⟩ rfl ⟨(Nat.le_of_ble_eq_true rfl), (Nat.le_of_ble_eq_true rfl)⟩ rfl rfl rfl rfl rfl ?_
  intro r15
  refine js_istore (lo' := [some (.ref 25), some (.int a1), some (.int a2), some (.int a3), some (.int a4), some (.int (r2 + (R.2.1 (ix a1)))), some (.int r15)]) (n := 20) X (dg dc_R_insert 11 rfl) rfl (Nat.le_of_ble_eq_true rfl) rfl ?_
  exact js_keep [true, true, true, true, true, true, true] (jl_R_insert_25_L20 l Dv fu h out κ X fu R a1 a2 a3 a4 (r2 + (R.2.1 (ix a1))) r15)
set_option maxRecDepth 100000 in
set_option maxHeartbeats 4000000 in
theorem jl_R_leaveOut_25_L81 (l : Launch) (Dv : va_G) (fu : Nat) (h : S_H) (out : Nat → Int64) (κ : ev_ka) (X : ev_X l Dv gaX mu_R_leaveOut κ) : ∀ (n : Nat) (R : S_R) (v1 : Int32) (v2 : Int32) (v3 : Int32), ev_J l Dv gaX mu_R_leaveOut κ 81 0 0 [some (.ref 25), some (.int v1), some (.int v2), some (.int v3)] [] (hpW h R out) (f_R_leaveOut_L81 fu n R v1 v2 v3) (fun q => (some (.int q.1), hpW h q.2 out)) := by
  intro n
  induction n with
  | zero => exact fun _ _ _ _ => js_none
  | succ n ih =>
    intro R v1 v2 v3
    unfold f_R_leaveOut_L81
    refine js_iload_n (n := 82) X (dg dc_R_leaveOut 50 rfl) rfl rfl rfl ?_
    refine js_aload_n (n := 83) X (dg dc_R_leaveOut 51 rfl) rfl rfl rfl ?_
    refine js_callV (na := 0) (ci := 6) (n := 86) X (dg dc_R_leaveOut 52 rfl) rfl (c_R_many_25 l Dv fu h out R) gV_R_84 rfl rfl hy_R_many ⟨(Nat.le_of_ble_eq_true rfl), (Nat.le_of_ble_eq_true rfl)⟩ rfl ⟨(Nat.le_of_ble_eq_true rfl), (Nat.le_of_ble_eq_true rfl)⟩ rfl rfl rfl rfl rfl ?_
    intro r83
    refine js_icmp_ge (t := 122) (n := 89) X (dg dc_R_leaveOut 53 rfl) (by decide) rfl ?_ ?_
    · refine js_iload_n (n := 123) X (dg dc_R_leaveOut 74 rfl) rfl rfl rfl ?_
      exact js_retZ X (dg dc_R_leaveOut 75 rfl) rfl (Nat.le_of_ble_eq_true rfl) (Nat.le_of_ble_eq_true rfl) rfl
    refine js_aload_n (n := 90) X (dg dc_R_leaveOut 54 rfl) rfl rfl rfl ?_
    refine js_getf (j := 4) (v := .ref 29) (n := 93) X (dg dc_R_leaveOut 55 rfl) rfl hC_R (Nat.le_of_ble_eq_true rfl) hw_160 rfl rfl ?_
    refine js_iload_n (n := 94) X (dg dc_R_leaveOut 56 rfl) rfl rfl rfl ?_
    refine js_dup2 (n := 95) X (dg dc_R_leaveOut 57 rfl) rfl rfl rfl ?_
    refine js_iaload (f := R.2.2.2.2.1) (n := 96) X (dg dc_R_leaveOut 58 rfl) rfl rfl ?_
    refine js_aload_n (n := 97) X (dg dc_R_leaveOut 59 rfl) rfl rfl rfl ?_
    refine js_getf (j := 4) (v := .ref 29) (n := 100) X (dg dc_R_leaveOut 60 rfl) rfl hC_R (Nat.le_of_ble_eq_true rfl) hw_160 rfl rfl ?_
    refine js_iload_n (n := 101) X (dg dc_R_leaveOut 61 rfl) rfl rfl rfl ?_
    refine js_iaload (f := R.2.2.2.2.1) (n := 102) X (dg dc_R_leaveOut 62 rfl) rfl rfl ?_
    refine js_bipush (n := 104) 8 X (dg dc_R_leaveOut 63 rfl) rfl (by decide) ?_
    refine js_iload_n (n := 105) X (dg dc_R_leaveOut 64 rfl) rfl rfl rfl ?_
    refine js_iadd (n := 106) X (dg dc_R_leaveOut 65 rfl) rfl ?_
    refine js_icmp_le (t := 113) (n := 109) X (dg dc_R_leaveOut 66 rfl) (by decide) rfl ?_ ?_
    · refine js_iconst (n := 114) 0 X (dg dc_R_leaveOut 69 rfl) rfl (by decide) ?_
      refine js_isub (n := 115) X (dg dc_R_leaveOut 70 rfl) rfl ?_
      refine js_iastore (f := R.2.2.2.2.1) (n := 116) X (dg dc_R_leaveOut 71 rfl) rfl rfl ?_
      refine js_iinc (lo' := [some (.ref 25), some (.int v1), some (.int v2), some (.int (v3 + 1))]) (n := 119) 1 X (dg dc_R_leaveOut 72 rfl) rfl (by decide) (Nat.le_of_ble_eq_true rfl) rfl rfl ?_
      refine js_goto (t := 81) X (dg dc_R_leaveOut 73 rfl) (by decide) ?_
      exact js_keep [true, true, true, true] (ih (R.1, R.2.1, R.2.2.1, R.2.2.2.1, (upd R.2.2.2.2.1 (ix v3) ((R.2.2.2.2.1 (ix v3)) - 0)), R.2.2.2.2.2) v1 v2 (v3 + 1))
    refine js_iconst (n := 110) 1 X (dg dc_R_leaveOut 67 rfl) rfl (by decide) ?_
    refine js_goto (t := 114) X (dg dc_R_leaveOut 68 rfl) (by decide) ?_
    refine js_isub (n := 115) X (dg dc_R_leaveOut 70 rfl) rfl ?_
    refine js_iastore (f := R.2.2.2.2.1) (n := 116) X (dg dc_R_leaveOut 71 rfl) rfl rfl ?_
    refine js_iinc (lo' := [some (.ref 25), some (.int v1), some (.int v2), some (.int (v3 + 1))]) (n := 119) 1 X (dg dc_R_leaveOut 72 rfl) rfl (by decide) (Nat.le_of_ble_eq_true rfl) rfl rfl ?_
    refine js_goto (t := 81) X (dg dc_R_leaveOut 73 rfl) (by decide) ?_
    exact js_keep [true, true, true, true] (ih (R.1, R.2.1, R.2.2.1, R.2.2.2.1, (upd R.2.2.2.2.1 (ix v3) ((R.2.2.2.2.1 (ix v3)) - 1)), R.2.2.2.2.2) v1 v2 (v3 + 1))
set_option maxRecDepth 100000 in
set_option maxHeartbeats 4000000 in
theorem jl_R_leaveOut_25_L57 (l : Launch) (Dv : va_G) (fu : Nat) (h : S_H) (out : Nat → Int64) (κ : ev_ka) (X : ev_X l Dv gaX mu_R_leaveOut κ) : ∀ (n : Nat) (R : S_R) (v1 : Int32) (v2 : Int32) (v3 : Int32), ev_J l Dv gaX mu_R_leaveOut κ 57 0 0 [some (.ref 25), some (.int v1), some (.int v2), some (.int v3)] [] (hpW h R out) (f_R_leaveOut_L57 fu n R v1 v2 v3) (fun q => (some (.int q.1), hpW h q.2 out)) := by
  intro n
  induction n with
  | zero => exact fun _ _ _ _ => js_none
  | succ n ih =>
    intro R v1 v2 v3
    unfold f_R_leaveOut_L57
    refine js_iload_n (n := 58) X (dg dc_R_leaveOut 36 rfl) rfl rfl rfl ?_
    refine js_aload_n (n := 59) X (dg dc_R_leaveOut 37 rfl) rfl rfl rfl ?_
    refine js_callV (na := 0) (ci := 6) (n := 62) X (dg dc_R_leaveOut 38 rfl) rfl (c_R_many_25 l Dv fu h out R) gV_R_84 rfl rfl hy_R_many ⟨(Nat.le_of_ble_eq_true rfl), (Nat.le_of_ble_eq_true rfl)⟩ rfl ⟨(Nat.le_of_ble_eq_true rfl), (Nat.le_of_ble_eq_true rfl)⟩ rfl rfl rfl rfl rfl ?_
    intro r59
    refine js_icmp_ge (t := 79) (n := 65) X (dg dc_R_leaveOut 39 rfl) (by decide) rfl ?_ ?_
    · refine js_iconst (n := 80) 0 X (dg dc_R_leaveOut 48 rfl) rfl (by decide) ?_
      refine js_istore_n (lo' := [some (.ref 25), some (.int v1), some (.int v2), some (.int 0)]) (n := 81) X (dg dc_R_leaveOut 49 rfl) rfl rfl (Nat.le_of_ble_eq_true rfl) rfl ?_
      exact js_keep [true, true, true, true] (jl_R_leaveOut_25_L81 l Dv fu h out κ X fu R v1 v2 0)
    refine js_aload_n (n := 66) X (dg dc_R_leaveOut 40 rfl) rfl rfl rfl ?_
    refine js_iload_n (n := 67) X (dg dc_R_leaveOut 41 rfl) rfl rfl rfl ?_
    refine js_iconst (n := 68) 1 X (dg dc_R_leaveOut 42 rfl) rfl (by decide) ?_
    refine js_iadd (n := 69) X (dg dc_R_leaveOut 43 rfl) rfl ?_
    refine js_iload_n (n := 70) X (dg dc_R_leaveOut 44 rfl) rfl rfl rfl ?_
    refine js_callV (na := 2) (ci := 6) (n := 73) X (dg dc_R_leaveOut 45 rfl) rfl (c_R_copy_25 l Dv fu h out R (v3 + 1) v3) gV_R_98 rfl rfl hy_R_copy ⟨(Nat.le_of_ble_eq_true rfl), (Nat.le_of_ble_eq_true rfl)⟩ rfl ⟨(Nat.le_of_ble_eq_true rfl), (Nat.le_of_ble_eq_true rfl)⟩ rfl rfl rfl rfl rfl ?_
    intro R_70
    refine js_iinc (lo' := [some (.ref 25), some (.int v1), some (.int v2), some (.int (v3 + 1))]) (n := 76) 1 X (dg dc_R_leaveOut 46 rfl) rfl (by decide) (Nat.le_of_ble_eq_true rfl) rfl rfl ?_
    refine js_goto (t := 57) X (dg dc_R_leaveOut 47 rfl) (by decide) ?_
    exact js_keep [true, true, true, true] (ih R_70 v1 v2 (v3 + 1))
set_option maxRecDepth 100000 in
set_option maxHeartbeats 4000000 in
theorem jl_R_leaveOut_25_L41 (l : Launch) (Dv : va_G) (fu : Nat) (h : S_H) (out : Nat → Int64) (κ : ev_ka) (X : ev_X l Dv gaX mu_R_leaveOut κ) (R : S_R) (v1 : Int32) (v2 : Int32) : ev_J l Dv gaX mu_R_leaveOut κ 41 0 0 [some (.ref 25), some (.int v1), some (.int v2), none] [] (hpW h R out) (f_R_leaveOut_L41 fu R v1 v2) (fun q => (some (.int q.1), hpW h q.2 out)) := by
  unfold f_R_leaveOut_L41
  refine js_aload_n (n := 42) X (dg dc_R_leaveOut 24 rfl) rfl rfl rfl ?_
  refine js_getf (j := 1) (v := .ref 26) (n := 45) X (dg dc_R_leaveOut 25 rfl) rfl hC_R (Nat.le_of_ble_eq_true rfl) hw_127 rfl rfl ?_
  refine js_aload_n (n := 46) X (dg dc_R_leaveOut 26 rfl) rfl rfl rfl ?_
  refine js_iload_n (n := 47) X (dg dc_R_leaveOut 27 rfl) rfl rfl rfl ?_
  refine js_callV (na := 1) (ci := 6) (n := 50) X (dg dc_R_leaveOut 28 rfl) rfl (c_R_branch_25 l Dv fu h out R v1) gV_R_69 rfl rfl hy_R_branch ⟨(Nat.le_of_ble_eq_true rfl), (Nat.le_of_ble_eq_true rfl)⟩ rfl ⟨(Nat.le_of_ble_eq_true rfl), (Nat.le_of_ble_eq_true rfl)⟩ rfl rfl rfl rfl rfl ?_
  intro r47
  refine js_dup2 (n := 51) X (dg dc_R_leaveOut 29 rfl) rfl rfl rfl ?_
  refine js_iaload (f := R.2.1) (n := 52) X (dg dc_R_leaveOut 30 rfl) rfl rfl ?_
  refine js_iconst (n := 53) 1 X (dg dc_R_leaveOut 31 rfl) rfl (by decide) ?_
  refine js_isub (n := 54) X (dg dc_R_leaveOut 32 rfl) rfl ?_
  refine js_iastore (f := R.2.1) (n := 55) X (dg dc_R_leaveOut 33 rfl) rfl rfl ?_
  refine js_iload_n (n := 56) X (dg dc_R_leaveOut 34 rfl) rfl rfl rfl ?_
  refine js_istore_n (lo' := [some (.ref 25), some (.int v1), some (.int v2), some (.int v1)]) (n := 57) X (dg dc_R_leaveOut 35 rfl) rfl rfl (Nat.le_of_ble_eq_true rfl) rfl ?_
  exact js_keep [true, true, true, true] (jl_R_leaveOut_25_L57 l Dv fu h out κ X fu (R.1, (upd R.2.1 (ix r47) ((R.2.1 (ix r47)) - 1)), R.2.2) v1 v2 v1)
set_option maxRecDepth 100000 in
set_option maxHeartbeats 4000000 in
theorem jl_R_leaveOut_25_L4 (l : Launch) (Dv : va_G) (fu : Nat) (h : S_H) (out : Nat → Int64) (κ : ev_ka) (X : ev_X l Dv gaX mu_R_leaveOut κ) : ∀ (n : Nat) (R : S_R) (v1 : Int32) (v2 : Int32) (v3 : Int32), ev_J l Dv gaX mu_R_leaveOut κ 4 0 0 [some (.ref 25), some (.int v1), some (.int v2), some (.int v3)] [] (hpW h R out) (f_R_leaveOut_L4 fu n R v1 v2 v3) (fun q => (some (.int q.1), hpW h q.2 out)) := by
  intro n
  induction n with
  | zero => exact fun _ _ _ _ => js_none
  | succ n ih =>
    intro R v1 v2 v3
    unfold f_R_leaveOut_L4
    refine js_iload_n (n := 5) X (dg dc_R_leaveOut 4 rfl) rfl rfl rfl ?_
    refine js_aload_n (n := 6) X (dg dc_R_leaveOut 5 rfl) rfl rfl rfl ?_
    refine js_callV (na := 0) (ci := 6) (n := 9) X (dg dc_R_leaveOut 6 rfl) rfl (c_R_many_25 l Dv fu h out R) gV_R_84 rfl rfl hy_R_many ⟨(Nat.le_of_ble_eq_true rfl), (Nat.le_of_ble_eq_true rfl)⟩ rfl ⟨(Nat.le_of_ble_eq_true rfl), (Nat.le_of_ble_eq_true rfl)⟩ rfl rfl rfl rfl rfl ?_
    intro r6
    refine js_icmp_ge (t := 41) (n := 12) X (dg dc_R_leaveOut 7 rfl) (by decide) rfl ?_ ?_
    · exact js_keep [true, true, true, false] (jl_R_leaveOut_25_L41 l Dv fu h out κ X R v1 v2)
    refine js_iload_n (n := 13) X (dg dc_R_leaveOut 8 rfl) rfl rfl rfl ?_
    refine js_if_eq (t := 33) (n := 16) X (dg dc_R_leaveOut 9 rfl) (by decide) rfl ?_ ?_
    · refine js_iconst (n := 34) 0 X (dg dc_R_leaveOut 20 rfl) rfl (by decide) ?_
      refine js_istore_n (lo' := [some (.ref 25), some (.int v1), some (.int 0), some (.int v3)]) (n := 35) X (dg dc_R_leaveOut 21 rfl) rfl rfl (Nat.le_of_ble_eq_true rfl) rfl ?_
      refine js_iinc (lo' := [some (.ref 25), some (.int v1), some (.int 0), some (.int (v3 + 1))]) (n := 38) 1 X (dg dc_R_leaveOut 22 rfl) rfl (by decide) (Nat.le_of_ble_eq_true rfl) rfl rfl ?_
      refine js_goto (t := 4) X (dg dc_R_leaveOut 23 rfl) (by decide) ?_
      exact js_keep [true, true, true, true] (ih R v1 0 (v3 + 1))
    refine js_aload_n (n := 17) X (dg dc_R_leaveOut 10 rfl) rfl rfl rfl ?_
    refine js_getf (j := 4) (v := .ref 29) (n := 20) X (dg dc_R_leaveOut 11 rfl) rfl hC_R (Nat.le_of_ble_eq_true rfl) hw_160 rfl rfl ?_
    refine js_iload_n (n := 21) X (dg dc_R_leaveOut 12 rfl) rfl rfl rfl ?_
    refine js_iaload (f := R.2.2.2.2.1) (n := 22) X (dg dc_R_leaveOut 13 rfl) rfl rfl ?_
    refine js_bipush (n := 24) 8 X (dg dc_R_leaveOut 14 rfl) rfl (by decide) ?_
    refine js_iload_n (n := 25) X (dg dc_R_leaveOut 15 rfl) rfl rfl rfl ?_
    refine js_iadd (n := 26) X (dg dc_R_leaveOut 16 rfl) rfl ?_
    refine js_icmp_eq (t := 33) (n := 29) X (dg dc_R_leaveOut 17 rfl) (by decide) rfl ?_ ?_
    · refine js_iconst (n := 34) 0 X (dg dc_R_leaveOut 20 rfl) rfl (by decide) ?_
      refine js_istore_n (lo' := [some (.ref 25), some (.int v1), some (.int 0), some (.int v3)]) (n := 35) X (dg dc_R_leaveOut 21 rfl) rfl rfl (Nat.le_of_ble_eq_true rfl) rfl ?_
      refine js_iinc (lo' := [some (.ref 25), some (.int v1), some (.int 0), some (.int (v3 + 1))]) (n := 38) 1 X (dg dc_R_leaveOut 22 rfl) rfl (by decide) (Nat.le_of_ble_eq_true rfl) rfl rfl ?_
      refine js_goto (t := 4) X (dg dc_R_leaveOut 23 rfl) (by decide) ?_
      exact js_keep [true, true, true, true] (ih R v1 0 (v3 + 1))
    refine js_iconst (n := 30) 1 X (dg dc_R_leaveOut 18 rfl) rfl (by decide) ?_
    refine js_goto (t := 34) X (dg dc_R_leaveOut 19 rfl) (by decide) ?_
    refine js_istore_n (lo' := [some (.ref 25), some (.int v1), some (.int 1), some (.int v3)]) (n := 35) X (dg dc_R_leaveOut 21 rfl) rfl rfl (Nat.le_of_ble_eq_true rfl) rfl ?_
    refine js_iinc (lo' := [some (.ref 25), some (.int v1), some (.int 1), some (.int (v3 + 1))]) (n := 38) 1 X (dg dc_R_leaveOut 22 rfl) rfl (by decide) (Nat.le_of_ble_eq_true rfl) rfl rfl ?_
    refine js_goto (t := 4) X (dg dc_R_leaveOut 23 rfl) (by decide) ?_
    exact js_keep [true, true, true, true] (ih R v1 1 (v3 + 1))
set_option maxRecDepth 100000 in
set_option maxHeartbeats 4000000 in
theorem c_R_leaveOut_25 (l : Launch) (Dv : va_G) (fu : Nat) (h : S_H) (out : Nat → Int64) (R : S_R) (a1 : Int32) : ev_M l Dv gaX mu_R_leaveOut [.ref 25, .int a1] (hpW h R out) (f_R_leaveOut fu R a1) (fun q => (some (.int q.1), hpW h q.2 out)) := by
  refine ev_met (lo0 := [some (.ref 25), some (.int a1), none, none]) rfl rfl rfl (fun κ X => ?_)
  unfold f_R_leaveOut
  refine js_iconst (n := 1) 1 X (dg dc_R_leaveOut 0 rfl) rfl (by decide) ?_
  refine js_istore_n (lo' := [some (.ref 25), some (.int a1), some (.int 1), none]) (n := 2) X (dg dc_R_leaveOut 1 rfl) rfl rfl (Nat.le_of_ble_eq_true rfl) rfl ?_
  refine js_iconst (n := 3) 0 X (dg dc_R_leaveOut 2 rfl) rfl (by decide) ?_
  refine js_istore_n (lo' := [some (.ref 25), some (.int a1), some (.int 1), some (.int 0)]) (n := 4) X (dg dc_R_leaveOut 3 rfl) rfl rfl (Nat.le_of_ble_eq_true rfl) rfl ?_
  exact js_keep [true, true, true, true] (jl_R_leaveOut_25_L4 l Dv fu h out κ X fu R a1 1 0)
set_option maxRecDepth 100000 in
set_option maxHeartbeats 4000000 in
theorem jl_R_raise_25_L109 (l : Launch) (Dv : va_G) (fu : Nat) (h : S_H) (out : Nat → Int64) (κ : ev_ka) (X : ev_X l Dv gaX mu_R_raise κ) : ∀ (n : Nat) (R : S_R) (v2 : Int32) (v3 : Int32) (v7 : Int32), ev_J l Dv gaX mu_R_raise κ 109 0 0 [some (.ref 25), none, some (.int v2), some (.int v3), none, none, none, some (.int v7), none] [] (hpW h R out) (f_R_raise_L109 fu n R v2 v3 v7) (fun q => (none, hpW h q out)) := by
  intro n
  induction n with
  | zero => exact fun _ _ _ _ => js_none
  | succ n ih =>
    intro R v2 v3 v7
    unfold f_R_raise_L109
    refine js_iload (n := 111) X (dg dc_R_raise 70 rfl) rfl rfl ?_
    refine js_aload_n (n := 112) X (dg dc_R_raise 71 rfl) rfl rfl rfl ?_
    refine js_callV (na := 0) (ci := 6) (n := 115) X (dg dc_R_raise 72 rfl) rfl (c_R_many_25 l Dv fu h out R) gV_R_84 rfl rfl hy_R_many ⟨(Nat.le_of_ble_eq_true rfl), (Nat.le_of_ble_eq_true rfl)⟩ rfl ⟨(Nat.le_of_ble_eq_true rfl), (Nat.le_of_ble_eq_true rfl)⟩ rfl rfl rfl rfl rfl ?_
    intro r112
    refine js_icmp_ge (t := 187) (n := 118) X (dg dc_R_raise 73 rfl) (by decide) rfl ?_ ?_
    · exact js_retV X (dg dc_R_raise 111 rfl) rfl (Nat.le_of_ble_eq_true rfl) (Nat.le_of_ble_eq_true rfl) rfl
    refine js_aload_n (n := 119) X (dg dc_R_raise 74 rfl) rfl rfl rfl ?_
    refine js_getf (j := 4) (v := .ref 29) (n := 122) X (dg dc_R_raise 75 rfl) rfl hC_R (Nat.le_of_ble_eq_true rfl) hw_160 rfl rfl ?_
    refine js_iload (n := 124) X (dg dc_R_raise 76 rfl) rfl rfl ?_
    refine js_iaload (f := R.2.2.2.2.1) (n := 125) X (dg dc_R_raise 77 rfl) rfl rfl ?_
    refine js_bipush (n := 127) 8 X (dg dc_R_raise 78 rfl) rfl (by decide) ?_
    refine js_isub (n := 128) X (dg dc_R_raise 79 rfl) rfl ?_
    refine js_istore (lo' := [some (.ref 25), none, some (.int v2), some (.int v3), none, none, none, some (.int v7), some (.int ((R.2.2.2.2.1 (ix v7)) - 8))]) (n := 130) X (dg dc_R_raise 80 rfl) rfl (Nat.le_of_ble_eq_true rfl) rfl ?_
    refine js_aload_n (n := 131) X (dg dc_R_raise 81 rfl) rfl rfl rfl ?_
    refine js_getf (j := 4) (v := .ref 29) (n := 134) X (dg dc_R_raise 82 rfl) rfl hC_R (Nat.le_of_ble_eq_true rfl) hw_160 rfl rfl ?_
    refine js_iload (n := 136) X (dg dc_R_raise 83 rfl) rfl rfl ?_
    refine js_iload (n := 138) X (dg dc_R_raise 84 rfl) rfl rfl ?_
    refine js_iload_n (n := 139) X (dg dc_R_raise 85 rfl) rfl rfl rfl ?_
    refine js_icmp_ne (t := 149) (n := 142) X (dg dc_R_raise 86 rfl) (by decide) rfl ?_ ?_
    · refine js_iload (n := 151) X (dg dc_R_raise 91 rfl) rfl rfl ?_
      refine js_iload_n (n := 152) X (dg dc_R_raise 92 rfl) rfl rfl rfl ?_
      refine js_icmp_lt (t := 173) (n := 155) X (dg dc_R_raise 93 rfl) (by decide) rfl ?_ ?_
      · refine js_aload_n (n := 174) X (dg dc_R_raise 104 rfl) rfl rfl rfl ?_
        refine js_getf (j := 4) (v := .ref 29) (n := 177) X (dg dc_R_raise 105 rfl) rfl hC_R (Nat.le_of_ble_eq_true rfl) hw_160 rfl rfl ?_
        refine js_iload (n := 179) X (dg dc_R_raise 106 rfl) rfl rfl ?_
        refine js_iaload (f := R.2.2.2.2.1) (n := 180) X (dg dc_R_raise 107 rfl) rfl rfl ?_
        refine js_iastore (f := R.2.2.2.2.1) (n := 181) X (dg dc_R_raise 108 rfl) rfl rfl ?_
        refine js_iinc (lo' := [some (.ref 25), none, some (.int v2), some (.int v3), none, none, none, some (.int (v7 + 1)), some (.int ((R.2.2.2.2.1 (ix v7)) - 8))]) (n := 184) 1 X (dg dc_R_raise 109 rfl) rfl (by decide) (Nat.le_of_ble_eq_true rfl) rfl rfl ?_
        refine js_goto (t := 109) X (dg dc_R_raise 110 rfl) (by decide) ?_
        exact js_keep [true, false, true, true, false, false, false, true, false] (ih (R.1, R.2.1, R.2.2.1, R.2.2.2.1, (upd R.2.2.2.2.1 (ix v7) (R.2.2.2.2.1 (ix v7))), R.2.2.2.2.2) v2 v3 (v7 + 1))
      refine js_iload (n := 157) X (dg dc_R_raise 94 rfl) rfl rfl ?_
      refine js_iload_n (n := 158) X (dg dc_R_raise 95 rfl) rfl rfl rfl ?_
      refine js_icmp_ge (t := 173) (n := 161) X (dg dc_R_raise 96 rfl) (by decide) rfl ?_ ?_
      · refine js_aload_n (n := 174) X (dg dc_R_raise 104 rfl) rfl rfl rfl ?_
        refine js_getf (j := 4) (v := .ref 29) (n := 177) X (dg dc_R_raise 105 rfl) rfl hC_R (Nat.le_of_ble_eq_true rfl) hw_160 rfl rfl ?_
        refine js_iload (n := 179) X (dg dc_R_raise 106 rfl) rfl rfl ?_
        refine js_iaload (f := R.2.2.2.2.1) (n := 180) X (dg dc_R_raise 107 rfl) rfl rfl ?_
        refine js_iastore (f := R.2.2.2.2.1) (n := 181) X (dg dc_R_raise 108 rfl) rfl rfl ?_
        refine js_iinc (lo' := [some (.ref 25), none, some (.int v2), some (.int v3), none, none, none, some (.int (v7 + 1)), some (.int ((R.2.2.2.2.1 (ix v7)) - 8))]) (n := 184) 1 X (dg dc_R_raise 109 rfl) rfl (by decide) (Nat.le_of_ble_eq_true rfl) rfl rfl ?_
        refine js_goto (t := 109) X (dg dc_R_raise 110 rfl) (by decide) ?_
        exact js_keep [true, false, true, true, false, false, false, true, false] (ih (R.1, R.2.1, R.2.2.1, R.2.2.2.1, (upd R.2.2.2.2.1 (ix v7) (R.2.2.2.2.1 (ix v7))), R.2.2.2.2.2) v2 v3 (v7 + 1))
      refine js_aload_n (n := 162) X (dg dc_R_raise 97 rfl) rfl rfl rfl ?_
      refine js_getf (j := 4) (v := .ref 29) (n := 165) X (dg dc_R_raise 98 rfl) rfl hC_R (Nat.le_of_ble_eq_true rfl) hw_160 rfl rfl ?_
      refine js_iload (n := 167) X (dg dc_R_raise 99 rfl) rfl rfl ?_
      refine js_iaload (f := R.2.2.2.2.1) (n := 168) X (dg dc_R_raise 100 rfl) rfl rfl ?_
      refine js_iconst (n := 169) 1 X (dg dc_R_raise 101 rfl) rfl (by decide) ?_
      refine js_iadd (n := 170) X (dg dc_R_raise 102 rfl) rfl ?_
      refine js_goto (t := 180) X (dg dc_R_raise 103 rfl) (by decide) ?_
      refine js_iastore (f := R.2.2.2.2.1) (n := 181) X (dg dc_R_raise 108 rfl) rfl rfl ?_
      refine js_iinc (lo' := [some (.ref 25), none, some (.int v2), some (.int v3), none, none, none, some (.int (v7 + 1)), some (.int ((R.2.2.2.2.1 (ix v7)) - 8))]) (n := 184) 1 X (dg dc_R_raise 109 rfl) rfl (by decide) (Nat.le_of_ble_eq_true rfl) rfl rfl ?_
      refine js_goto (t := 109) X (dg dc_R_raise 110 rfl) (by decide) ?_
      exact js_keep [true, false, true, true, false, false, false, true, false] (ih (R.1, R.2.1, R.2.2.1, R.2.2.2.1, (upd R.2.2.2.2.1 (ix v7) ((R.2.2.2.2.1 (ix v7)) + 1)), R.2.2.2.2.2) v2 v3 (v7 + 1))
    refine js_bipush (n := 144) 8 X (dg dc_R_raise 87 rfl) rfl (by decide) ?_
    refine js_iload_n (n := 145) X (dg dc_R_raise 88 rfl) rfl rfl rfl ?_
    refine js_iadd (n := 146) X (dg dc_R_raise 89 rfl) rfl ?_
    refine js_goto (t := 180) X (dg dc_R_raise 90 rfl) (by decide) ?_
    refine js_iastore (f := R.2.2.2.2.1) (n := 181) X (dg dc_R_raise 108 rfl) rfl rfl ?_
    refine js_iinc (lo' := [some (.ref 25), none, some (.int v2), some (.int v3), none, none, none, some (.int (v7 + 1)), some (.int ((R.2.2.2.2.1 (ix v7)) - 8))]) (n := 184) 1 X (dg dc_R_raise 109 rfl) rfl (by decide) (Nat.le_of_ble_eq_true rfl) rfl rfl ?_
    refine js_goto (t := 109) X (dg dc_R_raise 110 rfl) (by decide) ?_
    exact js_keep [true, false, true, true, false, false, false, true, false] (ih (R.1, R.2.1, R.2.2.1, R.2.2.2.1, (upd R.2.2.2.2.1 (ix v7) (8 + v3)), R.2.2.2.2.2) v2 v3 (v7 + 1))
set_option maxRecDepth 100000 in
set_option maxHeartbeats 4000000 in
theorem jl_R_raise_25_L62 (l : Launch) (Dv : va_G) (fu : Nat) (h : S_H) (out : Nat → Int64) (κ : ev_ka) (X : ev_X l Dv gaX mu_R_raise κ) (R : S_R) (v1 : Int32) (v2 : Int32) (v3 : Int32) (v4 : Int32) (v5 : Int32) (v6 : Int32) : ev_J l Dv gaX mu_R_raise κ 62 0 0 [some (.ref 25), some (.int v1), some (.int v2), some (.int v3), some (.int v4), some (.int v5), some (.int v6), none, none] [] (hpW h R out) (f_R_raise_L62 fu R v1 v2 v3 v4 v5 v6) (fun q => (none, hpW h q out)) := by
  unfold f_R_raise_L62
  refine js_aload_n (n := 63) X (dg dc_R_raise 37 rfl) rfl rfl rfl ?_
  refine js_getf (j := 2) (v := .ref 27) (n := 66) X (dg dc_R_raise 38 rfl) rfl hC_R (Nat.le_of_ble_eq_true rfl) hw_138 rfl rfl ?_
  refine js_iload_n (n := 67) X (dg dc_R_raise 39 rfl) rfl rfl rfl ?_
  refine js_iload (n := 69) X (dg dc_R_raise 40 rfl) rfl rfl ?_
  refine js_iastore (f := R.2.2.1) (n := 70) X (dg dc_R_raise 41 rfl) rfl rfl ?_
  refine js_aload_n (n := 71) X (dg dc_R_raise 42 rfl) rfl rfl rfl ?_
  refine js_getf (j := 3) (v := .ref 28) (n := 74) X (dg dc_R_raise 43 rfl) rfl hC_R (Nat.le_of_ble_eq_true rfl) hw_137 rfl rfl ?_
  refine js_iload_n (n := 75) X (dg dc_R_raise 44 rfl) rfl rfl rfl ?_
  refine js_iload (n := 77) X (dg dc_R_raise 45 rfl) rfl rfl ?_
  refine js_iastore (f := R.2.2.2.1) (n := 78) X (dg dc_R_raise 46 rfl) rfl rfl ?_
  refine js_aload_n (n := 79) X (dg dc_R_raise 47 rfl) rfl rfl rfl ?_
  refine js_getf (j := 4) (v := .ref 29) (n := 82) X (dg dc_R_raise 48 rfl) rfl hC_R (Nat.le_of_ble_eq_true rfl) hw_160 rfl rfl ?_
  refine js_iload_n (n := 83) X (dg dc_R_raise 49 rfl) rfl rfl rfl ?_
  refine js_iload (n := 85) X (dg dc_R_raise 50 rfl) rfl rfl ?_
  refine js_iastore (f := R.2.2.2.2.1) (n := 86) X (dg dc_R_raise 51 rfl) rfl rfl ?_
  refine js_aload_n (n := 87) X (dg dc_R_raise 52 rfl) rfl rfl rfl ?_
  refine js_getf (j := 1) (v := .ref 26) (n := 90) X (dg dc_R_raise 53 rfl) rfl hC_R (Nat.le_of_ble_eq_true rfl) hw_127 rfl rfl ?_
  refine js_iconst (n := 91) 0 X (dg dc_R_raise 54 rfl) rfl (by decide) ?_
  refine js_dup2 (n := 92) X (dg dc_R_raise 55 rfl) rfl rfl rfl ?_
  refine js_iaload (f := R.2.1) (n := 93) X (dg dc_R_raise 56 rfl) rfl rfl ?_
  refine js_iconst (n := 94) 1 X (dg dc_R_raise 57 rfl) rfl (by decide) ?_
  refine js_iadd (n := 95) X (dg dc_R_raise 58 rfl) rfl ?_
  refine js_iastore (f := R.2.1) (n := 96) X (dg dc_R_raise 59 rfl) rfl rfl ?_
  refine js_aload_n (n := 97) X (dg dc_R_raise 60 rfl) rfl rfl rfl ?_
  refine js_getf (j := 1) (v := .ref 26) (n := 100) X (dg dc_R_raise 61 rfl) rfl hC_R (Nat.le_of_ble_eq_true rfl) hw_127 rfl rfl ?_
  refine js_iload_n (n := 101) X (dg dc_R_raise 62 rfl) rfl rfl rfl ?_
  refine js_dup2 (n := 102) X (dg dc_R_raise 63 rfl) rfl rfl rfl ?_
  refine js_iaload (f := (upd R.2.1 (ix 0) ((R.2.1 (ix 0)) + 1))) (n := 103) X (dg dc_R_raise 64 rfl) rfl rfl ?_
  refine js_iconst (n := 104) 1 X (dg dc_R_raise 65 rfl) rfl (by decide) ?_
  refine js_isub (n := 105) X (dg dc_R_raise 66 rfl) rfl ?_
  refine js_iastore (f := (upd R.2.1 (ix 0) ((R.2.1 (ix 0)) + 1))) (n := 106) X (dg dc_R_raise 67 rfl) rfl rfl ?_
  refine js_iconst (n := 107) 0 X (dg dc_R_raise 68 rfl) rfl (by decide) ?_
  refine js_istore (lo' := [some (.ref 25), some (.int v1), some (.int v2), some (.int v3), some (.int v4), some (.int v5), some (.int v6), some (.int 0), none]) (n := 109) X (dg dc_R_raise 69 rfl) rfl (Nat.le_of_ble_eq_true rfl) rfl ?_
  exact js_keep [true, false, true, true, false, false, false, true, false] (jl_R_raise_25_L109 l Dv fu h out κ X fu (R.1, (upd (upd R.2.1 (ix 0) ((R.2.1 (ix 0)) + 1)) (ix v1) (((upd R.2.1 (ix 0) ((R.2.1 (ix 0)) + 1)) (ix v1)) - 1)), (upd R.2.2.1 (ix v3) v4), (upd R.2.2.2.1 (ix v3) v5), (upd R.2.2.2.2.1 (ix v3) v6), R.2.2.2.2.2) v2 v3 0)
set_option maxRecDepth 100000 in
set_option maxHeartbeats 4000000 in
theorem jl_R_raise_25_L40 (l : Launch) (Dv : va_G) (fu : Nat) (h : S_H) (out : Nat → Int64) (κ : ev_ka) (X : ev_X l Dv gaX mu_R_raise κ) : ∀ (n : Nat) (R : S_R) (v1 : Int32) (v2 : Int32) (v3 : Int32) (v4 : Int32) (v5 : Int32) (v6 : Int32) (v7 : Int32), ev_J l Dv gaX mu_R_raise κ 40 0 0 [some (.ref 25), some (.int v1), some (.int v2), some (.int v3), some (.int v4), some (.int v5), some (.int v6), some (.int v7), none] [] (hpW h R out) (f_R_raise_L40 fu n R v1 v2 v3 v4 v5 v6 v7) (fun q => (none, hpW h q out)) := by
  intro n
  induction n with
  | zero => exact fun _ _ _ _ _ _ _ _ => js_none
  | succ n ih =>
    intro R v1 v2 v3 v4 v5 v6 v7
    unfold f_R_raise_L40
    refine js_iload (n := 42) X (dg dc_R_raise 26 rfl) rfl rfl ?_
    refine js_iload_n (n := 43) X (dg dc_R_raise 27 rfl) rfl rfl rfl ?_
    refine js_icmp_le (t := 62) (n := 46) X (dg dc_R_raise 28 rfl) (by decide) rfl ?_ ?_
    · exact js_keep [true, true, true, true, true, true, true, false, false] (jl_R_raise_25_L62 l Dv fu h out κ X R v1 v2 v3 v4 v5 v6)
    refine js_aload_n (n := 47) X (dg dc_R_raise 29 rfl) rfl rfl rfl ?_
    refine js_iload (n := 49) X (dg dc_R_raise 30 rfl) rfl rfl ?_
    refine js_iconst (n := 50) 1 X (dg dc_R_raise 31 rfl) rfl (by decide) ?_
    refine js_isub (n := 51) X (dg dc_R_raise 32 rfl) rfl ?_
    refine js_iload (n := 53) X (dg dc_R_raise 33 rfl) rfl rfl ?_
    refine js_callV (na := 2) (ci := 6) (n := 56) X (dg dc_R_raise 34 rfl) rfl (c_R_copy_25 l Dv fu h out R (v7 - 1) v7) gV_R_98 rfl rfl hy_R_copy ⟨(Nat.le_of_ble_eq_true rfl), (Nat.le_of_ble_eq_true rfl)⟩ rfl ⟨(Nat.le_of_ble_eq_true rfl), (Nat.le_of_ble_eq_true rfl)⟩ rfl rfl rfl rfl rfl ?_
    intro R_53
    refine js_iinc (lo' := [some (.ref 25), some (.int v1), some (.int v2), some (.int v3), some (.int v4), some (.int v5), some (.int v6), some (.int (v7 + (-1))), none]) (n := 59) (-1) X (dg dc_R_raise 35 rfl) rfl (by decide) (Nat.le_of_ble_eq_true rfl) rfl rfl ?_
    refine js_goto (t := 40) X (dg dc_R_raise 36 rfl) (by decide) ?_
    exact js_keep [true, true, true, true, true, true, true, true, false] (ih R_53 v1 v2 v3 v4 v5 v6 (v7 + (-1)))
set_option maxRecDepth 100000 in
set_option maxHeartbeats 4000000 in
theorem c_R_raise_25 (l : Launch) (Dv : va_G) (fu : Nat) (h : S_H) (out : Nat → Int64) (R : S_R) (a1 : Int32) : ev_M l Dv gaX mu_R_raise [.ref 25, .int a1] (hpW h R out) (f_R_raise fu R a1) (fun q => (none, hpW h q out)) := by
  refine ev_met (lo0 := [some (.ref 25), some (.int a1), none, none, none, none, none, none, none]) rfl rfl rfl (fun κ X => ?_)
  unfold f_R_raise
  refine js_aload_n (n := 1) X (dg dc_R_raise 0 rfl) rfl rfl rfl ?_
  refine js_iload_n (n := 2) X (dg dc_R_raise 1 rfl) rfl rfl rfl ?_
  refine js_callV (na := 1) (ci := 6) (n := 5) X (dg dc_R_raise 2 rfl) rfl (c_R_first_25 l Dv fu h out R a1) gV_R_73 rfl rfl hy_R_first ⟨(Nat.le_of_ble_eq_true rfl), (Nat.le_of_ble_eq_true rfl)⟩ rfl ⟨(Nat.le_of_ble_eq_true rfl), (Nat.le_of_ble_eq_true rfl)⟩ rfl rfl rfl rfl rfl ?_
  intro r2
  refine js_istore_n (lo' := [some (.ref 25), some (.int a1), some (.int r2), none, none, none, none, none, none]) (n := 6) X (dg dc_R_raise 3 rfl) rfl rfl (Nat.le_of_ble_eq_true rfl) rfl ?_
  refine js_aload_n (n := 7) X (dg dc_R_raise 4 rfl) rfl rfl rfl ?_
  refine js_getf (j := 1) (v := .ref 26) (n := 10) X (dg dc_R_raise 5 rfl) rfl hC_R (Nat.le_of_ble_eq_true rfl) hw_127 rfl rfl ?_
  refine js_iconst (n := 11) 0 X (dg dc_R_raise 6 rfl) rfl (by decide) ?_
  refine js_iaload (f := R.2.1) (n := 12) X (dg dc_R_raise 7 rfl) rfl rfl ?_
  refine js_istore_n (lo' := [some (.ref 25), some (.int a1), some (.int r2), some (.int (R.2.1 (ix 0))), none, none, none, none, none]) (n := 13) X (dg dc_R_raise 8 rfl) rfl rfl (Nat.le_of_ble_eq_true rfl) rfl ?_
  refine js_aload_n (n := 14) X (dg dc_R_raise 9 rfl) rfl rfl rfl ?_
  refine js_getf (j := 2) (v := .ref 27) (n := 17) X (dg dc_R_raise 10 rfl) rfl hC_R (Nat.le_of_ble_eq_true rfl) hw_138 rfl rfl ?_
  refine js_iload_n (n := 18) X (dg dc_R_raise 11 rfl) rfl rfl rfl ?_
  refine js_iaload (f := R.2.2.1) (n := 19) X (dg dc_R_raise 12 rfl) rfl rfl ?_
  refine js_istore (lo' := [some (.ref 25), some (.int a1), some (.int r2), some (.int (R.2.1 (ix 0))), some (.int (R.2.2.1 (ix r2))), none, none, none, none]) (n := 21) X (dg dc_R_raise 13 rfl) rfl (Nat.le_of_ble_eq_true rfl) rfl ?_
  refine js_aload_n (n := 22) X (dg dc_R_raise 14 rfl) rfl rfl rfl ?_
  refine js_getf (j := 3) (v := .ref 28) (n := 25) X (dg dc_R_raise 15 rfl) rfl hC_R (Nat.le_of_ble_eq_true rfl) hw_137 rfl rfl ?_
  refine js_iload_n (n := 26) X (dg dc_R_raise 16 rfl) rfl rfl rfl ?_
  refine js_iaload (f := R.2.2.2.1) (n := 27) X (dg dc_R_raise 17 rfl) rfl rfl ?_
  refine js_istore (lo' := [some (.ref 25), some (.int a1), some (.int r2), some (.int (R.2.1 (ix 0))), some (.int (R.2.2.1 (ix r2))), some (.int (R.2.2.2.1 (ix r2))), none, none, none]) (n := 29) X (dg dc_R_raise 18 rfl) rfl (Nat.le_of_ble_eq_true rfl) rfl ?_
  refine js_aload_n (n := 30) X (dg dc_R_raise 19 rfl) rfl rfl rfl ?_
  refine js_getf (j := 4) (v := .ref 29) (n := 33) X (dg dc_R_raise 20 rfl) rfl hC_R (Nat.le_of_ble_eq_true rfl) hw_160 rfl rfl ?_
  refine js_iload_n (n := 34) X (dg dc_R_raise 21 rfl) rfl rfl rfl ?_
  refine js_iaload (f := R.2.2.2.2.1) (n := 35) X (dg dc_R_raise 22 rfl) rfl rfl ?_
  refine js_istore (lo' := [some (.ref 25), some (.int a1), some (.int r2), some (.int (R.2.1 (ix 0))), some (.int (R.2.2.1 (ix r2))), some (.int (R.2.2.2.1 (ix r2))), some (.int (R.2.2.2.2.1 (ix r2))), none, none]) (n := 37) X (dg dc_R_raise 23 rfl) rfl (Nat.le_of_ble_eq_true rfl) rfl ?_
  refine js_iload_n (n := 38) X (dg dc_R_raise 24 rfl) rfl rfl rfl ?_
  refine js_istore (lo' := [some (.ref 25), some (.int a1), some (.int r2), some (.int (R.2.1 (ix 0))), some (.int (R.2.2.1 (ix r2))), some (.int (R.2.2.2.1 (ix r2))), some (.int (R.2.2.2.2.1 (ix r2))), some (.int r2), none]) (n := 40) X (dg dc_R_raise 25 rfl) rfl (Nat.le_of_ble_eq_true rfl) rfl ?_
  exact js_keep [true, true, true, true, true, true, true, true, false] (jl_R_raise_25_L40 l Dv fu h out κ X fu R a1 r2 (R.2.1 (ix 0)) (R.2.2.1 (ix r2)) (R.2.2.2.1 (ix r2)) (R.2.2.2.2.1 (ix r2)) r2)
set_option maxRecDepth 100000 in
set_option maxHeartbeats 4000000 in
theorem jl_R_add_25_L98 (l : Launch) (Dv : va_G) (fu : Nat) (h : S_H) (out : Nat → Int64) (κ : ev_ka) (X : ev_X l Dv gaX mu_R_add κ) (R : S_R) (v1 : Int32) (v2 : Int32) (v3 : Int32) (v4 : Int32) (s0 : Int32) (s1 : Int32) : ev_J l Dv gaX mu_R_add κ 98 0 0 [some (.ref 25), some (.int v1), some (.int v2), some (.int v3), some (.int v4), none] [.int s1, .int s0] (hpW h R out) (f_R_add_L98 fu R v1 v2 v3 v4 s0 s1) (fun q => (some (.int q.1), hpW h q.2 out)) := by
  unfold f_R_add_L98
  refine js_icmp_ne (t := 107) (n := 101) X (dg dc_R_add 55 rfl) (by decide) rfl ?_ ?_
  · refine js_aload_n (n := 108) X (dg dc_R_add 60 rfl) rfl rfl rfl ?_
    refine js_callV (na := 0) (ci := 6) (n := 111) X (dg dc_R_add 61 rfl) rfl (c_R_keep_25 l Dv fu h out R) gV_R_108 rfl rfl hy_R_keep ⟨(Nat.le_of_ble_eq_true rfl), (Nat.le_of_ble_eq_true rfl)⟩ rfl ⟨(Nat.le_of_ble_eq_true rfl), (Nat.le_of_ble_eq_true rfl)⟩ rfl rfl rfl rfl rfl ?_
    intro R_108
    refine js_aload_n (n := 112) X (dg dc_R_add 62 rfl) rfl rfl rfl ?_
    refine js_iload_n (n := 113) X (dg dc_R_add 63 rfl) rfl rfl rfl ?_
    refine js_iload_n (n := 114) X (dg dc_R_add 64 rfl) rfl rfl rfl ?_
    refine js_iload_n (n := 115) X (dg dc_R_add 65 rfl) rfl rfl rfl ?_
    refine js_iload (n := 117) X (dg dc_R_add 66 rfl) rfl rfl ?_
    refine js_callV (na := 4) (ci := 6) (n := 120) X (dg dc_R_add 67 rfl) rfl (c_R_insert_25 l Dv fu h out R_108 v1 v2 v3 v4) gV_R_111 rfl rfl hy_R_insert ⟨(Nat.le_of_ble_eq_true rfl), (Nat.le_of_ble_eq_true rfl)⟩ rfl ⟨(Nat.le_of_ble_eq_true rfl), (Nat.le_of_ble_eq_true rfl)⟩ rfl rfl rfl rfl rfl ?_
    rintro ⟨r117, R_117⟩
    refine js_istore (lo' := [some (.ref 25), some (.int v1), some (.int v2), some (.int v3), some (.int v4), some (.int r117)]) (n := 122) X (dg dc_R_add 68 rfl) rfl (Nat.le_of_ble_eq_true rfl) rfl ?_
    refine js_aload_n (n := 123) X (dg dc_R_add 69 rfl) rfl rfl rfl ?_
    refine js_callV (na := 0) (ci := 6) (n := 126) X (dg dc_R_add 70 rfl) rfl (c_R_valid_25 l Dv fu h out R_117) gV_R_115 rfl rfl hy_R_valid ⟨(Nat.le_of_ble_eq_true rfl), (Nat.le_of_ble_eq_true rfl)⟩ rfl ⟨(Nat.le_of_ble_eq_true rfl), (Nat.le_of_ble_eq_true rfl)⟩ rfl rfl rfl rfl rfl ?_
    rintro ⟨r123, R_123⟩
    refine js_if_ne (t := 139) (n := 129) X (dg dc_R_add 71 rfl) (by decide) rfl ?_ ?_
    · refine js_aload_n (n := 140) X (dg dc_R_add 78 rfl) rfl rfl rfl ?_
      refine js_iconst (n := 141) 0 X (dg dc_R_add 79 rfl) rfl (by decide) ?_
      refine js_putz (j := 13) (n := 144) X (dg dc_R_add 80 rfl) rfl hC_R (Nat.le_of_ble_eq_true rfl) hw_190 rfl rfl (Or.inl rfl) (Nat.le_of_ble_eq_true rfl) ?_
      refine js_iload (n := 146) X (dg dc_R_add 81 rfl) rfl rfl ?_
      exact js_retI X (dg dc_R_add 82 rfl) rfl (Nat.le_of_ble_eq_true rfl) (Nat.le_of_ble_eq_true rfl) rfl
    refine js_aload_n (n := 130) X (dg dc_R_add 72 rfl) rfl rfl rfl ?_
    refine js_callV (na := 0) (ci := 6) (n := 133) X (dg dc_R_add 73 rfl) rfl (c_R_putBack_25 l Dv fu h out R_123) gV_R_119 rfl rfl hy_R_putBack ⟨(Nat.le_of_ble_eq_true rfl), (Nat.le_of_ble_eq_true rfl)⟩ rfl ⟨(Nat.le_of_ble_eq_true rfl), (Nat.le_of_ble_eq_true rfl)⟩ rfl rfl rfl rfl rfl ?_
    intro R_130
    refine js_aload_n (n := 134) X (dg dc_R_add 74 rfl) rfl rfl rfl ?_
    refine js_iconst (n := 135) 3 X (dg dc_R_add 75 rfl) rfl (by decide) ?_
    refine js_callV (na := 1) (ci := 6) (n := 138) X (dg dc_R_add 76 rfl) rfl (c_R_fail_25 l Dv fu h out R_130 3) gV_R_105 rfl rfl hy_R_fail ⟨(Nat.le_of_ble_eq_true rfl), (Nat.le_of_ble_eq_true rfl)⟩ rfl ⟨(Nat.le_of_ble_eq_true rfl), (Nat.le_of_ble_eq_true rfl)⟩ rfl rfl rfl rfl rfl ?_
    rintro ⟨r135, R_135⟩
    exact js_retI X (dg dc_R_add 77 rfl) rfl (Nat.le_of_ble_eq_true rfl) (Nat.le_of_ble_eq_true rfl) rfl
  refine js_aload_n (n := 102) X (dg dc_R_add 56 rfl) rfl rfl rfl ?_
  refine js_iconst (n := 103) 2 X (dg dc_R_add 57 rfl) rfl (by decide) ?_
  refine js_callV (na := 1) (ci := 6) (n := 106) X (dg dc_R_add 58 rfl) rfl (c_R_fail_25 l Dv fu h out R 2) gV_R_105 rfl rfl hy_R_fail ⟨(Nat.le_of_ble_eq_true rfl), (Nat.le_of_ble_eq_true rfl)⟩ rfl ⟨(Nat.le_of_ble_eq_true rfl), (Nat.le_of_ble_eq_true rfl)⟩ rfl rfl rfl rfl rfl ?_
  rintro ⟨r103, R_103⟩
  exact js_retI X (dg dc_R_add 59 rfl) rfl (Nat.le_of_ble_eq_true rfl) (Nat.le_of_ble_eq_true rfl) rfl
set_option maxRecDepth 100000 in
set_option maxHeartbeats 4000000 in
theorem c_R_add_25 (l : Launch) (Dv : va_G) (fu : Nat) (h : S_H) (out : Nat → Int64) (R : S_R) (a1 : Int32) (a2 : Int32) (a3 : Int32) (a4 : Int32) : ev_M l Dv gaX mu_R_add [.ref 25, .int a1, .int a2, .int a3, .int a4] (hpW h R out) (f_R_add fu R a1 a2 a3 a4) (fun q => (some (.int q.1), hpW h q.2 out)) := by
  refine ev_met (lo0 := [some (.ref 25), some (.int a1), some (.int a2), some (.int a3), some (.int a4), none]) rfl rfl rfl (fun κ X => ?_)
  unfold f_R_add
  refine js_aload_n (n := 1) X (dg dc_R_add 0 rfl) rfl rfl rfl ?_
  refine js_iconst (n := 2) 0 X (dg dc_R_add 1 rfl) rfl (by decide) ?_
  refine js_puti (j := 0) (n := 5) X (dg dc_R_add 2 rfl) rfl hC_R (Nat.le_of_ble_eq_true rfl) hw_126 rfl rfl (Or.inl rfl) (Nat.le_of_ble_eq_true rfl) ?_
  refine js_iload_n (n := 6) X (dg dc_R_add 3 rfl) rfl rfl rfl ?_
  refine js_iconst (n := 7) 0 X (dg dc_R_add 4 rfl) rfl (by decide) ?_
  refine js_iconst (n := 8) 2 X (dg dc_R_add 5 rfl) rfl (by decide) ?_
  refine js_callS (na := 3) (n := 11) X (dg dc_R_add 6 rfl) rfl (c_R_within l Dv fu _ a1 0 2) gS_R_102 rfl rfl hy_R_within.2 ⟨(Nat.le_of_ble_eq_true rfl), (Nat.le_of_ble_eq_true rfl)⟩ ⟨(Nat.le_of_ble_eq_true rfl), (Nat.le_of_ble_eq_true rfl)⟩ rfl rfl rfl rfl ?_
  intro r8
  refine js_if_eq (t := 38) (n := 14) X (dg dc_R_add 7 rfl) (by decide) rfl ?_ ?_
  · refine js_aload_n (n := 39) X (dg dc_R_add 20 rfl) rfl rfl rfl ?_
    refine js_iconst (n := 40) 1 X (dg dc_R_add 21 rfl) rfl (by decide) ?_
    refine js_callV (na := 1) (ci := 6) (n := 43) X (dg dc_R_add 22 rfl) rfl (c_R_fail_25 l Dv fu h out (0, R.2) 1) gV_R_105 rfl rfl hy_R_fail ⟨(Nat.le_of_ble_eq_true rfl), (Nat.le_of_ble_eq_true rfl)⟩ rfl ⟨(Nat.le_of_ble_eq_true rfl), (Nat.le_of_ble_eq_true rfl)⟩ rfl rfl rfl rfl rfl ?_
    rintro ⟨r40, R_40⟩
    exact js_retI X (dg dc_R_add 23 rfl) rfl (Nat.le_of_ble_eq_true rfl) (Nat.le_of_ble_eq_true rfl) rfl
  refine js_iload_n (n := 15) X (dg dc_R_add 8 rfl) rfl rfl rfl ?_
  refine js_iconst (n := 16) 0 X (dg dc_R_add 9 rfl) rfl (by decide) ?_
  refine js_bipush (n := 18) 6 X (dg dc_R_add 10 rfl) rfl (by decide) ?_
  refine js_callS (na := 3) (n := 21) X (dg dc_R_add 11 rfl) rfl (c_R_within l Dv fu _ a2 0 6) gS_R_102 rfl rfl hy_R_within.2 ⟨(Nat.le_of_ble_eq_true rfl), (Nat.le_of_ble_eq_true rfl)⟩ ⟨(Nat.le_of_ble_eq_true rfl), (Nat.le_of_ble_eq_true rfl)⟩ rfl rfl rfl rfl ?_
  intro r18
  refine js_if_eq (t := 38) (n := 24) X (dg dc_R_add 12 rfl) (by decide) rfl ?_ ?_
  · refine js_aload_n (n := 39) X (dg dc_R_add 20 rfl) rfl rfl rfl ?_
    refine js_iconst (n := 40) 1 X (dg dc_R_add 21 rfl) rfl (by decide) ?_
    refine js_callV (na := 1) (ci := 6) (n := 43) X (dg dc_R_add 22 rfl) rfl (c_R_fail_25 l Dv fu h out (0, R.2) 1) gV_R_105 rfl rfl hy_R_fail ⟨(Nat.le_of_ble_eq_true rfl), (Nat.le_of_ble_eq_true rfl)⟩ rfl ⟨(Nat.le_of_ble_eq_true rfl), (Nat.le_of_ble_eq_true rfl)⟩ rfl rfl rfl rfl rfl ?_
    rintro ⟨r40, R_40⟩
    exact js_retI X (dg dc_R_add 23 rfl) rfl (Nat.le_of_ble_eq_true rfl) (Nat.le_of_ble_eq_true rfl) rfl
  refine js_iload_n (n := 25) X (dg dc_R_add 13 rfl) rfl rfl rfl ?_
  refine js_iconst (n := 26) 0 X (dg dc_R_add 14 rfl) rfl (by decide) ?_
  refine js_iconst (n := 27) 2 X (dg dc_R_add 15 rfl) rfl (by decide) ?_
  refine js_callS (na := 3) (n := 30) X (dg dc_R_add 16 rfl) rfl (c_R_within l Dv fu _ a3 0 2) gS_R_102 rfl rfl hy_R_within.2 ⟨(Nat.le_of_ble_eq_true rfl), (Nat.le_of_ble_eq_true rfl)⟩ ⟨(Nat.le_of_ble_eq_true rfl), (Nat.le_of_ble_eq_true rfl)⟩ rfl rfl rfl rfl ?_
  intro r27
  refine js_if_eq (t := 38) (n := 33) X (dg dc_R_add 17 rfl) (by decide) rfl ?_ ?_
  · refine js_aload_n (n := 39) X (dg dc_R_add 20 rfl) rfl rfl rfl ?_
    refine js_iconst (n := 40) 1 X (dg dc_R_add 21 rfl) rfl (by decide) ?_
    refine js_callV (na := 1) (ci := 6) (n := 43) X (dg dc_R_add 22 rfl) rfl (c_R_fail_25 l Dv fu h out (0, R.2) 1) gV_R_105 rfl rfl hy_R_fail ⟨(Nat.le_of_ble_eq_true rfl), (Nat.le_of_ble_eq_true rfl)⟩ rfl ⟨(Nat.le_of_ble_eq_true rfl), (Nat.le_of_ble_eq_true rfl)⟩ rfl rfl rfl rfl rfl ?_
    rintro ⟨r40, R_40⟩
    exact js_retI X (dg dc_R_add 23 rfl) rfl (Nat.le_of_ble_eq_true rfl) (Nat.le_of_ble_eq_true rfl) rfl
  refine js_iload (n := 35) X (dg dc_R_add 18 rfl) rfl rfl ?_
  refine js_if_ge (t := 44) (n := 38) X (dg dc_R_add 19 rfl) (by decide) rfl ?_ ?_
  · refine js_iload (n := 46) X (dg dc_R_add 24 rfl) rfl rfl ?_
    refine js_bipush (n := 48) 7 X (dg dc_R_add 25 rfl) rfl (by decide) ?_
    refine js_icmp_le (t := 82) (n := 51) X (dg dc_R_add 26 rfl) (by decide) rfl ?_ ?_
    · refine js_aload_n (n := 83) X (dg dc_R_add 46 rfl) rfl rfl rfl ?_
      refine js_getf (j := 1) (v := .ref 26) (n := 86) X (dg dc_R_add 47 rfl) rfl hC_R (Nat.le_of_ble_eq_true rfl) hw_127 rfl rfl ?_
      refine js_iload_n (n := 87) X (dg dc_R_add 48 rfl) rfl rfl rfl ?_
      refine js_iaload (f := R.2.1) (n := 88) X (dg dc_R_add 49 rfl) rfl rfl ?_
      refine js_iload_n (n := 89) X (dg dc_R_add 50 rfl) rfl rfl rfl ?_
      refine js_if_ne (t := 97) (n := 92) X (dg dc_R_add 51 rfl) (by decide) rfl ?_ ?_
      · refine js_iconst (n := 98) 4 X (dg dc_R_add 54 rfl) rfl (by decide) ?_
        exact js_keep [true, true, true, true, true, false] (jl_R_add_25_L98 l Dv fu h out κ X (0, R.2) a1 a2 a3 a4 (R.2.1 (ix a1)) 4)
      refine js_bipush (n := 94) 6 X (dg dc_R_add 52 rfl) rfl (by decide) ?_
      refine js_goto (t := 98) X (dg dc_R_add 53 rfl) (by decide) ?_
      exact js_keep [true, true, true, true, true, false] (jl_R_add_25_L98 l Dv fu h out κ X (0, R.2) a1 a2 a3 a4 (R.2.1 (ix a1)) 6)
    refine js_aload_n (n := 52) X (dg dc_R_add 27 rfl) rfl rfl rfl ?_
    refine js_iload (n := 54) X (dg dc_R_add 28 rfl) rfl rfl ?_
    refine js_bipush (n := 56) 8 X (dg dc_R_add 29 rfl) rfl (by decide) ?_
    refine js_isub (n := 57) X (dg dc_R_add 30 rfl) rfl ?_
    refine js_iload_n (n := 58) X (dg dc_R_add 31 rfl) rfl rfl rfl ?_
    refine js_aload_n (n := 59) X (dg dc_R_add 32 rfl) rfl rfl rfl ?_
    refine js_iload_n (n := 60) X (dg dc_R_add 33 rfl) rfl rfl rfl ?_
    refine js_callV (na := 1) (ci := 6) (n := 63) X (dg dc_R_add 34 rfl) rfl (c_R_first_25 l Dv fu h out (0, R.2) a1) gV_R_73 rfl rfl hy_R_first ⟨(Nat.le_of_ble_eq_true rfl), (Nat.le_of_ble_eq_true rfl)⟩ rfl ⟨(Nat.le_of_ble_eq_true rfl), (Nat.le_of_ble_eq_true rfl)⟩ rfl rfl rfl rfl rfl ?_
    intro r60
    refine js_aload_n (n := 64) X (dg dc_R_add 35 rfl) rfl rfl rfl ?_
    refine js_getf (j := 1) (v := .ref 26) (n := 67) X (dg dc_R_add 36 rfl) rfl hC_R (Nat.le_of_ble_eq_true rfl) hw_127 rfl rfl ?_
    refine js_iload_n (n := 68) X (dg dc_R_add 37 rfl) rfl rfl rfl ?_
    refine js_iaload (f := R.2.1) (n := 69) X (dg dc_R_add 38 rfl) rfl rfl ?_
    refine js_iadd (n := 70) X (dg dc_R_add 39 rfl) rfl ?_
    refine js_callV (na := 3) (ci := 6) (n := 73) X (dg dc_R_add 40 rfl) rfl (c_R_mayStand_25 l Dv fu h out (0, R.2) (a4 - 8) a1 (r60 + (R.2.1 (ix a1)))) gV_R_88 rfl rfl hy_R_mayStand ⟨(Nat.le_of_ble_eq_true rfl), (Nat.le_of_ble_eq_true rfl)⟩ rfl ⟨(Nat.le_of_ble_eq_true rfl), (Nat.le_of_ble_eq_true rfl)⟩ rfl rfl rfl rfl rfl ?_
    intro r70
    refine js_if_ne (t := 82) (n := 76) X (dg dc_R_add 41 rfl) (by decide) rfl ?_ ?_
    · refine js_aload_n (n := 83) X (dg dc_R_add 46 rfl) rfl rfl rfl ?_
      refine js_getf (j := 1) (v := .ref 26) (n := 86) X (dg dc_R_add 47 rfl) rfl hC_R (Nat.le_of_ble_eq_true rfl) hw_127 rfl rfl ?_
      refine js_iload_n (n := 87) X (dg dc_R_add 48 rfl) rfl rfl rfl ?_
      refine js_iaload (f := R.2.1) (n := 88) X (dg dc_R_add 49 rfl) rfl rfl ?_
      refine js_iload_n (n := 89) X (dg dc_R_add 50 rfl) rfl rfl rfl ?_
      refine js_if_ne (t := 97) (n := 92) X (dg dc_R_add 51 rfl) (by decide) rfl ?_ ?_
      · refine js_iconst (n := 98) 4 X (dg dc_R_add 54 rfl) rfl (by decide) ?_
        exact js_keep [true, true, true, true, true, false] (jl_R_add_25_L98 l Dv fu h out κ X (0, R.2) a1 a2 a3 a4 (R.2.1 (ix a1)) 4)
      refine js_bipush (n := 94) 6 X (dg dc_R_add 52 rfl) rfl (by decide) ?_
      refine js_goto (t := 98) X (dg dc_R_add 53 rfl) (by decide) ?_
      exact js_keep [true, true, true, true, true, false] (jl_R_add_25_L98 l Dv fu h out κ X (0, R.2) a1 a2 a3 a4 (R.2.1 (ix a1)) 6)
    refine js_aload_n (n := 77) X (dg dc_R_add 42 rfl) rfl rfl rfl ?_
    refine js_iconst (n := 78) 1 X (dg dc_R_add 43 rfl) rfl (by decide) ?_
    refine js_callV (na := 1) (ci := 6) (n := 81) X (dg dc_R_add 44 rfl) rfl (c_R_fail_25 l Dv fu h out (0, R.2) 1) gV_R_105 rfl rfl hy_R_fail ⟨(Nat.le_of_ble_eq_true rfl), (Nat.le_of_ble_eq_true rfl)⟩ rfl ⟨(Nat.le_of_ble_eq_true rfl), (Nat.le_of_ble_eq_true rfl)⟩ rfl rfl rfl rfl rfl ?_
    rintro ⟨r78, R_78⟩
    exact js_retI X (dg dc_R_add 45 rfl) rfl (Nat.le_of_ble_eq_true rfl) (Nat.le_of_ble_eq_true rfl) rfl
  refine js_aload_n (n := 39) X (dg dc_R_add 20 rfl) rfl rfl rfl ?_
  refine js_iconst (n := 40) 1 X (dg dc_R_add 21 rfl) rfl (by decide) ?_
  refine js_callV (na := 1) (ci := 6) (n := 43) X (dg dc_R_add 22 rfl) rfl (c_R_fail_25 l Dv fu h out (0, R.2) 1) gV_R_105 rfl rfl hy_R_fail ⟨(Nat.le_of_ble_eq_true rfl), (Nat.le_of_ble_eq_true rfl)⟩ rfl ⟨(Nat.le_of_ble_eq_true rfl), (Nat.le_of_ble_eq_true rfl)⟩ rfl rfl rfl rfl rfl ?_
  rintro ⟨r40, R_40⟩
  exact js_retI X (dg dc_R_add 23 rfl) rfl (Nat.le_of_ble_eq_true rfl) (Nat.le_of_ble_eq_true rfl) rfl
set_option maxRecDepth 100000 in
set_option maxHeartbeats 4000000 in
theorem jl_R_clear_25_L30 (l : Launch) (Dv : va_G) (fu : Nat) (h : S_H) (out : Nat → Int64) (κ : ev_ka) (X : ev_X l Dv gaX mu_R_clear κ) (R : S_R) (v1 : Int32) : ev_J l Dv gaX mu_R_clear κ 30 0 0 [some (.ref 25), some (.int v1), none] [] (hpW h R out) (f_R_clear_L30 fu R v1) (fun q => (some (.int q.1), hpW h q.2 out)) := by
  unfold f_R_clear_L30
  refine js_aload_n (n := 31) X (dg dc_R_clear 18 rfl) rfl rfl rfl ?_
  refine js_iconst (n := 32) 0 X (dg dc_R_clear 19 rfl) rfl (by decide) ?_
  refine js_putz (j := 13) (n := 35) X (dg dc_R_clear 20 rfl) rfl hC_R (Nat.le_of_ble_eq_true rfl) hw_190 rfl rfl (Or.inl rfl) (Nat.le_of_ble_eq_true rfl) ?_
  refine js_iload_n (n := 36) X (dg dc_R_clear 21 rfl) rfl rfl rfl ?_
  exact js_retI X (dg dc_R_clear 22 rfl) rfl (Nat.le_of_ble_eq_true rfl) (Nat.le_of_ble_eq_true rfl) rfl
set_option maxRecDepth 100000 in
set_option maxHeartbeats 4000000 in
theorem jl_R_clear_25_L12 (l : Launch) (Dv : va_G) (fu : Nat) (h : S_H) (out : Nat → Int64) (κ : ev_ka) (X : ev_X l Dv gaX mu_R_clear κ) : ∀ (n : Nat) (R : S_R) (v1 : Int32) (v2 : Int32), ev_J l Dv gaX mu_R_clear κ 12 0 0 [some (.ref 25), some (.int v1), some (.int v2)] [] (hpW h R out) (f_R_clear_L12 fu n R v1 v2) (fun q => (some (.int q.1), hpW h q.2 out)) := by
  intro n
  induction n with
  | zero => exact fun _ _ _ => js_none
  | succ n ih =>
    intro R v1 v2
    unfold f_R_clear_L12
    refine js_iload_n (n := 13) X (dg dc_R_clear 8 rfl) rfl rfl rfl ?_
    refine js_iconst (n := 14) 3 X (dg dc_R_clear 9 rfl) rfl (by decide) ?_
    refine js_icmp_ge (t := 30) (n := 17) X (dg dc_R_clear 10 rfl) (by decide) rfl ?_ ?_
    · exact js_keep [true, true, false] (jl_R_clear_25_L30 l Dv fu h out κ X R v1)
    refine js_aload_n (n := 18) X (dg dc_R_clear 11 rfl) rfl rfl rfl ?_
    refine js_getf (j := 1) (v := .ref 26) (n := 21) X (dg dc_R_clear 12 rfl) rfl hC_R (Nat.le_of_ble_eq_true rfl) hw_127 rfl rfl ?_
    refine js_iload_n (n := 22) X (dg dc_R_clear 13 rfl) rfl rfl rfl ?_
    refine js_iconst (n := 23) 0 X (dg dc_R_clear 14 rfl) rfl (by decide) ?_
    refine js_iastore (f := R.2.1) (n := 24) X (dg dc_R_clear 15 rfl) rfl rfl ?_
    refine js_iinc (lo' := [some (.ref 25), some (.int v1), some (.int (v2 + 1))]) (n := 27) 1 X (dg dc_R_clear 16 rfl) rfl (by decide) (Nat.le_of_ble_eq_true rfl) rfl rfl ?_
    refine js_goto (t := 12) X (dg dc_R_clear 17 rfl) (by decide) ?_
    exact js_keep [true, true, true] (ih (R.1, (upd R.2.1 (ix v2) 0), R.2.2) v1 (v2 + 1))
set_option maxRecDepth 100000 in
set_option maxHeartbeats 4000000 in
theorem c_R_clear_25 (l : Launch) (Dv : va_G) (fu : Nat) (h : S_H) (out : Nat → Int64) (R : S_R) : ev_M l Dv gaX mu_R_clear [.ref 25] (hpW h R out) (f_R_clear fu R) (fun q => (some (.int q.1), hpW h q.2 out)) := by
  refine ev_met (lo0 := [some (.ref 25), none, none]) rfl rfl rfl (fun κ X => ?_)
  unfold f_R_clear
  refine js_aload_n (n := 1) X (dg dc_R_clear 0 rfl) rfl rfl rfl ?_
  refine js_iconst (n := 2) 0 X (dg dc_R_clear 1 rfl) rfl (by decide) ?_
  refine js_puti (j := 0) (n := 5) X (dg dc_R_clear 2 rfl) rfl hC_R (Nat.le_of_ble_eq_true rfl) hw_126 rfl rfl (Or.inl rfl) (Nat.le_of_ble_eq_true rfl) ?_
  refine js_aload_n (n := 6) X (dg dc_R_clear 3 rfl) rfl rfl rfl ?_
  refine js_callV (na := 0) (ci := 6) (n := 9) X (dg dc_R_clear 4 rfl) rfl (c_R_many_25 l Dv fu h out (0, R.2)) gV_R_84 rfl rfl hy_R_many ⟨(Nat.le_of_ble_eq_true rfl), (Nat.le_of_ble_eq_true rfl)⟩ rfl ⟨(Nat.le_of_ble_eq_true rfl), (Nat.le_of_ble_eq_true rfl)⟩ rfl rfl rfl rfl rfl ?_
  intro r6
  refine js_istore_n (lo' := [some (.ref 25), some (.int r6), none]) (n := 10) X (dg dc_R_clear 5 rfl) rfl rfl (Nat.le_of_ble_eq_true rfl) rfl ?_
  refine js_iconst (n := 11) 0 X (dg dc_R_clear 6 rfl) rfl (by decide) ?_
  refine js_istore_n (lo' := [some (.ref 25), some (.int r6), some (.int 0)]) (n := 12) X (dg dc_R_clear 7 rfl) rfl rfl (Nat.le_of_ble_eq_true rfl) rfl ?_
  exact js_keep [true, true, true] (jl_R_clear_25_L12 l Dv fu h out κ X fu (0, R.2) r6 0)
set_option maxRecDepth 100000 in
set_option maxHeartbeats 4000000 in
theorem cg_R_drawn_25 (l : Launch) (Dv : va_G) (fu : Nat) (h : S_H) (out : Nat → Int64) (R : S_R) (a1 : Int32) (m_hw_196 : Int64) (m_hw_197 : Int64) (km_hw_196 : (Jvm.Cond.constantLong "HistoryJudgeModel" (130 : Nat) m_hw_196) ∈ lg) (km_hw_197 : (Jvm.Cond.constantLong "HistoryJudgeModel" (132 : Nat) m_hw_197) ∈ lg) : ev_M l Dv gaX mu_R_drawn [.ref 25, .int a1] (hpW h R out) (
  ck (nzL a1.toInt64) <|
  some ((((((R.2.2.2.2.2.2.2.2.1 * m_hw_196) + m_hw_197).toUInt64 >>> ((33 : Int32).toInt64.toUInt64 &&& Int64.toUInt64 63)).toInt64) - ((((R.2.2.2.2.2.2.2.2.1 * m_hw_196) + m_hw_197).toUInt64 >>> ((33 : Int32).toInt64.toUInt64 &&& Int64.toUInt64 63)).toInt64) / a1.toInt64 * a1.toInt64).toInt32, (R.1, R.2.1, R.2.2.1, R.2.2.2.1, R.2.2.2.2.1, R.2.2.2.2.2.1, R.2.2.2.2.2.2.1, R.2.2.2.2.2.2.2.1, (R.2.2.2.2.2.2.2.2.1 * m_hw_196) + m_hw_197, R.2.2.2.2.2.2.2.2.2))) (fun q => (some (.int q.1), hpW h q.2 out)) := by
  refine ev_met (lo0 := [some (.ref 25), some (.int a1)]) rfl rfl rfl (fun κ X => ?_)
  refine js_aload_n (n := 1) X (dg dc_R_drawn 0 rfl) rfl rfl rfl ?_
  refine js_aload_n (n := 2) X (dg dc_R_drawn 1 rfl) rfl rfl rfl ?_
  refine js_getf (j := 8) (v := .long R.2.2.2.2.2.2.2.2.1) (n := 5) X (dg dc_R_drawn 2 rfl) rfl hC_R (Nat.le_of_ble_eq_true rfl) hw_195 rfl rfl ?_
  refine js_ldc2 (n := 8) (v := m_hw_196) X (dg dc_R_drawn 3 rfl) rfl km_hw_196 ?_
  refine js_lmul (n := 9) X (dg dc_R_drawn 4 rfl) rfl ?_
  refine js_ldc2 (n := 12) (v := m_hw_197) X (dg dc_R_drawn 5 rfl) rfl km_hw_197 ?_
  refine js_ladd (n := 13) X (dg dc_R_drawn 6 rfl) rfl ?_
  refine js_putj (j := 8) (n := 16) X (dg dc_R_drawn 7 rfl) rfl hC_R (Nat.le_of_ble_eq_true rfl) hw_195 rfl rfl (Or.inl rfl) (Nat.le_of_ble_eq_true rfl) ?_
  refine js_aload_n (n := 17) X (dg dc_R_drawn 8 rfl) rfl rfl rfl ?_
  refine js_getf (j := 8) (v := .long ((R.2.2.2.2.2.2.2.2.1 * m_hw_196) + m_hw_197)) (n := 20) X (dg dc_R_drawn 9 rfl) rfl hC_R (Nat.le_of_ble_eq_true rfl) hw_195 rfl rfl ?_
  refine js_bipush (n := 22) 33 X (dg dc_R_drawn 10 rfl) rfl (by decide) ?_
  refine js_lushr (n := 23) X (dg dc_R_drawn 11 rfl) rfl ?_
  refine js_iload_n (n := 24) X (dg dc_R_drawn 12 rfl) rfl rfl rfl ?_
  refine js_i2l (n := 25) X (dg dc_R_drawn 13 rfl) rfl ?_
  refine js_lrem (n := 26) X (dg dc_R_drawn 14 rfl) rfl ?_
  refine js_l2i (n := 27) X (dg dc_R_drawn 15 rfl) rfl ?_
  exact js_retI X (dg dc_R_drawn 16 rfl) rfl (Nat.le_of_ble_eq_true rfl) (Nat.le_of_ble_eq_true rfl) rfl
set_option maxRecDepth 100000 in
set_option maxHeartbeats 4000000 in
theorem c_R_drawn_25 (l : Launch) (Dv : va_G) (fu : Nat) (h : S_H) (out : Nat → Int64) (R : S_R) (a1 : Int32) : ev_M l Dv gaX mu_R_drawn [.ref 25, .int a1] (hpW h R out) (f_R_drawn fu R a1) (fun q => (some (.int q.1), hpW h q.2 out)) := by
  unfold f_R_drawn
  exact cg_R_drawn_25 l Dv fu h out R a1 6364136223846793005 1442695040888963407 hw_196 hw_197
set_option maxRecDepth 100000 in
set_option maxHeartbeats 4000000 in
theorem jl_R_before_25_L6 (l : Launch) (Dv : va_G) (fu : Nat) (h : S_H) (out : Nat → Int64) (κ : ev_ka) (X : ev_X l Dv gaX mu_R_before κ) (R : S_R) : ∀ (n : Nat) (v1 : Int32) (v2 : Int32) (v3 : Int32) (v4 : Int32) (v5 : Int32), ev_J l Dv gaX mu_R_before κ 6 0 0 [some (.ref 25), some (.int v1), some (.int v2), some (.int v3), some (.int v4), some (.int v5)] [] (hpW h R out) (f_R_before_L6 fu R n v1 v2 v3 v4 v5) (fun q => (some (.int q), hpW h R out)) := by
  intro n
  induction n with
  | zero => exact fun _ _ _ _ _ => js_none
  | succ n ih =>
    intro v1 v2 v3 v4 v5
    unfold f_R_before_L6
    refine js_iload (n := 8) X (dg dc_R_before 4 rfl) rfl rfl ?_
    refine js_iload_n (n := 9) X (dg dc_R_before 5 rfl) rfl rfl rfl ?_
    refine js_icmp_ge (t := 39) (n := 12) X (dg dc_R_before 6 rfl) (by decide) rfl ?_ ?_
    · refine js_iload (n := 41) X (dg dc_R_before 21 rfl) rfl rfl ?_
      exact js_retI X (dg dc_R_before 22 rfl) rfl (Nat.le_of_ble_eq_true rfl) (Nat.le_of_ble_eq_true rfl) rfl
    refine js_iload (n := 14) X (dg dc_R_before 7 rfl) rfl rfl ?_
    refine js_aload_n (n := 15) X (dg dc_R_before 8 rfl) rfl rfl rfl ?_
    refine js_iload (n := 17) X (dg dc_R_before 9 rfl) rfl rfl ?_
    refine js_iload_n (n := 18) X (dg dc_R_before 10 rfl) rfl rfl rfl ?_
    refine js_iload_n (n := 19) X (dg dc_R_before 11 rfl) rfl rfl rfl ?_
    refine js_callV (na := 3) (ci := 6) (n := 22) X (dg dc_R_before 12 rfl) rfl (c_R_mayStand_25 l Dv fu h out R v5 v2 v3) gV_R_88 rfl rfl hy_R_mayStand ⟨(Nat.le_of_ble_eq_true rfl), (Nat.le_of_ble_eq_true rfl)⟩ rfl ⟨(Nat.le_of_ble_eq_true rfl), (Nat.le_of_ble_eq_true rfl)⟩ rfl rfl rfl rfl rfl ?_
    intro r19
    refine js_if_eq (t := 29) (n := 25) X (dg dc_R_before 13 rfl) (by decide) rfl ?_ ?_
    · refine js_iconst (n := 30) 0 X (dg dc_R_before 16 rfl) rfl (by decide) ?_
      refine js_iadd (n := 31) X (dg dc_R_before 17 rfl) rfl ?_
      refine js_istore (lo' := [some (.ref 25), some (.int v1), some (.int v2), some (.int v3), some (.int (v4 + 0)), some (.int v5)]) (n := 33) X (dg dc_R_before 18 rfl) rfl (Nat.le_of_ble_eq_true rfl) rfl ?_
      refine js_iinc (lo' := [some (.ref 25), some (.int v1), some (.int v2), some (.int v3), some (.int (v4 + 0)), some (.int (v5 + 1))]) (n := 36) 1 X (dg dc_R_before 19 rfl) rfl (by decide) (Nat.le_of_ble_eq_true rfl) rfl rfl ?_
      refine js_goto (t := 6) X (dg dc_R_before 20 rfl) (by decide) ?_
      exact js_keep [true, true, true, true, true, true] (ih v1 v2 v3 (v4 + 0) (v5 + 1))
    refine js_iconst (n := 26) 1 X (dg dc_R_before 14 rfl) rfl (by decide) ?_
    refine js_goto (t := 30) X (dg dc_R_before 15 rfl) (by decide) ?_
    refine js_iadd (n := 31) X (dg dc_R_before 17 rfl) rfl ?_
    refine js_istore (lo' := [some (.ref 25), some (.int v1), some (.int v2), some (.int v3), some (.int (v4 + 1)), some (.int v5)]) (n := 33) X (dg dc_R_before 18 rfl) rfl (Nat.le_of_ble_eq_true rfl) rfl ?_
    refine js_iinc (lo' := [some (.ref 25), some (.int v1), some (.int v2), some (.int v3), some (.int (v4 + 1)), some (.int (v5 + 1))]) (n := 36) 1 X (dg dc_R_before 19 rfl) rfl (by decide) (Nat.le_of_ble_eq_true rfl) rfl rfl ?_
    refine js_goto (t := 6) X (dg dc_R_before 20 rfl) (by decide) ?_
    exact js_keep [true, true, true, true, true, true] (ih v1 v2 v3 (v4 + 1) (v5 + 1))
set_option maxRecDepth 100000 in
set_option maxHeartbeats 4000000 in
theorem c_R_before_25 (l : Launch) (Dv : va_G) (fu : Nat) (h : S_H) (out : Nat → Int64) (R : S_R) (a1 : Int32) (a2 : Int32) (a3 : Int32) : ev_M l Dv gaX mu_R_before [.ref 25, .int a1, .int a2, .int a3] (hpW h R out) (f_R_before fu R a1 a2 a3) (fun q => (some (.int q), hpW h R out)) := by
  refine ev_met (lo0 := [some (.ref 25), some (.int a1), some (.int a2), some (.int a3), none, none]) rfl rfl rfl (fun κ X => ?_)
  unfold f_R_before
  refine js_iconst (n := 1) 0 X (dg dc_R_before 0 rfl) rfl (by decide) ?_
  refine js_istore (lo' := [some (.ref 25), some (.int a1), some (.int a2), some (.int a3), some (.int 0), none]) (n := 3) X (dg dc_R_before 1 rfl) rfl (Nat.le_of_ble_eq_true rfl) rfl ?_
  refine js_iconst (n := 4) 0 X (dg dc_R_before 2 rfl) rfl (by decide) ?_
  refine js_istore (lo' := [some (.ref 25), some (.int a1), some (.int a2), some (.int a3), some (.int 0), some (.int 0)]) (n := 6) X (dg dc_R_before 3 rfl) rfl (Nat.le_of_ble_eq_true rfl) rfl ?_
  exact js_keep [true, true, true, true, true, true] (jl_R_before_25_L6 l Dv fu h out κ X R fu a1 a2 a3 0 0)
set_option maxRecDepth 100000 in
set_option maxHeartbeats 4000000 in
theorem jl_R_tried_25_L191 (l : Launch) (Dv : va_G) (fu : Nat) (h : S_H) (out : Nat → Int64) (κ : ev_ka) (X : ev_X l Dv gaX mu_R_tried κ) (k4 : S_R → Int32 → Int32 → Int32 → Option (S_R)) (hk4 : ∀ (R : S_R) (v1 : Int32) (v2 : Int32) (v3 : Int32), ev_J l Dv gaX mu_R_tried κ 4 0 0 [some (.ref 25), some (.int v1), some (.int v2), some (.int v3), none, none, none, none, none, none, none, none] [] (hpW h R out) (k4 R v1 v2 v3) (fun q => (none, hpW h q out))) (R : S_R) (v1 : Int32) (v3 : Int32) (v4 : Int32) (v5 : Int32) (v9 : Int32) : ev_J l Dv gaX mu_R_tried κ 191 0 0 [some (.ref 25), some (.int v1), none, some (.int v3), some (.int v4), some (.int v5), none, none, none, some (.int v9), none, none] [] (hpW h R out) (f_R_tried_L191 fu k4 R v1 v3 v4 v5 v9) (fun q => (none, hpW h q out)) := by
  unfold f_R_tried_L191
  refine js_aload_n (n := 192) X (dg dc_R_tried 98 rfl) rfl rfl rfl ?_
  refine js_callV (na := 0) (ci := 6) (n := 195) X (dg dc_R_tried 99 rfl) rfl (c_R_keep_25 l Dv fu h out R) gV_R_108 rfl rfl hy_R_keep ⟨(Nat.le_of_ble_eq_true rfl), (Nat.le_of_ble_eq_true rfl)⟩ rfl ⟨(Nat.le_of_ble_eq_true rfl), (Nat.le_of_ble_eq_true rfl)⟩ rfl rfl rfl rfl rfl ?_
  intro R_192
  refine js_aload_n (n := 196) X (dg dc_R_tried 100 rfl) rfl rfl rfl ?_
  refine js_iload_n (n := 197) X (dg dc_R_tried 101 rfl) rfl rfl rfl ?_
  refine js_iload (n := 199) X (dg dc_R_tried 102 rfl) rfl rfl ?_
  refine js_iload (n := 201) X (dg dc_R_tried 103 rfl) rfl rfl ?_
  refine js_iload (n := 203) X (dg dc_R_tried 104 rfl) rfl rfl ?_
  refine js_callV (na := 4) (ci := 6) (n := 206) X (dg dc_R_tried 105 rfl) rfl (c_R_insert_25 l Dv fu h out R_192 v1 v4 v5 v9) gV_R_111 rfl rfl hy_R_insert ⟨(Nat.le_of_ble_eq_true rfl), (Nat.le_of_ble_eq_true rfl)⟩ rfl ⟨(Nat.le_of_ble_eq_true rfl), (Nat.le_of_ble_eq_true rfl)⟩ rfl rfl rfl rfl rfl ?_
  rintro ⟨r203, R_203⟩
  refine js_pop (n := 207) X (dg dc_R_tried 106 rfl) rfl rfl ?_
  refine js_aload_n (n := 208) X (dg dc_R_tried 107 rfl) rfl rfl rfl ?_
  refine js_callV (na := 0) (ci := 6) (n := 211) X (dg dc_R_tried 108 rfl) rfl (c_R_valid_25 l Dv fu h out R_203) gV_R_115 rfl rfl hy_R_valid ⟨(Nat.le_of_ble_eq_true rfl), (Nat.le_of_ble_eq_true rfl)⟩ rfl ⟨(Nat.le_of_ble_eq_true rfl), (Nat.le_of_ble_eq_true rfl)⟩ rfl rfl rfl rfl rfl ?_
  rintro ⟨r208, R_208⟩
  refine js_istore_n (lo' := [some (.ref 25), some (.int v1), some (.int r208), some (.int v3), some (.int v4), some (.int v5), none, none, none, some (.int v9), none, none]) (n := 212) X (dg dc_R_tried 109 rfl) rfl rfl (Nat.le_of_ble_eq_true rfl) rfl ?_
  refine js_iload_n (n := 213) X (dg dc_R_tried 110 rfl) rfl rfl rfl ?_
  refine js_if_ne (t := 220) (n := 216) X (dg dc_R_tried 111 rfl) (by decide) rfl ?_ ?_
  · refine js_iinc (lo' := [some (.ref 25), some (.int v1), some (.int r208), some (.int (v3 + 1)), some (.int v4), some (.int v5), none, none, none, some (.int v9), none, none]) (n := 223) 1 X (dg dc_R_tried 114 rfl) rfl (by decide) (Nat.le_of_ble_eq_true rfl) rfl rfl ?_
    refine js_goto (t := 4) X (dg dc_R_tried 115 rfl) (by decide) ?_
    exact js_keep [true, true, true, true, false, false, false, false, false, false, false, false] (hk4 R_208 v1 r208 (v3 + 1))
  refine js_aload_n (n := 217) X (dg dc_R_tried 112 rfl) rfl rfl rfl ?_
  refine js_callV (na := 0) (ci := 6) (n := 220) X (dg dc_R_tried 113 rfl) rfl (c_R_putBack_25 l Dv fu h out R_208) gV_R_119 rfl rfl hy_R_putBack ⟨(Nat.le_of_ble_eq_true rfl), (Nat.le_of_ble_eq_true rfl)⟩ rfl ⟨(Nat.le_of_ble_eq_true rfl), (Nat.le_of_ble_eq_true rfl)⟩ rfl rfl rfl rfl rfl ?_
  intro R_217
  refine js_iinc (lo' := [some (.ref 25), some (.int v1), some (.int r208), some (.int (v3 + 1)), some (.int v4), some (.int v5), none, none, none, some (.int v9), none, none]) (n := 223) 1 X (dg dc_R_tried 114 rfl) rfl (by decide) (Nat.le_of_ble_eq_true rfl) rfl rfl ?_
  refine js_goto (t := 4) X (dg dc_R_tried 115 rfl) (by decide) ?_
  exact js_keep [true, true, true, true, false, false, false, false, false, false, false, false] (hk4 R_217 v1 r208 (v3 + 1))
set_option maxRecDepth 100000 in
set_option maxHeartbeats 4000000 in
theorem jl_R_tried_25_L142 (l : Launch) (Dv : va_G) (fu : Nat) (h : S_H) (out : Nat → Int64) (κ : ev_ka) (X : ev_X l Dv gaX mu_R_tried κ) (k4 : S_R → Int32 → Int32 → Int32 → Option (S_R)) (hk4 : ∀ (R : S_R) (v1 : Int32) (v2 : Int32) (v3 : Int32), ev_J l Dv gaX mu_R_tried κ 4 0 0 [some (.ref 25), some (.int v1), some (.int v2), some (.int v3), none, none, none, none, none, none, none, none] [] (hpW h R out) (k4 R v1 v2 v3) (fun q => (none, hpW h q out))) : ∀ (n : Nat) (R : S_R) (v1 : Int32) (v3 : Int32) (v4 : Int32) (v5 : Int32) (v7 : Int32) (v9 : Int32) (v10 : Int32) (v11 : Int32), ev_J l Dv gaX mu_R_tried κ 142 0 0 [some (.ref 25), some (.int v1), none, some (.int v3), some (.int v4), some (.int v5), none, some (.int v7), none, some (.int v9), some (.int v10), some (.int v11)] [] (hpW h R out) (f_R_tried_L142 fu k4 n R v1 v3 v4 v5 v7 v9 v10 v11) (fun q => (none, hpW h q out)) := by
  intro n
  induction n with
  | zero => exact fun _ _ _ _ _ _ _ _ _ => js_none
  | succ n ih =>
    intro R v1 v3 v4 v5 v7 v9 v10 v11
    unfold f_R_tried_L142
    refine js_iload (n := 144) X (dg dc_R_tried 75 rfl) rfl rfl ?_
    refine js_if_lt (t := 191) (n := 147) X (dg dc_R_tried 76 rfl) (by decide) rfl ?_ ?_
    · exact js_keep [true, true, false, true, true, true, false, false, false, true, false, false] (jl_R_tried_25_L191 l Dv fu h out κ X k4 (fun z0 z1 z2 z3 => hk4 z0 z1 z2 z3) R v1 v3 v4 v5 v9)
    refine js_aload_n (n := 148) X (dg dc_R_tried 77 rfl) rfl rfl rfl ?_
    refine js_iload (n := 150) X (dg dc_R_tried 78 rfl) rfl rfl ?_
    refine js_iload_n (n := 151) X (dg dc_R_tried 79 rfl) rfl rfl rfl ?_
    refine js_iload (n := 153) X (dg dc_R_tried 80 rfl) rfl rfl ?_
    refine js_callV (na := 3) (ci := 6) (n := 156) X (dg dc_R_tried 81 rfl) rfl (c_R_mayStand_25 l Dv fu h out R v11 v1 v7) gV_R_88 rfl rfl hy_R_mayStand ⟨(Nat.le_of_ble_eq_true rfl), (Nat.le_of_ble_eq_true rfl)⟩ rfl ⟨(Nat.le_of_ble_eq_true rfl), (Nat.le_of_ble_eq_true rfl)⟩ rfl rfl rfl rfl rfl ?_
    intro r153
    refine js_if_eq (t := 181) (n := 159) X (dg dc_R_tried 82 rfl) (by decide) rfl ?_ ?_
    · refine js_iload (n := 183) X (dg dc_R_tried 94 rfl) rfl rfl ?_
      refine js_istore (lo' := [some (.ref 25), some (.int v1), none, some (.int v3), some (.int v4), some (.int v5), none, some (.int v7), none, some (.int v9), some (.int v10), some (.int v11)]) (n := 185) X (dg dc_R_tried 95 rfl) rfl (Nat.le_of_ble_eq_true rfl) rfl ?_
      refine js_iinc (lo' := [some (.ref 25), some (.int v1), none, some (.int v3), some (.int v4), some (.int v5), none, some (.int v7), none, some (.int v9), some (.int v10), some (.int (v11 + (-1)))]) (n := 188) (-1) X (dg dc_R_tried 96 rfl) rfl (by decide) (Nat.le_of_ble_eq_true rfl) rfl rfl ?_
      refine js_goto (t := 142) X (dg dc_R_tried 97 rfl) (by decide) ?_
      exact js_keep [true, true, false, true, true, true, false, true, false, true, true, true] (ih R v1 v3 v4 v5 v7 v9 v10 (v11 + (-1)))
    refine js_aload_n (n := 160) X (dg dc_R_tried 83 rfl) rfl rfl rfl ?_
    refine js_iload (n := 162) X (dg dc_R_tried 84 rfl) rfl rfl ?_
    refine js_iload_n (n := 163) X (dg dc_R_tried 85 rfl) rfl rfl rfl ?_
    refine js_iload (n := 165) X (dg dc_R_tried 86 rfl) rfl rfl ?_
    refine js_callV (na := 3) (ci := 6) (n := 168) X (dg dc_R_tried 87 rfl) rfl (c_R_before_25 l Dv fu h out R v11 v1 v7) gV_R_137 rfl rfl hy_R_before ⟨(Nat.le_of_ble_eq_true rfl), (Nat.le_of_ble_eq_true rfl)⟩ rfl ⟨(Nat.le_of_ble_eq_true rfl), (Nat.le_of_ble_eq_true rfl)⟩ rfl rfl rfl rfl rfl ?_
    intro r165
    refine js_iload (n := 170) X (dg dc_R_tried 88 rfl) rfl rfl ?_
    refine js_icmp_ne (t := 181) (n := 173) X (dg dc_R_tried 89 rfl) (by decide) rfl ?_ ?_
    · refine js_iload (n := 183) X (dg dc_R_tried 94 rfl) rfl rfl ?_
      refine js_istore (lo' := [some (.ref 25), some (.int v1), none, some (.int v3), some (.int v4), some (.int v5), none, some (.int v7), none, some (.int v9), some (.int v10), some (.int v11)]) (n := 185) X (dg dc_R_tried 95 rfl) rfl (Nat.le_of_ble_eq_true rfl) rfl ?_
      refine js_iinc (lo' := [some (.ref 25), some (.int v1), none, some (.int v3), some (.int v4), some (.int v5), none, some (.int v7), none, some (.int v9), some (.int v10), some (.int (v11 + (-1)))]) (n := 188) (-1) X (dg dc_R_tried 96 rfl) rfl (by decide) (Nat.le_of_ble_eq_true rfl) rfl rfl ?_
      refine js_goto (t := 142) X (dg dc_R_tried 97 rfl) (by decide) ?_
      exact js_keep [true, true, false, true, true, true, false, true, false, true, true, true] (ih R v1 v3 v4 v5 v7 v9 v10 (v11 + (-1)))
    refine js_bipush (n := 175) 8 X (dg dc_R_tried 90 rfl) rfl (by decide) ?_
    refine js_iload (n := 177) X (dg dc_R_tried 91 rfl) rfl rfl ?_
    refine js_iadd (n := 178) X (dg dc_R_tried 92 rfl) rfl ?_
    refine js_goto (t := 183) X (dg dc_R_tried 93 rfl) (by decide) ?_
    refine js_istore (lo' := [some (.ref 25), some (.int v1), none, some (.int v3), some (.int v4), some (.int v5), none, some (.int v7), none, some (.int (8 + v11)), some (.int v10), some (.int v11)]) (n := 185) X (dg dc_R_tried 95 rfl) rfl (Nat.le_of_ble_eq_true rfl) rfl ?_
    refine js_iinc (lo' := [some (.ref 25), some (.int v1), none, some (.int v3), some (.int v4), some (.int v5), none, some (.int v7), none, some (.int (8 + v11)), some (.int v10), some (.int (v11 + (-1)))]) (n := 188) (-1) X (dg dc_R_tried 96 rfl) rfl (by decide) (Nat.le_of_ble_eq_true rfl) rfl rfl ?_
    refine js_goto (t := 142) X (dg dc_R_tried 97 rfl) (by decide) ?_
    exact js_keep [true, true, false, true, true, true, false, true, false, true, true, true] (ih R v1 v3 v4 v5 v7 (8 + v11) v10 (v11 + (-1)))
set_option maxRecDepth 100000 in
set_option maxHeartbeats 4000000 in
theorem jl_R_tried_25_L117 (l : Launch) (Dv : va_G) (fu : Nat) (h : S_H) (out : Nat → Int64) (κ : ev_ka) (X : ev_X l Dv gaX mu_R_tried κ) (k4 : S_R → Int32 → Int32 → Int32 → Option (S_R)) (hk4 : ∀ (R : S_R) (v1 : Int32) (v2 : Int32) (v3 : Int32), ev_J l Dv gaX mu_R_tried κ 4 0 0 [some (.ref 25), some (.int v1), some (.int v2), some (.int v3), none, none, none, none, none, none, none, none] [] (hpW h R out) (k4 R v1 v2 v3) (fun q => (none, hpW h q out))) (R : S_R) (v1 : Int32) (v3 : Int32) (v4 : Int32) (v5 : Int32) (v6 : Int32) (v7 : Int32) (v8 : Int32) (s1 : Int32) : ev_J l Dv gaX mu_R_tried κ 117 0 0 [some (.ref 25), some (.int v1), none, some (.int v3), some (.int v4), some (.int v5), some (.int v6), some (.int v7), some (.int v8), none, none, none] [.int s1, .ref 25] (hpW h R out) (f_R_tried_L117 fu k4 R v1 v3 v4 v5 v6 v7 v8 s1) (fun q => (none, hpW h q out)) := by
  unfold f_R_tried_L117
  refine js_callV (na := 1) (ci := 6) (n := 120) X (dg dc_R_tried 63 rfl) rfl (c_R_drawn_25 l Dv fu h out R s1) gV_R_134 rfl rfl hy_R_drawn ⟨(Nat.le_of_ble_eq_true rfl), (Nat.le_of_ble_eq_true rfl)⟩ rfl ⟨(Nat.le_of_ble_eq_true rfl), (Nat.le_of_ble_eq_true rfl)⟩ rfl rfl rfl rfl rfl ?_
  rintro ⟨r117, R_117⟩
  refine js_istore (lo' := [some (.ref 25), some (.int v1), none, some (.int v3), some (.int v4), some (.int v5), some (.int v6), some (.int v7), some (.int v8), some (.int r117), none, none]) (n := 122) X (dg dc_R_tried 64 rfl) rfl (Nat.le_of_ble_eq_true rfl) rfl ?_
  refine js_iload (n := 124) X (dg dc_R_tried 65 rfl) rfl rfl ?_
  refine js_if_eq (t := 191) (n := 127) X (dg dc_R_tried 66 rfl) (by decide) rfl ?_ ?_
  · exact js_keep [true, true, false, true, true, true, false, false, false, true, false, false] (jl_R_tried_25_L191 l Dv fu h out κ X k4 (fun z0 z1 z2 z3 => hk4 z0 z1 z2 z3) R_117 v1 v3 v4 v5 r117)
  refine js_iload (n := 129) X (dg dc_R_tried 67 rfl) rfl rfl ?_
  refine js_if_le (t := 191) (n := 132) X (dg dc_R_tried 68 rfl) (by decide) rfl ?_ ?_
  · exact js_keep [true, true, false, true, true, true, false, false, false, true, false, false] (jl_R_tried_25_L191 l Dv fu h out κ X k4 (fun z0 z1 z2 z3 => hk4 z0 z1 z2 z3) R_117 v1 v3 v4 v5 r117)
  refine js_iload (n := 134) X (dg dc_R_tried 69 rfl) rfl rfl ?_
  refine js_istore (lo' := [some (.ref 25), some (.int v1), none, some (.int v3), some (.int v4), some (.int v5), some (.int v6), some (.int v7), some (.int v8), some (.int r117), some (.int r117), none]) (n := 136) X (dg dc_R_tried 70 rfl) rfl (Nat.le_of_ble_eq_true rfl) rfl ?_
  refine js_iload (n := 138) X (dg dc_R_tried 71 rfl) rfl rfl ?_
  refine js_iconst (n := 139) 1 X (dg dc_R_tried 72 rfl) rfl (by decide) ?_
  refine js_isub (n := 140) X (dg dc_R_tried 73 rfl) rfl ?_
  refine js_istore (lo' := [some (.ref 25), some (.int v1), none, some (.int v3), some (.int v4), some (.int v5), some (.int v6), some (.int v7), some (.int v8), some (.int r117), some (.int r117), some (.int (v7 - 1))]) (n := 142) X (dg dc_R_tried 74 rfl) rfl (Nat.le_of_ble_eq_true rfl) rfl ?_
  exact js_keep [true, true, false, true, true, true, false, true, false, true, true, true] (jl_R_tried_25_L142 l Dv fu h out κ X k4 (fun z0 z1 z2 z3 => hk4 z0 z1 z2 z3) fu R_117 v1 v3 v4 v5 v7 r117 r117 (v7 - 1))
set_option maxRecDepth 100000 in
set_option maxHeartbeats 4000000 in
theorem jl_R_tried_25_L99 (l : Launch) (Dv : va_G) (fu : Nat) (h : S_H) (out : Nat → Int64) (κ : ev_ka) (X : ev_X l Dv gaX mu_R_tried κ) (k4 : S_R → Int32 → Int32 → Int32 → Option (S_R)) (hk4 : ∀ (R : S_R) (v1 : Int32) (v2 : Int32) (v3 : Int32), ev_J l Dv gaX mu_R_tried κ 4 0 0 [some (.ref 25), some (.int v1), some (.int v2), some (.int v3), none, none, none, none, none, none, none, none] [] (hpW h R out) (k4 R v1 v2 v3) (fun q => (none, hpW h q out))) (R : S_R) (v1 : Int32) (v3 : Int32) (v4 : Int32) (v5 : Int32) (v6 : Int32) (v7 : Int32) (v8 : Int32) : ev_J l Dv gaX mu_R_tried κ 99 0 0 [some (.ref 25), some (.int v1), none, some (.int v3), some (.int v4), some (.int v5), some (.int v6), some (.int v7), some (.int v8), none, none, none] [] (hpW h R out) (f_R_tried_L99 fu k4 R v1 v3 v4 v5 v6 v7 v8) (fun q => (none, hpW h q out)) := by
  unfold f_R_tried_L99
  refine js_aload_n (n := 100) X (dg dc_R_tried 55 rfl) rfl rfl rfl ?_
  refine js_iload (n := 102) X (dg dc_R_tried 56 rfl) rfl rfl ?_
  refine js_if_eq (t := 115) (n := 105) X (dg dc_R_tried 57 rfl) (by decide) rfl ?_ ?_
  · refine js_bipush (n := 117) 8 X (dg dc_R_tried 62 rfl) rfl (by decide) ?_
    exact js_keep [true, true, false, true, true, true, true, true, true, false, false, false] (jl_R_tried_25_L117 l Dv fu h out κ X k4 (fun z0 z1 z2 z3 => hk4 z0 z1 z2 z3) R v1 v3 v4 v5 v6 v7 v8 8)
  refine js_iload (n := 107) X (dg dc_R_tried 58 rfl) rfl rfl ?_
  refine js_if_le (t := 115) (n := 110) X (dg dc_R_tried 59 rfl) (by decide) rfl ?_ ?_
  · refine js_bipush (n := 117) 8 X (dg dc_R_tried 62 rfl) rfl (by decide) ?_
    exact js_keep [true, true, false, true, true, true, true, true, true, false, false, false] (jl_R_tried_25_L117 l Dv fu h out κ X k4 (fun z0 z1 z2 z3 => hk4 z0 z1 z2 z3) R v1 v3 v4 v5 v6 v7 v8 8)
  refine js_iload (n := 112) X (dg dc_R_tried 60 rfl) rfl rfl ?_
  refine js_goto (t := 117) X (dg dc_R_tried 61 rfl) (by decide) ?_
  exact js_keep [true, true, false, true, true, true, true, true, true, false, false, false] (jl_R_tried_25_L117 l Dv fu h out κ X k4 (fun z0 z1 z2 z3 => hk4 z0 z1 z2 z3) R v1 v3 v4 v5 v6 v7 v8 v8)
set_option maxRecDepth 100000 in
set_option maxHeartbeats 4000000 in
theorem jl_R_tried_25_L64 (l : Launch) (Dv : va_G) (fu : Nat) (h : S_H) (out : Nat → Int64) (κ : ev_ka) (X : ev_X l Dv gaX mu_R_tried κ) (k4 : S_R → Int32 → Int32 → Int32 → Option (S_R)) (hk4 : ∀ (R : S_R) (v1 : Int32) (v2 : Int32) (v3 : Int32), ev_J l Dv gaX mu_R_tried κ 4 0 0 [some (.ref 25), some (.int v1), some (.int v2), some (.int v3), none, none, none, none, none, none, none, none] [] (hpW h R out) (k4 R v1 v2 v3) (fun q => (none, hpW h q out))) : ∀ (n : Nat) (R : S_R) (v1 : Int32) (v3 : Int32) (v4 : Int32) (v5 : Int32) (v6 : Int32) (v7 : Int32) (v8 : Int32) (v9 : Int32), ev_J l Dv gaX mu_R_tried κ 64 0 0 [some (.ref 25), some (.int v1), none, some (.int v3), some (.int v4), some (.int v5), some (.int v6), some (.int v7), some (.int v8), some (.int v9), none, none] [] (hpW h R out) (f_R_tried_L64 fu k4 n R v1 v3 v4 v5 v6 v7 v8 v9) (fun q => (none, hpW h q out)) := by
  intro n
  induction n with
  | zero => exact fun _ _ _ _ _ _ _ _ _ => js_none
  | succ n ih =>
    intro R v1 v3 v4 v5 v6 v7 v8 v9
    unfold f_R_tried_L64
    refine js_iload (n := 66) X (dg dc_R_tried 38 rfl) rfl rfl ?_
    refine js_iload (n := 68) X (dg dc_R_tried 39 rfl) rfl rfl ?_
    refine js_icmp_ge (t := 99) (n := 71) X (dg dc_R_tried 40 rfl) (by decide) rfl ?_ ?_
    · exact js_keep [true, true, false, true, true, true, true, true, true, false, false, false] (jl_R_tried_25_L99 l Dv fu h out κ X k4 (fun z0 z1 z2 z3 => hk4 z0 z1 z2 z3) R v1 v3 v4 v5 v6 v7 v8)
    refine js_iload (n := 73) X (dg dc_R_tried 41 rfl) rfl rfl ?_
    refine js_aload_n (n := 74) X (dg dc_R_tried 42 rfl) rfl rfl rfl ?_
    refine js_iload (n := 76) X (dg dc_R_tried 43 rfl) rfl rfl ?_
    refine js_iload_n (n := 77) X (dg dc_R_tried 44 rfl) rfl rfl rfl ?_
    refine js_iload (n := 79) X (dg dc_R_tried 45 rfl) rfl rfl ?_
    refine js_callV (na := 3) (ci := 6) (n := 82) X (dg dc_R_tried 46 rfl) rfl (c_R_mayStand_25 l Dv fu h out R v9 v1 v7) gV_R_88 rfl rfl hy_R_mayStand ⟨(Nat.le_of_ble_eq_true rfl), (Nat.le_of_ble_eq_true rfl)⟩ rfl ⟨(Nat.le_of_ble_eq_true rfl), (Nat.le_of_ble_eq_true rfl)⟩ rfl rfl rfl rfl rfl ?_
    intro r79
    refine js_if_eq (t := 89) (n := 85) X (dg dc_R_tried 47 rfl) (by decide) rfl ?_ ?_
    · refine js_iconst (n := 90) 0 X (dg dc_R_tried 50 rfl) rfl (by decide) ?_
      refine js_iadd (n := 91) X (dg dc_R_tried 51 rfl) rfl ?_
      refine js_istore (lo' := [some (.ref 25), some (.int v1), none, some (.int v3), some (.int v4), some (.int v5), some (.int v6), some (.int v7), some (.int (v8 + 0)), some (.int v9), none, none]) (n := 93) X (dg dc_R_tried 52 rfl) rfl (Nat.le_of_ble_eq_true rfl) rfl ?_
      refine js_iinc (lo' := [some (.ref 25), some (.int v1), none, some (.int v3), some (.int v4), some (.int v5), some (.int v6), some (.int v7), some (.int (v8 + 0)), some (.int (v9 + 1)), none, none]) (n := 96) 1 X (dg dc_R_tried 53 rfl) rfl (by decide) (Nat.le_of_ble_eq_true rfl) rfl rfl ?_
      refine js_goto (t := 64) X (dg dc_R_tried 54 rfl) (by decide) ?_
      exact js_keep [true, true, false, true, true, true, true, true, true, true, false, false] (ih R v1 v3 v4 v5 v6 v7 (v8 + 0) (v9 + 1))
    refine js_iconst (n := 86) 1 X (dg dc_R_tried 48 rfl) rfl (by decide) ?_
    refine js_goto (t := 90) X (dg dc_R_tried 49 rfl) (by decide) ?_
    refine js_iadd (n := 91) X (dg dc_R_tried 51 rfl) rfl ?_
    refine js_istore (lo' := [some (.ref 25), some (.int v1), none, some (.int v3), some (.int v4), some (.int v5), some (.int v6), some (.int v7), some (.int (v8 + 1)), some (.int v9), none, none]) (n := 93) X (dg dc_R_tried 52 rfl) rfl (Nat.le_of_ble_eq_true rfl) rfl ?_
    refine js_iinc (lo' := [some (.ref 25), some (.int v1), none, some (.int v3), some (.int v4), some (.int v5), some (.int v6), some (.int v7), some (.int (v8 + 1)), some (.int (v9 + 1)), none, none]) (n := 96) 1 X (dg dc_R_tried 53 rfl) rfl (by decide) (Nat.le_of_ble_eq_true rfl) rfl rfl ?_
    refine js_goto (t := 64) X (dg dc_R_tried 54 rfl) (by decide) ?_
    exact js_keep [true, true, false, true, true, true, true, true, true, true, false, false] (ih R v1 v3 v4 v5 v6 v7 (v8 + 1) (v9 + 1))
set_option maxRecDepth 100000 in
set_option maxHeartbeats 4000000 in
theorem jl_R_tried_25_L42 (l : Launch) (Dv : va_G) (fu : Nat) (h : S_H) (out : Nat → Int64) (κ : ev_ka) (X : ev_X l Dv gaX mu_R_tried κ) (k4 : S_R → Int32 → Int32 → Int32 → Option (S_R)) (hk4 : ∀ (R : S_R) (v1 : Int32) (v2 : Int32) (v3 : Int32), ev_J l Dv gaX mu_R_tried κ 4 0 0 [some (.ref 25), some (.int v1), some (.int v2), some (.int v3), none, none, none, none, none, none, none, none] [] (hpW h R out) (k4 R v1 v2 v3) (fun q => (none, hpW h q out))) (R : S_R) (v1 : Int32) (v3 : Int32) (v4 : Int32) (v5 : Int32) (s0 : Int32) : ev_J l Dv gaX mu_R_tried κ 42 0 0 [some (.ref 25), some (.int v1), none, some (.int v3), some (.int v4), some (.int v5), none, none, none, none, none, none] [.int s0] (hpW h R out) (f_R_tried_L42 fu k4 R v1 v3 v4 v5 s0) (fun q => (none, hpW h q out)) := by
  unfold f_R_tried_L42
  refine js_istore (lo' := [some (.ref 25), some (.int v1), none, some (.int v3), some (.int v4), some (.int v5), some (.int s0), none, none, none, none, none]) (n := 44) X (dg dc_R_tried 24 rfl) rfl (Nat.le_of_ble_eq_true rfl) rfl ?_
  refine js_aload_n (n := 45) X (dg dc_R_tried 25 rfl) rfl rfl rfl ?_
  refine js_iload_n (n := 46) X (dg dc_R_tried 26 rfl) rfl rfl rfl ?_
  refine js_callV (na := 1) (ci := 6) (n := 49) X (dg dc_R_tried 27 rfl) rfl (c_R_first_25 l Dv fu h out R v1) gV_R_73 rfl rfl hy_R_first ⟨(Nat.le_of_ble_eq_true rfl), (Nat.le_of_ble_eq_true rfl)⟩ rfl ⟨(Nat.le_of_ble_eq_true rfl), (Nat.le_of_ble_eq_true rfl)⟩ rfl rfl rfl rfl rfl ?_
  intro r46
  refine js_aload_n (n := 50) X (dg dc_R_tried 28 rfl) rfl rfl rfl ?_
  refine js_getf (j := 1) (v := .ref 26) (n := 53) X (dg dc_R_tried 29 rfl) rfl hC_R (Nat.le_of_ble_eq_true rfl) hw_127 rfl rfl ?_
  refine js_iload_n (n := 54) X (dg dc_R_tried 30 rfl) rfl rfl rfl ?_
  refine js_iaload (f := R.2.1) (n := 55) X (dg dc_R_tried 31 rfl) rfl rfl ?_
  refine js_iadd (n := 56) X (dg dc_R_tried 32 rfl) rfl ?_
  refine js_istore (lo' := [some (.ref 25), some (.int v1), none, some (.int v3), some (.int v4), some (.int v5), some (.int s0), some (.int (r46 + (R.2.1 (ix v1)))), none, none, none, none]) (n := 58) X (dg dc_R_tried 33 rfl) rfl (Nat.le_of_ble_eq_true rfl) rfl ?_
  refine js_iconst (n := 59) 0 X (dg dc_R_tried 34 rfl) rfl (by decide) ?_
  refine js_istore (lo' := [some (.ref 25), some (.int v1), none, some (.int v3), some (.int v4), some (.int v5), some (.int s0), some (.int (r46 + (R.2.1 (ix v1)))), some (.int 0), none, none, none]) (n := 61) X (dg dc_R_tried 35 rfl) rfl (Nat.le_of_ble_eq_true rfl) rfl ?_
  refine js_iconst (n := 62) 0 X (dg dc_R_tried 36 rfl) rfl (by decide) ?_
  refine js_istore (lo' := [some (.ref 25), some (.int v1), none, some (.int v3), some (.int v4), some (.int v5), some (.int s0), some (.int (r46 + (R.2.1 (ix v1)))), some (.int 0), some (.int 0), none, none]) (n := 64) X (dg dc_R_tried 37 rfl) rfl (Nat.le_of_ble_eq_true rfl) rfl ?_
  exact js_keep [true, true, false, true, true, true, true, true, true, true, false, false] (jl_R_tried_25_L64 l Dv fu h out κ X k4 (fun z0 z1 z2 z3 => hk4 z0 z1 z2 z3) fu R v1 v3 v4 v5 s0 (r46 + (R.2.1 (ix v1))) 0 0)
set_option maxRecDepth 100000 in
set_option maxHeartbeats 4000000 in
theorem jl_R_tried_25_L4 (l : Launch) (Dv : va_G) (fu : Nat) (h : S_H) (out : Nat → Int64) (κ : ev_ka) (X : ev_X l Dv gaX mu_R_tried κ) : ∀ (n : Nat) (R : S_R) (v1 : Int32) (v2 : Int32) (v3 : Int32), ev_J l Dv gaX mu_R_tried κ 4 0 0 [some (.ref 25), some (.int v1), some (.int v2), some (.int v3), none, none, none, none, none, none, none, none] [] (hpW h R out) (f_R_tried_L4 fu n R v1 v2 v3) (fun q => (none, hpW h q out)) := by
  intro n
  induction n with
  | zero => exact fun _ _ _ _ => js_none
  | succ n ih =>
    intro R v1 v2 v3
    unfold f_R_tried_L4
    refine js_iload_n (n := 5) X (dg dc_R_tried 4 rfl) rfl rfl rfl ?_
    refine js_bipush (n := 7) 20 X (dg dc_R_tried 5 rfl) rfl (by decide) ?_
    refine js_icmp_ge (t := 226) (n := 10) X (dg dc_R_tried 6 rfl) (by decide) rfl ?_ ?_
    · exact js_retV X (dg dc_R_tried 116 rfl) rfl (Nat.le_of_ble_eq_true rfl) (Nat.le_of_ble_eq_true rfl) rfl
    refine js_iload_n (n := 11) X (dg dc_R_tried 7 rfl) rfl rfl rfl ?_
    refine js_if_ne (t := 226) (n := 14) X (dg dc_R_tried 8 rfl) (by decide) rfl ?_ ?_
    · exact js_retV X (dg dc_R_tried 116 rfl) rfl (Nat.le_of_ble_eq_true rfl) (Nat.le_of_ble_eq_true rfl) rfl
    refine js_aload_n (n := 15) X (dg dc_R_tried 9 rfl) rfl rfl rfl ?_
    refine js_bipush (n := 17) 7 X (dg dc_R_tried 10 rfl) rfl (by decide) ?_
    refine js_callV (na := 1) (ci := 6) (n := 20) X (dg dc_R_tried 11 rfl) rfl (c_R_drawn_25 l Dv fu h out R 7) gV_R_134 rfl rfl hy_R_drawn ⟨(Nat.le_of_ble_eq_true rfl), (Nat.le_of_ble_eq_true rfl)⟩ rfl ⟨(Nat.le_of_ble_eq_true rfl), (Nat.le_of_ble_eq_true rfl)⟩ rfl rfl rfl rfl rfl ?_
    rintro ⟨r17, R_17⟩
    refine js_istore (lo' := [some (.ref 25), some (.int v1), some (.int v2), some (.int v3), some (.int r17), none, none, none, none, none, none, none]) (n := 22) X (dg dc_R_tried 12 rfl) rfl (Nat.le_of_ble_eq_true rfl) rfl ?_
    refine js_aload_n (n := 23) X (dg dc_R_tried 13 rfl) rfl rfl rfl ?_
    refine js_iconst (n := 24) 3 X (dg dc_R_tried 14 rfl) rfl (by decide) ?_
    refine js_callV (na := 1) (ci := 6) (n := 27) X (dg dc_R_tried 15 rfl) rfl (c_R_drawn_25 l Dv fu h out R_17 3) gV_R_134 rfl rfl hy_R_drawn ⟨(Nat.le_of_ble_eq_true rfl), (Nat.le_of_ble_eq_true rfl)⟩ rfl ⟨(Nat.le_of_ble_eq_true rfl), (Nat.le_of_ble_eq_true rfl)⟩ rfl rfl rfl rfl rfl ?_
    rintro ⟨r24, R_24⟩
    refine js_istore (lo' := [some (.ref 25), some (.int v1), some (.int v2), some (.int v3), some (.int r17), some (.int r24), none, none, none, none, none, none]) (n := 29) X (dg dc_R_tried 16 rfl) rfl (Nat.le_of_ble_eq_true rfl) rfl ?_
    refine js_aload_n (n := 30) X (dg dc_R_tried 17 rfl) rfl rfl rfl ?_
    refine js_iconst (n := 31) 4 X (dg dc_R_tried 18 rfl) rfl (by decide) ?_
    refine js_callV (na := 1) (ci := 6) (n := 34) X (dg dc_R_tried 19 rfl) rfl (c_R_drawn_25 l Dv fu h out R_24 4) gV_R_134 rfl rfl hy_R_drawn ⟨(Nat.le_of_ble_eq_true rfl), (Nat.le_of_ble_eq_true rfl)⟩ rfl ⟨(Nat.le_of_ble_eq_true rfl), (Nat.le_of_ble_eq_true rfl)⟩ rfl rfl rfl rfl rfl ?_
    rintro ⟨r31, R_31⟩
    refine js_if_ne (t := 41) (n := 37) X (dg dc_R_tried 20 rfl) (by decide) rfl ?_ ?_
    · refine js_iconst (n := 42) 0 X (dg dc_R_tried 23 rfl) rfl (by decide) ?_
      exact js_keep [true, true, false, true, true, true, false, false, false, false, false, false] (jl_R_tried_25_L42 l Dv fu h out κ X (f_R_tried_L4 fu n) (fun z0 z1 z2 z3 => ih z0 z1 z2 z3) R_31 v1 v3 r17 r24 0)
    refine js_iconst (n := 38) 1 X (dg dc_R_tried 21 rfl) rfl (by decide) ?_
    refine js_goto (t := 42) X (dg dc_R_tried 22 rfl) (by decide) ?_
    exact js_keep [true, true, false, true, true, true, false, false, false, false, false, false] (jl_R_tried_25_L42 l Dv fu h out κ X (f_R_tried_L4 fu n) (fun z0 z1 z2 z3 => ih z0 z1 z2 z3) R_31 v1 v3 r17 r24 1)
set_option maxRecDepth 100000 in
set_option maxHeartbeats 4000000 in
theorem c_R_tried_25 (l : Launch) (Dv : va_G) (fu : Nat) (h : S_H) (out : Nat → Int64) (R : S_R) (a1 : Int32) : ev_M l Dv gaX mu_R_tried [.ref 25, .int a1] (hpW h R out) (f_R_tried fu R a1) (fun q => (none, hpW h q out)) := by
  refine ev_met (lo0 := [some (.ref 25), some (.int a1), none, none, none, none, none, none, none, none, none, none]) rfl rfl rfl (fun κ X => ?_)
  unfold f_R_tried
  refine js_iconst (n := 1) 0 X (dg dc_R_tried 0 rfl) rfl (by decide) ?_
  refine js_istore_n (lo' := [some (.ref 25), some (.int a1), some (.int 0), none, none, none, none, none, none, none, none, none]) (n := 2) X (dg dc_R_tried 1 rfl) rfl rfl (Nat.le_of_ble_eq_true rfl) rfl ?_
  refine js_iconst (n := 3) 0 X (dg dc_R_tried 2 rfl) rfl (by decide) ?_
  refine js_istore_n (lo' := [some (.ref 25), some (.int a1), some (.int 0), some (.int 0), none, none, none, none, none, none, none, none]) (n := 4) X (dg dc_R_tried 3 rfl) rfl rfl (Nat.le_of_ble_eq_true rfl) rfl ?_
  exact js_keep [true, true, true, true, false, false, false, false, false, false, false, false] (jl_R_tried_25_L4 l Dv fu h out κ X fu R a1 0 0)
