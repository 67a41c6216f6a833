set_option maxRecDepth 100000 in
set_option maxHeartbeats 4000000 in
theorem c_R_command_25 (l : Launch) (Dv : va_G) (fu : Nat) (h : S_H) (out : Nat → Int64) (R : S_R) (a1 : Int32) (a2 : Int32) : ev_M l Dv gaX mu_R_command [.ref 25, .int a1, .int a2] (hpW h R out) (f_R_command fu R a1 a2) (fun q => (some (.int q.1), hpW h q.2 out)) := by
  refine ev_met (lo0 := [some (.ref 25), some (.int a1), some (.int a2)]) rfl rfl rfl (fun κ X => ?_)
  unfold f_R_command
  refine js_aload_n (n := 1) X (dg dc_R_command 0 rfl) rfl rfl rfl ?_
  refine js_iconst (n := 2) 0 X (dg dc_R_command 1 rfl) rfl (by decide) ?_
  refine js_puti (j := 0) (n := 5) X (dg dc_R_command 2 rfl) rfl hC_R (Nat.le_of_ble_eq_true rfl) hw_126 rfl rfl (Or.inl rfl) (Nat.le_of_ble_eq_true rfl) ?_
  refine js_iload_n (n := 6) X (dg dc_R_command 3 rfl) rfl rfl rfl ?_
  refine js_iconst (n := 7) 0 X (dg dc_R_command 4 rfl) rfl (by decide) ?_
  refine js_aload_n (n := 8) X (dg dc_R_command 5 rfl) rfl rfl rfl ?_
  refine js_callV (na := 0) (ci := 6) (n := 11) X (dg dc_R_command 6 rfl) rfl (c_R_many_25 l Dv fu h out (0, R.2)) gV_R_84 rfl rfl hy_R_many ⟨(Nat.le_of_ble_eq_true rfl), (Nat.le_of_ble_eq_true rfl)⟩ rfl ⟨(Nat.le_of_ble_eq_true rfl), (Nat.le_of_ble_eq_true rfl)⟩ rfl rfl rfl rfl rfl ?_
  intro r8
  refine js_iconst (n := 12) 1 X (dg dc_R_command 7 rfl) rfl (by decide) ?_
  refine js_isub (n := 13) X (dg dc_R_command 8 rfl) rfl ?_
  refine js_callS (na := 3) (n := 16) X (dg dc_R_command 9 rfl) rfl (c_R_within l Dv fu _ a1 0 (r8 - 1)) gS_R_102 rfl rfl hy_R_within.2 ⟨(Nat.le_of_ble_eq_true rfl), (Nat.le_of_ble_eq_true rfl)⟩ ⟨(Nat.le_of_ble_eq_true rfl), (Nat.le_of_ble_eq_true rfl)⟩ rfl rfl rfl rfl ?_
  intro r13
  refine js_if_eq (t := 28) (n := 19) X (dg dc_R_command 10 rfl) (by decide) rfl ?_ ?_
  · refine js_aload_n (n := 29) X (dg dc_R_command 16 rfl) rfl rfl rfl ?_
    refine js_iconst (n := 30) 1 X (dg dc_R_command 17 rfl) rfl (by decide) ?_
    refine js_callV (na := 1) (ci := 6) (n := 33) X (dg dc_R_command 18 rfl) rfl (c_R_fail_25 l Dv fu h out (0, R.2) 1) gV_R_105 rfl rfl hy_R_fail ⟨(Nat.le_of_ble_eq_true rfl), (Nat.le_of_ble_eq_true rfl)⟩ rfl ⟨(Nat.le_of_ble_eq_true rfl), (Nat.le_of_ble_eq_true rfl)⟩ rfl rfl rfl rfl rfl ?_
    rintro ⟨r30, R_30⟩
    exact js_retI X (dg dc_R_command 19 rfl) rfl (Nat.le_of_ble_eq_true rfl) (Nat.le_of_ble_eq_true rfl) rfl
  refine js_iload_n (n := 20) X (dg dc_R_command 11 rfl) rfl rfl rfl ?_
  refine js_iconst (n := 21) 0 X (dg dc_R_command 12 rfl) rfl (by decide) ?_
  refine js_iconst (n := 22) 3 X (dg dc_R_command 13 rfl) rfl (by decide) ?_
  refine js_callS (na := 3) (n := 25) X (dg dc_R_command 14 rfl) rfl (c_R_within l Dv fu _ a2 0 3) gS_R_102 rfl rfl hy_R_within.2 ⟨(Nat.le_of_ble_eq_true rfl), (Nat.le_of_ble_eq_true rfl)⟩ ⟨(Nat.le_of_ble_eq_true rfl), (Nat.le_of_ble_eq_true rfl)⟩ rfl rfl rfl rfl ?_
  intro r22
  refine js_if_ne (t := 34) (n := 28) X (dg dc_R_command 15 rfl) (by decide) rfl ?_ ?_
  · refine js_iload_n (n := 35) X (dg dc_R_command 20 rfl) rfl rfl rfl ?_
    refine js_if_ne (t := 46) (n := 38) X (dg dc_R_command 21 rfl) (by decide) rfl ?_ ?_
    · refine js_iload_n (n := 47) X (dg dc_R_command 26 rfl) rfl rfl rfl ?_
      refine js_iconst (n := 48) 1 X (dg dc_R_command 27 rfl) rfl (by decide) ?_
      refine js_icmp_ne (t := 60) (n := 51) X (dg dc_R_command 28 rfl) (by decide) rfl ?_ ?_
      · refine js_iload_n (n := 61) X (dg dc_R_command 34 rfl) rfl rfl rfl ?_
        refine js_iconst (n := 62) 2 X (dg dc_R_command 35 rfl) rfl (by decide) ?_
        refine js_icmp_ne (t := 74) (n := 65) X (dg dc_R_command 36 rfl) (by decide) rfl ?_ ?_
        · refine js_aload_n (n := 75) X (dg dc_R_command 42 rfl) rfl rfl rfl ?_
          refine js_getf (j := 4) (v := .ref 29) (n := 78) X (dg dc_R_command 43 rfl) rfl hC_R (Nat.le_of_ble_eq_true rfl) hw_160 rfl rfl ?_
          refine js_iload_n (n := 79) X (dg dc_R_command 44 rfl) rfl rfl rfl ?_
          refine js_iaload (f := R.2.2.2.2.1) (n := 80) X (dg dc_R_command 45 rfl) rfl rfl ?_
          exact js_retI X (dg dc_R_command 46 rfl) rfl (Nat.le_of_ble_eq_true rfl) (Nat.le_of_ble_eq_true rfl) rfl
        refine js_aload_n (n := 66) X (dg dc_R_command 37 rfl) rfl rfl rfl ?_
        refine js_getf (j := 3) (v := .ref 28) (n := 69) X (dg dc_R_command 38 rfl) rfl hC_R (Nat.le_of_ble_eq_true rfl) hw_137 rfl rfl ?_
        refine js_iload_n (n := 70) X (dg dc_R_command 39 rfl) rfl rfl rfl ?_
        refine js_iaload (f := R.2.2.2.1) (n := 71) X (dg dc_R_command 40 rfl) rfl rfl ?_
        refine js_goto (t := 80) X (dg dc_R_command 41 rfl) (by decide) ?_
        exact js_retI X (dg dc_R_command 46 rfl) rfl (Nat.le_of_ble_eq_true rfl) (Nat.le_of_ble_eq_true rfl) rfl
      refine js_aload_n (n := 52) X (dg dc_R_command 29 rfl) rfl rfl rfl ?_
      refine js_getf (j := 2) (v := .ref 27) (n := 55) X (dg dc_R_command 30 rfl) rfl hC_R (Nat.le_of_ble_eq_true rfl) hw_138 rfl rfl ?_
      refine js_iload_n (n := 56) X (dg dc_R_command 31 rfl) rfl rfl rfl ?_
      refine js_iaload (f := R.2.2.1) (n := 57) X (dg dc_R_command 32 rfl) rfl rfl ?_
      refine js_goto (t := 80) X (dg dc_R_command 33 rfl) (by decide) ?_
      exact js_retI X (dg dc_R_command 46 rfl) rfl (Nat.le_of_ble_eq_true rfl) (Nat.le_of_ble_eq_true rfl) rfl
    refine js_aload_n (n := 39) X (dg dc_R_command 22 rfl) rfl rfl rfl ?_
    refine js_iload_n (n := 40) X (dg dc_R_command 23 rfl) rfl rfl rfl ?_
    refine js_callV (na := 1) (ci := 6) (n := 43) X (dg dc_R_command 24 rfl) rfl (c_R_branch_25 l Dv fu h out (0, R.2) a1) gV_R_69 rfl rfl hy_R_branch ⟨(Nat.le_of_ble_eq_true rfl), (Nat.le_of_ble_eq_true rfl)⟩ rfl ⟨(Nat.le_of_ble_eq_true rfl), (Nat.le_of_ble_eq_true rfl)⟩ rfl rfl rfl rfl rfl ?_
    intro r40
    refine js_goto (t := 80) X (dg dc_R_command 25 rfl) (by decide) ?_
    exact js_retI X (dg dc_R_command 46 rfl) rfl (Nat.le_of_ble_eq_true rfl) (Nat.le_of_ble_eq_true rfl) rfl
  refine js_aload_n (n := 29) X (dg dc_R_command 16 rfl) rfl rfl rfl ?_
  refine js_iconst (n := 30) 1 X (dg dc_R_command 17 rfl) rfl (by decide) ?_
  refine js_callV (na := 1) (ci := 6) (n := 33) X (dg dc_R_command 18 rfl) rfl (c_R_fail_25 l Dv fu h out (0, R.2) 1) gV_R_105 rfl rfl hy_R_fail ⟨(Nat.le_of_ble_eq_true rfl), (Nat.le_of_ble_eq_true rfl)⟩ rfl ⟨(Nat.le_of_ble_eq_true rfl), (Nat.le_of_ble_eq_true rfl)⟩ rfl rfl rfl rfl rfl ?_
  rintro ⟨r30, R_30⟩
  exact js_retI X (dg dc_R_command 19 rfl) rfl (Nat.le_of_ble_eq_true rfl) (Nat.le_of_ble_eq_true rfl) rfl
set_option maxRecDepth 100000 in
set_option maxHeartbeats 4000000 in
theorem c_R_event_25 (l : Launch) (Dv : va_G) (fu : Nat) (h : S_H) (out : Nat → Int64) (R : S_R) (a1 : Int32) (a2 : Int32) : ev_M l Dv gaX mu_R_event [.ref 25, .int a1, .int a2] (hpW h R out) (f_R_event fu R a1 a2) (fun q => (some (.int q.1), hpW h q.2 out)) := by
  refine ev_met (lo0 := [some (.ref 25), some (.int a1), some (.int a2)]) rfl rfl rfl (fun κ X => ?_)
  unfold f_R_event
  refine js_aload_n (n := 1) X (dg dc_R_event 0 rfl) rfl rfl rfl ?_
  refine js_iconst (n := 2) 0 X (dg dc_R_event 1 rfl) rfl (by decide) ?_
  refine js_puti (j := 0) (n := 5) X (dg dc_R_event 2 rfl) rfl hC_R (Nat.le_of_ble_eq_true rfl) hw_126 rfl rfl (Or.inl rfl) (Nat.le_of_ble_eq_true rfl) ?_
  refine js_iload_n (n := 6) X (dg dc_R_event 3 rfl) rfl rfl rfl ?_
  refine js_iconst (n := 7) 0 X (dg dc_R_event 4 rfl) rfl (by decide) ?_
  refine js_aload_n (n := 8) X (dg dc_R_event 5 rfl) rfl rfl rfl ?_
  refine js_callV (na := 0) (ci := 6) (n := 11) X (dg dc_R_event 6 rfl) rfl (c_R_many_25 l Dv fu h out (0, R.2)) gV_R_84 rfl rfl hy_R_many ⟨(Nat.le_of_ble_eq_true rfl), (Nat.le_of_ble_eq_true rfl)⟩ rfl ⟨(Nat.le_of_ble_eq_true rfl), (Nat.le_of_ble_eq_true rfl)⟩ rfl rfl rfl rfl rfl ?_
  intro r8
  refine js_iconst (n := 12) 1 X (dg dc_R_event 7 rfl) rfl (by decide) ?_
  refine js_isub (n := 13) X (dg dc_R_event 8 rfl) rfl ?_
  refine js_callS (na := 3) (n := 16) X (dg dc_R_event 9 rfl) rfl (c_R_within l Dv fu _ a1 0 (r8 - 1)) gS_R_102 rfl rfl hy_R_within.2 ⟨(Nat.le_of_ble_eq_true rfl), (Nat.le_of_ble_eq_true rfl)⟩ ⟨(Nat.le_of_ble_eq_true rfl), (Nat.le_of_ble_eq_true rfl)⟩ rfl rfl rfl rfl ?_
  intro r13
  refine js_if_eq (t := 28) (n := 19) X (dg dc_R_event 10 rfl) (by decide) rfl ?_ ?_
  · refine js_aload_n (n := 29) X (dg dc_R_event 16 rfl) rfl rfl rfl ?_
    refine js_iconst (n := 30) 1 X (dg dc_R_event 17 rfl) rfl (by decide) ?_
    refine js_callV (na := 1) (ci := 6) (n := 33) X (dg dc_R_event 18 rfl) rfl (c_R_fail_25 l Dv fu h out (0, R.2) 1) gV_R_105 rfl rfl hy_R_fail ⟨(Nat.le_of_ble_eq_true rfl), (Nat.le_of_ble_eq_true rfl)⟩ rfl ⟨(Nat.le_of_ble_eq_true rfl), (Nat.le_of_ble_eq_true rfl)⟩ rfl rfl rfl rfl rfl ?_
    rintro ⟨r30, R_30⟩
    exact js_retI X (dg dc_R_event 19 rfl) rfl (Nat.le_of_ble_eq_true rfl) (Nat.le_of_ble_eq_true rfl) rfl
  refine js_iload_n (n := 20) X (dg dc_R_event 11 rfl) rfl rfl rfl ?_
  refine js_iconst (n := 21) 0 X (dg dc_R_event 12 rfl) rfl (by decide) ?_
  refine js_iconst (n := 22) 3 X (dg dc_R_event 13 rfl) rfl (by decide) ?_
  refine js_callS (na := 3) (n := 25) X (dg dc_R_event 14 rfl) rfl (c_R_within l Dv fu _ a2 0 3) gS_R_102 rfl rfl hy_R_within.2 ⟨(Nat.le_of_ble_eq_true rfl), (Nat.le_of_ble_eq_true rfl)⟩ ⟨(Nat.le_of_ble_eq_true rfl), (Nat.le_of_ble_eq_true rfl)⟩ rfl rfl rfl rfl ?_
  intro r22
  refine js_if_ne (t := 34) (n := 28) X (dg dc_R_event 15 rfl) (by decide) rfl ?_ ?_
  · refine js_aload_n (n := 35) X (dg dc_R_event 20 rfl) rfl rfl rfl ?_
    refine js_getf (j := 13) (v := .int R.2.2.2.2.2.2.2.2.2.2.2.2.2.1) (n := 38) X (dg dc_R_event 21 rfl) rfl hC_R (Nat.le_of_ble_eq_true rfl) hw_190 rfl rfl ?_
    refine js_if_ne (t := 47) (n := 41) X (dg dc_R_event 22 rfl) (by decide) rfl ?_ ?_
    · refine js_iload_n (n := 48) X (dg dc_R_event 27 rfl) rfl rfl rfl ?_
      refine js_if_ne (t := 60) (n := 51) X (dg dc_R_event 28 rfl) (by decide) rfl ?_ ?_
      · refine js_iload_n (n := 61) X (dg dc_R_event 34 rfl) rfl rfl rfl ?_
        refine js_iconst (n := 62) 1 X (dg dc_R_event 35 rfl) rfl (by decide) ?_
        refine js_icmp_ne (t := 74) (n := 65) X (dg dc_R_event 36 rfl) (by decide) rfl ?_ ?_
        · refine js_iload_n (n := 75) X (dg dc_R_event 42 rfl) rfl rfl rfl ?_
          refine js_iconst (n := 76) 2 X (dg dc_R_event 43 rfl) rfl (by decide) ?_
          refine js_icmp_ne (t := 88) (n := 79) X (dg dc_R_event 44 rfl) (by decide) rfl ?_ ?_
          · refine js_aload_n (n := 89) X (dg dc_R_event 50 rfl) rfl rfl rfl ?_
            refine js_getf (j := 18) (v := .ref 39) (n := 92) X (dg dc_R_event 51 rfl) rfl hC_R (Nat.le_of_ble_eq_true rfl) hw_228 rfl rfl ?_
            refine js_iload_n (n := 93) X (dg dc_R_event 52 rfl) rfl rfl rfl ?_
            refine js_iaload (f := R.2.2.2.2.2.2.2.2.2.2.2.2.2.2.2.2.2.2.1) (n := 94) X (dg dc_R_event 53 rfl) rfl rfl ?_
            exact js_retI X (dg dc_R_event 54 rfl) rfl (Nat.le_of_ble_eq_true rfl) (Nat.le_of_ble_eq_true rfl) rfl
          refine js_aload_n (n := 80) X (dg dc_R_event 45 rfl) rfl rfl rfl ?_
          refine js_getf (j := 17) (v := .ref 38) (n := 83) X (dg dc_R_event 46 rfl) rfl hC_R (Nat.le_of_ble_eq_true rfl) hw_241 rfl rfl ?_
          refine js_iload_n (n := 84) X (dg dc_R_event 47 rfl) rfl rfl rfl ?_
          refine js_iaload (f := R.2.2.2.2.2.2.2.2.2.2.2.2.2.2.2.2.2.1) (n := 85) X (dg dc_R_event 48 rfl) rfl rfl ?_
          refine js_goto (t := 94) X (dg dc_R_event 49 rfl) (by decide) ?_
          exact js_retI X (dg dc_R_event 54 rfl) rfl (Nat.le_of_ble_eq_true rfl) (Nat.le_of_ble_eq_true rfl) rfl
        refine js_aload_n (n := 66) X (dg dc_R_event 37 rfl) rfl rfl rfl ?_
        refine js_getf (j := 16) (v := .ref 37) (n := 69) X (dg dc_R_event 38 rfl) rfl hC_R (Nat.le_of_ble_eq_true rfl) hw_215 rfl rfl ?_
        refine js_iload_n (n := 70) X (dg dc_R_event 39 rfl) rfl rfl rfl ?_
        refine js_iaload (f := R.2.2.2.2.2.2.2.2.2.2.2.2.2.2.2.2.1) (n := 71) X (dg dc_R_event 40 rfl) rfl rfl ?_
        refine js_goto (t := 94) X (dg dc_R_event 41 rfl) (by decide) ?_
        exact js_retI X (dg dc_R_event 54 rfl) rfl (Nat.le_of_ble_eq_true rfl) (Nat.le_of_ble_eq_true rfl) rfl
      refine js_aload_n (n := 52) X (dg dc_R_event 29 rfl) rfl rfl rfl ?_
      refine js_getf (j := 15) (v := .ref 36) (n := 55) X (dg dc_R_event 30 rfl) rfl hC_R (Nat.le_of_ble_eq_true rfl) hw_217 rfl rfl ?_
      refine js_iload_n (n := 56) X (dg dc_R_event 31 rfl) rfl rfl rfl ?_
      refine js_iaload (f := R.2.2.2.2.2.2.2.2.2.2.2.2.2.2.2.1) (n := 57) X (dg dc_R_event 32 rfl) rfl rfl ?_
      refine js_goto (t := 94) X (dg dc_R_event 33 rfl) (by decide) ?_
      exact js_retI X (dg dc_R_event 54 rfl) rfl (Nat.le_of_ble_eq_true rfl) (Nat.le_of_ble_eq_true rfl) rfl
    refine js_aload_n (n := 42) X (dg dc_R_event 23 rfl) rfl rfl rfl ?_
    refine js_iconst (n := 43) 2 X (dg dc_R_event 24 rfl) rfl (by decide) ?_
    refine js_callV (na := 1) (ci := 6) (n := 46) X (dg dc_R_event 25 rfl) rfl (c_R_fail_25 l Dv fu h out (0, R.2) 2) gV_R_105 rfl rfl hy_R_fail ⟨(Nat.le_of_ble_eq_true rfl), (Nat.le_of_ble_eq_true rfl)⟩ rfl ⟨(Nat.le_of_ble_eq_true rfl), (Nat.le_of_ble_eq_true rfl)⟩ rfl rfl rfl rfl rfl ?_
    rintro ⟨r43, R_43⟩
    exact js_retI X (dg dc_R_event 26 rfl) rfl (Nat.le_of_ble_eq_true rfl) (Nat.le_of_ble_eq_true rfl) rfl
  refine js_aload_n (n := 29) X (dg dc_R_event 16 rfl) rfl rfl rfl ?_
  refine js_iconst (n := 30) 1 X (dg dc_R_event 17 rfl) rfl (by decide) ?_
  refine js_callV (na := 1) (ci := 6) (n := 33) X (dg dc_R_event 18 rfl) rfl (c_R_fail_25 l Dv fu h out (0, R.2) 1) gV_R_105 rfl rfl hy_R_fail ⟨(Nat.le_of_ble_eq_true rfl), (Nat.le_of_ble_eq_true rfl)⟩ rfl ⟨(Nat.le_of_ble_eq_true rfl), (Nat.le_of_ble_eq_true rfl)⟩ rfl rfl rfl rfl rfl ?_
  rintro ⟨r30, R_30⟩
  exact js_retI X (dg dc_R_event 19 rfl) rfl (Nat.le_of_ble_eq_true rfl) (Nat.le_of_ble_eq_true rfl) rfl
set_option maxRecDepth 100000 in
set_option maxHeartbeats 4000000 in
theorem c_R_order_25 (l : Launch) (Dv : va_G) (fu : Nat) (h : S_H) (out : Nat → Int64) (R : S_R) (a1 : Int32) : ev_M l Dv gaX mu_R_order [.ref 25, .int a1] (hpW h R out) (f_R_order fu R a1) (fun q => (some (.int q.1), hpW h q.2 out)) := by
  refine ev_met (lo0 := [some (.ref 25), some (.int a1)]) rfl rfl rfl (fun κ X => ?_)
  unfold f_R_order
  refine js_aload_n (n := 1) X (dg dc_R_order 0 rfl) rfl rfl rfl ?_
  refine js_iconst (n := 2) 0 X (dg dc_R_order 1 rfl) rfl (by decide) ?_
  refine js_puti (j := 0) (n := 5) X (dg dc_R_order 2 rfl) rfl hC_R (Nat.le_of_ble_eq_true rfl) hw_126 rfl rfl (Or.inl rfl) (Nat.le_of_ble_eq_true rfl) ?_
  refine js_aload_n (n := 6) X (dg dc_R_order 3 rfl) rfl rfl rfl ?_
  refine js_getf (j := 13) (v := .int R.2.2.2.2.2.2.2.2.2.2.2.2.2.1) (n := 9) X (dg dc_R_order 4 rfl) rfl hC_R (Nat.le_of_ble_eq_true rfl) hw_190 rfl rfl ?_
  refine js_if_ne (t := 18) (n := 12) X (dg dc_R_order 5 rfl) (by decide) rfl ?_ ?_
  · refine js_aload_n (n := 19) X (dg dc_R_order 10 rfl) rfl rfl rfl ?_
    refine js_getf (j := 14) (v := .int R.2.2.2.2.2.2.2.2.2.2.2.2.2.2.1) (n := 22) X (dg dc_R_order 11 rfl) rfl hC_R (Nat.le_of_ble_eq_true rfl) hw_266 rfl rfl ?_
    refine js_if_eq (t := 60) (n := 25) X (dg dc_R_order 12 rfl) (by decide) rfl ?_ ?_
    · refine js_aload_n (n := 61) X (dg dc_R_order 34 rfl) rfl rfl rfl ?_
      refine js_iconst (n := 62) 2 X (dg dc_R_order 35 rfl) rfl (by decide) ?_
      refine js_callV (na := 1) (ci := 6) (n := 65) X (dg dc_R_order 36 rfl) rfl (c_R_fail_25 l Dv fu h out (0, R.2) 2) gV_R_105 rfl rfl hy_R_fail ⟨(Nat.le_of_ble_eq_true rfl), (Nat.le_of_ble_eq_true rfl)⟩ rfl ⟨(Nat.le_of_ble_eq_true rfl), (Nat.le_of_ble_eq_true rfl)⟩ rfl rfl rfl rfl rfl ?_
      rintro ⟨r62, R_62⟩
      exact js_retI X (dg dc_R_order 37 rfl) rfl (Nat.le_of_ble_eq_true rfl) (Nat.le_of_ble_eq_true rfl) rfl
    refine js_iload_n (n := 26) X (dg dc_R_order 13 rfl) rfl rfl rfl ?_
    refine js_iconst (n := 27) 0 X (dg dc_R_order 14 rfl) rfl (by decide) ?_
    refine js_aload_n (n := 28) X (dg dc_R_order 15 rfl) rfl rfl rfl ?_
    refine js_getf (j := 1) (v := .ref 26) (n := 31) X (dg dc_R_order 16 rfl) rfl hC_R (Nat.le_of_ble_eq_true rfl) hw_127 rfl rfl ?_
    refine js_iconst (n := 32) 1 X (dg dc_R_order 17 rfl) rfl (by decide) ?_
    refine js_iaload (f := R.2.1) (n := 33) X (dg dc_R_order 18 rfl) rfl rfl ?_
    refine js_aload_n (n := 34) X (dg dc_R_order 19 rfl) rfl rfl rfl ?_
    refine js_getf (j := 1) (v := .ref 26) (n := 37) X (dg dc_R_order 20 rfl) rfl hC_R (Nat.le_of_ble_eq_true rfl) hw_127 rfl rfl ?_
    refine js_iconst (n := 38) 2 X (dg dc_R_order 21 rfl) rfl (by decide) ?_
    refine js_iaload (f := R.2.1) (n := 39) X (dg dc_R_order 22 rfl) rfl rfl ?_
    refine js_iadd (n := 40) X (dg dc_R_order 23 rfl) rfl ?_
    refine js_iconst (n := 41) 1 X (dg dc_R_order 24 rfl) rfl (by decide) ?_
    refine js_isub (n := 42) X (dg dc_R_order 25 rfl) rfl ?_
    refine js_callS (na := 3) (n := 45) X (dg dc_R_order 26 rfl) rfl (c_R_within l Dv fu _ a1 0 (((R.2.1 (ix 1)) + (R.2.1 (ix 2))) - 1)) gS_R_102 rfl rfl hy_R_within.2 ⟨(Nat.le_of_ble_eq_true rfl), (Nat.le_of_ble_eq_true rfl)⟩ ⟨(Nat.le_of_ble_eq_true rfl), (Nat.le_of_ble_eq_true rfl)⟩ rfl rfl rfl rfl ?_
    intro r42
    refine js_if_eq (t := 60) (n := 48) X (dg dc_R_order 27 rfl) (by decide) rfl ?_ ?_
    · refine js_aload_n (n := 61) X (dg dc_R_order 34 rfl) rfl rfl rfl ?_
      refine js_iconst (n := 62) 2 X (dg dc_R_order 35 rfl) rfl (by decide) ?_
      refine js_callV (na := 1) (ci := 6) (n := 65) X (dg dc_R_order 36 rfl) rfl (c_R_fail_25 l Dv fu h out (0, R.2) 2) gV_R_105 rfl rfl hy_R_fail ⟨(Nat.le_of_ble_eq_true rfl), (Nat.le_of_ble_eq_true rfl)⟩ rfl ⟨(Nat.le_of_ble_eq_true rfl), (Nat.le_of_ble_eq_true rfl)⟩ rfl rfl rfl rfl rfl ?_
      rintro ⟨r62, R_62⟩
      exact js_retI X (dg dc_R_order 37 rfl) rfl (Nat.le_of_ble_eq_true rfl) (Nat.le_of_ble_eq_true rfl) rfl
    refine js_aload_n (n := 49) X (dg dc_R_order 28 rfl) rfl rfl rfl ?_
    refine js_aload_n (n := 50) X (dg dc_R_order 29 rfl) rfl rfl rfl ?_
    refine js_getf (j := 22) (v := .int R.2.2.2.2.2.2.2.2.2.2.2.2.2.2.2.2.2.2.2.2.2.2.1) (n := 53) X (dg dc_R_order 30 rfl) rfl hC_R (Nat.le_of_ble_eq_true rfl) hw_268 rfl rfl ?_
    refine js_iload_n (n := 54) X (dg dc_R_order 31 rfl) rfl rfl rfl ?_
    refine js_callV (na := 2) (ci := 6) (n := 57) X (dg dc_R_order 32 rfl) rfl (c_R_placed_25 l Dv fu h out (0, R.2) R.2.2.2.2.2.2.2.2.2.2.2.2.2.2.2.2.2.2.2.2.2.2.1 a1) gV_R_80 rfl rfl hy_R_placed ⟨(Nat.le_of_ble_eq_true rfl), (Nat.le_of_ble_eq_true rfl)⟩ rfl ⟨(Nat.le_of_ble_eq_true rfl), (Nat.le_of_ble_eq_true rfl)⟩ rfl rfl rfl rfl rfl ?_
    intro r54
    refine js_goto (t := 65) X (dg dc_R_order 33 rfl) (by decide) ?_
    exact js_retI X (dg dc_R_order 37 rfl) rfl (Nat.le_of_ble_eq_true rfl) (Nat.le_of_ble_eq_true rfl) rfl
  refine js_aload_n (n := 13) X (dg dc_R_order 6 rfl) rfl rfl rfl ?_
  refine js_iconst (n := 14) 1 X (dg dc_R_order 7 rfl) rfl (by decide) ?_
  refine js_callV (na := 1) (ci := 6) (n := 17) X (dg dc_R_order 8 rfl) rfl (c_R_fail_25 l Dv fu h out (0, R.2) 1) gV_R_105 rfl rfl hy_R_fail ⟨(Nat.le_of_ble_eq_true rfl), (Nat.le_of_ble_eq_true rfl)⟩ rfl ⟨(Nat.le_of_ble_eq_true rfl), (Nat.le_of_ble_eq_true rfl)⟩ rfl rfl rfl rfl rfl ?_
  rintro ⟨r14, R_14⟩
  exact js_retI X (dg dc_R_order 9 rfl) rfl (Nat.le_of_ble_eq_true rfl) (Nat.le_of_ble_eq_true rfl) rfl
set_option maxRecDepth 100000 in
set_option maxHeartbeats 4000000 in
theorem c_R_cell_25 (l : Launch) (Dv : va_G) (fu : Nat) (h : S_H) (out : Nat → Int64) (R : S_R) (a1 : Int32) : ev_M l Dv gaX mu_R_cell [.ref 25, .int a1] (hpW h R out) (f_R_cell fu R a1) (fun q => (some (.int q.1), hpW h q.2 out)) := by
  refine ev_met (lo0 := [some (.ref 25), some (.int a1)]) rfl rfl rfl (fun κ X => ?_)
  unfold f_R_cell
  refine js_aload_n (n := 1) X (dg dc_R_cell 0 rfl) rfl rfl rfl ?_
  refine js_iconst (n := 2) 0 X (dg dc_R_cell 1 rfl) rfl (by decide) ?_
  refine js_puti (j := 0) (n := 5) X (dg dc_R_cell 2 rfl) rfl hC_R (Nat.le_of_ble_eq_true rfl) hw_126 rfl rfl (Or.inl rfl) (Nat.le_of_ble_eq_true rfl) ?_
  refine js_iload_n (n := 6) X (dg dc_R_cell 3 rfl) rfl rfl rfl ?_
  refine js_iconst (n := 7) 0 X (dg dc_R_cell 4 rfl) rfl (by decide) ?_
  refine js_iconst (n := 8) 2 X (dg dc_R_cell 5 rfl) rfl (by decide) ?_
  refine js_callS (na := 3) (n := 11) X (dg dc_R_cell 6 rfl) rfl (c_R_within l Dv fu _ a1 0 2) gS_R_102 rfl rfl hy_R_within.2 ⟨(Nat.le_of_ble_eq_true rfl), (Nat.le_of_ble_eq_true rfl)⟩ ⟨(Nat.le_of_ble_eq_true rfl), (Nat.le_of_ble_eq_true rfl)⟩ rfl rfl rfl rfl ?_
  intro r8
  refine js_if_ne (t := 20) (n := 14) X (dg dc_R_cell 7 rfl) (by decide) rfl ?_ ?_
  · refine js_aload_n (n := 21) X (dg dc_R_cell 12 rfl) rfl rfl rfl ?_
    refine js_getf (j := 13) (v := .int R.2.2.2.2.2.2.2.2.2.2.2.2.2.1) (n := 24) X (dg dc_R_cell 13 rfl) rfl hC_R (Nat.le_of_ble_eq_true rfl) hw_190 rfl rfl ?_
    refine js_if_eq (t := 52) (n := 27) X (dg dc_R_cell 14 rfl) (by decide) rfl ?_ ?_
    · refine js_aload_n (n := 53) X (dg dc_R_cell 29 rfl) rfl rfl rfl ?_
      refine js_iconst (n := 54) 2 X (dg dc_R_cell 30 rfl) rfl (by decide) ?_
      refine js_callV (na := 1) (ci := 6) (n := 57) X (dg dc_R_cell 31 rfl) rfl (c_R_fail_25 l Dv fu h out (0, R.2) 2) gV_R_105 rfl rfl hy_R_fail ⟨(Nat.le_of_ble_eq_true rfl), (Nat.le_of_ble_eq_true rfl)⟩ rfl ⟨(Nat.le_of_ble_eq_true rfl), (Nat.le_of_ble_eq_true rfl)⟩ rfl rfl rfl rfl rfl ?_
      rintro ⟨r54, R_54⟩
      exact js_retI X (dg dc_R_cell 32 rfl) rfl (Nat.le_of_ble_eq_true rfl) (Nat.le_of_ble_eq_true rfl) rfl
    refine js_aload_n (n := 28) X (dg dc_R_cell 15 rfl) rfl rfl rfl ?_
    refine js_getf (j := 11) (v := .ref 34) (n := 31) X (dg dc_R_cell 16 rfl) rfl hC_R (Nat.le_of_ble_eq_true rfl) hw_218 rfl rfl ?_
    refine js_iload_n (n := 32) X (dg dc_R_cell 17 rfl) rfl rfl rfl ?_
    refine js_iaload (f := R.2.2.2.2.2.2.2.2.2.2.2.1) (n := 33) X (dg dc_R_cell 18 rfl) rfl rfl ?_
    refine js_aload_n (n := 34) X (dg dc_R_cell 19 rfl) rfl rfl rfl ?_
    refine js_getf (j := 12) (v := .ref 35) (n := 37) X (dg dc_R_cell 20 rfl) rfl hC_R (Nat.le_of_ble_eq_true rfl) hw_219 rfl rfl ?_
    refine js_iload_n (n := 38) X (dg dc_R_cell 21 rfl) rfl rfl rfl ?_
    refine js_baload (f := R.2.2.2.2.2.2.2.2.2.2.2.2.1) (n := 39) X (dg dc_R_cell 22 rfl) rfl rfl ?_
    refine js_if_eq (t := 47) (n := 42) X (dg dc_R_cell 23 rfl) (by decide) rfl ?_ ?_
    · refine js_iconst (n := 48) 0 X (dg dc_R_cell 26 rfl) rfl (by decide) ?_
      refine js_iadd (n := 49) X (dg dc_R_cell 27 rfl) rfl ?_
      refine js_goto (t := 57) X (dg dc_R_cell 28 rfl) (by decide) ?_
      exact js_retI X (dg dc_R_cell 32 rfl) rfl (Nat.le_of_ble_eq_true rfl) (Nat.le_of_ble_eq_true rfl) rfl
    refine js_bipush (n := 44) 8 X (dg dc_R_cell 24 rfl) rfl (by decide) ?_
    refine js_goto (t := 48) X (dg dc_R_cell 25 rfl) (by decide) ?_
    refine js_iadd (n := 49) X (dg dc_R_cell 27 rfl) rfl ?_
    refine js_goto (t := 57) X (dg dc_R_cell 28 rfl) (by decide) ?_
    exact js_retI X (dg dc_R_cell 32 rfl) rfl (Nat.le_of_ble_eq_true rfl) (Nat.le_of_ble_eq_true rfl) rfl
  refine js_aload_n (n := 15) X (dg dc_R_cell 8 rfl) rfl rfl rfl ?_
  refine js_iconst (n := 16) 1 X (dg dc_R_cell 9 rfl) rfl (by decide) ?_
  refine js_callV (na := 1) (ci := 6) (n := 19) X (dg dc_R_cell 10 rfl) rfl (c_R_fail_25 l Dv fu h out (0, R.2) 1) gV_R_105 rfl rfl hy_R_fail ⟨(Nat.le_of_ble_eq_true rfl), (Nat.le_of_ble_eq_true rfl)⟩ rfl ⟨(Nat.le_of_ble_eq_true rfl), (Nat.le_of_ble_eq_true rfl)⟩ rfl rfl rfl rfl rfl ?_
  rintro ⟨r16, R_16⟩
  exact js_retI X (dg dc_R_cell 11 rfl) rfl (Nat.le_of_ble_eq_true rfl) (Nat.le_of_ble_eq_true rfl) rfl
set_option maxRecDepth 100000 in
set_option maxHeartbeats 4000000 in
theorem c_R_count_25 (l : Launch) (Dv : va_G) (fu : Nat) (h : S_H) (out : Nat → Int64) (R : S_R) (a1 : Int32) : ev_M l Dv gaX mu_R_count [.ref 25, .int a1] (hpW h R out) (f_R_count fu R a1) (fun q => (some (.int q.1), hpW h q.2 out)) := by
  refine ev_met (lo0 := [some (.ref 25), some (.int a1)]) rfl rfl rfl (fun κ X => ?_)
  unfold f_R_count
  refine js_aload_n (n := 1) X (dg dc_R_count 0 rfl) rfl rfl rfl ?_
  refine js_iconst (n := 2) 0 X (dg dc_R_count 1 rfl) rfl (by decide) ?_
  refine js_puti (j := 0) (n := 5) X (dg dc_R_count 2 rfl) rfl hC_R (Nat.le_of_ble_eq_true rfl) hw_126 rfl rfl (Or.inl rfl) (Nat.le_of_ble_eq_true rfl) ?_
  refine js_iload_n (n := 6) X (dg dc_R_count 3 rfl) rfl rfl rfl ?_
  refine js_iconst (n := 7) 0 X (dg dc_R_count 4 rfl) rfl (by decide) ?_
  refine js_iconst (n := 8) 3 X (dg dc_R_count 5 rfl) rfl (by decide) ?_
  refine js_callS (na := 3) (n := 11) X (dg dc_R_count 6 rfl) rfl (c_R_within l Dv fu _ a1 0 3) gS_R_102 rfl rfl hy_R_within.2 ⟨(Nat.le_of_ble_eq_true rfl), (Nat.le_of_ble_eq_true rfl)⟩ ⟨(Nat.le_of_ble_eq_true rfl), (Nat.le_of_ble_eq_true rfl)⟩ rfl rfl rfl rfl ?_
  intro r8
  refine js_if_ne (t := 20) (n := 14) X (dg dc_R_count 7 rfl) (by decide) rfl ?_ ?_
  · refine js_iload_n (n := 21) X (dg dc_R_count 12 rfl) rfl rfl rfl ?_
    refine js_if_ne (t := 31) (n := 24) X (dg dc_R_count 13 rfl) (by decide) rfl ?_ ?_
    · refine js_iload_n (n := 32) X (dg dc_R_count 17 rfl) rfl rfl rfl ?_
      refine js_iconst (n := 33) 1 X (dg dc_R_count 18 rfl) rfl (by decide) ?_
      refine js_icmp_ne (t := 43) (n := 36) X (dg dc_R_count 19 rfl) (by decide) rfl ?_ ?_
      · refine js_iload_n (n := 44) X (dg dc_R_count 23 rfl) rfl rfl rfl ?_
        refine js_iconst (n := 45) 2 X (dg dc_R_count 24 rfl) rfl (by decide) ?_
        refine js_icmp_ne (t := 55) (n := 48) X (dg dc_R_count 25 rfl) (by decide) rfl ?_ ?_
        · refine js_aload_n (n := 56) X (dg dc_R_count 29 rfl) rfl rfl rfl ?_
          refine js_getf (j := 25) (v := .int R.2.2.2.2.2.2.2.2.2.2.2.2.2.2.2.2.2.2.2.2.2.2.2.2.2.1) (n := 59) X (dg dc_R_count 30 rfl) rfl hC_R (Nat.le_of_ble_eq_true rfl) hw_300 rfl rfl ?_
          exact js_retI X (dg dc_R_count 31 rfl) rfl (Nat.le_of_ble_eq_true rfl) (Nat.le_of_ble_eq_true rfl) rfl
        refine js_aload_n (n := 49) X (dg dc_R_count 26 rfl) rfl rfl rfl ?_
        refine js_getf (j := 24) (v := .int R.2.2.2.2.2.2.2.2.2.2.2.2.2.2.2.2.2.2.2.2.2.2.2.2.1) (n := 52) X (dg dc_R_count 27 rfl) rfl hC_R (Nat.le_of_ble_eq_true rfl) hw_267 rfl rfl ?_
        refine js_goto (t := 59) X (dg dc_R_count 28 rfl) (by decide) ?_
        exact js_retI X (dg dc_R_count 31 rfl) rfl (Nat.le_of_ble_eq_true rfl) (Nat.le_of_ble_eq_true rfl) rfl
      refine js_aload_n (n := 37) X (dg dc_R_count 20 rfl) rfl rfl rfl ?_
      refine js_getf (j := 23) (v := .int R.2.2.2.2.2.2.2.2.2.2.2.2.2.2.2.2.2.2.2.2.2.2.2.1) (n := 40) X (dg dc_R_count 21 rfl) rfl hC_R (Nat.le_of_ble_eq_true rfl) hw_265 rfl rfl ?_
      refine js_goto (t := 59) X (dg dc_R_count 22 rfl) (by decide) ?_
      exact js_retI X (dg dc_R_count 31 rfl) rfl (Nat.le_of_ble_eq_true rfl) (Nat.le_of_ble_eq_true rfl) rfl
    refine js_aload_n (n := 25) X (dg dc_R_count 14 rfl) rfl rfl rfl ?_
    refine js_callV (na := 0) (ci := 6) (n := 28) X (dg dc_R_count 15 rfl) rfl (c_R_many_25 l Dv fu h out (0, R.2)) gV_R_84 rfl rfl hy_R_many ⟨(Nat.le_of_ble_eq_true rfl), (Nat.le_of_ble_eq_true rfl)⟩ rfl ⟨(Nat.le_of_ble_eq_true rfl), (Nat.le_of_ble_eq_true rfl)⟩ rfl rfl rfl rfl rfl ?_
    intro r25
    refine js_goto (t := 59) X (dg dc_R_count 16 rfl) (by decide) ?_
    exact js_retI X (dg dc_R_count 31 rfl) rfl (Nat.le_of_ble_eq_true rfl) (Nat.le_of_ble_eq_true rfl) rfl
  refine js_aload_n (n := 15) X (dg dc_R_count 8 rfl) rfl rfl rfl ?_
  refine js_iconst (n := 16) 1 X (dg dc_R_count 9 rfl) rfl (by decide) ?_
  refine js_callV (na := 1) (ci := 6) (n := 19) X (dg dc_R_count 10 rfl) rfl (c_R_fail_25 l Dv fu h out (0, R.2) 1) gV_R_105 rfl rfl hy_R_fail ⟨(Nat.le_of_ble_eq_true rfl), (Nat.le_of_ble_eq_true rfl)⟩ rfl ⟨(Nat.le_of_ble_eq_true rfl), (Nat.le_of_ble_eq_true rfl)⟩ rfl rfl rfl rfl rfl ?_
  rintro ⟨r16, R_16⟩
  exact js_retI X (dg dc_R_count 11 rfl) rfl (Nat.le_of_ble_eq_true rfl) (Nat.le_of_ble_eq_true rfl) rfl
set_option maxRecDepth 100000 in
set_option maxHeartbeats 4000000 in
theorem c_R_tally_25 (l : Launch) (Dv : va_G) (fu : Nat) (h : S_H) (out : Nat → Int64) (R : S_R) (a1 : Int32) : ev_M l Dv gaX mu_R_tally [.ref 25, .int a1] (hpW h R out) (f_R_tally fu R a1) (fun q => (some (.int q.1), hpW h q.2 out)) := by
  refine ev_met (lo0 := [some (.ref 25), some (.int a1)]) rfl rfl rfl (fun κ X => ?_)
  unfold f_R_tally
  refine js_aload_n (n := 1) X (dg dc_R_tally 0 rfl) rfl rfl rfl ?_
  refine js_iconst (n := 2) 0 X (dg dc_R_tally 1 rfl) rfl (by decide) ?_
  refine js_puti (j := 0) (n := 5) X (dg dc_R_tally 2 rfl) rfl hC_R (Nat.le_of_ble_eq_true rfl) hw_126 rfl rfl (Or.inl rfl) (Nat.le_of_ble_eq_true rfl) ?_
  refine js_iload_n (n := 6) X (dg dc_R_tally 3 rfl) rfl rfl rfl ?_
  refine js_iconst (n := 7) 0 X (dg dc_R_tally 4 rfl) rfl (by decide) ?_
  refine js_bipush (n := 9) 6 X (dg dc_R_tally 5 rfl) rfl (by decide) ?_
  refine js_callS (na := 3) (n := 12) X (dg dc_R_tally 6 rfl) rfl (c_R_within l Dv fu _ a1 0 6) gS_R_102 rfl rfl hy_R_within.2 ⟨(Nat.le_of_ble_eq_true rfl), (Nat.le_of_ble_eq_true rfl)⟩ ⟨(Nat.le_of_ble_eq_true rfl), (Nat.le_of_ble_eq_true rfl)⟩ rfl rfl rfl rfl ?_
  intro r9
  refine js_if_eq (t := 24) (n := 15) X (dg dc_R_tally 7 rfl) (by decide) rfl ?_ ?_
  · refine js_aload_n (n := 25) X (dg dc_R_tally 13 rfl) rfl rfl rfl ?_
    refine js_iconst (n := 26) 1 X (dg dc_R_tally 14 rfl) rfl (by decide) ?_
    refine js_callV (na := 1) (ci := 6) (n := 29) X (dg dc_R_tally 15 rfl) rfl (c_R_fail_25 l Dv fu h out (0, R.2) 1) gV_R_105 rfl rfl hy_R_fail ⟨(Nat.le_of_ble_eq_true rfl), (Nat.le_of_ble_eq_true rfl)⟩ rfl ⟨(Nat.le_of_ble_eq_true rfl), (Nat.le_of_ble_eq_true rfl)⟩ rfl rfl rfl rfl rfl ?_
    rintro ⟨r26, R_26⟩
    exact js_retI X (dg dc_R_tally 16 rfl) rfl (Nat.le_of_ble_eq_true rfl) (Nat.le_of_ble_eq_true rfl) rfl
  refine js_aload_n (n := 16) X (dg dc_R_tally 8 rfl) rfl rfl rfl ?_
  refine js_getf (j := 27) (v := .ref 43) (n := 19) X (dg dc_R_tally 9 rfl) rfl hC_R (Nat.le_of_ble_eq_true rfl) hw_273 rfl rfl ?_
  refine js_iload_n (n := 20) X (dg dc_R_tally 10 rfl) rfl rfl rfl ?_
  refine js_iaload (f := R.2.2.2.2.2.2.2.2.2.2.2.2.2.2.2.2.2.2.2.2.2.2.2.2.2.2.2) (n := 21) X (dg dc_R_tally 11 rfl) rfl rfl ?_
  refine js_goto (t := 29) X (dg dc_R_tally 12 rfl) (by decide) ?_
  exact js_retI X (dg dc_R_tally 16 rfl) rfl (Nat.le_of_ble_eq_true rfl) (Nat.le_of_ble_eq_true rfl) rfl
set_option maxRecDepth 100000 in
set_option maxHeartbeats 4000000 in
theorem c_M_numberOf_12 (l : Launch) (Dv : va_G) (fu : Nat) (h : S_H) (r : S_R) (out : Nat → Int64) (M : S_M) (a1 : Int32) : ev_M l Dv gaX mu_M_numberOf [.ref 12, .int a1] (hpW (h.1, h.2.1, (M, h.2.2.1.2), h.2.2.2) r out) (f_M_numberOf fu M a1) (fun q => (some (.int q), hpW (h.1, h.2.1, (M, h.2.2.1.2), h.2.2.2) r out)) := by
  refine ev_met (lo0 := [some (.ref 12), some (.int a1)]) rfl rfl rfl (fun κ X => ?_)
  unfold f_M_numberOf
  refine js_iload_n (n := 1) X (dg dc_M_numberOf 0 rfl) rfl rfl rfl ?_
  refine js_bipush (n := 3) 8 X (dg dc_M_numberOf 1 rfl) rfl (by decide) ?_
  refine js_icmp_ge (t := 10) (n := 6) X (dg dc_M_numberOf 2 rfl) (by decide) rfl ?_ ?_
  · refine js_aload_n (n := 11) X (dg dc_M_numberOf 5 rfl) rfl rfl rfl ?_
    refine js_getf (j := 0) (v := .ref 13) (n := 14) X (dg dc_M_numberOf 6 rfl) rfl hC_M (Nat.le_of_ble_eq_true rfl) hw_314 rfl rfl ?_
    refine js_iload_n (n := 15) X (dg dc_M_numberOf 7 rfl) rfl rfl rfl ?_
    refine js_bipush (n := 17) 8 X (dg dc_M_numberOf 8 rfl) rfl (by decide) ?_
    refine js_isub (n := 18) X (dg dc_M_numberOf 9 rfl) rfl ?_
    refine js_iaload (f := M.1) (n := 19) X (dg dc_M_numberOf 10 rfl) rfl rfl ?_
    exact js_retI X (dg dc_M_numberOf 11 rfl) rfl (Nat.le_of_ble_eq_true rfl) (Nat.le_of_ble_eq_true rfl) rfl
  refine js_iload_n (n := 7) X (dg dc_M_numberOf 3 rfl) rfl rfl rfl ?_
  refine js_goto (t := 19) X (dg dc_M_numberOf 4 rfl) (by decide) ?_
  exact js_retI X (dg dc_M_numberOf 11 rfl) rfl (Nat.le_of_ble_eq_true rfl) (Nat.le_of_ble_eq_true rfl) rfl
set_option maxRecDepth 100000 in
set_option maxHeartbeats 4000000 in
theorem c_M_isSplit_12 (l : Launch) (Dv : va_G) (fu : Nat) (h : S_H) (r : S_R) (out : Nat → Int64) (M : S_M) (a1 : Int32) : ev_M l Dv gaX mu_M_isSplit [.ref 12, .int a1] (hpW (h.1, h.2.1, (M, h.2.2.1.2), h.2.2.2) r out) (f_M_isSplit fu M a1) (fun q => (some (.int q), hpW (h.1, h.2.1, (M, h.2.2.1.2), h.2.2.2) r out)) := by
  refine ev_met (lo0 := [some (.ref 12), some (.int a1)]) rfl rfl rfl (fun κ X => ?_)
  unfold f_M_isSplit
  refine js_iload_n (n := 1) X (dg dc_M_isSplit 0 rfl) rfl rfl rfl ?_
  refine js_tsw X (dg dc_M_isSplit 1 rfl) (by decide) ?_
  refine js_sw1 28 (by decide) (by decide) ?_ ?_
  · refine js_aload_n (n := 29) X (dg dc_M_isSplit 2 rfl) rfl rfl rfl ?_
    refine js_getf (j := 8) (v := .int M.2.2.2.2.2.2.2.2) (n := 32) X (dg dc_M_isSplit 3 rfl) rfl hC_M (Nat.le_of_ble_eq_true rfl) hw_304 rfl rfl ?_
    refine js_iconst (n := 33) 1 X (dg dc_M_isSplit 4 rfl) rfl (by decide) ?_
    refine js_iand (n := 34) X (dg dc_M_isSplit 5 rfl) rfl ?_
    refine js_if_eq (t := 41) (n := 37) X (dg dc_M_isSplit 6 rfl) (by decide) rfl ?_ ?_
    · refine js_iconst (n := 42) 0 X (dg dc_M_isSplit 9 rfl) rfl (by decide) ?_
      exact js_retZ X (dg dc_M_isSplit 10 rfl) rfl (Nat.le_of_ble_eq_true rfl) (Nat.le_of_ble_eq_true rfl) rfl
    refine js_iconst (n := 38) 1 X (dg dc_M_isSplit 7 rfl) rfl (by decide) ?_
    refine js_goto (t := 42) X (dg dc_M_isSplit 8 rfl) (by decide) ?_
    exact js_retZ X (dg dc_M_isSplit 10 rfl) rfl (Nat.le_of_ble_eq_true rfl) (Nat.le_of_ble_eq_true rfl) rfl
  refine js_sw1 43 (by decide) (by decide) ?_ ?_
  · refine js_aload_n (n := 44) X (dg dc_M_isSplit 11 rfl) rfl rfl rfl ?_
    refine js_getf (j := 8) (v := .int M.2.2.2.2.2.2.2.2) (n := 47) X (dg dc_M_isSplit 12 rfl) rfl hC_M (Nat.le_of_ble_eq_true rfl) hw_304 rfl rfl ?_
    refine js_iconst (n := 48) 2 X (dg dc_M_isSplit 13 rfl) rfl (by decide) ?_
    refine js_iand (n := 49) X (dg dc_M_isSplit 14 rfl) rfl ?_
    refine js_if_eq (t := 56) (n := 52) X (dg dc_M_isSplit 15 rfl) (by decide) rfl ?_ ?_
    · refine js_iconst (n := 57) 0 X (dg dc_M_isSplit 18 rfl) rfl (by decide) ?_
      exact js_retZ X (dg dc_M_isSplit 19 rfl) rfl (Nat.le_of_ble_eq_true rfl) (Nat.le_of_ble_eq_true rfl) rfl
    refine js_iconst (n := 53) 1 X (dg dc_M_isSplit 16 rfl) rfl (by decide) ?_
    refine js_goto (t := 57) X (dg dc_M_isSplit 17 rfl) (by decide) ?_
    exact js_retZ X (dg dc_M_isSplit 19 rfl) rfl (Nat.le_of_ble_eq_true rfl) (Nat.le_of_ble_eq_true rfl) rfl
  refine js_sw1 58 (by decide) (by decide) ?_ ?_
  · refine js_aload_n (n := 59) X (dg dc_M_isSplit 20 rfl) rfl rfl rfl ?_
    refine js_getf (j := 8) (v := .int M.2.2.2.2.2.2.2.2) (n := 62) X (dg dc_M_isSplit 21 rfl) rfl hC_M (Nat.le_of_ble_eq_true rfl) hw_304 rfl rfl ?_
    refine js_iconst (n := 63) 4 X (dg dc_M_isSplit 22 rfl) rfl (by decide) ?_
    refine js_iand (n := 64) X (dg dc_M_isSplit 23 rfl) rfl ?_
    refine js_if_eq (t := 71) (n := 67) X (dg dc_M_isSplit 24 rfl) (by decide) rfl ?_ ?_
    · refine js_iconst (n := 72) 0 X (dg dc_M_isSplit 27 rfl) rfl (by decide) ?_
      exact js_retZ X (dg dc_M_isSplit 28 rfl) rfl (Nat.le_of_ble_eq_true rfl) (Nat.le_of_ble_eq_true rfl) rfl
    refine js_iconst (n := 68) 1 X (dg dc_M_isSplit 25 rfl) rfl (by decide) ?_
    refine js_goto (t := 72) X (dg dc_M_isSplit 26 rfl) (by decide) ?_
    exact js_retZ X (dg dc_M_isSplit 28 rfl) rfl (Nat.le_of_ble_eq_true rfl) (Nat.le_of_ble_eq_true rfl) rfl
  refine js_sw0 73 (by decide) ?_
  refine js_iconst (n := 74) 0 X (dg dc_M_isSplit 29 rfl) rfl (by decide) ?_
  exact js_retZ X (dg dc_M_isSplit 30 rfl) rfl (Nat.le_of_ble_eq_true rfl) (Nat.le_of_ble_eq_true rfl) rfl
set_option maxRecDepth 100000 in
set_option maxHeartbeats 4000000 in
theorem c_M_isLate_12 (l : Launch) (Dv : va_G) (fu : Nat) (h : S_H) (r : S_R) (out : Nat → Int64) (M : S_M) (a1 : Int32) : ev_M l Dv gaX mu_M_isLate [.ref 12, .int a1] (hpW (h.1, h.2.1, (M, h.2.2.1.2), h.2.2.2) r out) (f_M_isLate fu M a1) (fun q => (some (.int q), hpW (h.1, h.2.1, (M, h.2.2.1.2), h.2.2.2) r out)) := by
  refine ev_met (lo0 := [some (.ref 12), some (.int a1)]) rfl rfl rfl (fun κ X => ?_)
  unfold f_M_isLate
  refine js_iload_n (n := 1) X (dg dc_M_isLate 0 rfl) rfl rfl rfl ?_
  refine js_iconst (n := 2) 3 X (dg dc_M_isLate 1 rfl) rfl (by decide) ?_
  refine js_icmp_ne (t := 19) (n := 5) X (dg dc_M_isLate 2 rfl) (by decide) rfl ?_ ?_
  · refine js_iconst (n := 20) 0 X (dg dc_M_isLate 10 rfl) rfl (by decide) ?_
    exact js_retZ X (dg dc_M_isLate 11 rfl) rfl (Nat.le_of_ble_eq_true rfl) (Nat.le_of_ble_eq_true rfl) rfl
  refine js_aload_n (n := 6) X (dg dc_M_isLate 3 rfl) rfl rfl rfl ?_
  refine js_getf (j := 8) (v := .int M.2.2.2.2.2.2.2.2) (n := 9) X (dg dc_M_isLate 4 rfl) rfl hC_M (Nat.le_of_ble_eq_true rfl) hw_304 rfl rfl ?_
  refine js_bipush (n := 11) 8 X (dg dc_M_isLate 5 rfl) rfl (by decide) ?_
  refine js_iand (n := 12) X (dg dc_M_isLate 6 rfl) rfl ?_
  refine js_if_eq (t := 19) (n := 15) X (dg dc_M_isLate 7 rfl) (by decide) rfl ?_ ?_
  · refine js_iconst (n := 20) 0 X (dg dc_M_isLate 10 rfl) rfl (by decide) ?_
    exact js_retZ X (dg dc_M_isLate 11 rfl) rfl (Nat.le_of_ble_eq_true rfl) (Nat.le_of_ble_eq_true rfl) rfl
  refine js_iconst (n := 16) 1 X (dg dc_M_isLate 8 rfl) rfl (by decide) ?_
  refine js_goto (t := 20) X (dg dc_M_isLate 9 rfl) (by decide) ?_
  exact js_retZ X (dg dc_M_isLate 11 rfl) rfl (Nat.le_of_ble_eq_true rfl) (Nat.le_of_ble_eq_true rfl) rfl
set_option maxRecDepth 100000 in
set_option maxHeartbeats 4000000 in
theorem c_M_act_12 (l : Launch) (Dv : va_G) (fu : Nat) (h : S_H) (r : S_R) (out : Nat → Int64) (M : S_M) (a1 : Int32) (a2 : Int32) (a3 : Int32) : ev_M l Dv gaX mu_M_act [.ref 12, .int a1, .int a2, .int a3] (hpW (h.1, h.2.1, (M, h.2.2.1.2), h.2.2.2) r out) (f_M_act fu M a1 a2 a3) (fun q => (none, hpW (h.1, h.2.1, (q, h.2.2.1.2), h.2.2.2) r out)) := by
  refine ev_met (lo0 := [some (.ref 12), some (.int a1), some (.int a2), some (.int a3)]) rfl rfl rfl (fun κ X => ?_)
  unfold f_M_act
  refine js_aload_n (n := 1) X (dg dc_M_act 0 rfl) rfl rfl rfl ?_
  refine js_getf (j := 0) (v := .ref 13) (n := 4) X (dg dc_M_act 1 rfl) rfl hC_M (Nat.le_of_ble_eq_true rfl) hw_314 rfl rfl ?_
  refine js_iload_n (n := 5) X (dg dc_M_act 2 rfl) rfl rfl rfl ?_
  refine js_aload_n (n := 6) X (dg dc_M_act 3 rfl) rfl rfl rfl ?_
  refine js_getf (j := 4) (v := .int M.2.2.2.2.1) (n := 9) X (dg dc_M_act 4 rfl) rfl hC_M (Nat.le_of_ble_eq_true rfl) hw_305 rfl rfl ?_
  refine js_iload_n (n := 10) X (dg dc_M_act 5 rfl) rfl rfl rfl ?_
  refine js_iload_n (n := 11) X (dg dc_M_act 6 rfl) rfl rfl rfl ?_
  refine js_aload_n (n := 12) X (dg dc_M_act 7 rfl) rfl rfl rfl ?_
  refine js_getf (j := 1) (v := .ref 14) (n := 15) X (dg dc_M_act 8 rfl) rfl hC_M (Nat.le_of_ble_eq_true rfl) hw_312 rfl rfl ?_
  refine js_iload_n (n := 16) X (dg dc_M_act 9 rfl) rfl rfl rfl ?_
  refine js_iaload (f := M.2.1) (n := 17) X (dg dc_M_act 10 rfl) rfl rfl ?_
  refine js_callS (na := 4) (n := 20) X (dg dc_M_act 11 rfl) rfl (c_O_answer l Dv fu _ M.2.2.2.2.1 a2 a3 (M.2.1 (ix a1))) gS_M_92 rfl rfl hy_O_answer.2 ⟨(Nat.le_of_ble_eq_true rfl), (Nat.le_of_ble_eq_true rfl)⟩ ⟨(Nat.le_of_ble_eq_true rfl), (Nat.le_of_ble_eq_true rfl)⟩ rfl rfl rfl rfl ?_
  intro r17
  refine js_iastore (f := M.1) (n := 21) X (dg dc_M_act 12 rfl) rfl rfl ?_
  refine js_aload_n (n := 22) X (dg dc_M_act 13 rfl) rfl rfl rfl ?_
  refine js_iload_n (n := 23) X (dg dc_M_act 14 rfl) rfl rfl rfl ?_
  refine js_callV (na := 1) (ci := 3) (n := 26) X (dg dc_M_act 15 rfl) rfl (c_M_isLate_12 l Dv fu (h.1, h.2.1, (((upd M.1 (ix a1) r17), M.2), h.2.2.1.2), h.2.2.2) r out ((upd M.1 (ix a1) r17), M.2) a2) gV_M_85 rfl rfl hy_M_isLate ⟨(Nat.le_of_ble_eq_true rfl), (Nat.le_of_ble_eq_true rfl)⟩ rfl ⟨(Nat.le_of_ble_eq_true rfl), (Nat.le_of_ble_eq_true rfl)⟩ rfl rfl rfl rfl rfl ?_
  intro r23
  refine js_if_ne (t := 48) (n := 29) X (dg dc_M_act 16 rfl) (by decide) rfl ?_ ?_
  · exact js_retV X (dg dc_M_act 28 rfl) rfl (Nat.le_of_ble_eq_true rfl) (Nat.le_of_ble_eq_true rfl) rfl
  refine js_aload_n (n := 30) X (dg dc_M_act 17 rfl) rfl rfl rfl ?_
  refine js_aload_n (n := 31) X (dg dc_M_act 18 rfl) rfl rfl rfl ?_
  refine js_getf (j := 4) (v := .int M.2.2.2.2.1) (n := 34) X (dg dc_M_act 19 rfl) rfl hC_M (Nat.le_of_ble_eq_true rfl) hw_305 rfl rfl ?_
  refine js_iload_n (n := 35) X (dg dc_M_act 20 rfl) rfl rfl rfl ?_
  refine js_iload_n (n := 36) X (dg dc_M_act 21 rfl) rfl rfl rfl ?_
  refine js_aload_n (n := 37) X (dg dc_M_act 22 rfl) rfl rfl rfl ?_
  refine js_getf (j := 1) (v := .ref 14) (n := 40) X (dg dc_M_act 23 rfl) rfl hC_M (Nat.le_of_ble_eq_true rfl) hw_312 rfl rfl ?_
  refine js_iload_n (n := 41) X (dg dc_M_act 24 rfl) rfl rfl rfl ?_
  refine js_iaload (f := M.2.1) (n := 42) X (dg dc_M_act 25 rfl) rfl rfl ?_
  refine js_callS (na := 4) (n := 45) X (dg dc_M_act 26 rfl) rfl (c_O_after l Dv fu _ M.2.2.2.2.1 a2 a3 (M.2.1 (ix a1))) gS_M_88 rfl rfl hy_O_after.2 ⟨(Nat.le_of_ble_eq_true rfl), (Nat.le_of_ble_eq_true rfl)⟩ ⟨(Nat.le_of_ble_eq_true rfl), (Nat.le_of_ble_eq_true rfl)⟩ rfl rfl rfl rfl ?_
  intro r42
  refine js_puti (j := 4) (n := 48) X (dg dc_M_act 27 rfl) rfl hC_M (Nat.le_of_ble_eq_true rfl) hw_305 rfl rfl (Or.inl rfl) (Nat.le_of_ble_eq_true rfl) ?_
  exact js_retV X (dg dc_M_act 28 rfl) rfl (Nat.le_of_ble_eq_true rfl) (Nat.le_of_ble_eq_true rfl) rfl
set_option maxRecDepth 100000 in
set_option maxHeartbeats 4000000 in
theorem c_M_actByNote_12 (l : Launch) (Dv : va_G) (fu : Nat) (h : S_H) (r : S_R) (out : Nat → Int64) (M : S_M) (a1 : Int32) (a2 : Int32) (a3 : Int32) (a4 : Int32) : ev_M l Dv gaX mu_M_actByNote [.ref 12, .int a1, .int a2, .int a3, .int a4] (hpW (h.1, h.2.1, (M, h.2.2.1.2), h.2.2.2) r out) (f_M_actByNote fu M a1 a2 a3 a4) (fun q => (none, hpW (h.1, h.2.1, (q, h.2.2.1.2), h.2.2.2) r out)) := by
  refine ev_met (lo0 := [some (.ref 12), some (.int a1), some (.int a2), some (.int a3), some (.int a4), none]) rfl rfl rfl (fun κ X => ?_)
  unfold f_M_actByNote
  refine js_iload_n (n := 1) X (dg dc_M_actByNote 0 rfl) rfl rfl rfl ?_
  refine js_lsw X (dg dc_M_actByNote 1 rfl) (by decide) ?_
  refine js_sw1 28 (by decide) (by decide) ?_ ?_
  · refine js_iload (n := 30) X (dg dc_M_actByNote 2 rfl) rfl rfl ?_
    refine js_aload_n (n := 31) X (dg dc_M_actByNote 3 rfl) rfl rfl rfl ?_
    refine js_getf (j := 1) (v := .ref 14) (n := 34) X (dg dc_M_actByNote 4 rfl) rfl hC_M (Nat.le_of_ble_eq_true rfl) hw_312 rfl rfl ?_
    refine js_iload_n (n := 35) X (dg dc_M_actByNote 5 rfl) rfl rfl rfl ?_
    refine js_iaload (f := M.2.1) (n := 36) X (dg dc_M_actByNote 6 rfl) rfl rfl ?_
    refine js_iadd (n := 37) X (dg dc_M_actByNote 7 rfl) rfl ?_
    refine js_bipush (n := 39) 8 X (dg dc_M_actByNote 8 rfl) rfl (by decide) ?_
    refine js_irem (n := 40) X (dg dc_M_actByNote 9 rfl) rfl ?_
    refine js_istore (lo' := [some (.ref 12), some (.int a1), some (.int a2), some (.int a3), some (.int a4), some (.int ((a4 + (M.2.1 (ix a1))) - (a4 + (M.2.1 (ix a1))) / 8 * 8))]) (n := 42) X (dg dc_M_actByNote 10 rfl) rfl (Nat.le_of_ble_eq_true rfl) rfl ?_
    refine js_aload_n (n := 43) X (dg dc_M_actByNote 11 rfl) rfl rfl rfl ?_
    refine js_getf (j := 0) (v := .ref 13) (n := 46) X (dg dc_M_actByNote 12 rfl) rfl hC_M (Nat.le_of_ble_eq_true rfl) hw_314 rfl rfl ?_
    refine js_iload_n (n := 47) X (dg dc_M_actByNote 13 rfl) rfl rfl rfl ?_
    refine js_iload (n := 49) X (dg dc_M_actByNote 14 rfl) rfl rfl ?_
    refine js_iastore (f := M.1) (n := 50) X (dg dc_M_actByNote 15 rfl) rfl rfl ?_
    refine js_goto (t := 90) X (dg dc_M_actByNote 16 rfl) (by decide) ?_
    refine js_aload_n (n := 91) X (dg dc_M_actByNote 38 rfl) rfl rfl rfl ?_
    refine js_aload_n (n := 92) X (dg dc_M_actByNote 39 rfl) rfl rfl rfl ?_
    refine js_getf (j := 4) (v := .int M.2.2.2.2.1) (n := 95) X (dg dc_M_actByNote 40 rfl) rfl hC_M (Nat.le_of_ble_eq_true rfl) hw_305 rfl rfl ?_
    refine js_iconst (n := 96) 3 X (dg dc_M_actByNote 41 rfl) rfl (by decide) ?_
    refine js_iload_n (n := 97) X (dg dc_M_actByNote 42 rfl) rfl rfl rfl ?_
    refine js_iload (n := 99) X (dg dc_M_actByNote 43 rfl) rfl rfl ?_
    refine js_callS (na := 4) (n := 102) X (dg dc_M_actByNote 44 rfl) rfl (c_O_after l Dv fu _ M.2.2.2.2.1 3 a3 ((a4 + (M.2.1 (ix a1))) - (a4 + (M.2.1 (ix a1))) / 8 * 8)) gS_M_88 rfl rfl hy_O_after.2 ⟨(Nat.le_of_ble_eq_true rfl), (Nat.le_of_ble_eq_true rfl)⟩ ⟨(Nat.le_of_ble_eq_true rfl), (Nat.le_of_ble_eq_true rfl)⟩ rfl rfl rfl rfl ?_
    intro r99
    refine js_puti (j := 4) (n := 105) X (dg dc_M_actByNote 45 rfl) rfl hC_M (Nat.le_of_ble_eq_true rfl) hw_305 rfl rfl (Or.inl rfl) (Nat.le_of_ble_eq_true rfl) ?_
    exact js_retV X (dg dc_M_actByNote 46 rfl) rfl (Nat.le_of_ble_eq_true rfl) (Nat.le_of_ble_eq_true rfl) rfl
  refine js_sw1 53 (by decide) (by decide) ?_ ?_
  · refine js_aload_n (n := 54) X (dg dc_M_actByNote 17 rfl) rfl rfl rfl ?_
    refine js_getf (j := 1) (v := .ref 14) (n := 57) X (dg dc_M_actByNote 18 rfl) rfl hC_M (Nat.le_of_ble_eq_true rfl) hw_312 rfl rfl ?_
    refine js_iload_n (n := 58) X (dg dc_M_actByNote 19 rfl) rfl rfl rfl ?_
    refine js_iaload (f := M.2.1) (n := 59) X (dg dc_M_actByNote 20 rfl) rfl rfl ?_
    refine js_istore (lo' := [some (.ref 12), some (.int a1), some (.int a2), some (.int a3), some (.int a4), some (.int (M.2.1 (ix a1)))]) (n := 61) X (dg dc_M_actByNote 21 rfl) rfl (Nat.le_of_ble_eq_true rfl) rfl ?_
    refine js_aload_n (n := 62) X (dg dc_M_actByNote 22 rfl) rfl rfl rfl ?_
    refine js_getf (j := 0) (v := .ref 13) (n := 65) X (dg dc_M_actByNote 23 rfl) rfl hC_M (Nat.le_of_ble_eq_true rfl) hw_314 rfl rfl ?_
    refine js_iload_n (n := 66) X (dg dc_M_actByNote 24 rfl) rfl rfl rfl ?_
    refine js_iload (n := 68) X (dg dc_M_actByNote 25 rfl) rfl rfl ?_
    refine js_iastore (f := M.1) (n := 69) X (dg dc_M_actByNote 26 rfl) rfl rfl ?_
    refine js_goto (t := 90) X (dg dc_M_actByNote 27 rfl) (by decide) ?_
    refine js_aload_n (n := 91) X (dg dc_M_actByNote 38 rfl) rfl rfl rfl ?_
    refine js_aload_n (n := 92) X (dg dc_M_actByNote 39 rfl) rfl rfl rfl ?_
    refine js_getf (j := 4) (v := .int M.2.2.2.2.1) (n := 95) X (dg dc_M_actByNote 40 rfl) rfl hC_M (Nat.le_of_ble_eq_true rfl) hw_305 rfl rfl ?_
    refine js_iconst (n := 96) 3 X (dg dc_M_actByNote 41 rfl) rfl (by decide) ?_
    refine js_iload_n (n := 97) X (dg dc_M_actByNote 42 rfl) rfl rfl rfl ?_
    refine js_iload (n := 99) X (dg dc_M_actByNote 43 rfl) rfl rfl ?_
    refine js_callS (na := 4) (n := 102) X (dg dc_M_actByNote 44 rfl) rfl (c_O_after l Dv fu _ M.2.2.2.2.1 3 a3 (M.2.1 (ix a1))) gS_M_88 rfl rfl hy_O_after.2 ⟨(Nat.le_of_ble_eq_true rfl), (Nat.le_of_ble_eq_true rfl)⟩ ⟨(Nat.le_of_ble_eq_true rfl), (Nat.le_of_ble_eq_true rfl)⟩ rfl rfl rfl rfl ?_
    intro r99
    refine js_puti (j := 4) (n := 105) X (dg dc_M_actByNote 45 rfl) rfl hC_M (Nat.le_of_ble_eq_true rfl) hw_305 rfl rfl (Or.inl rfl) (Nat.le_of_ble_eq_true rfl) ?_
    exact js_retV X (dg dc_M_actByNote 46 rfl) rfl (Nat.le_of_ble_eq_true rfl) (Nat.le_of_ble_eq_true rfl) rfl
  refine js_sw0 72 (by decide) ?_
  refine js_iload (n := 74) X (dg dc_M_actByNote 28 rfl) rfl rfl ?_
  refine js_istore (lo' := [some (.ref 12), some (.int a1), some (.int a2), some (.int a3), some (.int a4), some (.int a4)]) (n := 76) X (dg dc_M_actByNote 29 rfl) rfl (Nat.le_of_ble_eq_true rfl) rfl ?_
  refine js_aload_n (n := 77) X (dg dc_M_actByNote 30 rfl) rfl rfl rfl ?_
  refine js_getf (j := 0) (v := .ref 13) (n := 80) X (dg dc_M_actByNote 31 rfl) rfl hC_M (Nat.le_of_ble_eq_true rfl) hw_314 rfl rfl ?_
  refine js_iload_n (n := 81) X (dg dc_M_actByNote 32 rfl) rfl rfl rfl ?_
  refine js_aload_n (n := 82) X (dg dc_M_actByNote 33 rfl) rfl rfl rfl ?_
  refine js_getf (j := 4) (v := .int M.2.2.2.2.1) (n := 85) X (dg dc_M_actByNote 34 rfl) rfl hC_M (Nat.le_of_ble_eq_true rfl) hw_305 rfl rfl ?_
  refine js_iload_n (n := 86) X (dg dc_M_actByNote 35 rfl) rfl rfl rfl ?_
  refine js_callS (na := 2) (n := 89) X (dg dc_M_actByNote 36 rfl) rfl (c_O_held l Dv fu _ M.2.2.2.2.1 a3) gS_M_73 rfl rfl hy_O_held.2 ⟨(Nat.le_of_ble_eq_true rfl), (Nat.le_of_ble_eq_true rfl)⟩ ⟨(Nat.le_of_ble_eq_true rfl), (Nat.le_of_ble_eq_true rfl)⟩ rfl rfl rfl rfl ?_
  intro r86
  refine js_iastore (f := M.1) (n := 90) X (dg dc_M_actByNote 37 rfl) rfl rfl ?_
  refine js_aload_n (n := 91) X (dg dc_M_actByNote 38 rfl) rfl rfl rfl ?_
  refine js_aload_n (n := 92) X (dg dc_M_actByNote 39 rfl) rfl rfl rfl ?_
  refine js_getf (j := 4) (v := .int M.2.2.2.2.1) (n := 95) X (dg dc_M_actByNote 40 rfl) rfl hC_M (Nat.le_of_ble_eq_true rfl) hw_305 rfl rfl ?_
  refine js_iconst (n := 96) 3 X (dg dc_M_actByNote 41 rfl) rfl (by decide) ?_
  refine js_iload_n (n := 97) X (dg dc_M_actByNote 42 rfl) rfl rfl rfl ?_
  refine js_iload (n := 99) X (dg dc_M_actByNote 43 rfl) rfl rfl ?_
  refine js_callS (na := 4) (n := 102) X (dg dc_M_actByNote 44 rfl) rfl (c_O_after l Dv fu _ M.2.2.2.2.1 3 a3 a4) gS_M_88 rfl rfl hy_O_after.2 ⟨(Nat.le_of_ble_eq_true rfl), (Nat.le_of_ble_eq_true rfl)⟩ ⟨(Nat.le_of_ble_eq_true rfl), (Nat.le_of_ble_eq_true rfl)⟩ rfl rfl rfl rfl ?_
  intro r99
  refine js_puti (j := 4) (n := 105) X (dg dc_M_actByNote 45 rfl) rfl hC_M (Nat.le_of_ble_eq_true rfl) hw_305 rfl rfl (Or.inl rfl) (Nat.le_of_ble_eq_true rfl) ?_
  exact js_retV X (dg dc_M_actByNote 46 rfl) rfl (Nat.le_of_ble_eq_true rfl) (Nat.le_of_ble_eq_true rfl) rfl
set_option maxRecDepth 100000 in
set_option maxHeartbeats 4000000 in
theorem jl_M_step_12_1_L228 (l : Launch) (Dv : va_G) (fu : Nat) (h : S_H) (r : S_R) (out : Nat → Int64) (κ : ev_ka) (X : ev_X l Dv gaX mu_M_step κ) (P1 : S_P) (M : S_M) (v2 : Int32) (v4 : Int32) (v5 : Int32) (s1 : Int32) (s2 : Int32) : ev_J l Dv gaX mu_M_step κ 228 0 0 [some (.ref 12), none, some (.int v2), none, some (.int v4), some (.int v5), none] [.int s2, .int s1, .ref 18] (hpW (P1, h.2.1, (M, h.2.2.1.2), h.2.2.2) r out) (f_M_step_L228 fu P1 M v2 v4 v5 s1 s2) (fun q => (none, hpW (P1, h.2.1, (q, h.2.2.1.2), h.2.2.2) r out)) := by
  unfold f_M_step_L228
  refine js_iastore (f := M.2.2.2.2.2.2.1) (n := 229) X (dg dc_M_step 107 rfl) rfl rfl ?_
  refine js_aload_n (n := 230) X (dg dc_M_step 108 rfl) rfl rfl rfl ?_
  refine js_getf (j := 5) (v := .ref 17) (n := 233) X (dg dc_M_step 109 rfl) rfl hC_M (Nat.le_of_ble_eq_true rfl) hw_307 rfl rfl ?_
  refine js_iload_n (n := 234) X (dg dc_M_step 110 rfl) rfl rfl rfl ?_
  refine js_aload_n (n := 235) X (dg dc_M_step 111 rfl) rfl rfl rfl ?_
  refine js_iload (n := 237) X (dg dc_M_step 112 rfl) rfl rfl ?_
  refine js_callV (na := 1) (ci := 3) (n := 240) X (dg dc_M_step 113 rfl) rfl (c_M_isLate_12 l Dv fu (P1, h.2.1, ((M.1, M.2.1, M.2.2.1, M.2.2.2.1, M.2.2.2.2.1, M.2.2.2.2.2.1, (upd M.2.2.2.2.2.2.1 (ix s1) s2), M.2.2.2.2.2.2.2), h.2.2.1.2), h.2.2.2) r out (M.1, M.2.1, M.2.2.1, M.2.2.2.1, M.2.2.2.2.1, M.2.2.2.2.2.1, (upd M.2.2.2.2.2.2.1 (ix s1) s2), M.2.2.2.2.2.2.2) v5) gV_M_85 rfl rfl hy_M_isLate ⟨(Nat.le_of_ble_eq_true rfl), (Nat.le_of_ble_eq_true rfl)⟩ rfl ⟨(Nat.le_of_ble_eq_true rfl), (Nat.le_of_ble_eq_true rfl)⟩ rfl rfl rfl rfl rfl ?_
  intro r237
  refine js_if_eq (t := 248) (n := 243) X (dg dc_M_step 114 rfl) (by decide) rfl ?_ ?_
  · refine js_iload (n := 250) X (dg dc_M_step 117 rfl) rfl rfl ?_
    refine js_iconst (n := 251) 1 X (dg dc_M_step 118 rfl) rfl (by decide) ?_
    refine js_iadd (n := 252) X (dg dc_M_step 119 rfl) rfl ?_
    refine js_iastore (f := M.2.2.2.2.2.1) (n := 253) X (dg dc_M_step 120 rfl) rfl rfl ?_
    refine js_goto (t := 295) X (dg dc_M_step 121 rfl) (by decide) ?_
    exact js_retV X (dg dc_M_step 145 rfl) rfl (Nat.le_of_ble_eq_true rfl) (Nat.le_of_ble_eq_true rfl) rfl
  refine js_iload (n := 245) X (dg dc_M_step 115 rfl) rfl rfl ?_
  refine js_goto (t := 252) X (dg dc_M_step 116 rfl) (by decide) ?_
  refine js_iastore (f := M.2.2.2.2.2.1) (n := 253) X (dg dc_M_step 120 rfl) rfl rfl ?_
  refine js_goto (t := 295) X (dg dc_M_step 121 rfl) (by decide) ?_
  exact js_retV X (dg dc_M_step 145 rfl) rfl (Nat.le_of_ble_eq_true rfl) (Nat.le_of_ble_eq_true rfl) rfl
set_option maxRecDepth 100000 in
set_option maxHeartbeats 4000000 in
theorem c_M_step_12_1 (l : Launch) (Dv : va_G) (fu : Nat) (h : S_H) (r : S_R) (out : Nat → Int64) (M : S_M) (P1 : S_P) (a2 : Int32) (a3 : Int32) : ev_M l Dv gaX mu_M_step [.ref 12, .ref 1, .int a2, .int a3] (hpW (P1, h.2.1, (M, h.2.2.1.2), h.2.2.2) r out) (f_M_step fu M P1 a2 a3) (fun q => (none, hpW (P1, h.2.1, (q, h.2.2.1.2), h.2.2.2) r out)) := by
  refine ev_met (lo0 := [some (.ref 12), some (.ref 1), some (.int a2), some (.int a3), none, none, none]) rfl rfl rfl (fun κ X => ?_)
  unfold f_M_step
  refine js_aload_n (n := 1) X (dg dc_M_step 0 rfl) rfl rfl rfl ?_
  refine js_getf (j := 5) (v := .ref 17) (n := 4) X (dg dc_M_step 1 rfl) rfl hC_M (Nat.le_of_ble_eq_true rfl) hw_307 rfl rfl ?_
  refine js_iload_n (n := 5) X (dg dc_M_step 2 rfl) rfl rfl rfl ?_
  refine js_iaload (f := M.2.2.2.2.2.1) (n := 6) X (dg dc_M_step 3 rfl) rfl rfl ?_
  refine js_istore (lo' := [some (.ref 12), some (.ref 1), some (.int a2), some (.int a3), some (.int (M.2.2.2.2.2.1 (ix a2))), none, none]) (n := 8) X (dg dc_M_step 4 rfl) rfl (Nat.le_of_ble_eq_true rfl) rfl ?_
  refine js_aload_n (n := 9) X (dg dc_M_step 5 rfl) rfl rfl rfl ?_
  refine js_getf (j := 1) (v := .ref 3) (n := 12) X (dg dc_M_step 6 rfl) rfl hC_P (Nat.le_of_ble_eq_true rfl) hw_308 rfl rfl ?_
  refine js_iload (n := 14) X (dg dc_M_step 7 rfl) rfl rfl ?_
  refine js_iaload (f := P1.2.1) (n := 15) X (dg dc_M_step 8 rfl) rfl rfl ?_
  refine js_istore (lo' := [some (.ref 12), some (.ref 1), some (.int a2), some (.int a3), some (.int (M.2.2.2.2.2.1 (ix a2))), some (.int (P1.2.1 (ix (M.2.2.2.2.2.1 (ix a2))))), none]) (n := 17) X (dg dc_M_step 9 rfl) rfl (Nat.le_of_ble_eq_true rfl) rfl ?_
  refine js_aload_n (n := 18) X (dg dc_M_step 10 rfl) rfl rfl rfl ?_
  refine js_getf (j := 2) (v := .ref 4) (n := 21) X (dg dc_M_step 11 rfl) rfl hC_P (Nat.le_of_ble_eq_true rfl) hw_309 rfl rfl ?_
  refine js_iload (n := 23) X (dg dc_M_step 12 rfl) rfl rfl ?_
  refine js_iaload (f := P1.2.2.1) (n := 24) X (dg dc_M_step 13 rfl) rfl rfl ?_
  refine js_istore (lo' := [some (.ref 12), some (.ref 1), some (.int a2), some (.int a3), some (.int (M.2.2.2.2.2.1 (ix a2))), some (.int (P1.2.1 (ix (M.2.2.2.2.2.1 (ix a2))))), some (.int (P1.2.2.1 (ix (M.2.2.2.2.2.1 (ix a2)))))]) (n := 26) X (dg dc_M_step 14 rfl) rfl (Nat.le_of_ble_eq_true rfl) rfl ?_
  refine js_aload_n (n := 27) X (dg dc_M_step 15 rfl) rfl rfl rfl ?_
  refine js_getf (j := 6) (v := .ref 18) (n := 30) X (dg dc_M_step 16 rfl) rfl hC_M (Nat.le_of_ble_eq_true rfl) hw_310 rfl rfl ?_
  refine js_iload_n (n := 31) X (dg dc_M_step 17 rfl) rfl rfl rfl ?_
  refine js_iaload (f := M.2.2.2.2.2.2.1) (n := 32) X (dg dc_M_step 18 rfl) rfl rfl ?_
  refine js_tsw X (dg dc_M_step 19 rfl) (by decide) ?_
  refine js_sw1 64 (by decide) (by decide) ?_ ?_
  · refine js_aload_n (n := 65) X (dg dc_M_step 20 rfl) rfl rfl rfl ?_
    refine js_getf (j := 2) (v := .ref 15) (n := 68) X (dg dc_M_step 21 rfl) rfl hC_M (Nat.le_of_ble_eq_true rfl) hw_311 rfl rfl ?_
    refine js_iload (n := 70) X (dg dc_M_step 22 rfl) rfl rfl ?_
    refine js_iload_n (n := 71) X (dg dc_M_step 23 rfl) rfl rfl rfl ?_
    refine js_iastore (f := M.2.2.1) (n := 72) X (dg dc_M_step 24 rfl) rfl rfl ?_
    refine js_aload_n (n := 73) X (dg dc_M_step 25 rfl) rfl rfl rfl ?_
    refine js_getf (j := 1) (v := .ref 14) (n := 76) X (dg dc_M_step 26 rfl) rfl hC_M (Nat.le_of_ble_eq_true rfl) hw_312 rfl rfl ?_
    refine js_iload (n := 78) X (dg dc_M_step 27 rfl) rfl rfl ?_
    refine js_aload_n (n := 79) X (dg dc_M_step 28 rfl) rfl rfl rfl ?_
    refine js_aload_n (n := 80) X (dg dc_M_step 29 rfl) rfl rfl rfl ?_
    refine js_getf (j := 3) (v := .ref 5) (n := 83) X (dg dc_M_step 30 rfl) rfl hC_P (Nat.le_of_ble_eq_true rfl) hw_313 rfl rfl ?_
    refine js_iload (n := 85) X (dg dc_M_step 31 rfl) rfl rfl ?_
    refine js_iaload (f := P1.2.2.2) (n := 86) X (dg dc_M_step 32 rfl) rfl rfl ?_
    refine js_callV (na := 1) (ci := 3) (n := 89) X (dg dc_M_step 33 rfl) rfl (c_M_numberOf_12 l Dv fu (P1, h.2.1, ((M.1, M.2.1, (upd M.2.2.1 (ix (M.2.2.2.2.2.1 (ix a2))) a3), M.2.2.2), h.2.2.1.2), h.2.2.2) r out (M.1, M.2.1, (upd M.2.2.1 (ix (M.2.2.2.2.2.1 (ix a2))) a3), M.2.2.2) (P1.2.2.2 (ix (M.2.2.2.2.2.1 (ix a2))))) gV_M_63 rfl rfl hy_M_numberOf ⟨(Nat.le_of_ble_eq_true rfl), (Nat.le_of_ble_eq_true rfl)⟩ rfl ⟨(Nat.le_of_ble_eq_true rfl), (Nat.le_of_ble_eq_true rfl)⟩ rfl rfl rfl rfl rfl ?_
    intro r86
    refine js_iastore (f := M.2.1) (n := 90) X (dg dc_M_step 34 rfl) rfl rfl ?_
    refine js_aload_n (n := 91) X (dg dc_M_step 35 rfl) rfl rfl rfl ?_
    refine js_getf (j := 6) (v := .ref 18) (n := 94) X (dg dc_M_step 36 rfl) rfl hC_M (Nat.le_of_ble_eq_true rfl) hw_310 rfl rfl ?_
    refine js_iload_n (n := 95) X (dg dc_M_step 37 rfl) rfl rfl rfl ?_
    refine js_aload_n (n := 96) X (dg dc_M_step 38 rfl) rfl rfl rfl ?_
    refine js_iload (n := 98) X (dg dc_M_step 39 rfl) rfl rfl ?_
    refine js_callV (na := 1) (ci := 3) (n := 101) X (dg dc_M_step 40 rfl) rfl (c_M_isSplit_12 l Dv fu (P1, h.2.1, ((M.1, (upd M.2.1 (ix (M.2.2.2.2.2.1 (ix a2))) r86), (upd M.2.2.1 (ix (M.2.2.2.2.2.1 (ix a2))) a3), M.2.2.2), h.2.2.1.2), h.2.2.2) r out (M.1, (upd M.2.1 (ix (M.2.2.2.2.2.1 (ix a2))) r86), (upd M.2.2.1 (ix (M.2.2.2.2.2.1 (ix a2))) a3), M.2.2.2) (P1.2.1 (ix (M.2.2.2.2.2.1 (ix a2))))) gV_M_66 rfl rfl hy_M_isSplit ⟨(Nat.le_of_ble_eq_true rfl), (Nat.le_of_ble_eq_true rfl)⟩ rfl ⟨(Nat.le_of_ble_eq_true rfl), (Nat.le_of_ble_eq_true rfl)⟩ rfl rfl rfl rfl rfl ?_
    intro r98
    refine js_if_eq (t := 108) (n := 104) X (dg dc_M_step 41 rfl) (by decide) rfl ?_ ?_
    · refine js_iconst (n := 109) 2 X (dg dc_M_step 44 rfl) rfl (by decide) ?_
      refine js_iastore (f := M.2.2.2.2.2.2.1) (n := 110) X (dg dc_M_step 45 rfl) rfl rfl ?_
      refine js_goto (t := 295) X (dg dc_M_step 46 rfl) (by decide) ?_
      exact js_retV X (dg dc_M_step 145 rfl) rfl (Nat.le_of_ble_eq_true rfl) (Nat.le_of_ble_eq_true rfl) rfl
    refine js_iconst (n := 105) 1 X (dg dc_M_step 42 rfl) rfl (by decide) ?_
    refine js_goto (t := 109) X (dg dc_M_step 43 rfl) (by decide) ?_
    refine js_iastore (f := M.2.2.2.2.2.2.1) (n := 110) X (dg dc_M_step 45 rfl) rfl rfl ?_
    refine js_goto (t := 295) X (dg dc_M_step 46 rfl) (by decide) ?_
    exact js_retV X (dg dc_M_step 145 rfl) rfl (Nat.le_of_ble_eq_true rfl) (Nat.le_of_ble_eq_true rfl) rfl
  refine js_sw1 113 (by decide) (by decide) ?_ ?_
  · refine js_aload_n (n := 114) X (dg dc_M_step 47 rfl) rfl rfl rfl ?_
    refine js_getf (j := 7) (v := .ref 19) (n := 117) X (dg dc_M_step 48 rfl) rfl hC_M (Nat.le_of_ble_eq_true rfl) hw_324 rfl rfl ?_
    refine js_iload_n (n := 118) X (dg dc_M_step 49 rfl) rfl rfl rfl ?_
    refine js_aload_n (n := 119) X (dg dc_M_step 50 rfl) rfl rfl rfl ?_
    refine js_getf (j := 4) (v := .int M.2.2.2.2.1) (n := 122) X (dg dc_M_step 51 rfl) rfl hC_M (Nat.le_of_ble_eq_true rfl) hw_305 rfl rfl ?_
    refine js_iload (n := 124) X (dg dc_M_step 52 rfl) rfl rfl ?_
    refine js_bipush (n := 126) 6 X (dg dc_M_step 53 rfl) rfl (by decide) ?_
    refine js_icmp_ne (t := 137) (n := 129) X (dg dc_M_step 54 rfl) (by decide) rfl ?_ ?_
    · refine js_iload (n := 139) X (dg dc_M_step 58 rfl) rfl rfl ?_
      refine js_callS (na := 2) (n := 142) X (dg dc_M_step 59 rfl) rfl (c_O_held l Dv fu _ M.2.2.2.2.1 (P1.2.2.1 (ix (M.2.2.2.2.2.1 (ix a2))))) gS_M_73 rfl rfl hy_O_held.2 ⟨(Nat.le_of_ble_eq_true rfl), (Nat.le_of_ble_eq_true rfl)⟩ ⟨(Nat.le_of_ble_eq_true rfl), (Nat.le_of_ble_eq_true rfl)⟩ rfl rfl rfl rfl ?_
      intro r139
      refine js_iastore (f := M.2.2.2.2.2.2.2.1) (n := 143) X (dg dc_M_step 60 rfl) rfl rfl ?_
      refine js_aload_n (n := 144) X (dg dc_M_step 61 rfl) rfl rfl rfl ?_
      refine js_getf (j := 6) (v := .ref 18) (n := 147) X (dg dc_M_step 62 rfl) rfl hC_M (Nat.le_of_ble_eq_true rfl) hw_310 rfl rfl ?_
      refine js_iload_n (n := 148) X (dg dc_M_step 63 rfl) rfl rfl rfl ?_
      refine js_iconst (n := 149) 2 X (dg dc_M_step 64 rfl) rfl (by decide) ?_
      refine js_iastore (f := M.2.2.2.2.2.2.1) (n := 150) X (dg dc_M_step 65 rfl) rfl rfl ?_
      refine js_goto (t := 295) X (dg dc_M_step 66 rfl) (by decide) ?_
      exact js_retV X (dg dc_M_step 145 rfl) rfl (Nat.le_of_ble_eq_true rfl) (Nat.le_of_ble_eq_true rfl) rfl
    refine js_iload (n := 131) X (dg dc_M_step 55 rfl) rfl rfl ?_
    refine js_callS (na := 1) (n := 134) X (dg dc_M_step 56 rfl) rfl (c_O_source l Dv fu _ (P1.2.2.1 (ix (M.2.2.2.2.2.1 (ix a2))))) gS_M_70 rfl rfl hy_O_source.2 ⟨(Nat.le_of_ble_eq_true rfl), (Nat.le_of_ble_eq_true rfl)⟩ ⟨(Nat.le_of_ble_eq_true rfl), (Nat.le_of_ble_eq_true rfl)⟩ rfl rfl rfl rfl ?_
    intro r131
    refine js_goto (t := 139) X (dg dc_M_step 57 rfl) (by decide) ?_
    refine js_callS (na := 2) (n := 142) X (dg dc_M_step 59 rfl) rfl (c_O_held l Dv fu _ M.2.2.2.2.1 r131) gS_M_73 rfl rfl hy_O_held.2 ⟨(Nat.le_of_ble_eq_true rfl), (Nat.le_of_ble_eq_true rfl)⟩ ⟨(Nat.le_of_ble_eq_true rfl), (Nat.le_of_ble_eq_true rfl)⟩ rfl rfl rfl rfl ?_
    intro r139
    refine js_iastore (f := M.2.2.2.2.2.2.2.1) (n := 143) X (dg dc_M_step 60 rfl) rfl rfl ?_
    refine js_aload_n (n := 144) X (dg dc_M_step 61 rfl) rfl rfl rfl ?_
    refine js_getf (j := 6) (v := .ref 18) (n := 147) X (dg dc_M_step 62 rfl) rfl hC_M (Nat.le_of_ble_eq_true rfl) hw_310 rfl rfl ?_
    refine js_iload_n (n := 148) X (dg dc_M_step 63 rfl) rfl rfl rfl ?_
    refine js_iconst (n := 149) 2 X (dg dc_M_step 64 rfl) rfl (by decide) ?_
    refine js_iastore (f := M.2.2.2.2.2.2.1) (n := 150) X (dg dc_M_step 65 rfl) rfl rfl ?_
    refine js_goto (t := 295) X (dg dc_M_step 66 rfl) (by decide) ?_
    exact js_retV X (dg dc_M_step 145 rfl) rfl (Nat.le_of_ble_eq_true rfl) (Nat.le_of_ble_eq_true rfl) rfl
  refine js_sw1 153 (by decide) (by decide) ?_ ?_
  · refine js_aload_n (n := 154) X (dg dc_M_step 67 rfl) rfl rfl rfl ?_
    refine js_iload (n := 156) X (dg dc_M_step 68 rfl) rfl rfl ?_
    refine js_callV (na := 1) (ci := 3) (n := 159) X (dg dc_M_step 69 rfl) rfl (c_M_isSplit_12 l Dv fu (P1, h.2.1, (M, h.2.2.1.2), h.2.2.2) r out M (P1.2.1 (ix (M.2.2.2.2.2.1 (ix a2))))) gV_M_66 rfl rfl hy_M_isSplit ⟨(Nat.le_of_ble_eq_true rfl), (Nat.le_of_ble_eq_true rfl)⟩ rfl ⟨(Nat.le_of_ble_eq_true rfl), (Nat.le_of_ble_eq_true rfl)⟩ rfl rfl rfl rfl rfl ?_
    intro r156
    refine js_if_eq (t := 181) (n := 162) X (dg dc_M_step 70 rfl) (by decide) rfl ?_ ?_
    · refine js_aload_n (n := 182) X (dg dc_M_step 81 rfl) rfl rfl rfl ?_
      refine js_iload (n := 184) X (dg dc_M_step 82 rfl) rfl rfl ?_
      refine js_iload (n := 186) X (dg dc_M_step 83 rfl) rfl rfl ?_
      refine js_iload (n := 188) X (dg dc_M_step 84 rfl) rfl rfl ?_
      refine js_callV (na := 3) (ci := 3) (n := 191) X (dg dc_M_step 85 rfl) rfl (c_M_act_12 l Dv fu (P1, h.2.1, (M, h.2.2.1.2), h.2.2.2) r out M (M.2.2.2.2.2.1 (ix a2)) (P1.2.1 (ix (M.2.2.2.2.2.1 (ix a2)))) (P1.2.2.1 (ix (M.2.2.2.2.2.1 (ix a2))))) gV_M_81 rfl rfl hy_M_act ⟨(Nat.le_of_ble_eq_true rfl), (Nat.le_of_ble_eq_true rfl)⟩ rfl ⟨(Nat.le_of_ble_eq_true rfl), (Nat.le_of_ble_eq_true rfl)⟩ rfl rfl rfl rfl rfl ?_
      intro M_188
      refine js_aload_n (n := 192) X (dg dc_M_step 86 rfl) rfl rfl rfl ?_
      refine js_getf (j := 6) (v := .ref 18) (n := 195) X (dg dc_M_step 87 rfl) rfl hC_M (Nat.le_of_ble_eq_true rfl) hw_310 rfl rfl ?_
      refine js_iload_n (n := 196) X (dg dc_M_step 88 rfl) rfl rfl rfl ?_
      refine js_iconst (n := 197) 3 X (dg dc_M_step 89 rfl) rfl (by decide) ?_
      refine js_iastore (f := M_188.2.2.2.2.2.2.1) (n := 198) X (dg dc_M_step 90 rfl) rfl rfl ?_
      refine js_goto (t := 295) X (dg dc_M_step 91 rfl) (by decide) ?_
      exact js_retV X (dg dc_M_step 145 rfl) rfl (Nat.le_of_ble_eq_true rfl) (Nat.le_of_ble_eq_true rfl) rfl
    refine js_aload_n (n := 163) X (dg dc_M_step 71 rfl) rfl rfl rfl ?_
    refine js_iload (n := 165) X (dg dc_M_step 72 rfl) rfl rfl ?_
    refine js_iload (n := 167) X (dg dc_M_step 73 rfl) rfl rfl ?_
    refine js_iload (n := 169) X (dg dc_M_step 74 rfl) rfl rfl ?_
    refine js_aload_n (n := 170) X (dg dc_M_step 75 rfl) rfl rfl rfl ?_
    refine js_getf (j := 7) (v := .ref 19) (n := 173) X (dg dc_M_step 76 rfl) rfl hC_M (Nat.le_of_ble_eq_true rfl) hw_324 rfl rfl ?_
    refine js_iload_n (n := 174) X (dg dc_M_step 77 rfl) rfl rfl rfl ?_
    refine js_iaload (f := M.2.2.2.2.2.2.2.1) (n := 175) X (dg dc_M_step 78 rfl) rfl rfl ?_
    refine js_callV (na := 4) (ci := 3) (n := 178) X (dg dc_M_step 79 rfl) rfl (c_M_actByNote_12 l Dv fu (P1, h.2.1, (M, h.2.2.1.2), h.2.2.2) r out M (M.2.2.2.2.2.1 (ix a2)) (P1.2.1 (ix (M.2.2.2.2.2.1 (ix a2)))) (P1.2.2.1 (ix (M.2.2.2.2.2.1 (ix a2)))) (M.2.2.2.2.2.2.2.1 (ix a2))) gV_M_77 rfl rfl hy_M_actByNote ⟨(Nat.le_of_ble_eq_true rfl), (Nat.le_of_ble_eq_true rfl)⟩ rfl ⟨(Nat.le_of_ble_eq_true rfl), (Nat.le_of_ble_eq_true rfl)⟩ rfl rfl rfl rfl rfl ?_
    intro M_175
    refine js_goto (t := 191) X (dg dc_M_step 80 rfl) (by decide) ?_
    refine js_aload_n (n := 192) X (dg dc_M_step 86 rfl) rfl rfl rfl ?_
    refine js_getf (j := 6) (v := .ref 18) (n := 195) X (dg dc_M_step 87 rfl) rfl hC_M (Nat.le_of_ble_eq_true rfl) hw_310 rfl rfl ?_
    refine js_iload_n (n := 196) X (dg dc_M_step 88 rfl) rfl rfl rfl ?_
    refine js_iconst (n := 197) 3 X (dg dc_M_step 89 rfl) rfl (by decide) ?_
    refine js_iastore (f := M_175.2.2.2.2.2.2.1) (n := 198) X (dg dc_M_step 90 rfl) rfl rfl ?_
    refine js_goto (t := 295) X (dg dc_M_step 91 rfl) (by decide) ?_
    exact js_retV X (dg dc_M_step 145 rfl) rfl (Nat.le_of_ble_eq_true rfl) (Nat.le_of_ble_eq_true rfl) rfl
  refine js_sw1 201 (by decide) (by decide) ?_ ?_
  · refine js_aload_n (n := 202) X (dg dc_M_step 92 rfl) rfl rfl rfl ?_
    refine js_getf (j := 3) (v := .ref 16) (n := 205) X (dg dc_M_step 93 rfl) rfl hC_M (Nat.le_of_ble_eq_true rfl) hw_343 rfl rfl ?_
    refine js_iload (n := 207) X (dg dc_M_step 94 rfl) rfl rfl ?_
    refine js_iload_n (n := 208) X (dg dc_M_step 95 rfl) rfl rfl rfl ?_
    refine js_iastore (f := M.2.2.2.1) (n := 209) X (dg dc_M_step 96 rfl) rfl rfl ?_
    refine js_aload_n (n := 210) X (dg dc_M_step 97 rfl) rfl rfl rfl ?_
    refine js_getf (j := 6) (v := .ref 18) (n := 213) X (dg dc_M_step 98 rfl) rfl hC_M (Nat.le_of_ble_eq_true rfl) hw_310 rfl rfl ?_
    refine js_iload_n (n := 214) X (dg dc_M_step 99 rfl) rfl rfl rfl ?_
    refine js_aload_n (n := 215) X (dg dc_M_step 100 rfl) rfl rfl rfl ?_
    refine js_iload (n := 217) X (dg dc_M_step 101 rfl) rfl rfl ?_
    refine js_callV (na := 1) (ci := 3) (n := 220) X (dg dc_M_step 102 rfl) rfl (c_M_isLate_12 l Dv fu (P1, h.2.1, ((M.1, M.2.1, M.2.2.1, (upd M.2.2.2.1 (ix (M.2.2.2.2.2.1 (ix a2))) a3), M.2.2.2.2), h.2.2.1.2), h.2.2.2) r out (M.1, M.2.1, M.2.2.1, (upd M.2.2.2.1 (ix (M.2.2.2.2.2.1 (ix a2))) a3), M.2.2.2.2) (P1.2.1 (ix (M.2.2.2.2.2.1 (ix a2))))) gV_M_85 rfl rfl hy_M_isLate ⟨(Nat.le_of_ble_eq_true rfl), (Nat.le_of_ble_eq_true rfl)⟩ rfl ⟨(Nat.le_of_ble_eq_true rfl), (Nat.le_of_ble_eq_true rfl)⟩ rfl rfl rfl rfl rfl ?_
    intro r217
    refine js_if_eq (t := 227) (n := 223) X (dg dc_M_step 103 rfl) (by decide) rfl ?_ ?_
    · refine js_iconst (n := 228) 0 X (dg dc_M_step 106 rfl) rfl (by decide) ?_
      exact js_keep [true, false, true, false, true, true, false] (jl_M_step_12_1_L228 l Dv fu h r out κ X P1 (M.1, M.2.1, M.2.2.1, (upd M.2.2.2.1 (ix (M.2.2.2.2.2.1 (ix a2))) a3), M.2.2.2.2) a2 (M.2.2.2.2.2.1 (ix a2)) (P1.2.1 (ix (M.2.2.2.2.2.1 (ix a2)))) a2 0)
    refine js_iconst (n := 224) 4 X (dg dc_M_step 104 rfl) rfl (by decide) ?_
    refine js_goto (t := 228) X (dg dc_M_step 105 rfl) (by decide) ?_
    exact js_keep [true, false, true, false, true, true, false] (jl_M_step_12_1_L228 l Dv fu h r out κ X P1 (M.1, M.2.1, M.2.2.1, (upd M.2.2.2.1 (ix (M.2.2.2.2.2.1 (ix a2))) a3), M.2.2.2.2) a2 (M.2.2.2.2.2.1 (ix a2)) (P1.2.1 (ix (M.2.2.2.2.2.1 (ix a2)))) a2 4)
  refine js_sw0 256 (by decide) ?_
  refine js_aload_n (n := 257) X (dg dc_M_step 122 rfl) rfl rfl rfl ?_
  refine js_aload_n (n := 258) X (dg dc_M_step 123 rfl) rfl rfl rfl ?_
  refine js_getf (j := 4) (v := .int M.2.2.2.2.1) (n := 261) X (dg dc_M_step 124 rfl) rfl hC_M (Nat.le_of_ble_eq_true rfl) hw_305 rfl rfl ?_
  refine js_iload (n := 263) X (dg dc_M_step 125 rfl) rfl rfl ?_
  refine js_iload (n := 265) X (dg dc_M_step 126 rfl) rfl rfl ?_
  refine js_aload_n (n := 266) X (dg dc_M_step 127 rfl) rfl rfl rfl ?_
  refine js_getf (j := 1) (v := .ref 14) (n := 269) X (dg dc_M_step 128 rfl) rfl hC_M (Nat.le_of_ble_eq_true rfl) hw_312 rfl rfl ?_
  refine js_iload (n := 271) X (dg dc_M_step 129 rfl) rfl rfl ?_
  refine js_iaload (f := M.2.1) (n := 272) X (dg dc_M_step 130 rfl) rfl rfl ?_
  refine js_callS (na := 4) (n := 275) X (dg dc_M_step 131 rfl) rfl (c_O_after l Dv fu _ M.2.2.2.2.1 (P1.2.1 (ix (M.2.2.2.2.2.1 (ix a2)))) (P1.2.2.1 (ix (M.2.2.2.2.2.1 (ix a2)))) (M.2.1 (ix (M.2.2.2.2.2.1 (ix a2))))) gS_M_88 rfl rfl hy_O_after.2 ⟨(Nat.le_of_ble_eq_true rfl), (Nat.le_of_ble_eq_true rfl)⟩ ⟨(Nat.le_of_ble_eq_true rfl), (Nat.le_of_ble_eq_true rfl)⟩ rfl rfl rfl rfl ?_
  intro r272
  refine js_puti (j := 4) (n := 278) X (dg dc_M_step 132 rfl) rfl hC_M (Nat.le_of_ble_eq_true rfl) hw_305 rfl rfl (Or.inl rfl) (Nat.le_of_ble_eq_true rfl) ?_
  refine js_aload_n (n := 279) X (dg dc_M_step 133 rfl) rfl rfl rfl ?_
  refine js_getf (j := 6) (v := .ref 18) (n := 282) X (dg dc_M_step 134 rfl) rfl hC_M (Nat.le_of_ble_eq_true rfl) hw_310 rfl rfl ?_
  refine js_iload_n (n := 283) X (dg dc_M_step 135 rfl) rfl rfl rfl ?_
  refine js_iconst (n := 284) 0 X (dg dc_M_step 136 rfl) rfl (by decide) ?_
  refine js_iastore (f := M.2.2.2.2.2.2.1) (n := 285) X (dg dc_M_step 137 rfl) rfl rfl ?_
  refine js_aload_n (n := 286) X (dg dc_M_step 138 rfl) rfl rfl rfl ?_
  refine js_getf (j := 5) (v := .ref 17) (n := 289) X (dg dc_M_step 139 rfl) rfl hC_M (Nat.le_of_ble_eq_true rfl) hw_307 rfl rfl ?_
  refine js_iload_n (n := 290) X (dg dc_M_step 140 rfl) rfl rfl rfl ?_
  refine js_iload (n := 292) X (dg dc_M_step 141 rfl) rfl rfl ?_
  refine js_iconst (n := 293) 1 X (dg dc_M_step 142 rfl) rfl (by decide) ?_
  refine js_iadd (n := 294) X (dg dc_M_step 143 rfl) rfl ?_
  refine js_iastore (f := M.2.2.2.2.2.1) (n := 295) X (dg dc_M_step 144 rfl) rfl rfl ?_
  exact js_retV X (dg dc_M_step 145 rfl) rfl (Nat.le_of_ble_eq_true rfl) (Nat.le_of_ble_eq_true rfl) rfl
set_option maxRecDepth 100000 in
set_option maxHeartbeats 4000000 in
theorem jl_M_perform_12_1_L178 (l : Launch) (Dv : va_G) (fu : Nat) (h : S_H) (r : S_R) (out : Nat → Int64) (κ : ev_ka) (X : ev_X l Dv gaX mu_M_perform κ) (P1 : S_P) (k104 : S_M → Int32 → Int32 → Int32 → Int32 → Option (S_M)) (hk104 : ∀ (M : S_M) (v3 : Int32) (v5 : Int32) (v6 : Int32) (v7 : Int32), ev_J l Dv gaX mu_M_perform κ 104 0 0 [some (.ref 12), some (.ref 1), none, some (.int v3), none, some (.int v5), some (.int v6), some (.int v7), none, none, none] [] (hpW (P1, h.2.1, (M, h.2.2.1.2), h.2.2.2) r out) (k104 M v3 v5 v6 v7) (fun q => (none, hpW (P1, h.2.1, (q, h.2.2.1.2), h.2.2.2) r out))) (M : S_M) (v3 : Int32) (v5 : Int32) (v6 : Int32) (v7 : Int32) (v8 : Int32) (v9 : Int32) (s0 : Int32) : ev_J l Dv gaX mu_M_perform κ 178 0 0 [some (.ref 12), some (.ref 1), none, some (.int v3), none, some (.int v5), some (.int v6), some (.int v7), some (.int v8), some (.int v9), none] [.int s0] (hpW (P1, h.2.1, (M, h.2.2.1.2), h.2.2.2) r out) (f_M_perform_L178 fu P1 k104 M v3 v5 v6 v7 v8 v9 s0) (fun q => (none, hpW (P1, h.2.1, (q, h.2.2.1.2), h.2.2.2) r out)) := by
  unfold f_M_perform_L178
  refine js_istore (lo' := [some (.ref 12), some (.ref 1), none, some (.int v3), none, some (.int v5), some (.int v6), some (.int v7), some (.int v8), some (.int v9), some (.int s0)]) (n := 180) X (dg dc_M_perform 97 rfl) rfl (Nat.le_of_ble_eq_true rfl) rfl ?_
  refine js_aload_n (n := 181) X (dg dc_M_perform 98 rfl) rfl rfl rfl ?_
  refine js_aload_n (n := 182) X (dg dc_M_perform 99 rfl) rfl rfl rfl ?_
  refine js_iload (n := 184) X (dg dc_M_perform 100 rfl) rfl rfl ?_
  refine js_if_ne (t := 197) (n := 187) X (dg dc_M_perform 101 rfl) (by decide) rfl ?_ ?_
  · refine js_iconst (n := 198) 2 X (dg dc_M_perform 106 rfl) rfl (by decide) ?_
    refine js_goto (t := 202) X (dg dc_M_perform 107 rfl) (by decide) ?_
    refine js_iload (n := 204) X (dg dc_M_perform 109 rfl) rfl rfl ?_
    refine js_callV (na := 3) (ci := 3) (n := 207) X (dg dc_M_perform 110 rfl) rfl (c_M_step_12_1 l Dv fu (P1, h.2.1, (M, h.2.2.1.2), h.2.2.2) r out M P1 2 v7) gV_M_51 rfl rfl hy_M_step ⟨(Nat.le_of_ble_eq_true rfl), (Nat.le_of_ble_eq_true rfl)⟩ rfl ⟨(Nat.le_of_ble_eq_true rfl), (Nat.le_of_ble_eq_true rfl)⟩ rfl rfl rfl rfl rfl ?_
    intro M_204
    refine js_iinc (lo' := [some (.ref 12), some (.ref 1), none, some (.int v3), none, some (.int v5), some (.int v6), some (.int (v7 + 1)), some (.int v8), some (.int v9), some (.int s0)]) (n := 210) 1 X (dg dc_M_perform 111 rfl) rfl (by decide) (Nat.le_of_ble_eq_true rfl) rfl rfl ?_
    refine js_goto (t := 104) X (dg dc_M_perform 112 rfl) (by decide) ?_
    exact js_keep [true, true, false, true, false, true, true, true, false, false, false] (hk104 M_204 v3 v5 v6 (v7 + 1))
  refine js_iload (n := 189) X (dg dc_M_perform 102 rfl) rfl rfl ?_
  refine js_if_eq (t := 201) (n := 192) X (dg dc_M_perform 103 rfl) (by decide) rfl ?_ ?_
  · refine js_iconst (n := 202) 1 X (dg dc_M_perform 108 rfl) rfl (by decide) ?_
    refine js_iload (n := 204) X (dg dc_M_perform 109 rfl) rfl rfl ?_
    refine js_callV (na := 3) (ci := 3) (n := 207) X (dg dc_M_perform 110 rfl) rfl (c_M_step_12_1 l Dv fu (P1, h.2.1, (M, h.2.2.1.2), h.2.2.2) r out M P1 1 v7) gV_M_51 rfl rfl hy_M_step ⟨(Nat.le_of_ble_eq_true rfl), (Nat.le_of_ble_eq_true rfl)⟩ rfl ⟨(Nat.le_of_ble_eq_true rfl), (Nat.le_of_ble_eq_true rfl)⟩ rfl rfl rfl rfl rfl ?_
    intro M_204
    refine js_iinc (lo' := [some (.ref 12), some (.ref 1), none, some (.int v3), none, some (.int v5), some (.int v6), some (.int (v7 + 1)), some (.int v8), some (.int v9), some (.int s0)]) (n := 210) 1 X (dg dc_M_perform 111 rfl) rfl (by decide) (Nat.le_of_ble_eq_true rfl) rfl rfl ?_
    refine js_goto (t := 104) X (dg dc_M_perform 112 rfl) (by decide) ?_
    exact js_keep [true, true, false, true, false, true, true, true, false, false, false] (hk104 M_204 v3 v5 v6 (v7 + 1))
  refine js_iload (n := 194) X (dg dc_M_perform 104 rfl) rfl rfl ?_
  refine js_if_ne (t := 201) (n := 197) X (dg dc_M_perform 105 rfl) (by decide) rfl ?_ ?_
  · refine js_iconst (n := 202) 1 X (dg dc_M_perform 108 rfl) rfl (by decide) ?_
    refine js_iload (n := 204) X (dg dc_M_perform 109 rfl) rfl rfl ?_
    refine js_callV (na := 3) (ci := 3) (n := 207) X (dg dc_M_perform 110 rfl) rfl (c_M_step_12_1 l Dv fu (P1, h.2.1, (M, h.2.2.1.2), h.2.2.2) r out M P1 1 v7) gV_M_51 rfl rfl hy_M_step ⟨(Nat.le_of_ble_eq_true rfl), (Nat.le_of_ble_eq_true rfl)⟩ rfl ⟨(Nat.le_of_ble_eq_true rfl), (Nat.le_of_ble_eq_true rfl)⟩ rfl rfl rfl rfl rfl ?_
    intro M_204
    refine js_iinc (lo' := [some (.ref 12), some (.ref 1), none, some (.int v3), none, some (.int v5), some (.int v6), some (.int (v7 + 1)), some (.int v8), some (.int v9), some (.int s0)]) (n := 210) 1 X (dg dc_M_perform 111 rfl) rfl (by decide) (Nat.le_of_ble_eq_true rfl) rfl rfl ?_
    refine js_goto (t := 104) X (dg dc_M_perform 112 rfl) (by decide) ?_
    exact js_keep [true, true, false, true, false, true, true, true, false, false, false] (hk104 M_204 v3 v5 v6 (v7 + 1))
  refine js_iconst (n := 198) 2 X (dg dc_M_perform 106 rfl) rfl (by decide) ?_
  refine js_goto (t := 202) X (dg dc_M_perform 107 rfl) (by decide) ?_
  refine js_iload (n := 204) X (dg dc_M_perform 109 rfl) rfl rfl ?_
  refine js_callV (na := 3) (ci := 3) (n := 207) X (dg dc_M_perform 110 rfl) rfl (c_M_step_12_1 l Dv fu (P1, h.2.1, (M, h.2.2.1.2), h.2.2.2) r out M P1 2 v7) gV_M_51 rfl rfl hy_M_step ⟨(Nat.le_of_ble_eq_true rfl), (Nat.le_of_ble_eq_true rfl)⟩ rfl ⟨(Nat.le_of_ble_eq_true rfl), (Nat.le_of_ble_eq_true rfl)⟩ rfl rfl rfl rfl rfl ?_
  intro M_204
  refine js_iinc (lo' := [some (.ref 12), some (.ref 1), none, some (.int v3), none, some (.int v5), some (.int v6), some (.int (v7 + 1)), some (.int v8), some (.int v9), some (.int s0)]) (n := 210) 1 X (dg dc_M_perform 111 rfl) rfl (by decide) (Nat.le_of_ble_eq_true rfl) rfl rfl ?_
  refine js_goto (t := 104) X (dg dc_M_perform 112 rfl) (by decide) ?_
  exact js_keep [true, true, false, true, false, true, true, true, false, false, false] (hk104 M_204 v3 v5 v6 (v7 + 1))
set_option maxRecDepth 100000 in
set_option maxHeartbeats 4000000 in
theorem jl_M_perform_12_1_L160 (l : Launch) (Dv : va_G) (fu : Nat) (h : S_H) (r : S_R) (out : Nat → Int64) (κ : ev_ka) (X : ev_X l Dv gaX mu_M_perform κ) (P1 : S_P) (k104 : S_M → Int32 → Int32 → Int32 → Int32 → Option (S_M)) (hk104 : ∀ (M : S_M) (v3 : Int32) (v5 : Int32) (v6 : Int32) (v7 : Int32), ev_J l Dv gaX mu_M_perform κ 104 0 0 [some (.ref 12), some (.ref 1), none, some (.int v3), none, some (.int v5), some (.int v6), some (.int v7), none, none, none] [] (hpW (P1, h.2.1, (M, h.2.2.1.2), h.2.2.2) r out) (k104 M v3 v5 v6 v7) (fun q => (none, hpW (P1, h.2.1, (q, h.2.2.1.2), h.2.2.2) r out))) (M : S_M) (v3 : Int32) (v5 : Int32) (v6 : Int32) (v7 : Int32) (v8 : Int32) (v9 : Int32) : ev_J l Dv gaX mu_M_perform κ 160 0 0 [some (.ref 12), some (.ref 1), none, some (.int v3), none, some (.int v5), some (.int v6), some (.int v7), some (.int v8), some (.int v9), none] [] (hpW (P1, h.2.1, (M, h.2.2.1.2), h.2.2.2) r out) (f_M_perform_L160 fu P1 k104 M v3 v5 v6 v7 v8 v9) (fun q => (none, hpW (P1, h.2.1, (q, h.2.2.1.2), h.2.2.2) r out)) := by
  unfold f_M_perform_L160
  refine js_iload_n (n := 161) X (dg dc_M_perform 85 rfl) rfl rfl rfl ?_
  refine js_iload (n := 163) X (dg dc_M_perform 86 rfl) rfl rfl ?_
  refine js_bipush (n := 165) 31 X (dg dc_M_perform 87 rfl) rfl (by decide) ?_
  refine js_irem (n := 166) X (dg dc_M_perform 88 rfl) rfl ?_
  refine js_ishr (n := 167) X (dg dc_M_perform 89 rfl) rfl ?_
  refine js_iconst (n := 168) 1 X (dg dc_M_perform 90 rfl) rfl (by decide) ?_
  refine js_iand (n := 169) X (dg dc_M_perform 91 rfl) rfl ?_
  refine js_iconst (n := 170) 1 X (dg dc_M_perform 92 rfl) rfl (by decide) ?_
  refine js_icmp_ne (t := 177) (n := 173) X (dg dc_M_perform 93 rfl) (by decide) rfl ?_ ?_
  · refine js_iconst (n := 178) 0 X (dg dc_M_perform 96 rfl) rfl (by decide) ?_
    exact js_keep [true, true, false, true, false, true, true, true, true, true, false] (jl_M_perform_12_1_L178 l Dv fu h r out κ X P1 k104 (fun z0 z1 z2 z3 z4 => hk104 z0 z1 z2 z3 z4) M v3 v5 v6 v7 v8 v9 0)
  refine js_iconst (n := 174) 1 X (dg dc_M_perform 94 rfl) rfl (by decide) ?_
  refine js_goto (t := 178) X (dg dc_M_perform 95 rfl) (by decide) ?_
  exact js_keep [true, true, false, true, false, true, true, true, true, true, false] (jl_M_perform_12_1_L178 l Dv fu h r out κ X P1 k104 (fun z0 z1 z2 z3 z4 => hk104 z0 z1 z2 z3 z4) M v3 v5 v6 v7 v8 v9 1)
set_option maxRecDepth 100000 in
set_option maxHeartbeats 4000000 in
theorem jl_M_perform_12_1_L127 (l : Launch) (Dv : va_G) (fu : Nat) (h : S_H) (r : S_R) (out : Nat → Int64) (κ : ev_ka) (X : ev_X l Dv gaX mu_M_perform κ) (P1 : S_P) (k104 : S_M → Int32 → Int32 → Int32 → Int32 → Option (S_M)) (hk104 : ∀ (M : S_M) (v3 : Int32) (v5 : Int32) (v6 : Int32) (v7 : Int32), ev_J l Dv gaX mu_M_perform κ 104 0 0 [some (.ref 12), some (.ref 1), none, some (.int v3), none, some (.int v5), some (.int v6), some (.int v7), none, none, none] [] (hpW (P1, h.2.1, (M, h.2.2.1.2), h.2.2.2) r out) (k104 M v3 v5 v6 v7) (fun q => (none, hpW (P1, h.2.1, (q, h.2.2.1.2), h.2.2.2) r out))) (M : S_M) (v3 : Int32) (v5 : Int32) (v6 : Int32) (v7 : Int32) (s0 : Int32) : ev_J l Dv gaX mu_M_perform κ 127 0 0 [some (.ref 12), some (.ref 1), none, some (.int v3), none, some (.int v5), some (.int v6), some (.int v7), none, none, none] [.int s0] (hpW (P1, h.2.1, (M, h.2.2.1.2), h.2.2.2) r out) (f_M_perform_L127 fu P1 k104 M v3 v5 v6 v7 s0) (fun q => (none, hpW (P1, h.2.1, (q, h.2.2.1.2), h.2.2.2) r out)) := by
  unfold f_M_perform_L127
  refine js_istore (lo' := [some (.ref 12), some (.ref 1), none, some (.int v3), none, some (.int v5), some (.int v6), some (.int v7), some (.int s0), none, none]) (n := 129) X (dg dc_M_perform 69 rfl) rfl (Nat.le_of_ble_eq_true rfl) rfl ?_
  refine js_aload_n (n := 130) X (dg dc_M_perform 70 rfl) rfl rfl rfl ?_
  refine js_getf (j := 5) (v := .ref 17) (n := 133) X (dg dc_M_perform 71 rfl) rfl hC_M (Nat.le_of_ble_eq_true rfl) hw_307 rfl rfl ?_
  refine js_iconst (n := 134) 2 X (dg dc_M_perform 72 rfl) rfl (by decide) ?_
  refine js_iaload (f := M.2.2.2.2.2.1) (n := 135) X (dg dc_M_perform 73 rfl) rfl rfl ?_
  refine js_iload (n := 137) X (dg dc_M_perform 74 rfl) rfl rfl ?_
  refine js_icmp_lt (t := 144) (n := 140) X (dg dc_M_perform 75 rfl) (by decide) rfl ?_ ?_
  · refine js_iconst (n := 145) 0 X (dg dc_M_perform 78 rfl) rfl (by decide) ?_
    refine js_istore (lo' := [some (.ref 12), some (.ref 1), none, some (.int v3), none, some (.int v5), some (.int v6), some (.int v7), some (.int s0), some (.int 0), none]) (n := 147) X (dg dc_M_perform 79 rfl) rfl (Nat.le_of_ble_eq_true rfl) rfl ?_
    refine js_iload (n := 149) X (dg dc_M_perform 80 rfl) rfl rfl ?_
    refine js_if_eq (t := 160) (n := 152) X (dg dc_M_perform 81 rfl) (by decide) rfl ?_ ?_
    · exact js_keep [true, true, false, true, false, true, true, true, true, true, false] (jl_M_perform_12_1_L160 l Dv fu h r out κ X P1 k104 (fun z0 z1 z2 z3 z4 => hk104 z0 z1 z2 z3 z4) M v3 v5 v6 v7 s0 0)
    refine js_iload (n := 154) X (dg dc_M_perform 82 rfl) rfl rfl ?_
    refine js_if_eq_t (t := 160) X (dg dc_M_perform 83 rfl) (by decide) (by decide) ?_
    exact js_keep [true, true, false, true, false, true, true, true, true, true, false] (jl_M_perform_12_1_L160 l Dv fu h r out κ X P1 k104 (fun z0 z1 z2 z3 z4 => hk104 z0 z1 z2 z3 z4) M v3 v5 v6 v7 s0 0)
  refine js_iconst (n := 141) 1 X (dg dc_M_perform 76 rfl) rfl (by decide) ?_
  refine js_goto (t := 145) X (dg dc_M_perform 77 rfl) (by decide) ?_
  refine js_istore (lo' := [some (.ref 12), some (.ref 1), none, some (.int v3), none, some (.int v5), some (.int v6), some (.int v7), some (.int s0), some (.int 1), none]) (n := 147) X (dg dc_M_perform 79 rfl) rfl (Nat.le_of_ble_eq_true rfl) rfl ?_
  refine js_iload (n := 149) X (dg dc_M_perform 80 rfl) rfl rfl ?_
  refine js_if_eq (t := 160) (n := 152) X (dg dc_M_perform 81 rfl) (by decide) rfl ?_ ?_
  · exact js_keep [true, true, false, true, false, true, true, true, true, true, false] (jl_M_perform_12_1_L160 l Dv fu h r out κ X P1 k104 (fun z0 z1 z2 z3 z4 => hk104 z0 z1 z2 z3 z4) M v3 v5 v6 v7 s0 1)
  refine js_iload (n := 154) X (dg dc_M_perform 82 rfl) rfl rfl ?_
  refine js_if_eq_f (t := 160) (n := 157) X (dg dc_M_perform 83 rfl) (by decide) rfl (by decide) ?_
  refine js_goto (t := 213) X (dg dc_M_perform 84 rfl) (by decide) ?_
  exact js_retV X (dg dc_M_perform 113 rfl) rfl (Nat.le_of_ble_eq_true rfl) (Nat.le_of_ble_eq_true rfl) rfl
set_option maxRecDepth 100000 in
set_option maxHeartbeats 4000000 in
theorem jl_M_perform_12_1_L104 (l : Launch) (Dv : va_G) (fu : Nat) (h : S_H) (r : S_R) (out : Nat → Int64) (κ : ev_ka) (X : ev_X l Dv gaX mu_M_perform κ) (P1 : S_P) : ∀ (n : Nat) (M : S_M) (v3 : Int32) (v5 : Int32) (v6 : Int32) (v7 : Int32), ev_J l Dv gaX mu_M_perform κ 104 0 0 [some (.ref 12), some (.ref 1), none, some (.int v3), none, some (.int v5), some (.int v6), some (.int v7), none, none, none] [] (hpW (P1, h.2.1, (M, h.2.2.1.2), h.2.2.2) r out) (f_M_perform_L104 fu P1 n M v3 v5 v6 v7) (fun q => (none, hpW (P1, h.2.1, (q, h.2.2.1.2), h.2.2.2) r out)) := by
  intro n
  induction n with
  | zero => exact fun _ _ _ _ _ => js_none
  | succ n ih =>
    intro M v3 v5 v6 v7
    unfold f_M_perform_L104
    refine js_iload (n := 106) X (dg dc_M_perform 57 rfl) rfl rfl ?_
    refine js_bipush (n := 108) 70 X (dg dc_M_perform 58 rfl) rfl (by decide) ?_
    refine js_icmp_ge (t := 213) (n := 111) X (dg dc_M_perform 59 rfl) (by decide) rfl ?_ ?_
    · exact js_retV X (dg dc_M_perform 113 rfl) rfl (Nat.le_of_ble_eq_true rfl) (Nat.le_of_ble_eq_true rfl) rfl
    refine js_aload_n (n := 112) X (dg dc_M_perform 60 rfl) rfl rfl rfl ?_
    refine js_getf (j := 5) (v := .ref 17) (n := 115) X (dg dc_M_perform 61 rfl) rfl hC_M (Nat.le_of_ble_eq_true rfl) hw_307 rfl rfl ?_
    refine js_iconst (n := 116) 1 X (dg dc_M_perform 62 rfl) rfl (by decide) ?_
    refine js_iaload (f := M.2.2.2.2.2.1) (n := 117) X (dg dc_M_perform 63 rfl) rfl rfl ?_
    refine js_iload (n := 119) X (dg dc_M_perform 64 rfl) rfl rfl ?_
    refine js_icmp_lt (t := 126) (n := 122) X (dg dc_M_perform 65 rfl) (by decide) rfl ?_ ?_
    · refine js_iconst (n := 127) 0 X (dg dc_M_perform 68 rfl) rfl (by decide) ?_
      exact js_keep [true, true, false, true, false, true, true, true, false, false, false] (jl_M_perform_12_1_L127 l Dv fu h r out κ X P1 (f_M_perform_L104 fu P1 n) (fun z0 z1 z2 z3 z4 => ih z0 z1 z2 z3 z4) M v3 v5 v6 v7 0)
    refine js_iconst (n := 123) 1 X (dg dc_M_perform 66 rfl) rfl (by decide) ?_
    refine js_goto (t := 127) X (dg dc_M_perform 67 rfl) (by decide) ?_
    exact js_keep [true, true, false, true, false, true, true, true, false, false, false] (jl_M_perform_12_1_L127 l Dv fu h r out κ X P1 (f_M_perform_L104 fu P1 n) (fun z0 z1 z2 z3 z4 => ih z0 z1 z2 z3 z4) M v3 v5 v6 v7 1)
set_option maxRecDepth 100000 in
set_option maxHeartbeats 4000000 in
theorem jl_M_perform_12_1_L87 (l : Launch) (Dv : va_G) (fu : Nat) (h : S_H) (r : S_R) (out : Nat → Int64) (κ : ev_ka) (X : ev_X l Dv gaX mu_M_perform κ) (P1 : S_P) (M : S_M) (v3 : Int32) : ev_J l Dv gaX mu_M_perform κ 87 0 0 [some (.ref 12), some (.ref 1), none, some (.int v3), none, none, none, none, none, none, none] [] (hpW (P1, h.2.1, (M, h.2.2.1.2), h.2.2.2) r out) (f_M_perform_L87 fu P1 M v3) (fun q => (none, hpW (P1, h.2.1, (q, h.2.2.1.2), h.2.2.2) r out)) := by
  unfold f_M_perform_L87
  refine js_aload_n (n := 88) X (dg dc_M_perform 47 rfl) rfl rfl rfl ?_
  refine js_iconst (n := 89) 1 X (dg dc_M_perform 48 rfl) rfl (by decide) ?_
  refine js_callV (na := 1) (ci := 1) (n := 92) X (dg dc_M_perform 49 rfl) rfl (c_P_end_1 l Dv fu (P1, h.2.1, (M, h.2.2.1.2), h.2.2.2) r out P1 1) gV_M_48 rfl rfl hy_P_end ⟨(Nat.le_of_ble_eq_true rfl), (Nat.le_of_ble_eq_true rfl)⟩ rfl ⟨(Nat.le_of_ble_eq_true rfl), (Nat.le_of_ble_eq_true rfl)⟩ rfl rfl rfl rfl rfl ?_
  intro r89
  refine js_istore (lo' := [some (.ref 12), some (.ref 1), none, some (.int v3), none, some (.int r89), none, none, none, none, none]) (n := 94) X (dg dc_M_perform 50 rfl) rfl (Nat.le_of_ble_eq_true rfl) rfl ?_
  refine js_aload_n (n := 95) X (dg dc_M_perform 51 rfl) rfl rfl rfl ?_
  refine js_iconst (n := 96) 2 X (dg dc_M_perform 52 rfl) rfl (by decide) ?_
  refine js_callV (na := 1) (ci := 1) (n := 99) X (dg dc_M_perform 53 rfl) rfl (c_P_end_1 l Dv fu (P1, h.2.1, (M, h.2.2.1.2), h.2.2.2) r out P1 2) gV_M_48 rfl rfl hy_P_end ⟨(Nat.le_of_ble_eq_true rfl), (Nat.le_of_ble_eq_true rfl)⟩ rfl ⟨(Nat.le_of_ble_eq_true rfl), (Nat.le_of_ble_eq_true rfl)⟩ rfl rfl rfl rfl rfl ?_
  intro r96
  refine js_istore (lo' := [some (.ref 12), some (.ref 1), none, some (.int v3), none, some (.int r89), some (.int r96), none, none, none, none]) (n := 101) X (dg dc_M_perform 54 rfl) rfl (Nat.le_of_ble_eq_true rfl) rfl ?_
  refine js_iconst (n := 102) 0 X (dg dc_M_perform 55 rfl) rfl (by decide) ?_
  refine js_istore (lo' := [some (.ref 12), some (.ref 1), none, some (.int v3), none, some (.int r89), some (.int r96), some (.int 0), none, none, none]) (n := 104) X (dg dc_M_perform 56 rfl) rfl (Nat.le_of_ble_eq_true rfl) rfl ?_
  exact js_keep [true, true, false, true, false, true, true, true, false, false, false] (jl_M_perform_12_1_L104 l Dv fu h r out κ X P1 fu M v3 r89 r96 0)
set_option maxRecDepth 100000 in
set_option maxHeartbeats 4000000 in
theorem jl_M_perform_12_1_L56 (l : Launch) (Dv : va_G) (fu : Nat) (h : S_H) (r : S_R) (out : Nat → Int64) (κ : ev_ka) (X : ev_X l Dv gaX mu_M_perform κ) (P1 : S_P) : ∀ (n : Nat) (M : S_M) (v3 : Int32) (v4 : Int32) (v5 : Int32), ev_J l Dv gaX mu_M_perform κ 56 0 0 [some (.ref 12), some (.ref 1), none, some (.int v3), some (.int v4), some (.int v5), none, none, none, none, none] [] (hpW (P1, h.2.1, (M, h.2.2.1.2), h.2.2.2) r out) (f_M_perform_L56 fu P1 n M v3 v4 v5) (fun q => (none, hpW (P1, h.2.1, (q, h.2.2.1.2), h.2.2.2) r out)) := by
  intro n
  induction n with
  | zero => exact fun _ _ _ _ => js_none
  | succ n ih =>
    intro M v3 v4 v5
    unfold f_M_perform_L56
    refine js_iload (n := 58) X (dg dc_M_perform 31 rfl) rfl rfl ?_
    refine js_bipush (n := 60) 70 X (dg dc_M_perform 32 rfl) rfl (by decide) ?_
    refine js_icmp_ge (t := 87) (n := 63) X (dg dc_M_perform 33 rfl) (by decide) rfl ?_ ?_
    · exact js_keep [true, true, false, true, false, false, false, false, false, false, false] (jl_M_perform_12_1_L87 l Dv fu h r out κ X P1 M v3)
    refine js_aload_n (n := 64) X (dg dc_M_perform 34 rfl) rfl rfl rfl ?_
    refine js_getf (j := 5) (v := .ref 17) (n := 67) X (dg dc_M_perform 35 rfl) rfl hC_M (Nat.le_of_ble_eq_true rfl) hw_307 rfl rfl ?_
    refine js_iconst (n := 68) 0 X (dg dc_M_perform 36 rfl) rfl (by decide) ?_
    refine js_iaload (f := M.2.2.2.2.2.1) (n := 69) X (dg dc_M_perform 37 rfl) rfl rfl ?_
    refine js_iload (n := 71) X (dg dc_M_perform 38 rfl) rfl rfl ?_
    refine js_icmp_ge (t := 87) (n := 74) X (dg dc_M_perform 39 rfl) (by decide) rfl ?_ ?_
    · exact js_keep [true, true, false, true, false, false, false, false, false, false, false] (jl_M_perform_12_1_L87 l Dv fu h r out κ X P1 M v3)
    refine js_aload_n (n := 75) X (dg dc_M_perform 40 rfl) rfl rfl rfl ?_
    refine js_aload_n (n := 76) X (dg dc_M_perform 41 rfl) rfl rfl rfl ?_
    refine js_iconst (n := 77) 0 X (dg dc_M_perform 42 rfl) rfl (by decide) ?_
    refine js_iconst (n := 78) (-1) X (dg dc_M_perform 43 rfl) rfl (by decide) ?_
    refine js_callV (na := 3) (ci := 3) (n := 81) X (dg dc_M_perform 44 rfl) rfl (c_M_step_12_1 l Dv fu (P1, h.2.1, (M, h.2.2.1.2), h.2.2.2) r out M P1 0 (-1)) gV_M_51 rfl rfl hy_M_step ⟨(Nat.le_of_ble_eq_true rfl), (Nat.le_of_ble_eq_true rfl)⟩ rfl ⟨(Nat.le_of_ble_eq_true rfl), (Nat.le_of_ble_eq_true rfl)⟩ rfl rfl rfl rfl rfl ?_
    intro M_78
    refine js_iinc (lo' := [some (.ref 12), some (.ref 1), none, some (.int v3), some (.int v4), some (.int (v5 + 1)), none, none, none, none, none]) (n := 84) 1 X (dg dc_M_perform 45 rfl) rfl (by decide) (Nat.le_of_ble_eq_true rfl) rfl rfl ?_
    refine js_goto (t := 56) X (dg dc_M_perform 46 rfl) (by decide) ?_
    exact js_keep [true, true, false, true, true, true, false, false, false, false, false] (ih M_78 v3 v4 (v5 + 1))
set_option maxRecDepth 100000 in
set_option maxHeartbeats 4000000 in
theorem jl_M_perform_12_1_L46 (l : Launch) (Dv : va_G) (fu : Nat) (h : S_H) (r : S_R) (out : Nat → Int64) (κ : ev_ka) (X : ev_X l Dv gaX mu_M_perform κ) (P1 : S_P) (M : S_M) (v3 : Int32) : ev_J l Dv gaX mu_M_perform κ 46 0 0 [some (.ref 12), some (.ref 1), none, some (.int v3), none, none, none, none, none, none, none] [] (hpW (P1, h.2.1, (M, h.2.2.1.2), h.2.2.2) r out) (f_M_perform_L46 fu P1 M v3) (fun q => (none, hpW (P1, h.2.1, (q, h.2.2.1.2), h.2.2.2) r out)) := by
  unfold f_M_perform_L46
  refine js_aload_n (n := 47) X (dg dc_M_perform 25 rfl) rfl rfl rfl ?_
  refine js_iconst (n := 48) 0 X (dg dc_M_perform 26 rfl) rfl (by decide) ?_
  refine js_callV (na := 1) (ci := 1) (n := 51) X (dg dc_M_perform 27 rfl) rfl (c_P_end_1 l Dv fu (P1, h.2.1, (M, h.2.2.1.2), h.2.2.2) r out P1 0) gV_M_48 rfl rfl hy_P_end ⟨(Nat.le_of_ble_eq_true rfl), (Nat.le_of_ble_eq_true rfl)⟩ rfl ⟨(Nat.le_of_ble_eq_true rfl), (Nat.le_of_ble_eq_true rfl)⟩ rfl rfl rfl rfl rfl ?_
  intro r48
  refine js_istore (lo' := [some (.ref 12), some (.ref 1), none, some (.int v3), some (.int r48), none, none, none, none, none, none]) (n := 53) X (dg dc_M_perform 28 rfl) rfl (Nat.le_of_ble_eq_true rfl) rfl ?_
  refine js_iconst (n := 54) 0 X (dg dc_M_perform 29 rfl) rfl (by decide) ?_
  refine js_istore (lo' := [some (.ref 12), some (.ref 1), none, some (.int v3), some (.int r48), some (.int 0), none, none, none, none, none]) (n := 56) X (dg dc_M_perform 30 rfl) rfl (Nat.le_of_ble_eq_true rfl) rfl ?_
  exact js_keep [true, true, false, true, true, true, false, false, false, false, false] (jl_M_perform_12_1_L56 l Dv fu h r out κ X P1 fu M v3 r48 0)
set_option maxRecDepth 100000 in
set_option maxHeartbeats 4000000 in
theorem jl_M_perform_12_1_L13 (l : Launch) (Dv : va_G) (fu : Nat) (h : S_H) (r : S_R) (out : Nat → Int64) (κ : ev_ka) (X : ev_X l Dv gaX mu_M_perform κ) (P1 : S_P) : ∀ (n : Nat) (M : S_M) (v3 : Int32) (v4 : Int32), ev_J l Dv gaX mu_M_perform κ 13 0 0 [some (.ref 12), some (.ref 1), none, some (.int v3), some (.int v4), none, none, none, none, none, none] [] (hpW (P1, h.2.1, (M, h.2.2.1.2), h.2.2.2) r out) (f_M_perform_L13 fu P1 n M v3 v4) (fun q => (none, hpW (P1, h.2.1, (q, h.2.2.1.2), h.2.2.2) r out)) := by
  intro n
  induction n with
  | zero => exact fun _ _ _ => js_none
  | succ n ih =>
    intro M v3 v4
    unfold f_M_perform_L13
    refine js_iload (n := 15) X (dg dc_M_perform 8 rfl) rfl rfl ?_
    refine js_iconst (n := 16) 3 X (dg dc_M_perform 9 rfl) rfl (by decide) ?_
    refine js_icmp_ge (t := 46) (n := 19) X (dg dc_M_perform 10 rfl) (by decide) rfl ?_ ?_
    · exact js_keep [true, true, false, true, false, false, false, false, false, false, false] (jl_M_perform_12_1_L46 l Dv fu h r out κ X P1 M v3)
    refine js_aload_n (n := 20) X (dg dc_M_perform 11 rfl) rfl rfl rfl ?_
    refine js_getf (j := 5) (v := .ref 17) (n := 23) X (dg dc_M_perform 12 rfl) rfl hC_M (Nat.le_of_ble_eq_true rfl) hw_307 rfl rfl ?_
    refine js_iload (n := 25) X (dg dc_M_perform 13 rfl) rfl rfl ?_
    refine js_aload_n (n := 26) X (dg dc_M_perform 14 rfl) rfl rfl rfl ?_
    refine js_iload (n := 28) X (dg dc_M_perform 15 rfl) rfl rfl ?_
    refine js_callV (na := 1) (ci := 1) (n := 31) X (dg dc_M_perform 16 rfl) rfl (c_P_start_1 l Dv fu (P1, h.2.1, (M, h.2.2.1.2), h.2.2.2) r out P1 v4) gV_M_42 rfl rfl hy_P_start ⟨(Nat.le_of_ble_eq_true rfl), (Nat.le_of_ble_eq_true rfl)⟩ rfl ⟨(Nat.le_of_ble_eq_true rfl), (Nat.le_of_ble_eq_true rfl)⟩ rfl rfl rfl rfl rfl ?_
    intro r28
    refine js_iastore (f := M.2.2.2.2.2.1) (n := 32) X (dg dc_M_perform 17 rfl) rfl rfl ?_
    refine js_aload_n (n := 33) X (dg dc_M_perform 18 rfl) rfl rfl rfl ?_
    refine js_getf (j := 6) (v := .ref 18) (n := 36) X (dg dc_M_perform 19 rfl) rfl hC_M (Nat.le_of_ble_eq_true rfl) hw_310 rfl rfl ?_
    refine js_iload (n := 38) X (dg dc_M_perform 20 rfl) rfl rfl ?_
    refine js_iconst (n := 39) 0 X (dg dc_M_perform 21 rfl) rfl (by decide) ?_
    refine js_iastore (f := M.2.2.2.2.2.2.1) (n := 40) X (dg dc_M_perform 22 rfl) rfl rfl ?_
    refine js_iinc (lo' := [some (.ref 12), some (.ref 1), none, some (.int v3), some (.int (v4 + 1)), none, none, none, none, none, none]) (n := 43) 1 X (dg dc_M_perform 23 rfl) rfl (by decide) (Nat.le_of_ble_eq_true rfl) rfl rfl ?_
    refine js_goto (t := 13) X (dg dc_M_perform 24 rfl) (by decide) ?_
    exact js_keep [true, true, false, true, true, false, false, false, false, false, false] (ih (M.1, M.2.1, M.2.2.1, M.2.2.2.1, M.2.2.2.2.1, (upd M.2.2.2.2.2.1 (ix v4) r28), (upd M.2.2.2.2.2.2.1 (ix v4) 0), M.2.2.2.2.2.2.2) v3 (v4 + 1))
set_option maxRecDepth 100000 in
set_option maxHeartbeats 4000000 in
theorem c_M_perform_12_1 (l : Launch) (Dv : va_G) (fu : Nat) (h : S_H) (r : S_R) (out : Nat → Int64) (M : S_M) (P1 : S_P) (a2 : Int32) (a3 : Int32) : ev_M l Dv gaX mu_M_perform [.ref 12, .ref 1, .int a2, .int a3] (hpW (P1, h.2.1, (M, h.2.2.1.2), h.2.2.2) r out) (f_M_perform fu M P1 a2 a3) (fun q => (none, hpW (P1, h.2.1, (q, h.2.2.1.2), h.2.2.2) r out)) := by
  refine ev_met (lo0 := [some (.ref 12), some (.ref 1), some (.int a2), some (.int a3), none, none, none, none, none, none, none]) rfl rfl rfl (fun κ X => ?_)
  unfold f_M_perform
  refine js_aload_n (n := 1) X (dg dc_M_perform 0 rfl) rfl rfl rfl ?_
  refine js_iload_n (n := 2) X (dg dc_M_perform 1 rfl) rfl rfl rfl ?_
  refine js_puti (j := 8) (n := 5) X (dg dc_M_perform 2 rfl) rfl hC_M (Nat.le_of_ble_eq_true rfl) hw_304 rfl rfl (Or.inl rfl) (Nat.le_of_ble_eq_true rfl) ?_
  refine js_aload_n (n := 6) X (dg dc_M_perform 3 rfl) rfl rfl rfl ?_
  refine js_iconst (n := 7) 0 X (dg dc_M_perform 4 rfl) rfl (by decide) ?_
  refine js_puti (j := 4) (n := 10) X (dg dc_M_perform 5 rfl) rfl hC_M (Nat.le_of_ble_eq_true rfl) hw_305 rfl rfl (Or.inl rfl) (Nat.le_of_ble_eq_true rfl) ?_
  refine js_iconst (n := 11) 0 X (dg dc_M_perform 6 rfl) rfl (by decide) ?_
  refine js_istore (lo' := [some (.ref 12), some (.ref 1), some (.int a2), some (.int a3), some (.int 0), none, none, none, none, none, none]) (n := 13) X (dg dc_M_perform 7 rfl) rfl (Nat.le_of_ble_eq_true rfl) rfl ?_
  exact js_keep [true, true, false, true, true, false, false, false, false, false, false] (jl_M_perform_12_1_L13 l Dv fu h r out κ X P1 fu (M.1, M.2.1, M.2.2.1, M.2.2.2.1, 0, M.2.2.2.2.2.1, M.2.2.2.2.2.2.1, M.2.2.2.2.2.2.2.1, a2) a3 0)
