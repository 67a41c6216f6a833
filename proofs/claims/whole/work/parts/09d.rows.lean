set_option maxRecDepth 100000 in
set_option maxHeartbeats 4000000 in
theorem c_O_answer (l : Launch) (Dv : va_G) (fu : Nat) (hp : ev_H) (a0 : Int32) (a1 : Int32) (a2 : Int32) (a3 : Int32) : ev_M l Dv gaX mu_O_answer [.int a0, .int a1, .int a2, .int a3] (hp) (f_O_answer fu a0 a1 a2 a3) (fun q => (some (.int q), hp)) := by
  refine ev_met (lo0 := [some (.int a0), some (.int a1), some (.int a2), some (.int a3)]) rfl rfl rfl (fun κ X => ?_)
  unfold f_O_answer
  refine js_iload_n (n := 1) X (dg dc_O_answer 0 rfl) rfl rfl rfl ?_
  refine js_tsw X (dg dc_O_answer 1 rfl) (by decide) ?_
  refine js_sw1 36 (by decide) (by decide) ?_ ?_
  · refine js_iconst (n := 37) 0 X (dg dc_O_answer 2 rfl) rfl (by decide) ?_
    exact js_retI X (dg dc_O_answer 3 rfl) rfl (Nat.le_of_ble_eq_true rfl) (Nat.le_of_ble_eq_true rfl) rfl
  refine js_sw1 49 (by decide) (by decide) ?_ ?_
  · refine js_iload_n (n := 50) X (dg dc_O_answer 12 rfl) rfl rfl rfl ?_
    refine js_iload_n (n := 51) X (dg dc_O_answer 13 rfl) rfl rfl rfl ?_
    refine js_callS (na := 2) (n := 54) X (dg dc_O_answer 14 rfl) rfl (c_O_held l Dv fu _ a0 a2) gS_O_19 rfl rfl hy_O_held.2 ⟨(Nat.le_of_ble_eq_true rfl), (Nat.le_of_ble_eq_true rfl)⟩ ⟨(Nat.le_of_ble_eq_true rfl), (Nat.le_of_ble_eq_true rfl)⟩ rfl rfl rfl rfl ?_
    intro r51
    exact js_retI X (dg dc_O_answer 15 rfl) rfl (Nat.le_of_ble_eq_true rfl) (Nat.le_of_ble_eq_true rfl) rfl
  refine js_sw1 49 (by decide) (by decide) ?_ ?_
  · refine js_iload_n (n := 50) X (dg dc_O_answer 12 rfl) rfl rfl rfl ?_
    refine js_iload_n (n := 51) X (dg dc_O_answer 13 rfl) rfl rfl rfl ?_
    refine js_callS (na := 2) (n := 54) X (dg dc_O_answer 14 rfl) rfl (c_O_held l Dv fu _ a0 a2) gS_O_19 rfl rfl hy_O_held.2 ⟨(Nat.le_of_ble_eq_true rfl), (Nat.le_of_ble_eq_true rfl)⟩ ⟨(Nat.le_of_ble_eq_true rfl), (Nat.le_of_ble_eq_true rfl)⟩ rfl rfl rfl rfl ?_
    intro r51
    exact js_retI X (dg dc_O_answer 15 rfl) rfl (Nat.le_of_ble_eq_true rfl) (Nat.le_of_ble_eq_true rfl) rfl
  refine js_sw1 36 (by decide) (by decide) ?_ ?_
  · refine js_iconst (n := 37) 0 X (dg dc_O_answer 2 rfl) rfl (by decide) ?_
    exact js_retI X (dg dc_O_answer 3 rfl) rfl (Nat.le_of_ble_eq_true rfl) (Nat.le_of_ble_eq_true rfl) rfl
  refine js_sw1 38 (by decide) (by decide) ?_ ?_
  · refine js_iload_n (n := 39) X (dg dc_O_answer 4 rfl) rfl rfl rfl ?_
    refine js_iload_n (n := 40) X (dg dc_O_answer 5 rfl) rfl rfl rfl ?_
    refine js_callS (na := 2) (n := 43) X (dg dc_O_answer 6 rfl) rfl (c_O_held l Dv fu _ a0 a2) gS_O_19 rfl rfl hy_O_held.2 ⟨(Nat.le_of_ble_eq_true rfl), (Nat.le_of_ble_eq_true rfl)⟩ ⟨(Nat.le_of_ble_eq_true rfl), (Nat.le_of_ble_eq_true rfl)⟩ rfl rfl rfl rfl ?_
    intro r40
    refine js_iload_n (n := 44) X (dg dc_O_answer 7 rfl) rfl rfl rfl ?_
    refine js_iadd (n := 45) X (dg dc_O_answer 8 rfl) rfl ?_
    refine js_bipush (n := 47) 8 X (dg dc_O_answer 9 rfl) rfl (by decide) ?_
    refine js_irem (n := 48) X (dg dc_O_answer 10 rfl) rfl ?_
    exact js_retI X (dg dc_O_answer 11 rfl) rfl (Nat.le_of_ble_eq_true rfl) (Nat.le_of_ble_eq_true rfl) rfl
  refine js_sw0 49 (by decide) ?_
  refine js_iload_n (n := 50) X (dg dc_O_answer 12 rfl) rfl rfl rfl ?_
  refine js_iload_n (n := 51) X (dg dc_O_answer 13 rfl) rfl rfl rfl ?_
  refine js_callS (na := 2) (n := 54) X (dg dc_O_answer 14 rfl) rfl (c_O_held l Dv fu _ a0 a2) gS_O_19 rfl rfl hy_O_held.2 ⟨(Nat.le_of_ble_eq_true rfl), (Nat.le_of_ble_eq_true rfl)⟩ ⟨(Nat.le_of_ble_eq_true rfl), (Nat.le_of_ble_eq_true rfl)⟩ rfl rfl rfl rfl ?_
  intro r51
  exact js_retI X (dg dc_O_answer 15 rfl) rfl (Nat.le_of_ble_eq_true rfl) (Nat.le_of_ble_eq_true rfl) rfl
set_option maxRecDepth 100000 in
set_option maxHeartbeats 4000000 in
theorem c_R_thrown_25 (l : Launch) (Dv : va_G) (fu : Nat) (h : S_H) (out : Nat → Int64) (R : S_R) : ev_M l Dv gaX mu_R_thrown [.ref 25] (hpW h R out) (f_R_thrown fu R) (fun q => (some (.int q), hpW h R out)) := by
  refine ev_met (lo0 := [some (.ref 25)]) rfl rfl rfl (fun κ X => ?_)
  unfold f_R_thrown
  refine js_aload_n (n := 1) X (dg dc_R_thrown 0 rfl) rfl rfl rfl ?_
  refine js_getf (j := 0) (v := .int R.1) (n := 4) X (dg dc_R_thrown 1 rfl) rfl hC_R (Nat.le_of_ble_eq_true rfl) hw_126 rfl rfl ?_
  exact js_retI X (dg dc_R_thrown 2 rfl) rfl (Nat.le_of_ble_eq_true rfl) (Nat.le_of_ble_eq_true rfl) rfl
set_option maxRecDepth 100000 in
set_option maxHeartbeats 4000000 in
theorem c_R_fail_25 (l : Launch) (Dv : va_G) (fu : Nat) (h : S_H) (out : Nat → Int64) (R : S_R) (a1 : Int32) : ev_M l Dv gaX mu_R_fail [.ref 25, .int a1] (hpW h R out) (f_R_fail fu R a1) (fun q => (some (.int q.1), hpW h q.2 out)) := by
  refine ev_met (lo0 := [some (.ref 25), some (.int a1)]) rfl rfl rfl (fun κ X => ?_)
  unfold f_R_fail
  refine js_aload_n (n := 1) X (dg dc_R_fail 0 rfl) rfl rfl rfl ?_
  refine js_iload_n (n := 2) X (dg dc_R_fail 1 rfl) rfl rfl rfl ?_
  refine js_puti (j := 0) (n := 5) X (dg dc_R_fail 2 rfl) rfl hC_R (Nat.le_of_ble_eq_true rfl) hw_126 rfl rfl (Or.inl rfl) (Nat.le_of_ble_eq_true rfl) ?_
  refine js_iconst (n := 6) 0 X (dg dc_R_fail 3 rfl) rfl (by decide) ?_
  exact js_retI X (dg dc_R_fail 4 rfl) rfl (Nat.le_of_ble_eq_true rfl) (Nat.le_of_ble_eq_true rfl) rfl
set_option maxRecDepth 100000 in
set_option maxHeartbeats 4000000 in
theorem c_R_within (l : Launch) (Dv : va_G) (fu : Nat) (hp : ev_H) (a0 : Int32) (a1 : Int32) (a2 : Int32) : ev_M l Dv gaX mu_R_within [.int a0, .int a1, .int a2] (hp) (f_R_within fu a0 a1 a2) (fun q => (some (.int q), hp)) := by
  refine ev_met (lo0 := [some (.int a0), some (.int a1), some (.int a2)]) rfl rfl rfl (fun κ X => ?_)
  unfold f_R_within
  refine js_iload_n (n := 1) X (dg dc_R_within 0 rfl) rfl rfl rfl ?_
  refine js_iload_n (n := 2) X (dg dc_R_within 1 rfl) rfl rfl rfl ?_
  refine js_icmp_lt (t := 14) (n := 5) X (dg dc_R_within 2 rfl) (by decide) rfl ?_ ?_
  · refine js_iconst (n := 15) 0 X (dg dc_R_within 8 rfl) rfl (by decide) ?_
    exact js_retZ X (dg dc_R_within 9 rfl) rfl (Nat.le_of_ble_eq_true rfl) (Nat.le_of_ble_eq_true rfl) rfl
  refine js_iload_n (n := 6) X (dg dc_R_within 3 rfl) rfl rfl rfl ?_
  refine js_iload_n (n := 7) X (dg dc_R_within 4 rfl) rfl rfl rfl ?_
  refine js_icmp_gt (t := 14) (n := 10) X (dg dc_R_within 5 rfl) (by decide) rfl ?_ ?_
  · refine js_iconst (n := 15) 0 X (dg dc_R_within 8 rfl) rfl (by decide) ?_
    exact js_retZ X (dg dc_R_within 9 rfl) rfl (Nat.le_of_ble_eq_true rfl) (Nat.le_of_ble_eq_true rfl) rfl
  refine js_iconst (n := 11) 1 X (dg dc_R_within 6 rfl) rfl (by decide) ?_
  refine js_goto (t := 15) X (dg dc_R_within 7 rfl) (by decide) ?_
  exact js_retZ X (dg dc_R_within 9 rfl) rfl (Nat.le_of_ble_eq_true rfl) (Nat.le_of_ble_eq_true rfl) rfl
set_option maxRecDepth 100000 in
set_option maxHeartbeats 4000000 in
theorem c_R_many_25 (l : Launch) (Dv : va_G) (fu : Nat) (h : S_H) (out : Nat → Int64) (R : S_R) : ev_M l Dv gaX mu_R_many [.ref 25] (hpW h R out) (f_R_many fu R) (fun q => (some (.int q), hpW h R out)) := by
  refine ev_met (lo0 := [some (.ref 25)]) rfl rfl rfl (fun κ X => ?_)
  unfold f_R_many
  refine js_aload_n (n := 1) X (dg dc_R_many 0 rfl) rfl rfl rfl ?_
  refine js_getf (j := 1) (v := .ref 26) (n := 4) X (dg dc_R_many 1 rfl) rfl hC_R (Nat.le_of_ble_eq_true rfl) hw_127 rfl rfl ?_
  refine js_iconst (n := 5) 0 X (dg dc_R_many 2 rfl) rfl (by decide) ?_
  refine js_iaload (f := R.2.1) (n := 6) X (dg dc_R_many 3 rfl) rfl rfl ?_
  refine js_aload_n (n := 7) X (dg dc_R_many 4 rfl) rfl rfl rfl ?_
  refine js_getf (j := 1) (v := .ref 26) (n := 10) X (dg dc_R_many 5 rfl) rfl hC_R (Nat.le_of_ble_eq_true rfl) hw_127 rfl rfl ?_
  refine js_iconst (n := 11) 1 X (dg dc_R_many 6 rfl) rfl (by decide) ?_
  refine js_iaload (f := R.2.1) (n := 12) X (dg dc_R_many 7 rfl) rfl rfl ?_
  refine js_iadd (n := 13) X (dg dc_R_many 8 rfl) rfl ?_
  refine js_aload_n (n := 14) X (dg dc_R_many 9 rfl) rfl rfl rfl ?_
  refine js_getf (j := 1) (v := .ref 26) (n := 17) X (dg dc_R_many 10 rfl) rfl hC_R (Nat.le_of_ble_eq_true rfl) hw_127 rfl rfl ?_
  refine js_iconst (n := 18) 2 X (dg dc_R_many 11 rfl) rfl (by decide) ?_
  refine js_iaload (f := R.2.1) (n := 19) X (dg dc_R_many 12 rfl) rfl rfl ?_
  refine js_iadd (n := 20) X (dg dc_R_many 13 rfl) rfl ?_
  exact js_retI X (dg dc_R_many 14 rfl) rfl (Nat.le_of_ble_eq_true rfl) (Nat.le_of_ble_eq_true rfl) rfl
set_option maxRecDepth 100000 in
set_option maxHeartbeats 4000000 in
theorem c_R_branch_25 (l : Launch) (Dv : va_G) (fu : Nat) (h : S_H) (out : Nat → Int64) (R : S_R) (a1 : Int32) : ev_M l Dv gaX mu_R_branch [.ref 25, .int a1] (hpW h R out) (f_R_branch fu R a1) (fun q => (some (.int q), hpW h R out)) := by
  refine ev_met (lo0 := [some (.ref 25), some (.int a1)]) rfl rfl rfl (fun κ X => ?_)
  unfold f_R_branch
  refine js_iload_n (n := 1) X (dg dc_R_branch 0 rfl) rfl rfl rfl ?_
  refine js_aload_n (n := 2) X (dg dc_R_branch 1 rfl) rfl rfl rfl ?_
  refine js_getf (j := 1) (v := .ref 26) (n := 5) X (dg dc_R_branch 2 rfl) rfl hC_R (Nat.le_of_ble_eq_true rfl) hw_127 rfl rfl ?_
  refine js_iconst (n := 6) 0 X (dg dc_R_branch 3 rfl) rfl (by decide) ?_
  refine js_iaload (f := R.2.1) (n := 7) X (dg dc_R_branch 4 rfl) rfl rfl ?_
  refine js_icmp_ge (t := 14) (n := 10) X (dg dc_R_branch 5 rfl) (by decide) rfl ?_ ?_
  · refine js_iload_n (n := 15) X (dg dc_R_branch 8 rfl) rfl rfl rfl ?_
    refine js_aload_n (n := 16) X (dg dc_R_branch 9 rfl) rfl rfl rfl ?_
    refine js_getf (j := 1) (v := .ref 26) (n := 19) X (dg dc_R_branch 10 rfl) rfl hC_R (Nat.le_of_ble_eq_true rfl) hw_127 rfl rfl ?_
    refine js_iconst (n := 20) 0 X (dg dc_R_branch 11 rfl) rfl (by decide) ?_
    refine js_iaload (f := R.2.1) (n := 21) X (dg dc_R_branch 12 rfl) rfl rfl ?_
    refine js_aload_n (n := 22) X (dg dc_R_branch 13 rfl) rfl rfl rfl ?_
    refine js_getf (j := 1) (v := .ref 26) (n := 25) X (dg dc_R_branch 14 rfl) rfl hC_R (Nat.le_of_ble_eq_true rfl) hw_127 rfl rfl ?_
    refine js_iconst (n := 26) 1 X (dg dc_R_branch 15 rfl) rfl (by decide) ?_
    refine js_iaload (f := R.2.1) (n := 27) X (dg dc_R_branch 16 rfl) rfl rfl ?_
    refine js_iadd (n := 28) X (dg dc_R_branch 17 rfl) rfl ?_
    refine js_icmp_ge (t := 35) (n := 31) X (dg dc_R_branch 18 rfl) (by decide) rfl ?_ ?_
    · refine js_iconst (n := 36) 2 X (dg dc_R_branch 21 rfl) rfl (by decide) ?_
      exact js_retI X (dg dc_R_branch 22 rfl) rfl (Nat.le_of_ble_eq_true rfl) (Nat.le_of_ble_eq_true rfl) rfl
    refine js_iconst (n := 32) 1 X (dg dc_R_branch 19 rfl) rfl (by decide) ?_
    refine js_goto (t := 36) X (dg dc_R_branch 20 rfl) (by decide) ?_
    exact js_retI X (dg dc_R_branch 22 rfl) rfl (Nat.le_of_ble_eq_true rfl) (Nat.le_of_ble_eq_true rfl) rfl
  refine js_iconst (n := 11) 0 X (dg dc_R_branch 6 rfl) rfl (by decide) ?_
  refine js_goto (t := 36) X (dg dc_R_branch 7 rfl) (by decide) ?_
  exact js_retI X (dg dc_R_branch 22 rfl) rfl (Nat.le_of_ble_eq_true rfl) (Nat.le_of_ble_eq_true rfl) rfl
set_option maxRecDepth 100000 in
set_option maxHeartbeats 4000000 in
theorem c_R_first_25 (l : Launch) (Dv : va_G) (fu : Nat) (h : S_H) (out : Nat → Int64) (R : S_R) (a1 : Int32) : ev_M l Dv gaX mu_R_first [.ref 25, .int a1] (hpW h R out) (f_R_first fu R a1) (fun q => (some (.int q), hpW h R out)) := by
  refine ev_met (lo0 := [some (.ref 25), some (.int a1)]) rfl rfl rfl (fun κ X => ?_)
  unfold f_R_first
  refine js_iload_n (n := 1) X (dg dc_R_first 0 rfl) rfl rfl rfl ?_
  refine js_if_ne (t := 8) (n := 4) X (dg dc_R_first 1 rfl) (by decide) rfl ?_ ?_
  · refine js_iload_n (n := 9) X (dg dc_R_first 4 rfl) rfl rfl rfl ?_
    refine js_iconst (n := 10) 1 X (dg dc_R_first 5 rfl) rfl (by decide) ?_
    refine js_icmp_ne (t := 22) (n := 13) X (dg dc_R_first 6 rfl) (by decide) rfl ?_ ?_
    · refine js_aload_n (n := 23) X (dg dc_R_first 12 rfl) rfl rfl rfl ?_
      refine js_getf (j := 1) (v := .ref 26) (n := 26) X (dg dc_R_first 13 rfl) rfl hC_R (Nat.le_of_ble_eq_true rfl) hw_127 rfl rfl ?_
      refine js_iconst (n := 27) 0 X (dg dc_R_first 14 rfl) rfl (by decide) ?_
      refine js_iaload (f := R.2.1) (n := 28) X (dg dc_R_first 15 rfl) rfl rfl ?_
      refine js_aload_n (n := 29) X (dg dc_R_first 16 rfl) rfl rfl rfl ?_
      refine js_getf (j := 1) (v := .ref 26) (n := 32) X (dg dc_R_first 17 rfl) rfl hC_R (Nat.le_of_ble_eq_true rfl) hw_127 rfl rfl ?_
      refine js_iconst (n := 33) 1 X (dg dc_R_first 18 rfl) rfl (by decide) ?_
      refine js_iaload (f := R.2.1) (n := 34) X (dg dc_R_first 19 rfl) rfl rfl ?_
      refine js_iadd (n := 35) X (dg dc_R_first 20 rfl) rfl ?_
      exact js_retI X (dg dc_R_first 21 rfl) rfl (Nat.le_of_ble_eq_true rfl) (Nat.le_of_ble_eq_true rfl) rfl
    refine js_aload_n (n := 14) X (dg dc_R_first 7 rfl) rfl rfl rfl ?_
    refine js_getf (j := 1) (v := .ref 26) (n := 17) X (dg dc_R_first 8 rfl) rfl hC_R (Nat.le_of_ble_eq_true rfl) hw_127 rfl rfl ?_
    refine js_iconst (n := 18) 0 X (dg dc_R_first 9 rfl) rfl (by decide) ?_
    refine js_iaload (f := R.2.1) (n := 19) X (dg dc_R_first 10 rfl) rfl rfl ?_
    refine js_goto (t := 35) X (dg dc_R_first 11 rfl) (by decide) ?_
    exact js_retI X (dg dc_R_first 21 rfl) rfl (Nat.le_of_ble_eq_true rfl) (Nat.le_of_ble_eq_true rfl) rfl
  refine js_iconst (n := 5) 0 X (dg dc_R_first 2 rfl) rfl (by decide) ?_
  refine js_goto (t := 35) X (dg dc_R_first 3 rfl) (by decide) ?_
  exact js_retI X (dg dc_R_first 21 rfl) rfl (Nat.le_of_ble_eq_true rfl) (Nat.le_of_ble_eq_true rfl) rfl
set_option maxRecDepth 100000 in
set_option maxHeartbeats 4000000 in
theorem c_R_mayStand_25 (l : Launch) (Dv : va_G) (fu : Nat) (h : S_H) (out : Nat → Int64) (R : S_R) (a1 : Int32) (a2 : Int32) (a3 : Int32) : ev_M l Dv gaX mu_R_mayStand [.ref 25, .int a1, .int a2, .int a3] (hpW h R out) (f_R_mayStand fu R a1 a2 a3) (fun q => (some (.int q), hpW h R out)) := by
  refine ev_met (lo0 := [some (.ref 25), some (.int a1), some (.int a2), some (.int a3)]) rfl rfl rfl (fun κ X => ?_)
  unfold f_R_mayStand
  refine js_iload_n (n := 1) X (dg dc_R_mayStand 0 rfl) rfl rfl rfl ?_
  refine js_if_lt (t := 32) (n := 4) X (dg dc_R_mayStand 1 rfl) (by decide) rfl ?_ ?_
  · refine js_iconst (n := 33) 0 X (dg dc_R_mayStand 18 rfl) rfl (by decide) ?_
    exact js_retZ X (dg dc_R_mayStand 19 rfl) rfl (Nat.le_of_ble_eq_true rfl) (Nat.le_of_ble_eq_true rfl) rfl
  refine js_iload_n (n := 5) X (dg dc_R_mayStand 2 rfl) rfl rfl rfl ?_
  refine js_iload_n (n := 6) X (dg dc_R_mayStand 3 rfl) rfl rfl rfl ?_
  refine js_icmp_ge (t := 32) (n := 9) X (dg dc_R_mayStand 4 rfl) (by decide) rfl ?_ ?_
  · refine js_iconst (n := 33) 0 X (dg dc_R_mayStand 18 rfl) rfl (by decide) ?_
    exact js_retZ X (dg dc_R_mayStand 19 rfl) rfl (Nat.le_of_ble_eq_true rfl) (Nat.le_of_ble_eq_true rfl) rfl
  refine js_iload_n (n := 10) X (dg dc_R_mayStand 5 rfl) rfl rfl rfl ?_
  refine js_aload_n (n := 11) X (dg dc_R_mayStand 6 rfl) rfl rfl rfl ?_
  refine js_getf (j := 1) (v := .ref 26) (n := 14) X (dg dc_R_mayStand 7 rfl) rfl hC_R (Nat.le_of_ble_eq_true rfl) hw_127 rfl rfl ?_
  refine js_iconst (n := 15) 0 X (dg dc_R_mayStand 8 rfl) rfl (by decide) ?_
  refine js_iaload (f := R.2.1) (n := 16) X (dg dc_R_mayStand 9 rfl) rfl rfl ?_
  refine js_icmp_lt (t := 28) (n := 19) X (dg dc_R_mayStand 10 rfl) (by decide) rfl ?_ ?_
  · refine js_iconst (n := 29) 1 X (dg dc_R_mayStand 16 rfl) rfl (by decide) ?_
    refine js_goto (t := 33) X (dg dc_R_mayStand 17 rfl) (by decide) ?_
    exact js_retZ X (dg dc_R_mayStand 19 rfl) rfl (Nat.le_of_ble_eq_true rfl) (Nat.le_of_ble_eq_true rfl) rfl
  refine js_aload_n (n := 20) X (dg dc_R_mayStand 11 rfl) rfl rfl rfl ?_
  refine js_iload_n (n := 21) X (dg dc_R_mayStand 12 rfl) rfl rfl rfl ?_
  refine js_callV (na := 1) (ci := 6) (n := 24) X (dg dc_R_mayStand 13 rfl) rfl (c_R_branch_25 l Dv fu h out R a1) gV_R_69 rfl rfl hy_R_branch ⟨(Nat.le_of_ble_eq_true rfl), (Nat.le_of_ble_eq_true rfl)⟩ rfl ⟨(Nat.le_of_ble_eq_true rfl), (Nat.le_of_ble_eq_true rfl)⟩ rfl rfl rfl rfl rfl ?_
  intro r21
  refine js_iload_n (n := 25) X (dg dc_R_mayStand 14 rfl) rfl rfl rfl ?_
  refine js_icmp_ne (t := 32) (n := 28) X (dg dc_R_mayStand 15 rfl) (by decide) rfl ?_ ?_
  · refine js_iconst (n := 33) 0 X (dg dc_R_mayStand 18 rfl) rfl (by decide) ?_
    exact js_retZ X (dg dc_R_mayStand 19 rfl) rfl (Nat.le_of_ble_eq_true rfl) (Nat.le_of_ble_eq_true rfl) rfl
  refine js_iconst (n := 29) 1 X (dg dc_R_mayStand 16 rfl) rfl (by decide) ?_
  refine js_goto (t := 33) X (dg dc_R_mayStand 17 rfl) (by decide) ?_
  exact js_retZ X (dg dc_R_mayStand 19 rfl) rfl (Nat.le_of_ble_eq_true rfl) (Nat.le_of_ble_eq_true rfl) rfl
set_option maxRecDepth 100000 in
set_option maxHeartbeats 4000000 in
theorem jl_R_placed_25_L47 (l : Launch) (Dv : va_G) (fu : Nat) (h : S_H) (out : Nat → Int64) (κ : ev_ka) (X : ev_X l Dv gaX mu_R_placed κ) (R : S_R) (v1 : Int32) (v2 : Int32) (v3 : Int32) (v4 : Int32) : ev_J l Dv gaX mu_R_placed κ 47 0 0 [some (.ref 25), some (.int v1), some (.int v2), some (.int v3), some (.int v4), none] [] (hpW h R out) (f_R_placed_L47 fu R v1 v2 v3 v4) (fun q => (some (.int q), hpW h R out)) := by
  unfold f_R_placed_L47
  refine js_iload_n (n := 48) X (dg dc_R_placed 31 rfl) rfl rfl rfl ?_
  refine js_iload_n (n := 49) X (dg dc_R_placed 32 rfl) rfl rfl rfl ?_
  refine js_iconst (n := 50) 1 X (dg dc_R_placed 33 rfl) rfl (by decide) ?_
  refine js_isub (n := 51) X (dg dc_R_placed 34 rfl) rfl ?_
  refine js_iload_n (n := 52) X (dg dc_R_placed 35 rfl) rfl rfl rfl ?_
  refine js_isub (n := 53) X (dg dc_R_placed 36 rfl) rfl ?_
  refine js_ishr (n := 54) X (dg dc_R_placed 37 rfl) rfl ?_
  refine js_iconst (n := 55) 1 X (dg dc_R_placed 38 rfl) rfl (by decide) ?_
  refine js_iand (n := 56) X (dg dc_R_placed 39 rfl) rfl ?_
  refine js_iconst (n := 57) 1 X (dg dc_R_placed 40 rfl) rfl (by decide) ?_
  refine js_icmp_ne (t := 71) (n := 60) X (dg dc_R_placed 41 rfl) (by decide) rfl ?_ ?_
  · refine js_aload_n (n := 72) X (dg dc_R_placed 48 rfl) rfl rfl rfl ?_
    refine js_iconst (n := 73) 1 X (dg dc_R_placed 49 rfl) rfl (by decide) ?_
    refine js_callV (na := 1) (ci := 6) (n := 76) X (dg dc_R_placed 50 rfl) rfl (c_R_first_25 l Dv fu h out R 1) gV_R_73 rfl rfl hy_R_first ⟨(Nat.le_of_ble_eq_true rfl), (Nat.le_of_ble_eq_true rfl)⟩ rfl ⟨(Nat.le_of_ble_eq_true rfl), (Nat.le_of_ble_eq_true rfl)⟩ rfl rfl rfl rfl rfl ?_
    intro r73
    refine js_iload_n (n := 77) X (dg dc_R_placed 51 rfl) rfl rfl rfl ?_
    refine js_iadd (n := 78) X (dg dc_R_placed 52 rfl) rfl ?_
    refine js_iload (n := 80) X (dg dc_R_placed 53 rfl) rfl rfl ?_
    refine js_isub (n := 81) X (dg dc_R_placed 54 rfl) rfl ?_
    exact js_retI X (dg dc_R_placed 55 rfl) rfl (Nat.le_of_ble_eq_true rfl) (Nat.le_of_ble_eq_true rfl) rfl
  refine js_aload_n (n := 61) X (dg dc_R_placed 42 rfl) rfl rfl rfl ?_
  refine js_iconst (n := 62) 2 X (dg dc_R_placed 43 rfl) rfl (by decide) ?_
  refine js_callV (na := 1) (ci := 6) (n := 65) X (dg dc_R_placed 44 rfl) rfl (c_R_first_25 l Dv fu h out R 2) gV_R_73 rfl rfl hy_R_first ⟨(Nat.le_of_ble_eq_true rfl), (Nat.le_of_ble_eq_true rfl)⟩ rfl ⟨(Nat.le_of_ble_eq_true rfl), (Nat.le_of_ble_eq_true rfl)⟩ rfl rfl rfl rfl rfl ?_
  intro r62
  refine js_iload (n := 67) X (dg dc_R_placed 45 rfl) rfl rfl ?_
  refine js_iadd (n := 68) X (dg dc_R_placed 46 rfl) rfl ?_
  refine js_goto (t := 81) X (dg dc_R_placed 47 rfl) (by decide) ?_
  exact js_retI X (dg dc_R_placed 55 rfl) rfl (Nat.le_of_ble_eq_true rfl) (Nat.le_of_ble_eq_true rfl) rfl
set_option maxRecDepth 100000 in
set_option maxHeartbeats 4000000 in
theorem jl_R_placed_25_L20 (l : Launch) (Dv : va_G) (fu : Nat) (h : S_H) (out : Nat → Int64) (κ : ev_ka) (X : ev_X l Dv gaX mu_R_placed κ) (R : S_R) : ∀ (n : Nat) (v1 : Int32) (v2 : Int32) (v3 : Int32) (v4 : Int32) (v5 : Int32), ev_J l Dv gaX mu_R_placed κ 20 0 0 [some (.ref 25), some (.int v1), some (.int v2), some (.int v3), some (.int v4), some (.int v5)] [] (hpW h R out) (f_R_placed_L20 fu R n v1 v2 v3 v4 v5) (fun q => (some (.int q), hpW h R out)) := by
  intro n
  induction n with
  | zero => exact fun _ _ _ _ _ => js_none
  | succ n ih =>
    intro v1 v2 v3 v4 v5
    unfold f_R_placed_L20
    refine js_iload (n := 22) X (dg dc_R_placed 14 rfl) rfl rfl ?_
    refine js_iload_n (n := 23) X (dg dc_R_placed 15 rfl) rfl rfl rfl ?_
    refine js_icmp_ge (t := 47) (n := 26) X (dg dc_R_placed 16 rfl) (by decide) rfl ?_ ?_
    · exact js_keep [true, true, true, true, true, false] (jl_R_placed_25_L47 l Dv fu h out κ X R v1 v2 v3 v4)
    refine js_iload (n := 28) X (dg dc_R_placed 17 rfl) rfl rfl ?_
    refine js_iload_n (n := 29) X (dg dc_R_placed 18 rfl) rfl rfl rfl ?_
    refine js_iload_n (n := 30) X (dg dc_R_placed 19 rfl) rfl rfl rfl ?_
    refine js_iconst (n := 31) 1 X (dg dc_R_placed 20 rfl) rfl (by decide) ?_
    refine js_isub (n := 32) X (dg dc_R_placed 21 rfl) rfl ?_
    refine js_iload (n := 34) X (dg dc_R_placed 22 rfl) rfl rfl ?_
    refine js_isub (n := 35) X (dg dc_R_placed 23 rfl) rfl ?_
    refine js_ishr (n := 36) X (dg dc_R_placed 24 rfl) rfl ?_
    refine js_iconst (n := 37) 1 X (dg dc_R_placed 25 rfl) rfl (by decide) ?_
    refine js_iand (n := 38) X (dg dc_R_placed 26 rfl) rfl ?_
    refine js_iadd (n := 39) X (dg dc_R_placed 27 rfl) rfl ?_
    refine js_istore (lo' := [some (.ref 25), some (.int v1), some (.int v2), some (.int v3), some (.int (v4 + ((v1 >>> (((v3 - 1) - v5) &&& 31)) &&& 1))), some (.int v5)]) (n := 41) X (dg dc_R_placed 28 rfl) rfl (Nat.le_of_ble_eq_true rfl) rfl ?_
    refine js_iinc (lo' := [some (.ref 25), some (.int v1), some (.int v2), some (.int v3), some (.int (v4 + ((v1 >>> (((v3 - 1) - v5) &&& 31)) &&& 1))), some (.int (v5 + 1))]) (n := 44) 1 X (dg dc_R_placed 29 rfl) rfl (by decide) (Nat.le_of_ble_eq_true rfl) rfl rfl ?_
    refine js_goto (t := 20) X (dg dc_R_placed 30 rfl) (by decide) ?_
    exact js_keep [true, true, true, true, true, true] (ih v1 v2 v3 (v4 + ((v1 >>> (((v3 - 1) - v5) &&& 31)) &&& 1)) (v5 + 1))
set_option maxRecDepth 100000 in
set_option maxHeartbeats 4000000 in
theorem c_R_placed_25 (l : Launch) (Dv : va_G) (fu : Nat) (h : S_H) (out : Nat → Int64) (R : S_R) (a1 : Int32) (a2 : Int32) : ev_M l Dv gaX mu_R_placed [.ref 25, .int a1, .int a2] (hpW h R out) (f_R_placed fu R a1 a2) (fun q => (some (.int q), hpW h R out)) := by
  refine ev_met (lo0 := [some (.ref 25), some (.int a1), some (.int a2), none, none, none]) rfl rfl rfl (fun κ X => ?_)
  unfold f_R_placed
  refine js_aload_n (n := 1) X (dg dc_R_placed 0 rfl) rfl rfl rfl ?_
  refine js_getf (j := 1) (v := .ref 26) (n := 4) X (dg dc_R_placed 1 rfl) rfl hC_R (Nat.le_of_ble_eq_true rfl) hw_127 rfl rfl ?_
  refine js_iconst (n := 5) 1 X (dg dc_R_placed 2 rfl) rfl (by decide) ?_
  refine js_iaload (f := R.2.1) (n := 6) X (dg dc_R_placed 3 rfl) rfl rfl ?_
  refine js_aload_n (n := 7) X (dg dc_R_placed 4 rfl) rfl rfl rfl ?_
  refine js_getf (j := 1) (v := .ref 26) (n := 10) X (dg dc_R_placed 5 rfl) rfl hC_R (Nat.le_of_ble_eq_true rfl) hw_127 rfl rfl ?_
  refine js_iconst (n := 11) 2 X (dg dc_R_placed 6 rfl) rfl (by decide) ?_
  refine js_iaload (f := R.2.1) (n := 12) X (dg dc_R_placed 7 rfl) rfl rfl ?_
  refine js_iadd (n := 13) X (dg dc_R_placed 8 rfl) rfl ?_
  refine js_istore_n (lo' := [some (.ref 25), some (.int a1), some (.int a2), some (.int ((R.2.1 (ix 1)) + (R.2.1 (ix 2)))), none, none]) (n := 14) X (dg dc_R_placed 9 rfl) rfl rfl (Nat.le_of_ble_eq_true rfl) rfl ?_
  refine js_iconst (n := 15) 0 X (dg dc_R_placed 10 rfl) rfl (by decide) ?_
  refine js_istore (lo' := [some (.ref 25), some (.int a1), some (.int a2), some (.int ((R.2.1 (ix 1)) + (R.2.1 (ix 2)))), some (.int 0), none]) (n := 17) X (dg dc_R_placed 11 rfl) rfl (Nat.le_of_ble_eq_true rfl) rfl ?_
  refine js_iconst (n := 18) 0 X (dg dc_R_placed 12 rfl) rfl (by decide) ?_
  refine js_istore (lo' := [some (.ref 25), some (.int a1), some (.int a2), some (.int ((R.2.1 (ix 1)) + (R.2.1 (ix 2)))), some (.int 0), some (.int 0)]) (n := 20) X (dg dc_R_placed 13 rfl) rfl (Nat.le_of_ble_eq_true rfl) rfl ?_
  exact js_keep [true, true, true, true, true, true] (jl_R_placed_25_L20 l Dv fu h out κ X R fu a1 a2 ((R.2.1 (ix 1)) + (R.2.1 (ix 2))) 0 0)
set_option maxRecDepth 100000 in
set_option maxHeartbeats 4000000 in
theorem jl_R_isOrder_25_L21 (l : Launch) (Dv : va_G) (fu : Nat) (h : S_H) (out : Nat → Int64) (κ : ev_ka) (X : ev_X l Dv gaX mu_R_isOrder κ) (R : S_R) (v2 : Int32) : ev_J l Dv gaX mu_R_isOrder κ 21 0 0 [some (.ref 25), none, some (.int v2), none] [] (hpW h R out) (f_R_isOrder_L21 fu R v2) (fun q => (some (.int q), hpW h R out)) := by
  unfold f_R_isOrder_L21
  refine js_iload_n (n := 22) X (dg dc_R_isOrder 17 rfl) rfl rfl rfl ?_
  refine js_aload_n (n := 23) X (dg dc_R_isOrder 18 rfl) rfl rfl rfl ?_
  refine js_getf (j := 1) (v := .ref 26) (n := 26) X (dg dc_R_isOrder 19 rfl) rfl hC_R (Nat.le_of_ble_eq_true rfl) hw_127 rfl rfl ?_
  refine js_iconst (n := 27) 2 X (dg dc_R_isOrder 20 rfl) rfl (by decide) ?_
  refine js_iaload (f := R.2.1) (n := 28) X (dg dc_R_isOrder 21 rfl) rfl rfl ?_
  refine js_icmp_ne (t := 35) (n := 31) X (dg dc_R_isOrder 22 rfl) (by decide) rfl ?_ ?_
  · refine js_iconst (n := 36) 0 X (dg dc_R_isOrder 25 rfl) rfl (by decide) ?_
    exact js_retZ X (dg dc_R_isOrder 26 rfl) rfl (Nat.le_of_ble_eq_true rfl) (Nat.le_of_ble_eq_true rfl) rfl
  refine js_iconst (n := 32) 1 X (dg dc_R_isOrder 23 rfl) rfl (by decide) ?_
  refine js_goto (t := 36) X (dg dc_R_isOrder 24 rfl) (by decide) ?_
  exact js_retZ X (dg dc_R_isOrder 26 rfl) rfl (Nat.le_of_ble_eq_true rfl) (Nat.le_of_ble_eq_true rfl) rfl
set_option maxRecDepth 100000 in
set_option maxHeartbeats 4000000 in
theorem jl_R_isOrder_25_L4 (l : Launch) (Dv : va_G) (fu : Nat) (h : S_H) (out : Nat → Int64) (κ : ev_ka) (X : ev_X l Dv gaX mu_R_isOrder κ) (R : S_R) : ∀ (n : Nat) (v2 : Int32) (v3 : Int32), ev_J l Dv gaX mu_R_isOrder κ 4 0 0 [some (.ref 25), none, some (.int v2), some (.int v3)] [] (hpW h R out) (f_R_isOrder_L4 fu R n v2 v3) (fun q => (some (.int q), hpW h R out)) := by
  intro n
  induction n with
  | zero => exact fun _ _ => js_none
  | succ n ih =>
    intro v2 v3
    unfold f_R_isOrder_L4
    refine js_iload_n (n := 5) X (dg dc_R_isOrder 4 rfl) rfl rfl rfl ?_
    refine js_if_le (t := 21) (n := 8) X (dg dc_R_isOrder 5 rfl) (by decide) rfl ?_ ?_
    · exact js_keep [true, false, true, false] (jl_R_isOrder_25_L21 l Dv fu h out κ X R v2)
    refine js_iload_n (n := 9) X (dg dc_R_isOrder 6 rfl) rfl rfl rfl ?_
    refine js_iload_n (n := 10) X (dg dc_R_isOrder 7 rfl) rfl rfl rfl ?_
    refine js_iconst (n := 11) 1 X (dg dc_R_isOrder 8 rfl) rfl (by decide) ?_
    refine js_iand (n := 12) X (dg dc_R_isOrder 9 rfl) rfl ?_
    refine js_iadd (n := 13) X (dg dc_R_isOrder 10 rfl) rfl ?_
    refine js_istore_n (lo' := [some (.ref 25), none, some (.int (v2 + (v3 &&& 1))), some (.int v3)]) (n := 14) X (dg dc_R_isOrder 11 rfl) rfl rfl (Nat.le_of_ble_eq_true rfl) rfl ?_
    refine js_iload_n (n := 15) X (dg dc_R_isOrder 12 rfl) rfl rfl rfl ?_
    refine js_iconst (n := 16) 1 X (dg dc_R_isOrder 13 rfl) rfl (by decide) ?_
    refine js_ishr (n := 17) X (dg dc_R_isOrder 14 rfl) rfl ?_
    refine js_istore_n (lo' := [some (.ref 25), none, some (.int (v2 + (v3 &&& 1))), some (.int (v3 >>> (1 &&& 31)))]) (n := 18) X (dg dc_R_isOrder 15 rfl) rfl rfl (Nat.le_of_ble_eq_true rfl) rfl ?_
    refine js_goto (t := 4) X (dg dc_R_isOrder 16 rfl) (by decide) ?_
    exact js_keep [true, false, true, true] (ih (v2 + (v3 &&& 1)) (v3 >>> (1 &&& 31)))
set_option maxRecDepth 100000 in
set_option maxHeartbeats 4000000 in
theorem c_R_isOrder_25 (l : Launch) (Dv : va_G) (fu : Nat) (h : S_H) (out : Nat → Int64) (R : S_R) (a1 : Int32) : ev_M l Dv gaX mu_R_isOrder [.ref 25, .int a1] (hpW h R out) (f_R_isOrder fu R a1) (fun q => (some (.int q), hpW h R out)) := by
  refine ev_met (lo0 := [some (.ref 25), some (.int a1), none, none]) rfl rfl rfl (fun κ X => ?_)
  unfold f_R_isOrder
  refine js_iconst (n := 1) 0 X (dg dc_R_isOrder 0 rfl) rfl (by decide) ?_
  refine js_istore_n (lo' := [some (.ref 25), some (.int a1), some (.int 0), none]) (n := 2) X (dg dc_R_isOrder 1 rfl) rfl rfl (Nat.le_of_ble_eq_true rfl) rfl ?_
  refine js_iload_n (n := 3) X (dg dc_R_isOrder 2 rfl) rfl rfl rfl ?_
  refine js_istore_n (lo' := [some (.ref 25), some (.int a1), some (.int 0), some (.int a1)]) (n := 4) X (dg dc_R_isOrder 3 rfl) rfl rfl (Nat.le_of_ble_eq_true rfl) rfl ?_
  exact js_keep [true, false, true, true] (jl_R_isOrder_25_L4 l Dv fu h out κ X R fu 0 a1)
set_option maxRecDepth 100000 in
set_option maxHeartbeats 4000000 in
theorem jl_R_finds_25_L71 (l : Launch) (Dv : va_G) (fu : Nat) (h : S_H) (out : Nat → Int64) (κ : ev_ka) (X : ev_X l Dv gaX mu_R_finds κ) (R : S_R) (v1 : Int32) (v2 : Int32) (s0 : Int32) : ev_J l Dv gaX mu_R_finds κ 71 0 0 [some (.ref 25), some (.int v1), some (.int v2), none] [.int s0] (hpW h R out) (f_R_finds_L71 fu R v1 v2 s0) (fun q => (some (.int q.1), hpW h q.2 out)) := by
  unfold f_R_finds_L71
  refine js_istore_n (lo' := [some (.ref 25), some (.int v1), some (.int v2), some (.int s0)]) (n := 72) X (dg dc_R_finds 42 rfl) rfl rfl (Nat.le_of_ble_eq_true rfl) rfl ?_
  refine js_aload_n (n := 73) X (dg dc_R_finds 43 rfl) rfl rfl rfl ?_
  refine js_getf (j := 10) (v := .ref 33) (n := 76) X (dg dc_R_finds 44 rfl) rfl hC_R (Nat.le_of_ble_eq_true rfl) hw_139 rfl rfl ?_
  refine js_iload_n (n := 77) X (dg dc_R_finds 45 rfl) rfl rfl rfl ?_
  refine js_aload_n (n := 78) X (dg dc_R_finds 46 rfl) rfl rfl rfl ?_
  refine js_getf (j := 2) (v := .ref 27) (n := 81) X (dg dc_R_finds 47 rfl) rfl hC_R (Nat.le_of_ble_eq_true rfl) hw_138 rfl rfl ?_
  refine js_iload_n (n := 82) X (dg dc_R_finds 48 rfl) rfl rfl rfl ?_
  refine js_iaload (f := R.2.2.1) (n := 83) X (dg dc_R_finds 49 rfl) rfl rfl ?_
  refine js_iconst (n := 84) 1 X (dg dc_R_finds 50 rfl) rfl (by decide) ?_
  refine js_icmp_eq (t := 109) (n := 87) X (dg dc_R_finds 51 rfl) (by decide) rfl ?_ ?_
  · refine js_iconst (n := 110) 0 X (dg dc_R_finds 64 rfl) rfl (by decide) ?_
    refine js_bastore (f := R.2.2.2.2.2.2.2.2.2.2.1) (n := 111) X (dg dc_R_finds 65 rfl) rfl rfl ?_
    refine js_iload_n (n := 112) X (dg dc_R_finds 66 rfl) rfl rfl rfl ?_
    exact js_retZ X (dg dc_R_finds 67 rfl) rfl (Nat.le_of_ble_eq_true rfl) (Nat.le_of_ble_eq_true rfl) rfl
  refine js_aload_n (n := 88) X (dg dc_R_finds 52 rfl) rfl rfl rfl ?_
  refine js_getf (j := 2) (v := .ref 27) (n := 91) X (dg dc_R_finds 53 rfl) rfl hC_R (Nat.le_of_ble_eq_true rfl) hw_138 rfl rfl ?_
  refine js_iload_n (n := 92) X (dg dc_R_finds 54 rfl) rfl rfl rfl ?_
  refine js_iaload (f := R.2.2.1) (n := 93) X (dg dc_R_finds 55 rfl) rfl rfl ?_
  refine js_if_eq (t := 105) (n := 96) X (dg dc_R_finds 56 rfl) (by decide) rfl ?_ ?_
  · refine js_iconst (n := 106) 1 X (dg dc_R_finds 62 rfl) rfl (by decide) ?_
    refine js_goto (t := 110) X (dg dc_R_finds 63 rfl) (by decide) ?_
    refine js_bastore (f := R.2.2.2.2.2.2.2.2.2.2.1) (n := 111) X (dg dc_R_finds 65 rfl) rfl rfl ?_
    refine js_iload_n (n := 112) X (dg dc_R_finds 66 rfl) rfl rfl rfl ?_
    exact js_retZ X (dg dc_R_finds 67 rfl) rfl (Nat.le_of_ble_eq_true rfl) (Nat.le_of_ble_eq_true rfl) rfl
  refine js_aload_n (n := 97) X (dg dc_R_finds 57 rfl) rfl rfl rfl ?_
  refine js_getf (j := 10) (v := .ref 33) (n := 100) X (dg dc_R_finds 58 rfl) rfl hC_R (Nat.le_of_ble_eq_true rfl) hw_139 rfl rfl ?_
  refine js_iload_n (n := 101) X (dg dc_R_finds 59 rfl) rfl rfl rfl ?_
  refine js_baload (f := R.2.2.2.2.2.2.2.2.2.2.1) (n := 102) X (dg dc_R_finds 60 rfl) rfl rfl ?_
  refine js_if_eq (t := 109) (n := 105) X (dg dc_R_finds 61 rfl) (by decide) rfl ?_ ?_
  · refine js_iconst (n := 110) 0 X (dg dc_R_finds 64 rfl) rfl (by decide) ?_
    refine js_bastore (f := R.2.2.2.2.2.2.2.2.2.2.1) (n := 111) X (dg dc_R_finds 65 rfl) rfl rfl ?_
    refine js_iload_n (n := 112) X (dg dc_R_finds 66 rfl) rfl rfl rfl ?_
    exact js_retZ X (dg dc_R_finds 67 rfl) rfl (Nat.le_of_ble_eq_true rfl) (Nat.le_of_ble_eq_true rfl) rfl
  refine js_iconst (n := 106) 1 X (dg dc_R_finds 62 rfl) rfl (by decide) ?_
  refine js_goto (t := 110) X (dg dc_R_finds 63 rfl) (by decide) ?_
  refine js_bastore (f := R.2.2.2.2.2.2.2.2.2.2.1) (n := 111) X (dg dc_R_finds 65 rfl) rfl rfl ?_
  refine js_iload_n (n := 112) X (dg dc_R_finds 66 rfl) rfl rfl rfl ?_
  exact js_retZ X (dg dc_R_finds 67 rfl) rfl (Nat.le_of_ble_eq_true rfl) (Nat.le_of_ble_eq_true rfl) rfl
set_option maxRecDepth 100000 in
set_option maxHeartbeats 4000000 in
theorem c_R_finds_25 (l : Launch) (Dv : va_G) (fu : Nat) (h : S_H) (out : Nat → Int64) (R : S_R) (a1 : Int32) : ev_M l Dv gaX mu_R_finds [.ref 25, .int a1] (hpW h R out) (f_R_finds fu R a1) (fun q => (some (.int q.1), hpW h q.2 out)) := by
  refine ev_met (lo0 := [some (.ref 25), some (.int a1), none, none]) rfl rfl rfl (fun κ X => ?_)
  unfold f_R_finds
  refine js_aload_n (n := 1) X (dg dc_R_finds 0 rfl) rfl rfl rfl ?_
  refine js_getf (j := 3) (v := .ref 28) (n := 4) X (dg dc_R_finds 1 rfl) rfl hC_R (Nat.le_of_ble_eq_true rfl) hw_137 rfl rfl ?_
  refine js_iload_n (n := 5) X (dg dc_R_finds 2 rfl) rfl rfl rfl ?_
  refine js_iaload (f := R.2.2.2.1) (n := 6) X (dg dc_R_finds 3 rfl) rfl rfl ?_
  refine js_istore_n (lo' := [some (.ref 25), some (.int a1), some (.int (R.2.2.2.1 (ix a1))), none]) (n := 7) X (dg dc_R_finds 4 rfl) rfl rfl (Nat.le_of_ble_eq_true rfl) rfl ?_
  refine js_aload_n (n := 8) X (dg dc_R_finds 5 rfl) rfl rfl rfl ?_
  refine js_getf (j := 2) (v := .ref 27) (n := 11) X (dg dc_R_finds 6 rfl) rfl hC_R (Nat.le_of_ble_eq_true rfl) hw_138 rfl rfl ?_
  refine js_iload_n (n := 12) X (dg dc_R_finds 7 rfl) rfl rfl rfl ?_
  refine js_iaload (f := R.2.2.1) (n := 13) X (dg dc_R_finds 8 rfl) rfl rfl ?_
  refine js_if_ne (t := 33) (n := 16) X (dg dc_R_finds 9 rfl) (by decide) rfl ?_ ?_
  · refine js_aload_n (n := 34) X (dg dc_R_finds 19 rfl) rfl rfl rfl ?_
    refine js_getf (j := 10) (v := .ref 33) (n := 37) X (dg dc_R_finds 20 rfl) rfl hC_R (Nat.le_of_ble_eq_true rfl) hw_139 rfl rfl ?_
    refine js_iload_n (n := 38) X (dg dc_R_finds 21 rfl) rfl rfl rfl ?_
    refine js_baload (f := R.2.2.2.2.2.2.2.2.2.2.1) (n := 39) X (dg dc_R_finds 22 rfl) rfl rfl ?_
    refine js_if_eq (t := 70) (n := 42) X (dg dc_R_finds 23 rfl) (by decide) rfl ?_ ?_
    · refine js_iconst (n := 71) 0 X (dg dc_R_finds 41 rfl) rfl (by decide) ?_
      exact js_keep [true, true, true, false] (jl_R_finds_25_L71 l Dv fu h out κ X R a1 (R.2.2.2.1 (ix a1)) 0)
    refine js_aload_n (n := 43) X (dg dc_R_finds 24 rfl) rfl rfl rfl ?_
    refine js_getf (j := 2) (v := .ref 27) (n := 46) X (dg dc_R_finds 25 rfl) rfl hC_R (Nat.le_of_ble_eq_true rfl) hw_138 rfl rfl ?_
    refine js_iload_n (n := 47) X (dg dc_R_finds 26 rfl) rfl rfl rfl ?_
    refine js_iaload (f := R.2.2.1) (n := 48) X (dg dc_R_finds 27 rfl) rfl rfl ?_
    refine js_bipush (n := 50) 6 X (dg dc_R_finds 28 rfl) rfl (by decide) ?_
    refine js_icmp_ne (t := 66) (n := 53) X (dg dc_R_finds 29 rfl) (by decide) rfl ?_ ?_
    · refine js_iconst (n := 67) 1 X (dg dc_R_finds 39 rfl) rfl (by decide) ?_
      refine js_goto (t := 71) X (dg dc_R_finds 40 rfl) (by decide) ?_
      exact js_keep [true, true, true, false] (jl_R_finds_25_L71 l Dv fu h out κ X R a1 (R.2.2.2.1 (ix a1)) 1)
    refine js_aload_n (n := 54) X (dg dc_R_finds 30 rfl) rfl rfl rfl ?_
    refine js_getf (j := 10) (v := .ref 33) (n := 57) X (dg dc_R_finds 31 rfl) rfl hC_R (Nat.le_of_ble_eq_true rfl) hw_139 rfl rfl ?_
    refine js_iload_n (n := 58) X (dg dc_R_finds 32 rfl) rfl rfl rfl ?_
    refine js_iconst (n := 59) 1 X (dg dc_R_finds 33 rfl) rfl (by decide) ?_
    refine js_iadd (n := 60) X (dg dc_R_finds 34 rfl) rfl ?_
    refine js_iconst (n := 61) 3 X (dg dc_R_finds 35 rfl) rfl (by decide) ?_
    refine js_irem (n := 62) X (dg dc_R_finds 36 rfl) rfl ?_
    refine js_baload (f := R.2.2.2.2.2.2.2.2.2.2.1) (n := 63) X (dg dc_R_finds 37 rfl) rfl rfl ?_
    refine js_if_eq (t := 70) (n := 66) X (dg dc_R_finds 38 rfl) (by decide) rfl ?_ ?_
    · refine js_iconst (n := 71) 0 X (dg dc_R_finds 41 rfl) rfl (by decide) ?_
      exact js_keep [true, true, true, false] (jl_R_finds_25_L71 l Dv fu h out κ X R a1 (R.2.2.2.1 (ix a1)) 0)
    refine js_iconst (n := 67) 1 X (dg dc_R_finds 39 rfl) rfl (by decide) ?_
    refine js_goto (t := 71) X (dg dc_R_finds 40 rfl) (by decide) ?_
    exact js_keep [true, true, true, false] (jl_R_finds_25_L71 l Dv fu h out κ X R a1 (R.2.2.2.1 (ix a1)) 1)
  refine js_aload_n (n := 17) X (dg dc_R_finds 10 rfl) rfl rfl rfl ?_
  refine js_getf (j := 10) (v := .ref 33) (n := 20) X (dg dc_R_finds 11 rfl) rfl hC_R (Nat.le_of_ble_eq_true rfl) hw_139 rfl rfl ?_
  refine js_iload_n (n := 21) X (dg dc_R_finds 12 rfl) rfl rfl rfl ?_
  refine js_baload (f := R.2.2.2.2.2.2.2.2.2.2.1) (n := 22) X (dg dc_R_finds 13 rfl) rfl rfl ?_
  refine js_if_ne (t := 29) (n := 25) X (dg dc_R_finds 14 rfl) (by decide) rfl ?_ ?_
  · refine js_iconst (n := 30) 0 X (dg dc_R_finds 17 rfl) rfl (by decide) ?_
    refine js_goto (t := 71) X (dg dc_R_finds 18 rfl) (by decide) ?_
    exact js_keep [true, true, true, false] (jl_R_finds_25_L71 l Dv fu h out κ X R a1 (R.2.2.2.1 (ix a1)) 0)
  refine js_iconst (n := 26) 1 X (dg dc_R_finds 15 rfl) rfl (by decide) ?_
  refine js_goto (t := 71) X (dg dc_R_finds 16 rfl) (by decide) ?_
  exact js_keep [true, true, true, false] (jl_R_finds_25_L71 l Dv fu h out κ X R a1 (R.2.2.2.1 (ix a1)) 1)
set_option maxRecDepth 100000 in
set_option maxHeartbeats 4000000 in
theorem jl_R_fits_25_L60 (l : Launch) (Dv : va_G) (fu : Nat) (h : S_H) (out : Nat → Int64) (κ : ev_ka) (X : ev_X l Dv gaX mu_R_fits κ) : ∀ (n : Nat) (R : S_R) (v1 : Int32) (v2 : Int32) (v3 : Int32), ev_J l Dv gaX mu_R_fits κ 60 0 0 [some (.ref 25), some (.int v1), some (.int v2), some (.int v3)] [] (hpW h R out) (f_R_fits_L60 fu n R v1 v2 v3) (fun q => (some (.int q.1), hpW h q.2 out)) := by
  intro n
  induction n with
  | zero => exact fun _ _ _ _ => js_none
  | succ n ih =>
    intro R v1 v2 v3
    unfold f_R_fits_L60
    refine js_iload_n (n := 61) X (dg dc_R_fits 36 rfl) rfl rfl rfl ?_
    refine js_aload_n (n := 62) X (dg dc_R_fits 37 rfl) rfl rfl rfl ?_
    refine js_getf (j := 1) (v := .ref 26) (n := 65) X (dg dc_R_fits 38 rfl) rfl hC_R (Nat.le_of_ble_eq_true rfl) hw_127 rfl rfl ?_
    refine js_iconst (n := 66) 1 X (dg dc_R_fits 39 rfl) rfl (by decide) ?_
    refine js_iaload (f := R.2.1) (n := 67) X (dg dc_R_fits 40 rfl) rfl rfl ?_
    refine js_aload_n (n := 68) X (dg dc_R_fits 41 rfl) rfl rfl rfl ?_
    refine js_getf (j := 1) (v := .ref 26) (n := 71) X (dg dc_R_fits 42 rfl) rfl hC_R (Nat.le_of_ble_eq_true rfl) hw_127 rfl rfl ?_
    refine js_iconst (n := 72) 2 X (dg dc_R_fits 43 rfl) rfl (by decide) ?_
    refine js_iaload (f := R.2.1) (n := 73) X (dg dc_R_fits 44 rfl) rfl rfl ?_
    refine js_iadd (n := 74) X (dg dc_R_fits 45 rfl) rfl ?_
    refine js_icmp_ge (t := 106) (n := 77) X (dg dc_R_fits 46 rfl) (by decide) rfl ?_ ?_
    · refine js_iload_n (n := 107) X (dg dc_R_fits 62 rfl) rfl rfl rfl ?_
      exact js_retZ X (dg dc_R_fits 63 rfl) rfl (Nat.le_of_ble_eq_true rfl) (Nat.le_of_ble_eq_true rfl) rfl
    refine js_aload_n (n := 78) X (dg dc_R_fits 47 rfl) rfl rfl rfl ?_
    refine js_aload_n (n := 79) X (dg dc_R_fits 48 rfl) rfl rfl rfl ?_
    refine js_iload_n (n := 80) X (dg dc_R_fits 49 rfl) rfl rfl rfl ?_
    refine js_iload_n (n := 81) X (dg dc_R_fits 50 rfl) rfl rfl rfl ?_
    refine js_callV (na := 2) (ci := 6) (n := 84) X (dg dc_R_fits 51 rfl) rfl (c_R_placed_25 l Dv fu h out R v1 v3) gV_R_80 rfl rfl hy_R_placed ⟨(Nat.le_of_ble_eq_true rfl), (Nat.le_of_ble_eq_true rfl)⟩ rfl ⟨(Nat.le_of_ble_eq_true rfl), (Nat.le_of_ble_eq_true rfl)⟩ rfl rfl rfl rfl rfl ?_
    intro r81
    refine js_callV (na := 1) (ci := 6) (n := 87) X (dg dc_R_fits 52 rfl) rfl (c_R_finds_25 l Dv fu h out R r81) gV_R_76 rfl rfl hy_R_finds ⟨(Nat.le_of_ble_eq_true rfl), (Nat.le_of_ble_eq_true rfl)⟩ rfl ⟨(Nat.le_of_ble_eq_true rfl), (Nat.le_of_ble_eq_true rfl)⟩ rfl rfl rfl rfl rfl ?_
    rintro ⟨r84, R_84⟩
    refine js_if_eq (t := 98) (n := 90) X (dg dc_R_fits 53 rfl) (by decide) rfl ?_ ?_
    · refine js_iconst (n := 99) 0 X (dg dc_R_fits 58 rfl) rfl (by decide) ?_
      refine js_istore_n (lo' := [some (.ref 25), some (.int v1), some (.int 0), some (.int v3)]) (n := 100) X (dg dc_R_fits 59 rfl) rfl rfl (Nat.le_of_ble_eq_true rfl) rfl ?_
      refine js_iinc (lo' := [some (.ref 25), some (.int v1), some (.int 0), some (.int (v3 + 1))]) (n := 103) 1 X (dg dc_R_fits 60 rfl) rfl (by decide) (Nat.le_of_ble_eq_true rfl) rfl rfl ?_
      refine js_goto (t := 60) X (dg dc_R_fits 61 rfl) (by decide) ?_
      exact js_keep [true, true, true, true] (ih R_84 v1 0 (v3 + 1))
    refine js_iload_n (n := 91) X (dg dc_R_fits 54 rfl) rfl rfl rfl ?_
    refine js_if_eq (t := 98) (n := 94) X (dg dc_R_fits 55 rfl) (by decide) rfl ?_ ?_
    · refine js_iconst (n := 99) 0 X (dg dc_R_fits 58 rfl) rfl (by decide) ?_
      refine js_istore_n (lo' := [some (.ref 25), some (.int v1), some (.int 0), some (.int v3)]) (n := 100) X (dg dc_R_fits 59 rfl) rfl rfl (Nat.le_of_ble_eq_true rfl) rfl ?_
      refine js_iinc (lo' := [some (.ref 25), some (.int v1), some (.int 0), some (.int (v3 + 1))]) (n := 103) 1 X (dg dc_R_fits 60 rfl) rfl (by decide) (Nat.le_of_ble_eq_true rfl) rfl rfl ?_
      refine js_goto (t := 60) X (dg dc_R_fits 61 rfl) (by decide) ?_
      exact js_keep [true, true, true, true] (ih R_84 v1 0 (v3 + 1))
    refine js_iconst (n := 95) 1 X (dg dc_R_fits 56 rfl) rfl (by decide) ?_
    refine js_goto (t := 99) X (dg dc_R_fits 57 rfl) (by decide) ?_
    refine js_istore_n (lo' := [some (.ref 25), some (.int v1), some (.int 1), some (.int v3)]) (n := 100) X (dg dc_R_fits 59 rfl) rfl rfl (Nat.le_of_ble_eq_true rfl) rfl ?_
    refine js_iinc (lo' := [some (.ref 25), some (.int v1), some (.int 1), some (.int (v3 + 1))]) (n := 103) 1 X (dg dc_R_fits 60 rfl) rfl (by decide) (Nat.le_of_ble_eq_true rfl) rfl rfl ?_
    refine js_goto (t := 60) X (dg dc_R_fits 61 rfl) (by decide) ?_
    exact js_keep [true, true, true, true] (ih R_84 v1 1 (v3 + 1))
set_option maxRecDepth 100000 in
set_option maxHeartbeats 4000000 in
theorem jl_R_fits_25_L24 (l : Launch) (Dv : va_G) (fu : Nat) (h : S_H) (out : Nat → Int64) (κ : ev_ka) (X : ev_X l Dv gaX mu_R_fits κ) : ∀ (n : Nat) (R : S_R) (v1 : Int32) (v2 : Int32) (v3 : Int32), ev_J l Dv gaX mu_R_fits κ 24 0 0 [some (.ref 25), some (.int v1), some (.int v2), some (.int v3)] [] (hpW h R out) (f_R_fits_L24 fu n R v1 v2 v3) (fun q => (some (.int q.1), hpW h q.2 out)) := by
  intro n
  induction n with
  | zero => exact fun _ _ _ _ => js_none
  | succ n ih =>
    intro R v1 v2 v3
    unfold f_R_fits_L24
    refine js_iload_n (n := 25) X (dg dc_R_fits 16 rfl) rfl rfl rfl ?_
    refine js_aload_n (n := 26) X (dg dc_R_fits 17 rfl) rfl rfl rfl ?_
    refine js_getf (j := 1) (v := .ref 26) (n := 29) X (dg dc_R_fits 18 rfl) rfl hC_R (Nat.le_of_ble_eq_true rfl) hw_127 rfl rfl ?_
    refine js_iconst (n := 30) 0 X (dg dc_R_fits 19 rfl) rfl (by decide) ?_
    refine js_iaload (f := R.2.1) (n := 31) X (dg dc_R_fits 20 rfl) rfl rfl ?_
    refine js_icmp_ge (t := 58) (n := 34) X (dg dc_R_fits 21 rfl) (by decide) rfl ?_ ?_
    · refine js_iconst (n := 59) 0 X (dg dc_R_fits 34 rfl) rfl (by decide) ?_
      refine js_istore_n (lo' := [some (.ref 25), some (.int v1), some (.int v2), some (.int 0)]) (n := 60) X (dg dc_R_fits 35 rfl) rfl rfl (Nat.le_of_ble_eq_true rfl) rfl ?_
      exact js_keep [true, true, true, true] (jl_R_fits_25_L60 l Dv fu h out κ X fu R v1 v2 0)
    refine js_aload_n (n := 35) X (dg dc_R_fits 22 rfl) rfl rfl rfl ?_
    refine js_iload_n (n := 36) X (dg dc_R_fits 23 rfl) rfl rfl rfl ?_
    refine js_callV (na := 1) (ci := 6) (n := 39) X (dg dc_R_fits 24 rfl) rfl (c_R_finds_25 l Dv fu h out R v3) gV_R_76 rfl rfl hy_R_finds ⟨(Nat.le_of_ble_eq_true rfl), (Nat.le_of_ble_eq_true rfl)⟩ rfl ⟨(Nat.le_of_ble_eq_true rfl), (Nat.le_of_ble_eq_true rfl)⟩ rfl rfl rfl rfl rfl ?_
    rintro ⟨r36, R_36⟩
    refine js_if_eq (t := 50) (n := 42) X (dg dc_R_fits 25 rfl) (by decide) rfl ?_ ?_
    · refine js_iconst (n := 51) 0 X (dg dc_R_fits 30 rfl) rfl (by decide) ?_
      refine js_istore_n (lo' := [some (.ref 25), some (.int v1), some (.int 0), some (.int v3)]) (n := 52) X (dg dc_R_fits 31 rfl) rfl rfl (Nat.le_of_ble_eq_true rfl) rfl ?_
      refine js_iinc (lo' := [some (.ref 25), some (.int v1), some (.int 0), some (.int (v3 + 1))]) (n := 55) 1 X (dg dc_R_fits 32 rfl) rfl (by decide) (Nat.le_of_ble_eq_true rfl) rfl rfl ?_
      refine js_goto (t := 24) X (dg dc_R_fits 33 rfl) (by decide) ?_
      exact js_keep [true, true, true, true] (ih R_36 v1 0 (v3 + 1))
    refine js_iload_n (n := 43) X (dg dc_R_fits 26 rfl) rfl rfl rfl ?_
    refine js_if_eq (t := 50) (n := 46) X (dg dc_R_fits 27 rfl) (by decide) rfl ?_ ?_
    · refine js_iconst (n := 51) 0 X (dg dc_R_fits 30 rfl) rfl (by decide) ?_
      refine js_istore_n (lo' := [some (.ref 25), some (.int v1), some (.int 0), some (.int v3)]) (n := 52) X (dg dc_R_fits 31 rfl) rfl rfl (Nat.le_of_ble_eq_true rfl) rfl ?_
      refine js_iinc (lo' := [some (.ref 25), some (.int v1), some (.int 0), some (.int (v3 + 1))]) (n := 55) 1 X (dg dc_R_fits 32 rfl) rfl (by decide) (Nat.le_of_ble_eq_true rfl) rfl rfl ?_
      refine js_goto (t := 24) X (dg dc_R_fits 33 rfl) (by decide) ?_
      exact js_keep [true, true, true, true] (ih R_36 v1 0 (v3 + 1))
    refine js_iconst (n := 47) 1 X (dg dc_R_fits 28 rfl) rfl (by decide) ?_
    refine js_goto (t := 51) X (dg dc_R_fits 29 rfl) (by decide) ?_
    refine js_istore_n (lo' := [some (.ref 25), some (.int v1), some (.int 1), some (.int v3)]) (n := 52) X (dg dc_R_fits 31 rfl) rfl rfl (Nat.le_of_ble_eq_true rfl) rfl ?_
    refine js_iinc (lo' := [some (.ref 25), some (.int v1), some (.int 1), some (.int (v3 + 1))]) (n := 55) 1 X (dg dc_R_fits 32 rfl) rfl (by decide) (Nat.le_of_ble_eq_true rfl) rfl rfl ?_
    refine js_goto (t := 24) X (dg dc_R_fits 33 rfl) (by decide) ?_
    exact js_keep [true, true, true, true] (ih R_36 v1 1 (v3 + 1))
set_option maxRecDepth 100000 in
set_option maxHeartbeats 4000000 in
theorem jl_R_fits_25_L2 (l : Launch) (Dv : va_G) (fu : Nat) (h : S_H) (out : Nat → Int64) (κ : ev_ka) (X : ev_X l Dv gaX mu_R_fits κ) : ∀ (n : Nat) (R : S_R) (v1 : Int32) (v2 : Int32), ev_J l Dv gaX mu_R_fits κ 2 0 0 [some (.ref 25), some (.int v1), some (.int v2), none] [] (hpW h R out) (f_R_fits_L2 fu n R v1 v2) (fun q => (some (.int q.1), hpW h q.2 out)) := by
  intro n
  induction n with
  | zero => exact fun _ _ _ => js_none
  | succ n ih =>
    intro R v1 v2
    unfold f_R_fits_L2
    refine js_iload_n (n := 3) X (dg dc_R_fits 2 rfl) rfl rfl rfl ?_
    refine js_iconst (n := 4) 3 X (dg dc_R_fits 3 rfl) rfl (by decide) ?_
    refine js_icmp_ge (t := 20) (n := 7) X (dg dc_R_fits 4 rfl) (by decide) rfl ?_ ?_
    · refine js_iconst (n := 21) 1 X (dg dc_R_fits 12 rfl) rfl (by decide) ?_
      refine js_istore_n (lo' := [some (.ref 25), some (.int v1), some (.int 1), none]) (n := 22) X (dg dc_R_fits 13 rfl) rfl rfl (Nat.le_of_ble_eq_true rfl) rfl ?_
      refine js_iconst (n := 23) 0 X (dg dc_R_fits 14 rfl) rfl (by decide) ?_
      refine js_istore_n (lo' := [some (.ref 25), some (.int v1), some (.int 1), some (.int 0)]) (n := 24) X (dg dc_R_fits 15 rfl) rfl rfl (Nat.le_of_ble_eq_true rfl) rfl ?_
      exact js_keep [true, true, true, true] (jl_R_fits_25_L24 l Dv fu h out κ X fu R v1 1 0)
    refine js_aload_n (n := 8) X (dg dc_R_fits 5 rfl) rfl rfl rfl ?_
    refine js_getf (j := 10) (v := .ref 33) (n := 11) X (dg dc_R_fits 6 rfl) rfl hC_R (Nat.le_of_ble_eq_true rfl) hw_139 rfl rfl ?_
    refine js_iload_n (n := 12) X (dg dc_R_fits 7 rfl) rfl rfl rfl ?_
    refine js_iconst (n := 13) 0 X (dg dc_R_fits 8 rfl) rfl (by decide) ?_
    refine js_bastore (f := R.2.2.2.2.2.2.2.2.2.2.1) (n := 14) X (dg dc_R_fits 9 rfl) rfl rfl ?_
    refine js_iinc (lo' := [some (.ref 25), some (.int v1), some (.int (v2 + 1)), none]) (n := 17) 1 X (dg dc_R_fits 10 rfl) rfl (by decide) (Nat.le_of_ble_eq_true rfl) rfl rfl ?_
    refine js_goto (t := 2) X (dg dc_R_fits 11 rfl) (by decide) ?_
    exact js_keep [true, true, true, false] (ih (R.1, R.2.1, R.2.2.1, R.2.2.2.1, R.2.2.2.2.1, R.2.2.2.2.2.1, R.2.2.2.2.2.2.1, R.2.2.2.2.2.2.2.1, R.2.2.2.2.2.2.2.2.1, R.2.2.2.2.2.2.2.2.2.1, (upd R.2.2.2.2.2.2.2.2.2.2.1 (ix v2) 0), R.2.2.2.2.2.2.2.2.2.2.2) v1 (v2 + 1))
set_option maxRecDepth 100000 in
set_option maxHeartbeats 4000000 in
theorem c_R_fits_25 (l : Launch) (Dv : va_G) (fu : Nat) (h : S_H) (out : Nat → Int64) (R : S_R) (a1 : Int32) : ev_M l Dv gaX mu_R_fits [.ref 25, .int a1] (hpW h R out) (f_R_fits fu R a1) (fun q => (some (.int q.1), hpW h q.2 out)) := by
  refine ev_met (lo0 := [some (.ref 25), some (.int a1), none, none]) rfl rfl rfl (fun κ X => ?_)
  unfold f_R_fits
  refine js_iconst (n := 1) 0 X (dg dc_R_fits 0 rfl) rfl (by decide) ?_
  refine js_istore_n (lo' := [some (.ref 25), some (.int a1), some (.int 0), none]) (n := 2) X (dg dc_R_fits 1 rfl) rfl rfl (Nat.le_of_ble_eq_true rfl) rfl ?_
  exact js_keep [true, true, true, false] (jl_R_fits_25_L2 l Dv fu h out κ X fu R a1 0)
set_option maxRecDepth 100000 in
set_option maxHeartbeats 4000000 in
theorem jl_R_valid_25_L79 (l : Launch) (Dv : va_G) (fu : Nat) (h : S_H) (out : Nat → Int64) (κ : ev_ka) (X : ev_X l Dv gaX mu_R_valid κ) : ∀ (n : Nat) (R : S_R) (v1 : Int32) (v2 : Int32) (v3 : Int32), ev_J l Dv gaX mu_R_valid κ 79 0 0 [some (.ref 25), some (.int v1), some (.int v2), some (.int v3)] [] (hpW h R out) (f_R_valid_L79 fu n R v1 v2 v3) (fun q => (some (.int q.1), hpW h q.2 out)) := by
  intro n
  induction n with
  | zero => exact fun _ _ _ _ => js_none
  | succ n ih =>
    intro R v1 v2 v3
    unfold f_R_valid_L79
    refine js_iload_n (n := 80) X (dg dc_R_valid 49 rfl) rfl rfl rfl ?_
    refine js_iload_n (n := 81) X (dg dc_R_valid 50 rfl) rfl rfl rfl ?_
    refine js_icmp_ge (t := 116) (n := 84) X (dg dc_R_valid 51 rfl) (by decide) rfl ?_ ?_
    · refine js_iload_n (n := 117) X (dg dc_R_valid 68 rfl) rfl rfl rfl ?_
      exact js_retZ X (dg dc_R_valid 69 rfl) rfl (Nat.le_of_ble_eq_true rfl) (Nat.le_of_ble_eq_true rfl) rfl
    refine js_iload_n (n := 85) X (dg dc_R_valid 52 rfl) rfl rfl rfl ?_
    refine js_if_eq (t := 116) (n := 88) X (dg dc_R_valid 53 rfl) (by decide) rfl ?_ ?_
    · refine js_iload_n (n := 117) X (dg dc_R_valid 68 rfl) rfl rfl rfl ?_
      exact js_retZ X (dg dc_R_valid 69 rfl) rfl (Nat.le_of_ble_eq_true rfl) (Nat.le_of_ble_eq_true rfl) rfl
    refine js_aload_n (n := 89) X (dg dc_R_valid 54 rfl) rfl rfl rfl ?_
    refine js_iload_n (n := 90) X (dg dc_R_valid 55 rfl) rfl rfl rfl ?_
    refine js_callV (na := 1) (ci := 6) (n := 93) X (dg dc_R_valid 56 rfl) rfl (c_R_isOrder_25 l Dv fu h out R v3) gV_R_92 rfl rfl hy_R_isOrder ⟨(Nat.le_of_ble_eq_true rfl), (Nat.le_of_ble_eq_true rfl)⟩ rfl ⟨(Nat.le_of_ble_eq_true rfl), (Nat.le_of_ble_eq_true rfl)⟩ rfl rfl rfl rfl rfl ?_
    intro r90
    refine js_if_eq (t := 104) (n := 96) X (dg dc_R_valid 57 rfl) (by decide) rfl ?_ ?_
    · refine js_iconst (n := 105) 1 X (dg dc_R_valid 62 rfl) rfl (by decide) ?_
      refine js_goto (t := 109) X (dg dc_R_valid 63 rfl) (by decide) ?_
      refine js_istore_n (lo' := [some (.ref 25), some (.int 1), some (.int v2), some (.int v3)]) (n := 110) X (dg dc_R_valid 65 rfl) rfl rfl (Nat.le_of_ble_eq_true rfl) rfl ?_
      refine js_iinc (lo' := [some (.ref 25), some (.int 1), some (.int v2), some (.int (v3 + 1))]) (n := 113) 1 X (dg dc_R_valid 66 rfl) rfl (by decide) (Nat.le_of_ble_eq_true rfl) rfl rfl ?_
      refine js_goto (t := 79) X (dg dc_R_valid 67 rfl) (by decide) ?_
      exact js_keep [true, true, true, true] (ih R 1 v2 (v3 + 1))
    refine js_aload_n (n := 97) X (dg dc_R_valid 58 rfl) rfl rfl rfl ?_
    refine js_iload_n (n := 98) X (dg dc_R_valid 59 rfl) rfl rfl rfl ?_
    refine js_callV (na := 1) (ci := 6) (n := 101) X (dg dc_R_valid 60 rfl) rfl (c_R_fits_25 l Dv fu h out R v3) gV_R_95 rfl rfl hy_R_fits ⟨(Nat.le_of_ble_eq_true rfl), (Nat.le_of_ble_eq_true rfl)⟩ rfl ⟨(Nat.le_of_ble_eq_true rfl), (Nat.le_of_ble_eq_true rfl)⟩ rfl rfl rfl rfl rfl ?_
    rintro ⟨r98, R_98⟩
    refine js_if_eq (t := 108) (n := 104) X (dg dc_R_valid 61 rfl) (by decide) rfl ?_ ?_
    · refine js_iconst (n := 109) 0 X (dg dc_R_valid 64 rfl) rfl (by decide) ?_
      refine js_istore_n (lo' := [some (.ref 25), some (.int 0), some (.int v2), some (.int v3)]) (n := 110) X (dg dc_R_valid 65 rfl) rfl rfl (Nat.le_of_ble_eq_true rfl) rfl ?_
      refine js_iinc (lo' := [some (.ref 25), some (.int 0), some (.int v2), some (.int (v3 + 1))]) (n := 113) 1 X (dg dc_R_valid 66 rfl) rfl (by decide) (Nat.le_of_ble_eq_true rfl) rfl rfl ?_
      refine js_goto (t := 79) X (dg dc_R_valid 67 rfl) (by decide) ?_
      exact js_keep [true, true, true, true] (ih R_98 0 v2 (v3 + 1))
    refine js_iconst (n := 105) 1 X (dg dc_R_valid 62 rfl) rfl (by decide) ?_
    refine js_goto (t := 109) X (dg dc_R_valid 63 rfl) (by decide) ?_
    refine js_istore_n (lo' := [some (.ref 25), some (.int 1), some (.int v2), some (.int v3)]) (n := 110) X (dg dc_R_valid 65 rfl) rfl rfl (Nat.le_of_ble_eq_true rfl) rfl ?_
    refine js_iinc (lo' := [some (.ref 25), some (.int 1), some (.int v2), some (.int (v3 + 1))]) (n := 113) 1 X (dg dc_R_valid 66 rfl) rfl (by decide) (Nat.le_of_ble_eq_true rfl) rfl rfl ?_
    refine js_goto (t := 79) X (dg dc_R_valid 67 rfl) (by decide) ?_
    exact js_keep [true, true, true, true] (ih R_98 1 v2 (v3 + 1))
set_option maxRecDepth 100000 in
set_option maxHeartbeats 4000000 in
theorem jl_R_valid_25_L61 (l : Launch) (Dv : va_G) (fu : Nat) (h : S_H) (out : Nat → Int64) (κ : ev_ka) (X : ev_X l Dv gaX mu_R_valid κ) (R : S_R) (v1 : Int32) : ev_J l Dv gaX mu_R_valid κ 61 0 0 [some (.ref 25), some (.int v1), none, none] [] (hpW h R out) (f_R_valid_L61 fu R v1) (fun q => (some (.int q.1), hpW h q.2 out)) := by
  unfold f_R_valid_L61
  refine js_iconst (n := 62) 1 X (dg dc_R_valid 35 rfl) rfl (by decide) ?_
  refine js_aload_n (n := 63) X (dg dc_R_valid 36 rfl) rfl rfl rfl ?_
  refine js_getf (j := 1) (v := .ref 26) (n := 66) X (dg dc_R_valid 37 rfl) rfl hC_R (Nat.le_of_ble_eq_true rfl) hw_127 rfl rfl ?_
  refine js_iconst (n := 67) 1 X (dg dc_R_valid 38 rfl) rfl (by decide) ?_
  refine js_iaload (f := R.2.1) (n := 68) X (dg dc_R_valid 39 rfl) rfl rfl ?_
  refine js_aload_n (n := 69) X (dg dc_R_valid 40 rfl) rfl rfl rfl ?_
  refine js_getf (j := 1) (v := .ref 26) (n := 72) X (dg dc_R_valid 41 rfl) rfl hC_R (Nat.le_of_ble_eq_true rfl) hw_127 rfl rfl ?_
  refine js_iconst (n := 73) 2 X (dg dc_R_valid 42 rfl) rfl (by decide) ?_
  refine js_iaload (f := R.2.1) (n := 74) X (dg dc_R_valid 43 rfl) rfl rfl ?_
  refine js_iadd (n := 75) X (dg dc_R_valid 44 rfl) rfl ?_
  refine js_ishl (n := 76) X (dg dc_R_valid 45 rfl) rfl ?_
  refine js_istore_n (lo' := [some (.ref 25), some (.int v1), some (.int (1 <<< (((R.2.1 (ix 1)) + (R.2.1 (ix 2))) &&& 31))), none]) (n := 77) X (dg dc_R_valid 46 rfl) rfl rfl (Nat.le_of_ble_eq_true rfl) rfl ?_
  refine js_iconst (n := 78) 0 X (dg dc_R_valid 47 rfl) rfl (by decide) ?_
  refine js_istore_n (lo' := [some (.ref 25), some (.int v1), some (.int (1 <<< (((R.2.1 (ix 1)) + (R.2.1 (ix 2))) &&& 31))), some (.int 0)]) (n := 79) X (dg dc_R_valid 48 rfl) rfl rfl (Nat.le_of_ble_eq_true rfl) rfl ?_
  exact js_keep [true, true, true, true] (jl_R_valid_25_L79 l Dv fu h out κ X fu R v1 (1 <<< (((R.2.1 (ix 1)) + (R.2.1 (ix 2))) &&& 31)) 0)
set_option maxRecDepth 100000 in
set_option maxHeartbeats 4000000 in
theorem jl_R_valid_25_L4 (l : Launch) (Dv : va_G) (fu : Nat) (h : S_H) (out : Nat → Int64) (κ : ev_ka) (X : ev_X l Dv gaX mu_R_valid κ) : ∀ (n : Nat) (R : S_R) (v1 : Int32) (v2 : Int32), ev_J l Dv gaX mu_R_valid κ 4 0 0 [some (.ref 25), some (.int v1), some (.int v2), none] [] (hpW h R out) (f_R_valid_L4 fu n R v1 v2) (fun q => (some (.int q.1), hpW h q.2 out)) := by
  intro n
  induction n with
  | zero => exact fun _ _ _ => js_none
  | succ n ih =>
    intro R v1 v2
    unfold f_R_valid_L4
    refine js_iload_n (n := 5) X (dg dc_R_valid 4 rfl) rfl rfl rfl ?_
    refine js_aload_n (n := 6) X (dg dc_R_valid 5 rfl) rfl rfl rfl ?_
    refine js_callV (na := 0) (ci := 6) (n := 9) X (dg dc_R_valid 6 rfl) rfl (c_R_many_25 l Dv fu h out R) gV_R_84 rfl rfl hy_R_many ⟨(Nat.le_of_ble_eq_true rfl), (Nat.le_of_ble_eq_true rfl)⟩ rfl ⟨(Nat.le_of_ble_eq_true rfl), (Nat.le_of_ble_eq_true rfl)⟩ rfl rfl rfl rfl rfl ?_
    intro r6
    refine js_icmp_ge (t := 61) (n := 12) X (dg dc_R_valid 7 rfl) (by decide) rfl ?_ ?_
    · exact js_keep [true, true, false, false] (jl_R_valid_25_L61 l Dv fu h out κ X R v1)
    refine js_iload_n (n := 13) X (dg dc_R_valid 8 rfl) rfl rfl rfl ?_
    refine js_if_eq (t := 53) (n := 16) X (dg dc_R_valid 9 rfl) (by decide) rfl ?_ ?_
    · refine js_iconst (n := 54) 0 X (dg dc_R_valid 31 rfl) rfl (by decide) ?_
      refine js_istore_n (lo' := [some (.ref 25), some (.int 0), some (.int v2), none]) (n := 55) X (dg dc_R_valid 32 rfl) rfl rfl (Nat.le_of_ble_eq_true rfl) rfl ?_
      refine js_iinc (lo' := [some (.ref 25), some (.int 0), some (.int (v2 + 1)), none]) (n := 58) 1 X (dg dc_R_valid 33 rfl) rfl (by decide) (Nat.le_of_ble_eq_true rfl) rfl rfl ?_
      refine js_goto (t := 4) X (dg dc_R_valid 34 rfl) (by decide) ?_
      exact js_keep [true, true, true, false] (ih R 0 (v2 + 1))
    refine js_aload_n (n := 17) X (dg dc_R_valid 10 rfl) rfl rfl rfl ?_
    refine js_getf (j := 4) (v := .ref 29) (n := 20) X (dg dc_R_valid 11 rfl) rfl hC_R (Nat.le_of_ble_eq_true rfl) hw_160 rfl rfl ?_
    refine js_iload_n (n := 21) X (dg dc_R_valid 12 rfl) rfl rfl rfl ?_
    refine js_iaload (f := R.2.2.2.2.1) (n := 22) X (dg dc_R_valid 13 rfl) rfl rfl ?_
    refine js_bipush (n := 24) 8 X (dg dc_R_valid 14 rfl) rfl (by decide) ?_
    refine js_icmp_lt (t := 49) (n := 27) X (dg dc_R_valid 15 rfl) (by decide) rfl ?_ ?_
    · refine js_iconst (n := 50) 1 X (dg dc_R_valid 29 rfl) rfl (by decide) ?_
      refine js_goto (t := 54) X (dg dc_R_valid 30 rfl) (by decide) ?_
      refine js_istore_n (lo' := [some (.ref 25), some (.int 1), some (.int v2), none]) (n := 55) X (dg dc_R_valid 32 rfl) rfl rfl (Nat.le_of_ble_eq_true rfl) rfl ?_
      refine js_iinc (lo' := [some (.ref 25), some (.int 1), some (.int (v2 + 1)), none]) (n := 58) 1 X (dg dc_R_valid 33 rfl) rfl (by decide) (Nat.le_of_ble_eq_true rfl) rfl rfl ?_
      refine js_goto (t := 4) X (dg dc_R_valid 34 rfl) (by decide) ?_
      exact js_keep [true, true, true, false] (ih R 1 (v2 + 1))
    refine js_aload_n (n := 28) X (dg dc_R_valid 16 rfl) rfl rfl rfl ?_
    refine js_aload_n (n := 29) X (dg dc_R_valid 17 rfl) rfl rfl rfl ?_
    refine js_getf (j := 4) (v := .ref 29) (n := 32) X (dg dc_R_valid 18 rfl) rfl hC_R (Nat.le_of_ble_eq_true rfl) hw_160 rfl rfl ?_
    refine js_iload_n (n := 33) X (dg dc_R_valid 19 rfl) rfl rfl rfl ?_
    refine js_iaload (f := R.2.2.2.2.1) (n := 34) X (dg dc_R_valid 20 rfl) rfl rfl ?_
    refine js_bipush (n := 36) 8 X (dg dc_R_valid 21 rfl) rfl (by decide) ?_
    refine js_isub (n := 37) X (dg dc_R_valid 22 rfl) rfl ?_
    refine js_aload_n (n := 38) X (dg dc_R_valid 23 rfl) rfl rfl rfl ?_
    refine js_iload_n (n := 39) X (dg dc_R_valid 24 rfl) rfl rfl rfl ?_
    refine js_callV (na := 1) (ci := 6) (n := 42) X (dg dc_R_valid 25 rfl) rfl (c_R_branch_25 l Dv fu h out R v2) gV_R_69 rfl rfl hy_R_branch ⟨(Nat.le_of_ble_eq_true rfl), (Nat.le_of_ble_eq_true rfl)⟩ rfl ⟨(Nat.le_of_ble_eq_true rfl), (Nat.le_of_ble_eq_true rfl)⟩ rfl rfl rfl rfl rfl ?_
    intro r39
    refine js_iload_n (n := 43) X (dg dc_R_valid 26 rfl) rfl rfl rfl ?_
    refine js_callV (na := 3) (ci := 6) (n := 46) X (dg dc_R_valid 27 rfl) rfl (c_R_mayStand_25 l Dv fu h out R ((R.2.2.2.2.1 (ix v2)) - 8) r39 v2) gV_R_88 rfl rfl hy_R_mayStand ⟨(Nat.le_of_ble_eq_true rfl), (Nat.le_of_ble_eq_true rfl)⟩ rfl ⟨(Nat.le_of_ble_eq_true rfl), (Nat.le_of_ble_eq_true rfl)⟩ rfl rfl rfl rfl rfl ?_
    intro r43
    refine js_if_eq (t := 53) (n := 49) X (dg dc_R_valid 28 rfl) (by decide) rfl ?_ ?_
    · refine js_iconst (n := 54) 0 X (dg dc_R_valid 31 rfl) rfl (by decide) ?_
      refine js_istore_n (lo' := [some (.ref 25), some (.int 0), some (.int v2), none]) (n := 55) X (dg dc_R_valid 32 rfl) rfl rfl (Nat.le_of_ble_eq_true rfl) rfl ?_
      refine js_iinc (lo' := [some (.ref 25), some (.int 0), some (.int (v2 + 1)), none]) (n := 58) 1 X (dg dc_R_valid 33 rfl) rfl (by decide) (Nat.le_of_ble_eq_true rfl) rfl rfl ?_
      refine js_goto (t := 4) X (dg dc_R_valid 34 rfl) (by decide) ?_
      exact js_keep [true, true, true, false] (ih R 0 (v2 + 1))
    refine js_iconst (n := 50) 1 X (dg dc_R_valid 29 rfl) rfl (by decide) ?_
    refine js_goto (t := 54) X (dg dc_R_valid 30 rfl) (by decide) ?_
    refine js_istore_n (lo' := [some (.ref 25), some (.int 1), some (.int v2), none]) (n := 55) X (dg dc_R_valid 32 rfl) rfl rfl (Nat.le_of_ble_eq_true rfl) rfl ?_
    refine js_iinc (lo' := [some (.ref 25), some (.int 1), some (.int (v2 + 1)), none]) (n := 58) 1 X (dg dc_R_valid 33 rfl) rfl (by decide) (Nat.le_of_ble_eq_true rfl) rfl rfl ?_
    refine js_goto (t := 4) X (dg dc_R_valid 34 rfl) (by decide) ?_
    exact js_keep [true, true, true, false] (ih R 1 (v2 + 1))
set_option maxRecDepth 100000 in
set_option maxHeartbeats 4000000 in
theorem c_R_valid_25 (l : Launch) (Dv : va_G) (fu : Nat) (h : S_H) (out : Nat → Int64) (R : S_R) : ev_M l Dv gaX mu_R_valid [.ref 25] (hpW h R out) (f_R_valid fu R) (fun q => (some (.int q.1), hpW h q.2 out)) := by
  refine ev_met (lo0 := [some (.ref 25), none, none, none]) rfl rfl rfl (fun κ X => ?_)
  unfold f_R_valid
  refine js_iconst (n := 1) 1 X (dg dc_R_valid 0 rfl) rfl (by decide) ?_
  refine js_istore_n (lo' := [some (.ref 25), some (.int 1), none, none]) (n := 2) X (dg dc_R_valid 1 rfl) rfl rfl (Nat.le_of_ble_eq_true rfl) rfl ?_
  refine js_iconst (n := 3) 0 X (dg dc_R_valid 2 rfl) rfl (by decide) ?_
  refine js_istore_n (lo' := [some (.ref 25), some (.int 1), some (.int 0), none]) (n := 4) X (dg dc_R_valid 3 rfl) rfl rfl (Nat.le_of_ble_eq_true rfl) rfl ?_
  exact js_keep [true, true, true, false] (jl_R_valid_25_L4 l Dv fu h out κ X fu R 1 0)
set_option maxRecDepth 100000 in
set_option maxHeartbeats 4000000 in
theorem jl_R_keep_25_L27 (l : Launch) (Dv : va_G) (fu : Nat) (h : S_H) (out : Nat → Int64) (κ : ev_ka) (X : ev_X l Dv gaX mu_R_keep κ) : ∀ (n : Nat) (R : S_R) (v1 : Int32), ev_J l Dv gaX mu_R_keep κ 27 0 0 [some (.ref 25), some (.int v1)] [] (hpW h R out) (f_R_keep_L27 fu n R v1) (fun q => (none, hpW h q out)) := by
  intro n
  induction n with
  | zero => exact fun _ _ => js_none
  | succ n ih =>
    intro R v1
    unfold f_R_keep_L27
    refine js_iload_n (n := 28) X (dg dc_R_keep 17 rfl) rfl rfl rfl ?_
    refine js_bipush (n := 30) 14 X (dg dc_R_keep 18 rfl) rfl (by decide) ?_
    refine js_icmp_ge (t := 85) (n := 33) X (dg dc_R_keep 19 rfl) (by decide) rfl ?_ ?_
    · exact js_retV X (dg dc_R_keep 56 rfl) rfl (Nat.le_of_ble_eq_true rfl) (Nat.le_of_ble_eq_true rfl) rfl
    refine js_aload_n (n := 34) X (dg dc_R_keep 20 rfl) rfl rfl rfl ?_
    refine js_getf (j := 6) (v := .ref 31) (n := 37) X (dg dc_R_keep 21 rfl) rfl hC_R (Nat.le_of_ble_eq_true rfl) hw_165 rfl rfl ?_
    refine js_iconst (n := 38) 3 X (dg dc_R_keep 22 rfl) rfl (by decide) ?_
    refine js_iload_n (n := 39) X (dg dc_R_keep 23 rfl) rfl rfl rfl ?_
    refine js_imul (n := 40) X (dg dc_R_keep 24 rfl) rfl ?_
    refine js_aload_n (n := 41) X (dg dc_R_keep 25 rfl) rfl rfl rfl ?_
    refine js_getf (j := 2) (v := .ref 27) (n := 44) X (dg dc_R_keep 26 rfl) rfl hC_R (Nat.le_of_ble_eq_true rfl) hw_138 rfl rfl ?_
    refine js_iload_n (n := 45) X (dg dc_R_keep 27 rfl) rfl rfl rfl ?_
    refine js_iaload (f := R.2.2.1) (n := 46) X (dg dc_R_keep 28 rfl) rfl rfl ?_
    refine js_iastore (f := R.2.2.2.2.2.2.1) (n := 47) X (dg dc_R_keep 29 rfl) rfl rfl ?_
    refine js_aload_n (n := 48) X (dg dc_R_keep 30 rfl) rfl rfl rfl ?_
    refine js_getf (j := 6) (v := .ref 31) (n := 51) X (dg dc_R_keep 31 rfl) rfl hC_R (Nat.le_of_ble_eq_true rfl) hw_165 rfl rfl ?_
    refine js_iconst (n := 52) 3 X (dg dc_R_keep 32 rfl) rfl (by decide) ?_
    refine js_iload_n (n := 53) X (dg dc_R_keep 33 rfl) rfl rfl rfl ?_
    refine js_imul (n := 54) X (dg dc_R_keep 34 rfl) rfl ?_
    refine js_iconst (n := 55) 1 X (dg dc_R_keep 35 rfl) rfl (by decide) ?_
    refine js_iadd (n := 56) X (dg dc_R_keep 36 rfl) rfl ?_
    refine js_aload_n (n := 57) X (dg dc_R_keep 37 rfl) rfl rfl rfl ?_
    refine js_getf (j := 3) (v := .ref 28) (n := 60) X (dg dc_R_keep 38 rfl) rfl hC_R (Nat.le_of_ble_eq_true rfl) hw_137 rfl rfl ?_
    refine js_iload_n (n := 61) X (dg dc_R_keep 39 rfl) rfl rfl rfl ?_
    refine js_iaload (f := R.2.2.2.1) (n := 62) X (dg dc_R_keep 40 rfl) rfl rfl ?_
    refine js_iastore (f := (upd R.2.2.2.2.2.2.1 (ix (3 * v1)) (R.2.2.1 (ix v1)))) (n := 63) X (dg dc_R_keep 41 rfl) rfl rfl ?_
    refine js_aload_n (n := 64) X (dg dc_R_keep 42 rfl) rfl rfl rfl ?_
    refine js_getf (j := 6) (v := .ref 31) (n := 67) X (dg dc_R_keep 43 rfl) rfl hC_R (Nat.le_of_ble_eq_true rfl) hw_165 rfl rfl ?_
    refine js_iconst (n := 68) 3 X (dg dc_R_keep 44 rfl) rfl (by decide) ?_
    refine js_iload_n (n := 69) X (dg dc_R_keep 45 rfl) rfl rfl rfl ?_
    refine js_imul (n := 70) X (dg dc_R_keep 46 rfl) rfl ?_
    refine js_iconst (n := 71) 2 X (dg dc_R_keep 47 rfl) rfl (by decide) ?_
    refine js_iadd (n := 72) X (dg dc_R_keep 48 rfl) rfl ?_
    refine js_aload_n (n := 73) X (dg dc_R_keep 49 rfl) rfl rfl rfl ?_
    refine js_getf (j := 4) (v := .ref 29) (n := 76) X (dg dc_R_keep 50 rfl) rfl hC_R (Nat.le_of_ble_eq_true rfl) hw_160 rfl rfl ?_
    refine js_iload_n (n := 77) X (dg dc_R_keep 51 rfl) rfl rfl rfl ?_
    refine js_iaload (f := R.2.2.2.2.1) (n := 78) X (dg dc_R_keep 52 rfl) rfl rfl ?_
    refine js_iastore (f := (upd (upd R.2.2.2.2.2.2.1 (ix (3 * v1)) (R.2.2.1 (ix v1))) (ix ((3 * v1) + 1)) (R.2.2.2.1 (ix v1)))) (n := 79) X (dg dc_R_keep 53 rfl) rfl rfl ?_
    refine js_iinc (lo' := [some (.ref 25), some (.int (v1 + 1))]) (n := 82) 1 X (dg dc_R_keep 54 rfl) rfl (by decide) (Nat.le_of_ble_eq_true rfl) rfl rfl ?_
    refine js_goto (t := 27) X (dg dc_R_keep 55 rfl) (by decide) ?_
    exact js_keep [true, true] (ih (R.1, R.2.1, R.2.2.1, R.2.2.2.1, R.2.2.2.2.1, R.2.2.2.2.2.1, (upd (upd (upd R.2.2.2.2.2.2.1 (ix (3 * v1)) (R.2.2.1 (ix v1))) (ix ((3 * v1) + 1)) (R.2.2.2.1 (ix v1))) (ix ((3 * v1) + 2)) (R.2.2.2.2.1 (ix v1))), R.2.2.2.2.2.2.2) (v1 + 1))
set_option maxRecDepth 100000 in
set_option maxHeartbeats 4000000 in
theorem jl_R_keep_25_L2 (l : Launch) (Dv : va_G) (fu : Nat) (h : S_H) (out : Nat → Int64) (κ : ev_ka) (X : ev_X l Dv gaX mu_R_keep κ) : ∀ (n : Nat) (R : S_R) (v1 : Int32), ev_J l Dv gaX mu_R_keep κ 2 0 0 [some (.ref 25), some (.int v1)] [] (hpW h R out) (f_R_keep_L2 fu n R v1) (fun q => (none, hpW h q out)) := by
  intro n
  induction n with
  | zero => exact fun _ _ => js_none
  | succ n ih =>
    intro R v1
    unfold f_R_keep_L2
    refine js_iload_n (n := 3) X (dg dc_R_keep 2 rfl) rfl rfl rfl ?_
    refine js_iconst (n := 4) 3 X (dg dc_R_keep 3 rfl) rfl (by decide) ?_
    refine js_icmp_ge (t := 25) (n := 7) X (dg dc_R_keep 4 rfl) (by decide) rfl ?_ ?_
    · refine js_iconst (n := 26) 0 X (dg dc_R_keep 15 rfl) rfl (by decide) ?_
      refine js_istore_n (lo' := [some (.ref 25), some (.int 0)]) (n := 27) X (dg dc_R_keep 16 rfl) rfl rfl (Nat.le_of_ble_eq_true rfl) rfl ?_
      exact js_keep [true, true] (jl_R_keep_25_L27 l Dv fu h out κ X fu R 0)
    refine js_aload_n (n := 8) X (dg dc_R_keep 5 rfl) rfl rfl rfl ?_
    refine js_getf (j := 5) (v := .ref 30) (n := 11) X (dg dc_R_keep 6 rfl) rfl hC_R (Nat.le_of_ble_eq_true rfl) hw_166 rfl rfl ?_
    refine js_iload_n (n := 12) X (dg dc_R_keep 7 rfl) rfl rfl rfl ?_
    refine js_aload_n (n := 13) X (dg dc_R_keep 8 rfl) rfl rfl rfl ?_
    refine js_getf (j := 1) (v := .ref 26) (n := 16) X (dg dc_R_keep 9 rfl) rfl hC_R (Nat.le_of_ble_eq_true rfl) hw_127 rfl rfl ?_
    refine js_iload_n (n := 17) X (dg dc_R_keep 10 rfl) rfl rfl rfl ?_
    refine js_iaload (f := R.2.1) (n := 18) X (dg dc_R_keep 11 rfl) rfl rfl ?_
    refine js_iastore (f := R.2.2.2.2.2.1) (n := 19) X (dg dc_R_keep 12 rfl) rfl rfl ?_
    refine js_iinc (lo' := [some (.ref 25), some (.int (v1 + 1))]) (n := 22) 1 X (dg dc_R_keep 13 rfl) rfl (by decide) (Nat.le_of_ble_eq_true rfl) rfl rfl ?_
    refine js_goto (t := 2) X (dg dc_R_keep 14 rfl) (by decide) ?_
    exact js_keep [true, true] (ih (R.1, R.2.1, R.2.2.1, R.2.2.2.1, R.2.2.2.2.1, (upd R.2.2.2.2.2.1 (ix v1) (R.2.1 (ix v1))), R.2.2.2.2.2.2) (v1 + 1))
set_option maxRecDepth 100000 in
set_option maxHeartbeats 4000000 in
theorem c_R_keep_25 (l : Launch) (Dv : va_G) (fu : Nat) (h : S_H) (out : Nat → Int64) (R : S_R) : ev_M l Dv gaX mu_R_keep [.ref 25] (hpW h R out) (f_R_keep fu R) (fun q => (none, hpW h q out)) := by
  refine ev_met (lo0 := [some (.ref 25), none]) rfl rfl rfl (fun κ X => ?_)
  unfold f_R_keep
  refine js_iconst (n := 1) 0 X (dg dc_R_keep 0 rfl) rfl (by decide) ?_
  refine js_istore_n (lo' := [some (.ref 25), some (.int 0)]) (n := 2) X (dg dc_R_keep 1 rfl) rfl rfl (Nat.le_of_ble_eq_true rfl) rfl ?_
  exact js_keep [true, true] (jl_R_keep_25_L2 l Dv fu h out κ X fu R 0)
set_option maxRecDepth 100000 in
set_option maxHeartbeats 4000000 in
theorem jl_R_putBack_25_L27 (l : Launch) (Dv : va_G) (fu : Nat) (h : S_H) (out : Nat → Int64) (κ : ev_ka) (X : ev_X l Dv gaX mu_R_putBack κ) : ∀ (n : Nat) (R : S_R) (v1 : Int32), ev_J l Dv gaX mu_R_putBack κ 27 0 0 [some (.ref 25), some (.int v1)] [] (hpW h R out) (f_R_putBack_L27 fu n R v1) (fun q => (none, hpW h q out)) := by
  intro n
  induction n with
  | zero => exact fun _ _ => js_none
  | succ n ih =>
    intro R v1
    unfold f_R_putBack_L27
    refine js_iload_n (n := 28) X (dg dc_R_putBack 17 rfl) rfl rfl rfl ?_
    refine js_bipush (n := 30) 14 X (dg dc_R_putBack 18 rfl) rfl (by decide) ?_
    refine js_icmp_ge (t := 85) (n := 33) X (dg dc_R_putBack 19 rfl) (by decide) rfl ?_ ?_
    · exact js_retV X (dg dc_R_putBack 56 rfl) rfl (Nat.le_of_ble_eq_true rfl) (Nat.le_of_ble_eq_true rfl) rfl
    refine js_aload_n (n := 34) X (dg dc_R_putBack 20 rfl) rfl rfl rfl ?_
    refine js_getf (j := 2) (v := .ref 27) (n := 37) X (dg dc_R_putBack 21 rfl) rfl hC_R (Nat.le_of_ble_eq_true rfl) hw_138 rfl rfl ?_
    refine js_iload_n (n := 38) X (dg dc_R_putBack 22 rfl) rfl rfl rfl ?_
    refine js_aload_n (n := 39) X (dg dc_R_putBack 23 rfl) rfl rfl rfl ?_
    refine js_getf (j := 6) (v := .ref 31) (n := 42) X (dg dc_R_putBack 24 rfl) rfl hC_R (Nat.le_of_ble_eq_true rfl) hw_165 rfl rfl ?_
    refine js_iconst (n := 43) 3 X (dg dc_R_putBack 25 rfl) rfl (by decide) ?_
    refine js_iload_n (n := 44) X (dg dc_R_putBack 26 rfl) rfl rfl rfl ?_
    refine js_imul (n := 45) X (dg dc_R_putBack 27 rfl) rfl ?_
    refine js_iaload (f := R.2.2.2.2.2.2.1) (n := 46) X (dg dc_R_putBack 28 rfl) rfl rfl ?_
    refine js_iastore (f := R.2.2.1) (n := 47) X (dg dc_R_putBack 29 rfl) rfl rfl ?_
    refine js_aload_n (n := 48) X (dg dc_R_putBack 30 rfl) rfl rfl rfl ?_
    refine js_getf (j := 3) (v := .ref 28) (n := 51) X (dg dc_R_putBack 31 rfl) rfl hC_R (Nat.le_of_ble_eq_true rfl) hw_137 rfl rfl ?_
    refine js_iload_n (n := 52) X (dg dc_R_putBack 32 rfl) rfl rfl rfl ?_
    refine js_aload_n (n := 53) X (dg dc_R_putBack 33 rfl) rfl rfl rfl ?_
    refine js_getf (j := 6) (v := .ref 31) (n := 56) X (dg dc_R_putBack 34 rfl) rfl hC_R (Nat.le_of_ble_eq_true rfl) hw_165 rfl rfl ?_
    refine js_iconst (n := 57) 3 X (dg dc_R_putBack 35 rfl) rfl (by decide) ?_
    refine js_iload_n (n := 58) X (dg dc_R_putBack 36 rfl) rfl rfl rfl ?_
    refine js_imul (n := 59) X (dg dc_R_putBack 37 rfl) rfl ?_
    refine js_iconst (n := 60) 1 X (dg dc_R_putBack 38 rfl) rfl (by decide) ?_
    refine js_iadd (n := 61) X (dg dc_R_putBack 39 rfl) rfl ?_
    refine js_iaload (f := R.2.2.2.2.2.2.1) (n := 62) X (dg dc_R_putBack 40 rfl) rfl rfl ?_
    refine js_iastore (f := R.2.2.2.1) (n := 63) X (dg dc_R_putBack 41 rfl) rfl rfl ?_
    refine js_aload_n (n := 64) X (dg dc_R_putBack 42 rfl) rfl rfl rfl ?_
    refine js_getf (j := 4) (v := .ref 29) (n := 67) X (dg dc_R_putBack 43 rfl) rfl hC_R (Nat.le_of_ble_eq_true rfl) hw_160 rfl rfl ?_
    refine js_iload_n (n := 68) X (dg dc_R_putBack 44 rfl) rfl rfl rfl ?_
    refine js_aload_n (n := 69) X (dg dc_R_putBack 45 rfl) rfl rfl rfl ?_
    refine js_getf (j := 6) (v := .ref 31) (n := 72) X (dg dc_R_putBack 46 rfl) rfl hC_R (Nat.le_of_ble_eq_true rfl) hw_165 rfl rfl ?_
    refine js_iconst (n := 73) 3 X (dg dc_R_putBack 47 rfl) rfl (by decide) ?_
    refine js_iload_n (n := 74) X (dg dc_R_putBack 48 rfl) rfl rfl rfl ?_
    refine js_imul (n := 75) X (dg dc_R_putBack 49 rfl) rfl ?_
    refine js_iconst (n := 76) 2 X (dg dc_R_putBack 50 rfl) rfl (by decide) ?_
    refine js_iadd (n := 77) X (dg dc_R_putBack 51 rfl) rfl ?_
    refine js_iaload (f := R.2.2.2.2.2.2.1) (n := 78) X (dg dc_R_putBack 52 rfl) rfl rfl ?_
    refine js_iastore (f := R.2.2.2.2.1) (n := 79) X (dg dc_R_putBack 53 rfl) rfl rfl ?_
    refine js_iinc (lo' := [some (.ref 25), some (.int (v1 + 1))]) (n := 82) 1 X (dg dc_R_putBack 54 rfl) rfl (by decide) (Nat.le_of_ble_eq_true rfl) rfl rfl ?_
    refine js_goto (t := 27) X (dg dc_R_putBack 55 rfl) (by decide) ?_
    exact js_keep [true, true] (ih (R.1, R.2.1, (upd R.2.2.1 (ix v1) (R.2.2.2.2.2.2.1 (ix (3 * v1)))), (upd R.2.2.2.1 (ix v1) (R.2.2.2.2.2.2.1 (ix ((3 * v1) + 1)))), (upd R.2.2.2.2.1 (ix v1) (R.2.2.2.2.2.2.1 (ix ((3 * v1) + 2)))), R.2.2.2.2.2) (v1 + 1))
set_option maxRecDepth 100000 in
set_option maxHeartbeats 4000000 in
theorem jl_R_putBack_25_L2 (l : Launch) (Dv : va_G) (fu : Nat) (h : S_H) (out : Nat → Int64) (κ : ev_ka) (X : ev_X l Dv gaX mu_R_putBack κ) : ∀ (n : Nat) (R : S_R) (v1 : Int32), ev_J l Dv gaX mu_R_putBack κ 2 0 0 [some (.ref 25), some (.int v1)] [] (hpW h R out) (f_R_putBack_L2 fu n R v1) (fun q => (none, hpW h q out)) := by
  intro n
  induction n with
  | zero => exact fun _ _ => js_none
  | succ n ih =>
    intro R v1
    unfold f_R_putBack_L2
    refine js_iload_n (n := 3) X (dg dc_R_putBack 2 rfl) rfl rfl rfl ?_
    refine js_iconst (n := 4) 3 X (dg dc_R_putBack 3 rfl) rfl (by decide) ?_
    refine js_icmp_ge (t := 25) (n := 7) X (dg dc_R_putBack 4 rfl) (by decide) rfl ?_ ?_
    · refine js_iconst (n := 26) 0 X (dg dc_R_putBack 15 rfl) rfl (by decide) ?_
      refine js_istore_n (lo' := [some (.ref 25), some (.int 0)]) (n := 27) X (dg dc_R_putBack 16 rfl) rfl rfl (Nat.le_of_ble_eq_true rfl) rfl ?_
      exact js_keep [true, true] (jl_R_putBack_25_L27 l Dv fu h out κ X fu R 0)
    refine js_aload_n (n := 8) X (dg dc_R_putBack 5 rfl) rfl rfl rfl ?_
    refine js_getf (j := 1) (v := .ref 26) (n := 11) X (dg dc_R_putBack 6 rfl) rfl hC_R (Nat.le_of_ble_eq_true rfl) hw_127 rfl rfl ?_
    refine js_iload_n (n := 12) X (dg dc_R_putBack 7 rfl) rfl rfl rfl ?_
    refine js_aload_n (n := 13) X (dg dc_R_putBack 8 rfl) rfl rfl rfl ?_
    refine js_getf (j := 5) (v := .ref 30) (n := 16) X (dg dc_R_putBack 9 rfl) rfl hC_R (Nat.le_of_ble_eq_true rfl) hw_166 rfl rfl ?_
    refine js_iload_n (n := 17) X (dg dc_R_putBack 10 rfl) rfl rfl rfl ?_
    refine js_iaload (f := R.2.2.2.2.2.1) (n := 18) X (dg dc_R_putBack 11 rfl) rfl rfl ?_
    refine js_iastore (f := R.2.1) (n := 19) X (dg dc_R_putBack 12 rfl) rfl rfl ?_
    refine js_iinc (lo' := [some (.ref 25), some (.int (v1 + 1))]) (n := 22) 1 X (dg dc_R_putBack 13 rfl) rfl (by decide) (Nat.le_of_ble_eq_true rfl) rfl rfl ?_
    refine js_goto (t := 2) X (dg dc_R_putBack 14 rfl) (by decide) ?_
    exact js_keep [true, true] (ih (R.1, (upd R.2.1 (ix v1) (R.2.2.2.2.2.1 (ix v1))), R.2.2) (v1 + 1))
set_option maxRecDepth 100000 in
set_option maxHeartbeats 4000000 in
theorem c_R_putBack_25 (l : Launch) (Dv : va_G) (fu : Nat) (h : S_H) (out : Nat → Int64) (R : S_R) : ev_M l Dv gaX mu_R_putBack [.ref 25] (hpW h R out) (f_R_putBack fu R) (fun q => (none, hpW h q out)) := by
  refine ev_met (lo0 := [some (.ref 25), none]) rfl rfl rfl (fun κ X => ?_)
  unfold f_R_putBack
  refine js_iconst (n := 1) 0 X (dg dc_R_putBack 0 rfl) rfl (by decide) ?_
  refine js_istore_n (lo' := [some (.ref 25), some (.int 0)]) (n := 2) X (dg dc_R_putBack 1 rfl) rfl rfl (Nat.le_of_ble_eq_true rfl) rfl ?_
  exact js_keep [true, true] (jl_R_putBack_25_L2 l Dv fu h out κ X fu R 0)
