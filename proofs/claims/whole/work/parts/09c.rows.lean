set_option maxRecDepth 100000 in
set_option maxHeartbeats 4000000 in
theorem c_P_end_1 (l : Launch) (Dv : va_G) (fu : Nat) (h : S_H) (r : S_R) (out : Nat → Int64) (P : S_P) (a1 : Int32) : ev_M l Dv gaX mu_P_end [.ref 1, .int a1] (hpW (P, h.2) r out) (f_P_end fu P a1) (fun q => (some (.int q), hpW (P, h.2) r out)) := by
  refine ev_met (lo0 := [some (.ref 1), some (.int a1)]) rfl rfl rfl (fun κ X => ?_)
  unfold f_P_end
  refine js_aload_n (n := 1) X (dg dc_P_end 0 rfl) rfl rfl rfl ?_
  refine js_iload_n (n := 2) X (dg dc_P_end 1 rfl) rfl rfl rfl ?_
  refine js_callV (na := 1) (ci := 1) (n := 5) X (dg dc_P_end 2 rfl) rfl (c_P_start_1 l Dv fu (P, h.2) r out P a1) gV_P_24 rfl rfl hy_P_start ⟨(Nat.le_of_ble_eq_true rfl), (Nat.le_of_ble_eq_true rfl)⟩ rfl ⟨(Nat.le_of_ble_eq_true rfl), (Nat.le_of_ble_eq_true rfl)⟩ rfl rfl rfl rfl rfl ?_
  intro r2
  refine js_aload_n (n := 6) X (dg dc_P_end 3 rfl) rfl rfl rfl ?_
  refine js_getf (j := 0) (v := .ref 2) (n := 9) X (dg dc_P_end 4 rfl) rfl hC_P (Nat.le_of_ble_eq_true rfl) hw_1 rfl rfl ?_
  refine js_iload_n (n := 10) X (dg dc_P_end 5 rfl) rfl rfl rfl ?_
  refine js_iaload (f := P.1) (n := 11) X (dg dc_P_end 6 rfl) rfl rfl ?_
  refine js_iadd (n := 12) X (dg dc_P_end 7 rfl) rfl ?_
  exact js_retI X (dg dc_P_end 8 rfl) rfl (Nat.le_of_ble_eq_true rfl) (Nat.le_of_ble_eq_true rfl) rfl
set_option maxRecDepth 100000 in
set_option maxHeartbeats 4000000 in
theorem c_P_branchOf_1 (l : Launch) (Dv : va_G) (fu : Nat) (h : S_H) (r : S_R) (out : Nat → Int64) (P : S_P) (a1 : Int32) : ev_M l Dv gaX mu_P_branchOf [.ref 1, .int a1] (hpW (P, h.2) r out) (f_P_branchOf fu P a1) (fun q => (some (.int q), hpW (P, h.2) r out)) := by
  refine ev_met (lo0 := [some (.ref 1), some (.int a1)]) rfl rfl rfl (fun κ X => ?_)
  unfold f_P_branchOf
  refine js_iload_n (n := 1) X (dg dc_P_branchOf 0 rfl) rfl rfl rfl ?_
  refine js_aload_n (n := 2) X (dg dc_P_branchOf 1 rfl) rfl rfl rfl ?_
  refine js_iconst (n := 3) 1 X (dg dc_P_branchOf 2 rfl) rfl (by decide) ?_
  refine js_callV (na := 1) (ci := 1) (n := 6) X (dg dc_P_branchOf 3 rfl) rfl (c_P_start_1 l Dv fu (P, h.2) r out P 1) gV_P_24 rfl rfl hy_P_start ⟨(Nat.le_of_ble_eq_true rfl), (Nat.le_of_ble_eq_true rfl)⟩ rfl ⟨(Nat.le_of_ble_eq_true rfl), (Nat.le_of_ble_eq_true rfl)⟩ rfl rfl rfl rfl rfl ?_
  intro r3
  refine js_icmp_ge (t := 11) (n := 9) X (dg dc_P_branchOf 4 rfl) (by decide) rfl ?_ ?_
  · refine js_iload_n (n := 12) X (dg dc_P_branchOf 7 rfl) rfl rfl rfl ?_
    refine js_aload_n (n := 13) X (dg dc_P_branchOf 8 rfl) rfl rfl rfl ?_
    refine js_iconst (n := 14) 2 X (dg dc_P_branchOf 9 rfl) rfl (by decide) ?_
    refine js_callV (na := 1) (ci := 1) (n := 17) X (dg dc_P_branchOf 10 rfl) rfl (c_P_start_1 l Dv fu (P, h.2) r out P 2) gV_P_24 rfl rfl hy_P_start ⟨(Nat.le_of_ble_eq_true rfl), (Nat.le_of_ble_eq_true rfl)⟩ rfl ⟨(Nat.le_of_ble_eq_true rfl), (Nat.le_of_ble_eq_true rfl)⟩ rfl rfl rfl rfl rfl ?_
    intro r14
    refine js_icmp_ge (t := 24) (n := 20) X (dg dc_P_branchOf 11 rfl) (by decide) rfl ?_ ?_
    · refine js_iconst (n := 25) 2 X (dg dc_P_branchOf 14 rfl) rfl (by decide) ?_
      exact js_retI X (dg dc_P_branchOf 15 rfl) rfl (Nat.le_of_ble_eq_true rfl) (Nat.le_of_ble_eq_true rfl) rfl
    refine js_iconst (n := 21) 1 X (dg dc_P_branchOf 12 rfl) rfl (by decide) ?_
    refine js_goto (t := 25) X (dg dc_P_branchOf 13 rfl) (by decide) ?_
    exact js_retI X (dg dc_P_branchOf 15 rfl) rfl (Nat.le_of_ble_eq_true rfl) (Nat.le_of_ble_eq_true rfl) rfl
  refine js_iconst (n := 10) 0 X (dg dc_P_branchOf 5 rfl) rfl (by decide) ?_
  exact js_retI X (dg dc_P_branchOf 6 rfl) rfl (Nat.le_of_ble_eq_true rfl) (Nat.le_of_ble_eq_true rfl) rfl
set_option maxRecDepth 100000 in
set_option maxHeartbeats 4000000 in
theorem c_P_hasRoom_1 (l : Launch) (Dv : va_G) (fu : Nat) (h : S_H) (r : S_R) (out : Nat → Int64) (P : S_P) (a1 : Int32) : ev_M l Dv gaX mu_P_hasRoom [.ref 1, .int a1] (hpW (P, h.2) r out) (f_P_hasRoom fu P a1) (fun q => (some (.int q), hpW (P, h.2) r out)) := by
  refine ev_met (lo0 := [some (.ref 1), some (.int a1)]) rfl rfl rfl (fun κ X => ?_)
  unfold f_P_hasRoom
  refine js_aload_n (n := 1) X (dg dc_P_hasRoom 0 rfl) rfl rfl rfl ?_
  refine js_getf (j := 0) (v := .ref 2) (n := 4) X (dg dc_P_hasRoom 1 rfl) rfl hC_P (Nat.le_of_ble_eq_true rfl) hw_1 rfl rfl ?_
  refine js_iload_n (n := 5) X (dg dc_P_hasRoom 2 rfl) rfl rfl rfl ?_
  refine js_iaload (f := P.1) (n := 6) X (dg dc_P_hasRoom 3 rfl) rfl rfl ?_
  refine js_iload_n (n := 7) X (dg dc_P_hasRoom 4 rfl) rfl rfl rfl ?_
  refine js_if_ne (t := 15) (n := 10) X (dg dc_P_hasRoom 5 rfl) (by decide) rfl ?_ ?_
  · refine js_iconst (n := 16) 4 X (dg dc_P_hasRoom 8 rfl) rfl (by decide) ?_
    refine js_icmp_ge (t := 23) (n := 19) X (dg dc_P_hasRoom 9 rfl) (by decide) rfl ?_ ?_
    · refine js_iconst (n := 24) 0 X (dg dc_P_hasRoom 12 rfl) rfl (by decide) ?_
      exact js_retZ X (dg dc_P_hasRoom 13 rfl) rfl (Nat.le_of_ble_eq_true rfl) (Nat.le_of_ble_eq_true rfl) rfl
    refine js_iconst (n := 20) 1 X (dg dc_P_hasRoom 10 rfl) rfl (by decide) ?_
    refine js_goto (t := 24) X (dg dc_P_hasRoom 11 rfl) (by decide) ?_
    exact js_retZ X (dg dc_P_hasRoom 13 rfl) rfl (Nat.le_of_ble_eq_true rfl) (Nat.le_of_ble_eq_true rfl) rfl
  refine js_bipush (n := 12) 6 X (dg dc_P_hasRoom 6 rfl) rfl (by decide) ?_
  refine js_goto (t := 16) X (dg dc_P_hasRoom 7 rfl) (by decide) ?_
  refine js_icmp_ge (t := 23) (n := 19) X (dg dc_P_hasRoom 9 rfl) (by decide) rfl ?_ ?_
  · refine js_iconst (n := 24) 0 X (dg dc_P_hasRoom 12 rfl) rfl (by decide) ?_
    exact js_retZ X (dg dc_P_hasRoom 13 rfl) rfl (Nat.le_of_ble_eq_true rfl) (Nat.le_of_ble_eq_true rfl) rfl
  refine js_iconst (n := 20) 1 X (dg dc_P_hasRoom 10 rfl) rfl (by decide) ?_
  refine js_goto (t := 24) X (dg dc_P_hasRoom 11 rfl) (by decide) ?_
  exact js_retZ X (dg dc_P_hasRoom 13 rfl) rfl (Nat.le_of_ble_eq_true rfl) (Nat.le_of_ble_eq_true rfl) rfl
set_option maxRecDepth 100000 in
set_option maxHeartbeats 4000000 in
theorem c_P_mayTake_1 (l : Launch) (Dv : va_G) (fu : Nat) (h : S_H) (r : S_R) (out : Nat → Int64) (P : S_P) (a1 : Int32) (a2 : Int32) : ev_M l Dv gaX mu_P_mayTake [.ref 1, .int a1, .int a2] (hpW (P, h.2) r out) (f_P_mayTake fu P a1 a2) (fun q => (some (.int q), hpW (P, h.2) r out)) := by
  refine ev_met (lo0 := [some (.ref 1), some (.int a1), some (.int a2), none]) rfl rfl rfl (fun κ X => ?_)
  unfold f_P_mayTake
  refine js_iload_n (n := 1) X (dg dc_P_mayTake 0 rfl) rfl rfl rfl ?_
  refine js_bipush (n := 3) 8 X (dg dc_P_mayTake 1 rfl) rfl (by decide) ?_
  refine js_icmp_ge (t := 16) (n := 6) X (dg dc_P_mayTake 2 rfl) (by decide) rfl ?_ ?_
  · refine js_iload_n (n := 17) X (dg dc_P_mayTake 9 rfl) rfl rfl rfl ?_
    refine js_bipush (n := 19) 8 X (dg dc_P_mayTake 10 rfl) rfl (by decide) ?_
    refine js_isub (n := 20) X (dg dc_P_mayTake 11 rfl) rfl ?_
    refine js_istore_n (lo' := [some (.ref 1), some (.int a1), some (.int a2), some (.int (a2 - 8))]) (n := 21) X (dg dc_P_mayTake 12 rfl) rfl rfl (Nat.le_of_ble_eq_true rfl) rfl ?_
    refine js_iload_n (n := 22) X (dg dc_P_mayTake 13 rfl) rfl rfl rfl ?_
    refine js_aload_n (n := 23) X (dg dc_P_mayTake 14 rfl) rfl rfl rfl ?_
    refine js_getf (j := 0) (v := .ref 2) (n := 26) X (dg dc_P_mayTake 15 rfl) rfl hC_P (Nat.le_of_ble_eq_true rfl) hw_1 rfl rfl ?_
    refine js_iconst (n := 27) 0 X (dg dc_P_mayTake 16 rfl) rfl (by decide) ?_
    refine js_iaload (f := P.1) (n := 28) X (dg dc_P_mayTake 17 rfl) rfl rfl ?_
    refine js_icmp_lt (t := 49) (n := 31) X (dg dc_P_mayTake 18 rfl) (by decide) rfl ?_ ?_
    · refine js_iconst (n := 50) 1 X (dg dc_P_mayTake 29 rfl) rfl (by decide) ?_
      refine js_goto (t := 54) X (dg dc_P_mayTake 30 rfl) (by decide) ?_
      exact js_retZ X (dg dc_P_mayTake 32 rfl) rfl (Nat.le_of_ble_eq_true rfl) (Nat.le_of_ble_eq_true rfl) rfl
    refine js_iload_n (n := 32) X (dg dc_P_mayTake 19 rfl) rfl rfl rfl ?_
    refine js_aload_n (n := 33) X (dg dc_P_mayTake 20 rfl) rfl rfl rfl ?_
    refine js_iload_n (n := 34) X (dg dc_P_mayTake 21 rfl) rfl rfl rfl ?_
    refine js_callV (na := 1) (ci := 1) (n := 37) X (dg dc_P_mayTake 22 rfl) rfl (c_P_start_1 l Dv fu (P, h.2) r out P a1) gV_P_24 rfl rfl hy_P_start ⟨(Nat.le_of_ble_eq_true rfl), (Nat.le_of_ble_eq_true rfl)⟩ rfl ⟨(Nat.le_of_ble_eq_true rfl), (Nat.le_of_ble_eq_true rfl)⟩ rfl rfl rfl rfl rfl ?_
    intro r34
    refine js_icmp_lt (t := 53) (n := 40) X (dg dc_P_mayTake 23 rfl) (by decide) rfl ?_ ?_
    · refine js_iconst (n := 54) 0 X (dg dc_P_mayTake 31 rfl) rfl (by decide) ?_
      exact js_retZ X (dg dc_P_mayTake 32 rfl) rfl (Nat.le_of_ble_eq_true rfl) (Nat.le_of_ble_eq_true rfl) rfl
    refine js_iload_n (n := 41) X (dg dc_P_mayTake 24 rfl) rfl rfl rfl ?_
    refine js_aload_n (n := 42) X (dg dc_P_mayTake 25 rfl) rfl rfl rfl ?_
    refine js_iload_n (n := 43) X (dg dc_P_mayTake 26 rfl) rfl rfl rfl ?_
    refine js_callV (na := 1) (ci := 1) (n := 46) X (dg dc_P_mayTake 27 rfl) rfl (c_P_end_1 l Dv fu (P, h.2) r out P a1) gV_P_28 rfl rfl hy_P_end ⟨(Nat.le_of_ble_eq_true rfl), (Nat.le_of_ble_eq_true rfl)⟩ rfl ⟨(Nat.le_of_ble_eq_true rfl), (Nat.le_of_ble_eq_true rfl)⟩ rfl rfl rfl rfl rfl ?_
    intro r43
    refine js_icmp_ge (t := 53) (n := 49) X (dg dc_P_mayTake 28 rfl) (by decide) rfl ?_ ?_
    · refine js_iconst (n := 54) 0 X (dg dc_P_mayTake 31 rfl) rfl (by decide) ?_
      exact js_retZ X (dg dc_P_mayTake 32 rfl) rfl (Nat.le_of_ble_eq_true rfl) (Nat.le_of_ble_eq_true rfl) rfl
    refine js_iconst (n := 50) 1 X (dg dc_P_mayTake 29 rfl) rfl (by decide) ?_
    refine js_goto (t := 54) X (dg dc_P_mayTake 30 rfl) (by decide) ?_
    exact js_retZ X (dg dc_P_mayTake 32 rfl) rfl (Nat.le_of_ble_eq_true rfl) (Nat.le_of_ble_eq_true rfl) rfl
  refine js_iload_n (n := 7) X (dg dc_P_mayTake 3 rfl) rfl rfl rfl ?_
  refine js_if_lt (t := 14) (n := 10) X (dg dc_P_mayTake 4 rfl) (by decide) rfl ?_ ?_
  · refine js_iconst (n := 15) 0 X (dg dc_P_mayTake 7 rfl) rfl (by decide) ?_
    exact js_retZ X (dg dc_P_mayTake 8 rfl) rfl (Nat.le_of_ble_eq_true rfl) (Nat.le_of_ble_eq_true rfl) rfl
  refine js_iconst (n := 11) 1 X (dg dc_P_mayTake 5 rfl) rfl (by decide) ?_
  refine js_goto (t := 15) X (dg dc_P_mayTake 6 rfl) (by decide) ?_
  exact js_retZ X (dg dc_P_mayTake 8 rfl) rfl (Nat.le_of_ble_eq_true rfl) (Nat.le_of_ble_eq_true rfl) rfl
set_option maxRecDepth 100000 in
set_option maxHeartbeats 4000000 in
theorem c_P_put_1 (l : Launch) (Dv : va_G) (fu : Nat) (h : S_H) (r : S_R) (out : Nat → Int64) (P : S_P) (a1 : Int32) (a2 : Int32) (a3 : Int32) (a4 : Int32) : ev_M l Dv gaX mu_P_put [.ref 1, .int a1, .int a2, .int a3, .int a4] (hpW (P, h.2) r out) (f_P_put fu P a1 a2 a3 a4) (fun q => (none, hpW (q, h.2) r out)) := by
  refine ev_met (lo0 := [some (.ref 1), some (.int a1), some (.int a2), some (.int a3), some (.int a4)]) rfl rfl rfl (fun κ X => ?_)
  unfold f_P_put
  refine js_aload_n (n := 1) X (dg dc_P_put 0 rfl) rfl rfl rfl ?_
  refine js_getf (j := 1) (v := .ref 3) (n := 4) X (dg dc_P_put 1 rfl) rfl hC_P (Nat.le_of_ble_eq_true rfl) hw_14 rfl rfl ?_
  refine js_iload_n (n := 5) X (dg dc_P_put 2 rfl) rfl rfl rfl ?_
  refine js_iload_n (n := 6) X (dg dc_P_put 3 rfl) rfl rfl rfl ?_
  refine js_iastore (f := P.2.1) (n := 7) X (dg dc_P_put 4 rfl) rfl rfl ?_
  refine js_aload_n (n := 8) X (dg dc_P_put 5 rfl) rfl rfl rfl ?_
  refine js_getf (j := 2) (v := .ref 4) (n := 11) X (dg dc_P_put 6 rfl) rfl hC_P (Nat.le_of_ble_eq_true rfl) hw_19 rfl rfl ?_
  refine js_iload_n (n := 12) X (dg dc_P_put 7 rfl) rfl rfl rfl ?_
  refine js_iload_n (n := 13) X (dg dc_P_put 8 rfl) rfl rfl rfl ?_
  refine js_iastore (f := P.2.2.1) (n := 14) X (dg dc_P_put 9 rfl) rfl rfl ?_
  refine js_aload_n (n := 15) X (dg dc_P_put 10 rfl) rfl rfl rfl ?_
  refine js_getf (j := 3) (v := .ref 5) (n := 18) X (dg dc_P_put 11 rfl) rfl hC_P (Nat.le_of_ble_eq_true rfl) hw_20 rfl rfl ?_
  refine js_iload_n (n := 19) X (dg dc_P_put 12 rfl) rfl rfl rfl ?_
  refine js_iload (n := 21) X (dg dc_P_put 13 rfl) rfl rfl ?_
  refine js_iastore (f := P.2.2.2) (n := 22) X (dg dc_P_put 14 rfl) rfl rfl ?_
  exact js_retV X (dg dc_P_put 15 rfl) rfl (Nat.le_of_ble_eq_true rfl) (Nat.le_of_ble_eq_true rfl) rfl
set_option maxRecDepth 100000 in
set_option maxHeartbeats 4000000 in
theorem jl_P_shiftUp_1_L2 (l : Launch) (Dv : va_G) (fu : Nat) (h : S_H) (r : S_R) (out : Nat → Int64) (κ : ev_ka) (X : ev_X l Dv gaX mu_P_shiftUp κ) : ∀ (n : Nat) (P : S_P) (v1 : Int32) (v3 : Int32), ev_J l Dv gaX mu_P_shiftUp κ 2 0 0 [some (.ref 1), some (.int v1), none, some (.int v3)] [] (hpW (P, h.2) r out) (f_P_shiftUp_L2 fu n P v1 v3) (fun q => (none, hpW (q, h.2) r out)) := by
  intro n
  induction n with
  | zero => exact fun _ _ _ => js_none
  | succ n ih =>
    intro P v1 v3
    unfold f_P_shiftUp_L2
    refine js_iload_n (n := 3) X (dg dc_P_shiftUp 2 rfl) rfl rfl rfl ?_
    refine js_iload_n (n := 4) X (dg dc_P_shiftUp 3 rfl) rfl rfl rfl ?_
    refine js_icmp_le (t := 42) (n := 7) X (dg dc_P_shiftUp 4 rfl) (by decide) rfl ?_ ?_
    · exact js_retV X (dg dc_P_shiftUp 28 rfl) rfl (Nat.le_of_ble_eq_true rfl) (Nat.le_of_ble_eq_true rfl) rfl
    refine js_aload_n (n := 8) X (dg dc_P_shiftUp 5 rfl) rfl rfl rfl ?_
    refine js_iload_n (n := 9) X (dg dc_P_shiftUp 6 rfl) rfl rfl rfl ?_
    refine js_aload_n (n := 10) X (dg dc_P_shiftUp 7 rfl) rfl rfl rfl ?_
    refine js_getf (j := 1) (v := .ref 3) (n := 13) X (dg dc_P_shiftUp 8 rfl) rfl hC_P (Nat.le_of_ble_eq_true rfl) hw_14 rfl rfl ?_
    refine js_iload_n (n := 14) X (dg dc_P_shiftUp 9 rfl) rfl rfl rfl ?_
    refine js_iconst (n := 15) 1 X (dg dc_P_shiftUp 10 rfl) rfl (by decide) ?_
    refine js_isub (n := 16) X (dg dc_P_shiftUp 11 rfl) rfl ?_
    refine js_iaload (f := P.2.1) (n := 17) X (dg dc_P_shiftUp 12 rfl) rfl rfl ?_
    refine js_aload_n (n := 18) X (dg dc_P_shiftUp 13 rfl) rfl rfl rfl ?_
    refine js_getf (j := 2) (v := .ref 4) (n := 21) X (dg dc_P_shiftUp 14 rfl) rfl hC_P (Nat.le_of_ble_eq_true rfl) hw_19 rfl rfl ?_
    refine js_iload_n (n := 22) X (dg dc_P_shiftUp 15 rfl) rfl rfl rfl ?_
    refine js_iconst (n := 23) 1 X (dg dc_P_shiftUp 16 rfl) rfl (by decide) ?_
    refine js_isub (n := 24) X (dg dc_P_shiftUp 17 rfl) rfl ?_
    refine js_iaload (f := P.2.2.1) (n := 25) X (dg dc_P_shiftUp 18 rfl) rfl rfl ?_
    refine js_aload_n (n := 26) X (dg dc_P_shiftUp 19 rfl) rfl rfl rfl ?_
    refine js_getf (j := 3) (v := .ref 5) (n := 29) X (dg dc_P_shiftUp 20 rfl) rfl hC_P (Nat.le_of_ble_eq_true rfl) hw_20 rfl rfl ?_
    refine js_iload_n (n := 30) X (dg dc_P_shiftUp 21 rfl) rfl rfl rfl ?_
    refine js_iconst (n := 31) 1 X (dg dc_P_shiftUp 22 rfl) rfl (by decide) ?_
    refine js_isub (n := 32) X (dg dc_P_shiftUp 23 rfl) rfl ?_
    refine js_iaload (f := P.2.2.2) (n := 33) X (dg dc_P_shiftUp 24 rfl) rfl rfl ?_
    refine js_callV (na := 4) (ci := 1) (n := 36) X (dg dc_P_shiftUp 25 rfl) rfl (c_P_put_1 l Dv fu (P, h.2) r out P v3 (P.2.1 (ix (v3 - 1))) (P.2.2.1 (ix (v3 - 1))) (P.2.2.2 (ix (v3 - 1)))) gV_P_48 rfl rfl hy_P_put ⟨(Nat.le_of_ble_eq_true rfl), (Nat.le_of_ble_eq_true rfl)⟩ rfl ⟨(Nat.le_of_ble_eq_true rfl), (Nat.le_of_ble_eq_true rfl)⟩ rfl rfl rfl rfl rfl ?_
    intro P_33
    refine js_iinc (lo' := [some (.ref 1), some (.int v1), none, some (.int (v3 + (-1)))]) (n := 39) (-1) X (dg dc_P_shiftUp 26 rfl) rfl (by decide) (Nat.le_of_ble_eq_true rfl) rfl rfl ?_
    refine js_goto (t := 2) X (dg dc_P_shiftUp 27 rfl) (by decide) ?_
    exact js_keep [true, true, false, true] (ih P_33 v1 (v3 + (-1)))
set_option maxRecDepth 100000 in
set_option maxHeartbeats 4000000 in
theorem c_P_shiftUp_1 (l : Launch) (Dv : va_G) (fu : Nat) (h : S_H) (r : S_R) (out : Nat → Int64) (P : S_P) (a1 : Int32) (a2 : Int32) : ev_M l Dv gaX mu_P_shiftUp [.ref 1, .int a1, .int a2] (hpW (P, h.2) r out) (f_P_shiftUp fu P a1 a2) (fun q => (none, hpW (q, h.2) r out)) := by
  refine ev_met (lo0 := [some (.ref 1), some (.int a1), some (.int a2), none]) rfl rfl rfl (fun κ X => ?_)
  unfold f_P_shiftUp
  refine js_iload_n (n := 1) X (dg dc_P_shiftUp 0 rfl) rfl rfl rfl ?_
  refine js_istore_n (lo' := [some (.ref 1), some (.int a1), some (.int a2), some (.int a2)]) (n := 2) X (dg dc_P_shiftUp 1 rfl) rfl rfl (Nat.le_of_ble_eq_true rfl) rfl ?_
  exact js_keep [true, true, false, true] (jl_P_shiftUp_1_L2 l Dv fu h r out κ X fu P a1 a2)
set_option maxRecDepth 100000 in
set_option maxHeartbeats 4000000 in
theorem jl_P_renumber_1_L8 (l : Launch) (Dv : va_G) (fu : Nat) (h : S_H) (r : S_R) (out : Nat → Int64) (κ : ev_ka) (X : ev_X l Dv gaX mu_P_renumber κ) : ∀ (n : Nat) (P : S_P) (v1 : Int32) (v2 : Int32) (v3 : Int32) (v4 : Int32), ev_J l Dv gaX mu_P_renumber κ 8 0 0 [some (.ref 1), some (.int v1), some (.int v2), some (.int v3), some (.int v4)] [] (hpW (P, h.2) r out) (f_P_renumber_L8 fu n P v1 v2 v3 v4) (fun q => (none, hpW (q, h.2) r out)) := by
  intro n
  induction n with
  | zero => exact fun _ _ _ _ _ => js_none
  | succ n ih =>
    intro P v1 v2 v3 v4
    unfold f_P_renumber_L8
    refine js_iload (n := 10) X (dg dc_P_renumber 5 rfl) rfl rfl ?_
    refine js_iload_n (n := 11) X (dg dc_P_renumber 6 rfl) rfl rfl rfl ?_
    refine js_icmp_ge (t := 45) (n := 14) X (dg dc_P_renumber 7 rfl) (by decide) rfl ?_ ?_
    · exact js_retV X (dg dc_P_renumber 26 rfl) rfl (Nat.le_of_ble_eq_true rfl) (Nat.le_of_ble_eq_true rfl) rfl
    refine js_aload_n (n := 15) X (dg dc_P_renumber 8 rfl) rfl rfl rfl ?_
    refine js_getf (j := 3) (v := .ref 5) (n := 18) X (dg dc_P_renumber 9 rfl) rfl hC_P (Nat.le_of_ble_eq_true rfl) hw_20 rfl rfl ?_
    refine js_iload (n := 20) X (dg dc_P_renumber 10 rfl) rfl rfl ?_
    refine js_iaload (f := P.2.2.2) (n := 21) X (dg dc_P_renumber 11 rfl) rfl rfl ?_
    refine js_bipush (n := 23) 8 X (dg dc_P_renumber 12 rfl) rfl (by decide) ?_
    refine js_iload_n (n := 24) X (dg dc_P_renumber 13 rfl) rfl rfl rfl ?_
    refine js_iadd (n := 25) X (dg dc_P_renumber 14 rfl) rfl ?_
    refine js_icmp_lt (t := 39) (n := 28) X (dg dc_P_renumber 15 rfl) (by decide) rfl ?_ ?_
    · refine js_iinc (lo' := [some (.ref 1), some (.int v1), some (.int v2), some (.int v3), some (.int (v4 + 1))]) (n := 42) 1 X (dg dc_P_renumber 24 rfl) rfl (by decide) (Nat.le_of_ble_eq_true rfl) rfl rfl ?_
      refine js_goto (t := 8) X (dg dc_P_renumber 25 rfl) (by decide) ?_
      exact js_keep [true, true, true, true, true] (ih P v1 v2 v3 (v4 + 1))
    refine js_aload_n (n := 29) X (dg dc_P_renumber 16 rfl) rfl rfl rfl ?_
    refine js_getf (j := 3) (v := .ref 5) (n := 32) X (dg dc_P_renumber 17 rfl) rfl hC_P (Nat.le_of_ble_eq_true rfl) hw_20 rfl rfl ?_
    refine js_iload (n := 34) X (dg dc_P_renumber 18 rfl) rfl rfl ?_
    refine js_dup2 (n := 35) X (dg dc_P_renumber 19 rfl) rfl rfl rfl ?_
    refine js_iaload (f := P.2.2.2) (n := 36) X (dg dc_P_renumber 20 rfl) rfl rfl ?_
    refine js_iload_n (n := 37) X (dg dc_P_renumber 21 rfl) rfl rfl rfl ?_
    refine js_iadd (n := 38) X (dg dc_P_renumber 22 rfl) rfl ?_
    refine js_iastore (f := P.2.2.2) (n := 39) X (dg dc_P_renumber 23 rfl) rfl rfl ?_
    refine js_iinc (lo' := [some (.ref 1), some (.int v1), some (.int v2), some (.int v3), some (.int (v4 + 1))]) (n := 42) 1 X (dg dc_P_renumber 24 rfl) rfl (by decide) (Nat.le_of_ble_eq_true rfl) rfl rfl ?_
    refine js_goto (t := 8) X (dg dc_P_renumber 25 rfl) (by decide) ?_
    exact js_keep [true, true, true, true, true] (ih (P.1, P.2.1, P.2.2.1, (upd P.2.2.2 (ix v4) ((P.2.2.2 (ix v4)) + v2))) v1 v2 v3 (v4 + 1))
set_option maxRecDepth 100000 in
set_option maxHeartbeats 4000000 in
theorem c_P_renumber_1 (l : Launch) (Dv : va_G) (fu : Nat) (h : S_H) (r : S_R) (out : Nat → Int64) (P : S_P) (a1 : Int32) (a2 : Int32) : ev_M l Dv gaX mu_P_renumber [.ref 1, .int a1, .int a2] (hpW (P, h.2) r out) (f_P_renumber fu P a1 a2) (fun q => (none, hpW (q, h.2) r out)) := by
  refine ev_met (lo0 := [some (.ref 1), some (.int a1), some (.int a2), none, none]) rfl rfl rfl (fun κ X => ?_)
  unfold f_P_renumber
  refine js_aload_n (n := 1) X (dg dc_P_renumber 0 rfl) rfl rfl rfl ?_
  refine js_callV (na := 0) (ci := 1) (n := 4) X (dg dc_P_renumber 1 rfl) rfl (c_P_size_1 l Dv fu (P, h.2) r out P) gV_P_31 rfl rfl hy_P_size ⟨(Nat.le_of_ble_eq_true rfl), (Nat.le_of_ble_eq_true rfl)⟩ rfl ⟨(Nat.le_of_ble_eq_true rfl), (Nat.le_of_ble_eq_true rfl)⟩ rfl rfl rfl rfl rfl ?_
  intro r1
  refine js_istore_n (lo' := [some (.ref 1), some (.int a1), some (.int a2), some (.int r1), none]) (n := 5) X (dg dc_P_renumber 2 rfl) rfl rfl (Nat.le_of_ble_eq_true rfl) rfl ?_
  refine js_iconst (n := 6) 0 X (dg dc_P_renumber 3 rfl) rfl (by decide) ?_
  refine js_istore (lo' := [some (.ref 1), some (.int a1), some (.int a2), some (.int r1), some (.int 0)]) (n := 8) X (dg dc_P_renumber 4 rfl) rfl (Nat.le_of_ble_eq_true rfl) rfl ?_
  exact js_keep [true, true, true, true, true] (jl_P_renumber_1_L8 l Dv fu h r out κ X fu P a1 a2 r1 0)
set_option maxRecDepth 100000 in
set_option maxHeartbeats 4000000 in
theorem c_P_append_1 (l : Launch) (Dv : va_G) (fu : Nat) (h : S_H) (r : S_R) (out : Nat → Int64) (P : S_P) (a1 : Int32) (a2 : Int32) (a3 : Int32) (a4 : Int32) : ev_M l Dv gaX mu_P_append [.ref 1, .int a1, .int a2, .int a3, .int a4] (hpW (P, h.2) r out) (f_P_append fu P a1 a2 a3 a4) (fun q => (none, hpW (q, h.2) r out)) := by
  refine ev_met (lo0 := [some (.ref 1), some (.int a1), some (.int a2), some (.int a3), some (.int a4), none]) rfl rfl rfl (fun κ X => ?_)
  unfold f_P_append
  refine js_aload_n (n := 1) X (dg dc_P_append 0 rfl) rfl rfl rfl ?_
  refine js_iload_n (n := 2) X (dg dc_P_append 1 rfl) rfl rfl rfl ?_
  refine js_callV (na := 1) (ci := 1) (n := 5) X (dg dc_P_append 2 rfl) rfl (c_P_end_1 l Dv fu (P, h.2) r out P a1) gV_P_28 rfl rfl hy_P_end ⟨(Nat.le_of_ble_eq_true rfl), (Nat.le_of_ble_eq_true rfl)⟩ rfl ⟨(Nat.le_of_ble_eq_true rfl), (Nat.le_of_ble_eq_true rfl)⟩ rfl rfl rfl rfl rfl ?_
  intro r2
  refine js_istore (lo' := [some (.ref 1), some (.int a1), some (.int a2), some (.int a3), some (.int a4), some (.int r2)]) (n := 7) X (dg dc_P_append 3 rfl) rfl (Nat.le_of_ble_eq_true rfl) rfl ?_
  refine js_aload_n (n := 8) X (dg dc_P_append 4 rfl) rfl rfl rfl ?_
  refine js_iload (n := 10) X (dg dc_P_append 5 rfl) rfl rfl ?_
  refine js_aload_n (n := 11) X (dg dc_P_append 6 rfl) rfl rfl rfl ?_
  refine js_callV (na := 0) (ci := 1) (n := 14) X (dg dc_P_append 7 rfl) rfl (c_P_size_1 l Dv fu (P, h.2) r out P) gV_P_31 rfl rfl hy_P_size ⟨(Nat.le_of_ble_eq_true rfl), (Nat.le_of_ble_eq_true rfl)⟩ rfl ⟨(Nat.le_of_ble_eq_true rfl), (Nat.le_of_ble_eq_true rfl)⟩ rfl rfl rfl rfl rfl ?_
  intro r11
  refine js_callV (na := 2) (ci := 1) (n := 17) X (dg dc_P_append 8 rfl) rfl (c_P_shiftUp_1 l Dv fu (P, h.2) r out P r2 r11) gV_P_41 rfl rfl hy_P_shiftUp ⟨(Nat.le_of_ble_eq_true rfl), (Nat.le_of_ble_eq_true rfl)⟩ rfl ⟨(Nat.le_of_ble_eq_true rfl), (Nat.le_of_ble_eq_true rfl)⟩ rfl rfl rfl rfl rfl ?_
  intro P_14
  refine js_aload_n (n := 18) X (dg dc_P_append 9 rfl) rfl rfl rfl ?_
  refine js_getf (j := 0) (v := .ref 2) (n := 21) X (dg dc_P_append 10 rfl) rfl hC_P (Nat.le_of_ble_eq_true rfl) hw_1 rfl rfl ?_
  refine js_iload_n (n := 22) X (dg dc_P_append 11 rfl) rfl rfl rfl ?_
  refine js_dup2 (n := 23) X (dg dc_P_append 12 rfl) rfl rfl rfl ?_
  refine js_iaload (f := P_14.1) (n := 24) X (dg dc_P_append 13 rfl) rfl rfl ?_
  refine js_iconst (n := 25) 1 X (dg dc_P_append 14 rfl) rfl (by decide) ?_
  refine js_iadd (n := 26) X (dg dc_P_append 15 rfl) rfl ?_
  refine js_iastore (f := P_14.1) (n := 27) X (dg dc_P_append 16 rfl) rfl rfl ?_
  refine js_aload_n (n := 28) X (dg dc_P_append 17 rfl) rfl rfl rfl ?_
  refine js_iload (n := 30) X (dg dc_P_append 18 rfl) rfl rfl ?_
  refine js_iconst (n := 31) 1 X (dg dc_P_append 19 rfl) rfl (by decide) ?_
  refine js_callV (na := 2) (ci := 1) (n := 34) X (dg dc_P_append 20 rfl) rfl (c_P_renumber_1 l Dv fu (((upd P_14.1 (ix a1) ((P_14.1 (ix a1)) + 1)), P_14.2), h.2) r out ((upd P_14.1 (ix a1) ((P_14.1 (ix a1)) + 1)), P_14.2) r2 1) gV_P_45 rfl rfl hy_P_renumber ⟨(Nat.le_of_ble_eq_true rfl), (Nat.le_of_ble_eq_true rfl)⟩ rfl ⟨(Nat.le_of_ble_eq_true rfl), (Nat.le_of_ble_eq_true rfl)⟩ rfl rfl rfl rfl rfl ?_
  intro P_31
  refine js_aload_n (n := 35) X (dg dc_P_append 21 rfl) rfl rfl rfl ?_
  refine js_iload (n := 37) X (dg dc_P_append 22 rfl) rfl rfl ?_
  refine js_iload_n (n := 38) X (dg dc_P_append 23 rfl) rfl rfl rfl ?_
  refine js_iload_n (n := 39) X (dg dc_P_append 24 rfl) rfl rfl rfl ?_
  refine js_iload (n := 41) X (dg dc_P_append 25 rfl) rfl rfl ?_
  refine js_callV (na := 4) (ci := 1) (n := 44) X (dg dc_P_append 26 rfl) rfl (c_P_put_1 l Dv fu (P_31, h.2) r out P_31 r2 a2 a3 a4) gV_P_48 rfl rfl hy_P_put ⟨(Nat.le_of_ble_eq_true rfl), (Nat.le_of_ble_eq_true rfl)⟩ rfl ⟨(Nat.le_of_ble_eq_true rfl), (Nat.le_of_ble_eq_true rfl)⟩ rfl rfl rfl rfl rfl ?_
  intro P_41
  exact js_retV X (dg dc_P_append 27 rfl) rfl (Nat.le_of_ble_eq_true rfl) (Nat.le_of_ble_eq_true rfl) rfl
set_option maxRecDepth 100000 in
set_option maxHeartbeats 4000000 in
theorem jl_P_isNeeded_1_L7 (l : Launch) (Dv : va_G) (fu : Nat) (h : S_H) (r : S_R) (out : Nat → Int64) (κ : ev_ka) (X : ev_X l Dv gaX mu_P_isNeeded κ) (P : S_P) : ∀ (n : Nat) (v1 : Int32) (v2 : Int32) (v3 : Int32), ev_J l Dv gaX mu_P_isNeeded κ 7 0 0 [some (.ref 1), some (.int v1), some (.int v2), some (.int v3)] [] (hpW (P, h.2) r out) (f_P_isNeeded_L7 fu P n v1 v2 v3) (fun q => (some (.int q), hpW (P, h.2) r out)) := by
  intro n
  induction n with
  | zero => exact fun _ _ _ => js_none
  | succ n ih =>
    intro v1 v2 v3
    unfold f_P_isNeeded_L7
    refine js_iload_n (n := 8) X (dg dc_P_isNeeded 5 rfl) rfl rfl rfl ?_
    refine js_iload_n (n := 9) X (dg dc_P_isNeeded 6 rfl) rfl rfl rfl ?_
    refine js_icmp_ge (t := 33) (n := 12) X (dg dc_P_isNeeded 7 rfl) (by decide) rfl ?_ ?_
    · refine js_iconst (n := 34) 0 X (dg dc_P_isNeeded 20 rfl) rfl (by decide) ?_
      exact js_retZ X (dg dc_P_isNeeded 21 rfl) rfl (Nat.le_of_ble_eq_true rfl) (Nat.le_of_ble_eq_true rfl) rfl
    refine js_aload_n (n := 13) X (dg dc_P_isNeeded 8 rfl) rfl rfl rfl ?_
    refine js_getf (j := 3) (v := .ref 5) (n := 16) X (dg dc_P_isNeeded 9 rfl) rfl hC_P (Nat.le_of_ble_eq_true rfl) hw_20 rfl rfl ?_
    refine js_iload_n (n := 17) X (dg dc_P_isNeeded 10 rfl) rfl rfl rfl ?_
    refine js_iaload (f := P.2.2.2) (n := 18) X (dg dc_P_isNeeded 11 rfl) rfl rfl ?_
    refine js_bipush (n := 20) 8 X (dg dc_P_isNeeded 12 rfl) rfl (by decide) ?_
    refine js_iload_n (n := 21) X (dg dc_P_isNeeded 13 rfl) rfl rfl rfl ?_
    refine js_iadd (n := 22) X (dg dc_P_isNeeded 14 rfl) rfl ?_
    refine js_icmp_ne (t := 27) (n := 25) X (dg dc_P_isNeeded 15 rfl) (by decide) rfl ?_ ?_
    · refine js_iinc (lo' := [some (.ref 1), some (.int v1), some (.int v2), some (.int (v3 + 1))]) (n := 30) 1 X (dg dc_P_isNeeded 18 rfl) rfl (by decide) (Nat.le_of_ble_eq_true rfl) rfl rfl ?_
      refine js_goto (t := 7) X (dg dc_P_isNeeded 19 rfl) (by decide) ?_
      exact js_keep [true, true, true, true] (ih v1 v2 (v3 + 1))
    refine js_iconst (n := 26) 1 X (dg dc_P_isNeeded 16 rfl) rfl (by decide) ?_
    exact js_retZ X (dg dc_P_isNeeded 17 rfl) rfl (Nat.le_of_ble_eq_true rfl) (Nat.le_of_ble_eq_true rfl) rfl
set_option maxRecDepth 100000 in
set_option maxHeartbeats 4000000 in
theorem c_P_isNeeded_1 (l : Launch) (Dv : va_G) (fu : Nat) (h : S_H) (r : S_R) (out : Nat → Int64) (P : S_P) (a1 : Int32) : ev_M l Dv gaX mu_P_isNeeded [.ref 1, .int a1] (hpW (P, h.2) r out) (f_P_isNeeded fu P a1) (fun q => (some (.int q), hpW (P, h.2) r out)) := by
  refine ev_met (lo0 := [some (.ref 1), some (.int a1), none, none]) rfl rfl rfl (fun κ X => ?_)
  unfold f_P_isNeeded
  refine js_aload_n (n := 1) X (dg dc_P_isNeeded 0 rfl) rfl rfl rfl ?_
  refine js_callV (na := 0) (ci := 1) (n := 4) X (dg dc_P_isNeeded 1 rfl) rfl (c_P_size_1 l Dv fu (P, h.2) r out P) gV_P_31 rfl rfl hy_P_size ⟨(Nat.le_of_ble_eq_true rfl), (Nat.le_of_ble_eq_true rfl)⟩ rfl ⟨(Nat.le_of_ble_eq_true rfl), (Nat.le_of_ble_eq_true rfl)⟩ rfl rfl rfl rfl rfl ?_
  intro r1
  refine js_istore_n (lo' := [some (.ref 1), some (.int a1), some (.int r1), none]) (n := 5) X (dg dc_P_isNeeded 2 rfl) rfl rfl (Nat.le_of_ble_eq_true rfl) rfl ?_
  refine js_iconst (n := 6) 0 X (dg dc_P_isNeeded 3 rfl) rfl (by decide) ?_
  refine js_istore_n (lo' := [some (.ref 1), some (.int a1), some (.int r1), some (.int 0)]) (n := 7) X (dg dc_P_isNeeded 4 rfl) rfl rfl (Nat.le_of_ble_eq_true rfl) rfl ?_
  exact js_keep [true, true, true, true] (jl_P_isNeeded_1_L7 l Dv fu h r out κ X P fu a1 r1 0)
set_option maxRecDepth 100000 in
set_option maxHeartbeats 4000000 in
theorem jl_P_remove_1_L78 (l : Launch) (Dv : va_G) (fu : Nat) (h : S_H) (r : S_R) (out : Nat → Int64) (κ : ev_ka) (X : ev_X l Dv gaX mu_P_remove κ) (P : S_P) (v1 : Int32) : ev_J l Dv gaX mu_P_remove κ 78 0 0 [some (.ref 1), some (.int v1), none, none] [] (hpW (P, h.2) r out) (f_P_remove_L78 fu P v1) (fun q => (some (.int q.1), hpW (q.2, h.2) r out)) := by
  unfold f_P_remove_L78
  refine js_aload_n (n := 79) X (dg dc_P_remove 50 rfl) rfl rfl rfl ?_
  refine js_iload_n (n := 80) X (dg dc_P_remove 51 rfl) rfl rfl rfl ?_
  refine js_iconst (n := 81) 1 X (dg dc_P_remove 52 rfl) rfl (by decide) ?_
  refine js_iadd (n := 82) X (dg dc_P_remove 53 rfl) rfl ?_
  refine js_iconst (n := 83) (-1) X (dg dc_P_remove 54 rfl) rfl (by decide) ?_
  refine js_callV (na := 2) (ci := 1) (n := 86) X (dg dc_P_remove 55 rfl) rfl (c_P_renumber_1 l Dv fu (P, h.2) r out P (v1 + 1) (-1)) gV_P_45 rfl rfl hy_P_renumber ⟨(Nat.le_of_ble_eq_true rfl), (Nat.le_of_ble_eq_true rfl)⟩ rfl ⟨(Nat.le_of_ble_eq_true rfl), (Nat.le_of_ble_eq_true rfl)⟩ rfl rfl rfl rfl rfl ?_
  intro P_83
  refine js_iconst (n := 87) 1 X (dg dc_P_remove 56 rfl) rfl (by decide) ?_
  exact js_retZ X (dg dc_P_remove 57 rfl) rfl (Nat.le_of_ble_eq_true rfl) (Nat.le_of_ble_eq_true rfl) rfl
set_option maxRecDepth 100000 in
set_option maxHeartbeats 4000000 in
theorem jl_P_remove_1_L42 (l : Launch) (Dv : va_G) (fu : Nat) (h : S_H) (r : S_R) (out : Nat → Int64) (κ : ev_ka) (X : ev_X l Dv gaX mu_P_remove κ) : ∀ (n : Nat) (P : S_P) (v1 : Int32) (v2 : Int32) (v3 : Int32), ev_J l Dv gaX mu_P_remove κ 42 0 0 [some (.ref 1), some (.int v1), some (.int v2), some (.int v3)] [] (hpW (P, h.2) r out) (f_P_remove_L42 fu n P v1 v2 v3) (fun q => (some (.int q.1), hpW (q.2, h.2) r out)) := by
  intro n
  induction n with
  | zero => exact fun _ _ _ _ => js_none
  | succ n ih =>
    intro P v1 v2 v3
    unfold f_P_remove_L42
    refine js_iload_n (n := 43) X (dg dc_P_remove 28 rfl) rfl rfl rfl ?_
    refine js_iload_n (n := 44) X (dg dc_P_remove 29 rfl) rfl rfl rfl ?_
    refine js_icmp_ge (t := 78) (n := 47) X (dg dc_P_remove 30 rfl) (by decide) rfl ?_ ?_
    · exact js_keep [true, true, false, false] (jl_P_remove_1_L78 l Dv fu h r out κ X P v1)
    refine js_aload_n (n := 48) X (dg dc_P_remove 31 rfl) rfl rfl rfl ?_
    refine js_iload_n (n := 49) X (dg dc_P_remove 32 rfl) rfl rfl rfl ?_
    refine js_iconst (n := 50) 1 X (dg dc_P_remove 33 rfl) rfl (by decide) ?_
    refine js_isub (n := 51) X (dg dc_P_remove 34 rfl) rfl ?_
    refine js_aload_n (n := 52) X (dg dc_P_remove 35 rfl) rfl rfl rfl ?_
    refine js_getf (j := 1) (v := .ref 3) (n := 55) X (dg dc_P_remove 36 rfl) rfl hC_P (Nat.le_of_ble_eq_true rfl) hw_14 rfl rfl ?_
    refine js_iload_n (n := 56) X (dg dc_P_remove 37 rfl) rfl rfl rfl ?_
    refine js_iaload (f := P.2.1) (n := 57) X (dg dc_P_remove 38 rfl) rfl rfl ?_
    refine js_aload_n (n := 58) X (dg dc_P_remove 39 rfl) rfl rfl rfl ?_
    refine js_getf (j := 2) (v := .ref 4) (n := 61) X (dg dc_P_remove 40 rfl) rfl hC_P (Nat.le_of_ble_eq_true rfl) hw_19 rfl rfl ?_
    refine js_iload_n (n := 62) X (dg dc_P_remove 41 rfl) rfl rfl rfl ?_
    refine js_iaload (f := P.2.2.1) (n := 63) X (dg dc_P_remove 42 rfl) rfl rfl ?_
    refine js_aload_n (n := 64) X (dg dc_P_remove 43 rfl) rfl rfl rfl ?_
    refine js_getf (j := 3) (v := .ref 5) (n := 67) X (dg dc_P_remove 44 rfl) rfl hC_P (Nat.le_of_ble_eq_true rfl) hw_20 rfl rfl ?_
    refine js_iload_n (n := 68) X (dg dc_P_remove 45 rfl) rfl rfl rfl ?_
    refine js_iaload (f := P.2.2.2) (n := 69) X (dg dc_P_remove 46 rfl) rfl rfl ?_
    refine js_callV (na := 4) (ci := 1) (n := 72) X (dg dc_P_remove 47 rfl) rfl (c_P_put_1 l Dv fu (P, h.2) r out P (v3 - 1) (P.2.1 (ix v3)) (P.2.2.1 (ix v3)) (P.2.2.2 (ix v3))) gV_P_48 rfl rfl hy_P_put ⟨(Nat.le_of_ble_eq_true rfl), (Nat.le_of_ble_eq_true rfl)⟩ rfl ⟨(Nat.le_of_ble_eq_true rfl), (Nat.le_of_ble_eq_true rfl)⟩ rfl rfl rfl rfl rfl ?_
    intro P_69
    refine js_iinc (lo' := [some (.ref 1), some (.int v1), some (.int v2), some (.int (v3 + 1))]) (n := 75) 1 X (dg dc_P_remove 48 rfl) rfl (by decide) (Nat.le_of_ble_eq_true rfl) rfl rfl ?_
    refine js_goto (t := 42) X (dg dc_P_remove 49 rfl) (by decide) ?_
    exact js_keep [true, true, true, true] (ih P_69 v1 v2 (v3 + 1))
set_option maxRecDepth 100000 in
set_option maxHeartbeats 4000000 in
theorem c_P_remove_1 (l : Launch) (Dv : va_G) (fu : Nat) (h : S_H) (r : S_R) (out : Nat → Int64) (P : S_P) (a1 : Int32) : ev_M l Dv gaX mu_P_remove [.ref 1, .int a1] (hpW (P, h.2) r out) (f_P_remove fu P a1) (fun q => (some (.int q.1), hpW (q.2, h.2) r out)) := by
  refine ev_met (lo0 := [some (.ref 1), some (.int a1), none, none]) rfl rfl rfl (fun κ X => ?_)
  unfold f_P_remove
  refine js_aload_n (n := 1) X (dg dc_P_remove 0 rfl) rfl rfl rfl ?_
  refine js_callV (na := 0) (ci := 1) (n := 4) X (dg dc_P_remove 1 rfl) rfl (c_P_size_1 l Dv fu (P, h.2) r out P) gV_P_31 rfl rfl hy_P_size ⟨(Nat.le_of_ble_eq_true rfl), (Nat.le_of_ble_eq_true rfl)⟩ rfl ⟨(Nat.le_of_ble_eq_true rfl), (Nat.le_of_ble_eq_true rfl)⟩ rfl rfl rfl rfl rfl ?_
  intro r1
  refine js_istore_n (lo' := [some (.ref 1), some (.int a1), some (.int r1), none]) (n := 5) X (dg dc_P_remove 2 rfl) rfl rfl (Nat.le_of_ble_eq_true rfl) rfl ?_
  refine js_iload_n (n := 6) X (dg dc_P_remove 3 rfl) rfl rfl rfl ?_
  refine js_if_lt (t := 22) (n := 9) X (dg dc_P_remove 4 rfl) (by decide) rfl ?_ ?_
  · refine js_iconst (n := 23) 0 X (dg dc_P_remove 12 rfl) rfl (by decide) ?_
    exact js_retZ X (dg dc_P_remove 13 rfl) rfl (Nat.le_of_ble_eq_true rfl) (Nat.le_of_ble_eq_true rfl) rfl
  refine js_iload_n (n := 10) X (dg dc_P_remove 5 rfl) rfl rfl rfl ?_
  refine js_iload_n (n := 11) X (dg dc_P_remove 6 rfl) rfl rfl rfl ?_
  refine js_icmp_ge (t := 22) (n := 14) X (dg dc_P_remove 7 rfl) (by decide) rfl ?_ ?_
  · refine js_iconst (n := 23) 0 X (dg dc_P_remove 12 rfl) rfl (by decide) ?_
    exact js_retZ X (dg dc_P_remove 13 rfl) rfl (Nat.le_of_ble_eq_true rfl) (Nat.le_of_ble_eq_true rfl) rfl
  refine js_aload_n (n := 15) X (dg dc_P_remove 8 rfl) rfl rfl rfl ?_
  refine js_iload_n (n := 16) X (dg dc_P_remove 9 rfl) rfl rfl rfl ?_
  refine js_callV (na := 1) (ci := 1) (n := 19) X (dg dc_P_remove 10 rfl) rfl (c_P_isNeeded_1 l Dv fu (P, h.2) r out P a1) gV_P_52 rfl rfl hy_P_isNeeded ⟨(Nat.le_of_ble_eq_true rfl), (Nat.le_of_ble_eq_true rfl)⟩ rfl ⟨(Nat.le_of_ble_eq_true rfl), (Nat.le_of_ble_eq_true rfl)⟩ rfl rfl rfl rfl rfl ?_
  intro r16
  refine js_if_eq (t := 24) (n := 22) X (dg dc_P_remove 11 rfl) (by decide) rfl ?_ ?_
  · refine js_aload_n (n := 25) X (dg dc_P_remove 14 rfl) rfl rfl rfl ?_
    refine js_getf (j := 0) (v := .ref 2) (n := 28) X (dg dc_P_remove 15 rfl) rfl hC_P (Nat.le_of_ble_eq_true rfl) hw_1 rfl rfl ?_
    refine js_aload_n (n := 29) X (dg dc_P_remove 16 rfl) rfl rfl rfl ?_
    refine js_iload_n (n := 30) X (dg dc_P_remove 17 rfl) rfl rfl rfl ?_
    refine js_callV (na := 1) (ci := 1) (n := 33) X (dg dc_P_remove 18 rfl) rfl (c_P_branchOf_1 l Dv fu (P, h.2) r out P a1) gV_P_56 rfl rfl hy_P_branchOf ⟨(Nat.le_of_ble_eq_true rfl), (Nat.le_of_ble_eq_true rfl)⟩ rfl ⟨(Nat.le_of_ble_eq_true rfl), (Nat.le_of_ble_eq_true rfl)⟩ rfl rfl rfl rfl rfl ?_
    intro r30
    refine js_dup2 (n := 34) X (dg dc_P_remove 19 rfl) rfl rfl rfl ?_
    refine js_iaload (f := P.1) (n := 35) X (dg dc_P_remove 20 rfl) rfl rfl ?_
    refine js_iconst (n := 36) 1 X (dg dc_P_remove 21 rfl) rfl (by decide) ?_
    refine js_isub (n := 37) X (dg dc_P_remove 22 rfl) rfl ?_
    refine js_iastore (f := P.1) (n := 38) X (dg dc_P_remove 23 rfl) rfl rfl ?_
    refine js_iload_n (n := 39) X (dg dc_P_remove 24 rfl) rfl rfl rfl ?_
    refine js_iconst (n := 40) 1 X (dg dc_P_remove 25 rfl) rfl (by decide) ?_
    refine js_iadd (n := 41) X (dg dc_P_remove 26 rfl) rfl ?_
    refine js_istore_n (lo' := [some (.ref 1), some (.int a1), some (.int r1), some (.int (a1 + 1))]) (n := 42) X (dg dc_P_remove 27 rfl) rfl rfl (Nat.le_of_ble_eq_true rfl) rfl ?_
    exact js_keep [true, true, true, true] (jl_P_remove_1_L42 l Dv fu h r out κ X fu ((upd P.1 (ix r30) ((P.1 (ix r30)) - 1)), P.2) a1 r1 (a1 + 1))
  refine js_iconst (n := 23) 0 X (dg dc_P_remove 12 rfl) rfl (by decide) ?_
  exact js_retZ X (dg dc_P_remove 13 rfl) rfl (Nat.le_of_ble_eq_true rfl) (Nat.le_of_ble_eq_true rfl) rfl
set_option maxRecDepth 100000 in
set_option maxHeartbeats 4000000 in
theorem jl_P_promote_1_L102 (l : Launch) (Dv : va_G) (fu : Nat) (h : S_H) (r : S_R) (out : Nat → Int64) (κ : ev_ka) (X : ev_X l Dv gaX mu_P_promote κ) : ∀ (n : Nat) (P : S_P) (v2 : Int32) (v3 : Int32) (v7 : Int32) (v8 : Int32), ev_J l Dv gaX mu_P_promote κ 102 0 0 [some (.ref 1), none, some (.int v2), some (.int v3), none, none, none, some (.int v7), some (.int v8), none] [] (hpW (P, h.2) r out) (f_P_promote_L102 fu n P v2 v3 v7 v8) (fun q => (some (.int q.1), hpW (q.2, h.2) r out)) := by
  intro n
  induction n with
  | zero => exact fun _ _ _ _ _ => js_none
  | succ n ih =>
    intro P v2 v3 v7 v8
    unfold f_P_promote_L102
    refine js_iload (n := 104) X (dg dc_P_promote 66 rfl) rfl rfl ?_
    refine js_iload (n := 106) X (dg dc_P_promote 67 rfl) rfl rfl ?_
    refine js_icmp_ge (t := 170) (n := 109) X (dg dc_P_promote 68 rfl) (by decide) rfl ?_ ?_
    · refine js_iconst (n := 171) 1 X (dg dc_P_promote 103 rfl) rfl (by decide) ?_
      exact js_retZ X (dg dc_P_promote 104 rfl) rfl (Nat.le_of_ble_eq_true rfl) (Nat.le_of_ble_eq_true rfl) rfl
    refine js_aload_n (n := 110) X (dg dc_P_promote 69 rfl) rfl rfl rfl ?_
    refine js_getf (j := 3) (v := .ref 5) (n := 113) X (dg dc_P_promote 70 rfl) rfl hC_P (Nat.le_of_ble_eq_true rfl) hw_20 rfl rfl ?_
    refine js_iload (n := 115) X (dg dc_P_promote 71 rfl) rfl rfl ?_
    refine js_iaload (f := P.2.2.2) (n := 116) X (dg dc_P_promote 72 rfl) rfl rfl ?_
    refine js_bipush (n := 118) 8 X (dg dc_P_promote 73 rfl) rfl (by decide) ?_
    refine js_isub (n := 119) X (dg dc_P_promote 74 rfl) rfl ?_
    refine js_istore (lo' := [some (.ref 1), none, some (.int v2), some (.int v3), none, none, none, some (.int v7), some (.int v8), some (.int ((P.2.2.2 (ix v8)) - 8))]) (n := 121) X (dg dc_P_promote 75 rfl) rfl (Nat.le_of_ble_eq_true rfl) rfl ?_
    refine js_iload (n := 123) X (dg dc_P_promote 76 rfl) rfl rfl ?_
    refine js_iload_n (n := 124) X (dg dc_P_promote 77 rfl) rfl rfl rfl ?_
    refine js_icmp_ne (t := 141) (n := 127) X (dg dc_P_promote 78 rfl) (by decide) rfl ?_ ?_
    · refine js_iload (n := 143) X (dg dc_P_promote 87 rfl) rfl rfl ?_
      refine js_iload_n (n := 144) X (dg dc_P_promote 88 rfl) rfl rfl rfl ?_
      refine js_icmp_lt (t := 164) (n := 147) X (dg dc_P_promote 89 rfl) (by decide) rfl ?_ ?_
      · refine js_iinc (lo' := [some (.ref 1), none, some (.int v2), some (.int v3), none, none, none, some (.int v7), some (.int (v8 + 1)), some (.int ((P.2.2.2 (ix v8)) - 8))]) (n := 167) 1 X (dg dc_P_promote 101 rfl) rfl (by decide) (Nat.le_of_ble_eq_true rfl) rfl rfl ?_
        refine js_goto (t := 102) X (dg dc_P_promote 102 rfl) (by decide) ?_
        exact js_keep [true, false, true, true, false, false, false, true, true, false] (ih P v2 v3 v7 (v8 + 1))
      refine js_iload (n := 149) X (dg dc_P_promote 90 rfl) rfl rfl ?_
      refine js_iload_n (n := 150) X (dg dc_P_promote 91 rfl) rfl rfl rfl ?_
      refine js_icmp_ge (t := 164) (n := 153) X (dg dc_P_promote 92 rfl) (by decide) rfl ?_ ?_
      · refine js_iinc (lo' := [some (.ref 1), none, some (.int v2), some (.int v3), none, none, none, some (.int v7), some (.int (v8 + 1)), some (.int ((P.2.2.2 (ix v8)) - 8))]) (n := 167) 1 X (dg dc_P_promote 101 rfl) rfl (by decide) (Nat.le_of_ble_eq_true rfl) rfl rfl ?_
        refine js_goto (t := 102) X (dg dc_P_promote 102 rfl) (by decide) ?_
        exact js_keep [true, false, true, true, false, false, false, true, true, false] (ih P v2 v3 v7 (v8 + 1))
      refine js_aload_n (n := 154) X (dg dc_P_promote 93 rfl) rfl rfl rfl ?_
      refine js_getf (j := 3) (v := .ref 5) (n := 157) X (dg dc_P_promote 94 rfl) rfl hC_P (Nat.le_of_ble_eq_true rfl) hw_20 rfl rfl ?_
      refine js_iload (n := 159) X (dg dc_P_promote 95 rfl) rfl rfl ?_
      refine js_dup2 (n := 160) X (dg dc_P_promote 96 rfl) rfl rfl rfl ?_
      refine js_iaload (f := P.2.2.2) (n := 161) X (dg dc_P_promote 97 rfl) rfl rfl ?_
      refine js_iconst (n := 162) 1 X (dg dc_P_promote 98 rfl) rfl (by decide) ?_
      refine js_iadd (n := 163) X (dg dc_P_promote 99 rfl) rfl ?_
      refine js_iastore (f := P.2.2.2) (n := 164) X (dg dc_P_promote 100 rfl) rfl rfl ?_
      refine js_iinc (lo' := [some (.ref 1), none, some (.int v2), some (.int v3), none, none, none, some (.int v7), some (.int (v8 + 1)), some (.int ((P.2.2.2 (ix v8)) - 8))]) (n := 167) 1 X (dg dc_P_promote 101 rfl) rfl (by decide) (Nat.le_of_ble_eq_true rfl) rfl rfl ?_
      refine js_goto (t := 102) X (dg dc_P_promote 102 rfl) (by decide) ?_
      exact js_keep [true, false, true, true, false, false, false, true, true, false] (ih (P.1, P.2.1, P.2.2.1, (upd P.2.2.2 (ix v8) ((P.2.2.2 (ix v8)) + 1))) v2 v3 v7 (v8 + 1))
    refine js_aload_n (n := 128) X (dg dc_P_promote 79 rfl) rfl rfl rfl ?_
    refine js_getf (j := 3) (v := .ref 5) (n := 131) X (dg dc_P_promote 80 rfl) rfl hC_P (Nat.le_of_ble_eq_true rfl) hw_20 rfl rfl ?_
    refine js_iload (n := 133) X (dg dc_P_promote 81 rfl) rfl rfl ?_
    refine js_bipush (n := 135) 8 X (dg dc_P_promote 82 rfl) rfl (by decide) ?_
    refine js_iload_n (n := 136) X (dg dc_P_promote 83 rfl) rfl rfl rfl ?_
    refine js_iadd (n := 137) X (dg dc_P_promote 84 rfl) rfl ?_
    refine js_iastore (f := P.2.2.2) (n := 138) X (dg dc_P_promote 85 rfl) rfl rfl ?_
    refine js_goto (t := 164) X (dg dc_P_promote 86 rfl) (by decide) ?_
    refine js_iinc (lo' := [some (.ref 1), none, some (.int v2), some (.int v3), none, none, none, some (.int v7), some (.int (v8 + 1)), some (.int ((P.2.2.2 (ix v8)) - 8))]) (n := 167) 1 X (dg dc_P_promote 101 rfl) rfl (by decide) (Nat.le_of_ble_eq_true rfl) rfl rfl ?_
    refine js_goto (t := 102) X (dg dc_P_promote 102 rfl) (by decide) ?_
    exact js_keep [true, false, true, true, false, false, false, true, true, false] (ih (P.1, P.2.1, P.2.2.1, (upd P.2.2.2 (ix v8) (8 + v3))) v2 v3 v7 (v8 + 1))
set_option maxRecDepth 100000 in
set_option maxHeartbeats 4000000 in
theorem c_P_promote_1 (l : Launch) (Dv : va_G) (fu : Nat) (h : S_H) (r : S_R) (out : Nat → Int64) (P : S_P) (a1 : Int32) : ev_M l Dv gaX mu_P_promote [.ref 1, .int a1] (hpW (P, h.2) r out) (f_P_promote fu P a1) (fun q => (some (.int q.1), hpW (q.2, h.2) r out)) := by
  refine ev_met (lo0 := [some (.ref 1), some (.int a1), none, none, none, none, none, none, none, none]) rfl rfl rfl (fun κ X => ?_)
  unfold f_P_promote
  refine js_aload_n (n := 1) X (dg dc_P_promote 0 rfl) rfl rfl rfl ?_
  refine js_getf (j := 0) (v := .ref 2) (n := 4) X (dg dc_P_promote 1 rfl) rfl hC_P (Nat.le_of_ble_eq_true rfl) hw_1 rfl rfl ?_
  refine js_iload_n (n := 5) X (dg dc_P_promote 2 rfl) rfl rfl rfl ?_
  refine js_iaload (f := P.1) (n := 6) X (dg dc_P_promote 3 rfl) rfl rfl ?_
  refine js_if_eq (t := 17) (n := 9) X (dg dc_P_promote 4 rfl) (by decide) rfl ?_ ?_
  · refine js_iconst (n := 18) 0 X (dg dc_P_promote 9 rfl) rfl (by decide) ?_
    exact js_retZ X (dg dc_P_promote 10 rfl) rfl (Nat.le_of_ble_eq_true rfl) (Nat.le_of_ble_eq_true rfl) rfl
  refine js_aload_n (n := 10) X (dg dc_P_promote 5 rfl) rfl rfl rfl ?_
  refine js_iconst (n := 11) 0 X (dg dc_P_promote 6 rfl) rfl (by decide) ?_
  refine js_callV (na := 1) (ci := 1) (n := 14) X (dg dc_P_promote 7 rfl) rfl (c_P_hasRoom_1 l Dv fu (P, h.2) r out P 0) gV_P_59 rfl rfl hy_P_hasRoom ⟨(Nat.le_of_ble_eq_true rfl), (Nat.le_of_ble_eq_true rfl)⟩ rfl ⟨(Nat.le_of_ble_eq_true rfl), (Nat.le_of_ble_eq_true rfl)⟩ rfl rfl rfl rfl rfl ?_
  intro r11
  refine js_if_ne (t := 19) (n := 17) X (dg dc_P_promote 8 rfl) (by decide) rfl ?_ ?_
  · refine js_aload_n (n := 20) X (dg dc_P_promote 11 rfl) rfl rfl rfl ?_
    refine js_iload_n (n := 21) X (dg dc_P_promote 12 rfl) rfl rfl rfl ?_
    refine js_callV (na := 1) (ci := 1) (n := 24) X (dg dc_P_promote 13 rfl) rfl (c_P_start_1 l Dv fu (P, h.2) r out P a1) gV_P_24 rfl rfl hy_P_start ⟨(Nat.le_of_ble_eq_true rfl), (Nat.le_of_ble_eq_true rfl)⟩ rfl ⟨(Nat.le_of_ble_eq_true rfl), (Nat.le_of_ble_eq_true rfl)⟩ rfl rfl rfl rfl rfl ?_
    intro r21
    refine js_istore_n (lo' := [some (.ref 1), some (.int a1), some (.int r21), none, none, none, none, none, none, none]) (n := 25) X (dg dc_P_promote 14 rfl) rfl rfl (Nat.le_of_ble_eq_true rfl) rfl ?_
    refine js_aload_n (n := 26) X (dg dc_P_promote 15 rfl) rfl rfl rfl ?_
    refine js_getf (j := 0) (v := .ref 2) (n := 29) X (dg dc_P_promote 16 rfl) rfl hC_P (Nat.le_of_ble_eq_true rfl) hw_1 rfl rfl ?_
    refine js_iconst (n := 30) 0 X (dg dc_P_promote 17 rfl) rfl (by decide) ?_
    refine js_iaload (f := P.1) (n := 31) X (dg dc_P_promote 18 rfl) rfl rfl ?_
    refine js_istore_n (lo' := [some (.ref 1), some (.int a1), some (.int r21), some (.int (P.1 (ix 0))), none, none, none, none, none, none]) (n := 32) X (dg dc_P_promote 19 rfl) rfl rfl (Nat.le_of_ble_eq_true rfl) rfl ?_
    refine js_aload_n (n := 33) X (dg dc_P_promote 20 rfl) rfl rfl rfl ?_
    refine js_getf (j := 1) (v := .ref 3) (n := 36) X (dg dc_P_promote 21 rfl) rfl hC_P (Nat.le_of_ble_eq_true rfl) hw_14 rfl rfl ?_
    refine js_iload_n (n := 37) X (dg dc_P_promote 22 rfl) rfl rfl rfl ?_
    refine js_iaload (f := P.2.1) (n := 38) X (dg dc_P_promote 23 rfl) rfl rfl ?_
    refine js_istore (lo' := [some (.ref 1), some (.int a1), some (.int r21), some (.int (P.1 (ix 0))), some (.int (P.2.1 (ix r21))), none, none, none, none, none]) (n := 40) X (dg dc_P_promote 24 rfl) rfl (Nat.le_of_ble_eq_true rfl) rfl ?_
    refine js_aload_n (n := 41) X (dg dc_P_promote 25 rfl) rfl rfl rfl ?_
    refine js_getf (j := 2) (v := .ref 4) (n := 44) X (dg dc_P_promote 26 rfl) rfl hC_P (Nat.le_of_ble_eq_true rfl) hw_19 rfl rfl ?_
    refine js_iload_n (n := 45) X (dg dc_P_promote 27 rfl) rfl rfl rfl ?_
    refine js_iaload (f := P.2.2.1) (n := 46) X (dg dc_P_promote 28 rfl) rfl rfl ?_
    refine js_istore (lo' := [some (.ref 1), some (.int a1), some (.int r21), some (.int (P.1 (ix 0))), some (.int (P.2.1 (ix r21))), some (.int (P.2.2.1 (ix r21))), none, none, none, none]) (n := 48) X (dg dc_P_promote 29 rfl) rfl (Nat.le_of_ble_eq_true rfl) rfl ?_
    refine js_aload_n (n := 49) X (dg dc_P_promote 30 rfl) rfl rfl rfl ?_
    refine js_getf (j := 3) (v := .ref 5) (n := 52) X (dg dc_P_promote 31 rfl) rfl hC_P (Nat.le_of_ble_eq_true rfl) hw_20 rfl rfl ?_
    refine js_iload_n (n := 53) X (dg dc_P_promote 32 rfl) rfl rfl rfl ?_
    refine js_iaload (f := P.2.2.2) (n := 54) X (dg dc_P_promote 33 rfl) rfl rfl ?_
    refine js_istore (lo' := [some (.ref 1), some (.int a1), some (.int r21), some (.int (P.1 (ix 0))), some (.int (P.2.1 (ix r21))), some (.int (P.2.2.1 (ix r21))), some (.int (P.2.2.2 (ix r21))), none, none, none]) (n := 56) X (dg dc_P_promote 34 rfl) rfl (Nat.le_of_ble_eq_true rfl) rfl ?_
    refine js_aload_n (n := 57) X (dg dc_P_promote 35 rfl) rfl rfl rfl ?_
    refine js_iload_n (n := 58) X (dg dc_P_promote 36 rfl) rfl rfl rfl ?_
    refine js_iload_n (n := 59) X (dg dc_P_promote 37 rfl) rfl rfl rfl ?_
    refine js_callV (na := 2) (ci := 1) (n := 62) X (dg dc_P_promote 38 rfl) rfl (c_P_shiftUp_1 l Dv fu (P, h.2) r out P (P.1 (ix 0)) r21) gV_P_41 rfl rfl hy_P_shiftUp ⟨(Nat.le_of_ble_eq_true rfl), (Nat.le_of_ble_eq_true rfl)⟩ rfl ⟨(Nat.le_of_ble_eq_true rfl), (Nat.le_of_ble_eq_true rfl)⟩ rfl rfl rfl rfl rfl ?_
    intro P_59
    refine js_aload_n (n := 63) X (dg dc_P_promote 39 rfl) rfl rfl rfl ?_
    refine js_iload_n (n := 64) X (dg dc_P_promote 40 rfl) rfl rfl rfl ?_
    refine js_iload (n := 66) X (dg dc_P_promote 41 rfl) rfl rfl ?_
    refine js_iload (n := 68) X (dg dc_P_promote 42 rfl) rfl rfl ?_
    refine js_iload (n := 70) X (dg dc_P_promote 43 rfl) rfl rfl ?_
    refine js_callV (na := 4) (ci := 1) (n := 73) X (dg dc_P_promote 44 rfl) rfl (c_P_put_1 l Dv fu (P_59, h.2) r out P_59 (P.1 (ix 0)) (P.2.1 (ix r21)) (P.2.2.1 (ix r21)) (P.2.2.2 (ix r21))) gV_P_48 rfl rfl hy_P_put ⟨(Nat.le_of_ble_eq_true rfl), (Nat.le_of_ble_eq_true rfl)⟩ rfl ⟨(Nat.le_of_ble_eq_true rfl), (Nat.le_of_ble_eq_true rfl)⟩ rfl rfl rfl rfl rfl ?_
    intro P_70
    refine js_aload_n (n := 74) X (dg dc_P_promote 45 rfl) rfl rfl rfl ?_
    refine js_getf (j := 0) (v := .ref 2) (n := 77) X (dg dc_P_promote 46 rfl) rfl hC_P (Nat.le_of_ble_eq_true rfl) hw_1 rfl rfl ?_
    refine js_iload_n (n := 78) X (dg dc_P_promote 47 rfl) rfl rfl rfl ?_
    refine js_dup2 (n := 79) X (dg dc_P_promote 48 rfl) rfl rfl rfl ?_
    refine js_iaload (f := P_70.1) (n := 80) X (dg dc_P_promote 49 rfl) rfl rfl ?_
    refine js_iconst (n := 81) 1 X (dg dc_P_promote 50 rfl) rfl (by decide) ?_
    refine js_isub (n := 82) X (dg dc_P_promote 51 rfl) rfl ?_
    refine js_iastore (f := P_70.1) (n := 83) X (dg dc_P_promote 52 rfl) rfl rfl ?_
    refine js_aload_n (n := 84) X (dg dc_P_promote 53 rfl) rfl rfl rfl ?_
    refine js_getf (j := 0) (v := .ref 2) (n := 87) X (dg dc_P_promote 54 rfl) rfl hC_P (Nat.le_of_ble_eq_true rfl) hw_1 rfl rfl ?_
    refine js_iconst (n := 88) 0 X (dg dc_P_promote 55 rfl) rfl (by decide) ?_
    refine js_dup2 (n := 89) X (dg dc_P_promote 56 rfl) rfl rfl rfl ?_
    refine js_iaload (f := (upd P_70.1 (ix a1) ((P_70.1 (ix a1)) - 1))) (n := 90) X (dg dc_P_promote 57 rfl) rfl rfl ?_
    refine js_iconst (n := 91) 1 X (dg dc_P_promote 58 rfl) rfl (by decide) ?_
    refine js_iadd (n := 92) X (dg dc_P_promote 59 rfl) rfl ?_
    refine js_iastore (f := (upd P_70.1 (ix a1) ((P_70.1 (ix a1)) - 1))) (n := 93) X (dg dc_P_promote 60 rfl) rfl rfl ?_
    refine js_aload_n (n := 94) X (dg dc_P_promote 61 rfl) rfl rfl rfl ?_
    refine js_callV (na := 0) (ci := 1) (n := 97) X (dg dc_P_promote 62 rfl) rfl (c_P_size_1 l Dv fu (((upd (upd P_70.1 (ix a1) ((P_70.1 (ix a1)) - 1)) (ix 0) (((upd P_70.1 (ix a1) ((P_70.1 (ix a1)) - 1)) (ix 0)) + 1)), P_70.2), h.2) r out ((upd (upd P_70.1 (ix a1) ((P_70.1 (ix a1)) - 1)) (ix 0) (((upd P_70.1 (ix a1) ((P_70.1 (ix a1)) - 1)) (ix 0)) + 1)), P_70.2)) gV_P_31 rfl rfl hy_P_size ⟨(Nat.le_of_ble_eq_true rfl), (Nat.le_of_ble_eq_true rfl)⟩ rfl ⟨(Nat.le_of_ble_eq_true rfl), (Nat.le_of_ble_eq_true rfl)⟩ rfl rfl rfl rfl rfl ?_
    intro r94
    refine js_istore (lo' := [some (.ref 1), some (.int a1), some (.int r21), some (.int (P.1 (ix 0))), some (.int (P.2.1 (ix r21))), some (.int (P.2.2.1 (ix r21))), some (.int (P.2.2.2 (ix r21))), some (.int r94), none, none]) (n := 99) X (dg dc_P_promote 63 rfl) rfl (Nat.le_of_ble_eq_true rfl) rfl ?_
    refine js_iconst (n := 100) 0 X (dg dc_P_promote 64 rfl) rfl (by decide) ?_
    refine js_istore (lo' := [some (.ref 1), some (.int a1), some (.int r21), some (.int (P.1 (ix 0))), some (.int (P.2.1 (ix r21))), some (.int (P.2.2.1 (ix r21))), some (.int (P.2.2.2 (ix r21))), some (.int r94), some (.int 0), none]) (n := 102) X (dg dc_P_promote 65 rfl) rfl (Nat.le_of_ble_eq_true rfl) rfl ?_
    exact js_keep [true, false, true, true, false, false, false, true, true, false] (jl_P_promote_1_L102 l Dv fu h r out κ X fu ((upd (upd P_70.1 (ix a1) ((P_70.1 (ix a1)) - 1)) (ix 0) (((upd P_70.1 (ix a1) ((P_70.1 (ix a1)) - 1)) (ix 0)) + 1)), P_70.2) r21 (P.1 (ix 0)) r94 0)
  refine js_iconst (n := 18) 0 X (dg dc_P_promote 9 rfl) rfl (by decide) ?_
  exact js_retZ X (dg dc_P_promote 10 rfl) rfl (Nat.le_of_ble_eq_true rfl) (Nat.le_of_ble_eq_true rfl) rfl
set_option maxRecDepth 100000 in
set_option maxHeartbeats 4000000 in
theorem jl_P_lower_1_L37 (l : Launch) (Dv : va_G) (fu : Nat) (h : S_H) (r : S_R) (out : Nat → Int64) (κ : ev_ka) (X : ev_X l Dv gaX mu_P_lower κ) (P : S_P) (v1 : Int32) (v2 : Int32) (v3 : Int32) (s0 : Int32) (s1 : Int32) : ev_J l Dv gaX mu_P_lower κ 37 0 0 [some (.ref 1), some (.int v1), some (.int v2), some (.int v3)] [.int s1, .int s0] (hpW (P, h.2) r out) (f_P_lower_L37 fu P v1 v2 v3 s0 s1) (fun q => (some (.int q.1), hpW (q.2, h.2) r out)) := by
  unfold f_P_lower_L37
  refine js_icmp_ge (t := 42) (n := 40) X (dg dc_P_lower 22 rfl) (by decide) rfl ?_ ?_
  · refine js_aload_n (n := 43) X (dg dc_P_lower 25 rfl) rfl rfl rfl ?_
    refine js_getf (j := 3) (v := .ref 5) (n := 46) X (dg dc_P_lower 26 rfl) rfl hC_P (Nat.le_of_ble_eq_true rfl) hw_20 rfl rfl ?_
    refine js_iload_n (n := 47) X (dg dc_P_lower 27 rfl) rfl rfl rfl ?_
    refine js_iload_n (n := 48) X (dg dc_P_lower 28 rfl) rfl rfl rfl ?_
    refine js_if_eq (t := 57) (n := 51) X (dg dc_P_lower 29 rfl) (by decide) rfl ?_ ?_
    · refine js_iconst (n := 58) 0 X (dg dc_P_lower 34 rfl) rfl (by decide) ?_
      refine js_iastore (f := P.2.2.2) (n := 59) X (dg dc_P_lower 35 rfl) rfl rfl ?_
      refine js_iconst (n := 60) 1 X (dg dc_P_lower 36 rfl) rfl (by decide) ?_
      exact js_retZ X (dg dc_P_lower 37 rfl) rfl (Nat.le_of_ble_eq_true rfl) (Nat.le_of_ble_eq_true rfl) rfl
    refine js_iload_n (n := 52) X (dg dc_P_lower 30 rfl) rfl rfl rfl ?_
    refine js_iconst (n := 53) 2 X (dg dc_P_lower 31 rfl) rfl (by decide) ?_
    refine js_idiv (n := 54) X (dg dc_P_lower 32 rfl) rfl ?_
    refine js_goto (t := 58) X (dg dc_P_lower 33 rfl) (by decide) ?_
    refine js_iastore (f := P.2.2.2) (n := 59) X (dg dc_P_lower 35 rfl) rfl rfl ?_
    refine js_iconst (n := 60) 1 X (dg dc_P_lower 36 rfl) rfl (by decide) ?_
    exact js_retZ X (dg dc_P_lower 37 rfl) rfl (Nat.le_of_ble_eq_true rfl) (Nat.le_of_ble_eq_true rfl) rfl
  refine js_iconst (n := 41) 0 X (dg dc_P_lower 23 rfl) rfl (by decide) ?_
  exact js_retZ X (dg dc_P_lower 24 rfl) rfl (Nat.le_of_ble_eq_true rfl) (Nat.le_of_ble_eq_true rfl) rfl
set_option maxRecDepth 100000 in
set_option maxHeartbeats 4000000 in
theorem c_P_lower_1 (l : Launch) (Dv : va_G) (fu : Nat) (h : S_H) (r : S_R) (out : Nat → Int64) (P : S_P) (a1 : Int32) (a2 : Int32) : ev_M l Dv gaX mu_P_lower [.ref 1, .int a1, .int a2] (hpW (P, h.2) r out) (f_P_lower fu P a1 a2) (fun q => (some (.int q.1), hpW (q.2, h.2) r out)) := by
  refine ev_met (lo0 := [some (.ref 1), some (.int a1), some (.int a2), none]) rfl rfl rfl (fun κ X => ?_)
  unfold f_P_lower
  refine js_iload_n (n := 1) X (dg dc_P_lower 0 rfl) rfl rfl rfl ?_
  refine js_if_lt (t := 12) (n := 4) X (dg dc_P_lower 1 rfl) (by decide) rfl ?_ ?_
  · refine js_iconst (n := 13) 0 X (dg dc_P_lower 6 rfl) rfl (by decide) ?_
    exact js_retZ X (dg dc_P_lower 7 rfl) rfl (Nat.le_of_ble_eq_true rfl) (Nat.le_of_ble_eq_true rfl) rfl
  refine js_iload_n (n := 5) X (dg dc_P_lower 2 rfl) rfl rfl rfl ?_
  refine js_aload_n (n := 6) X (dg dc_P_lower 3 rfl) rfl rfl rfl ?_
  refine js_callV (na := 0) (ci := 1) (n := 9) X (dg dc_P_lower 4 rfl) rfl (c_P_size_1 l Dv fu (P, h.2) r out P) gV_P_31 rfl rfl hy_P_size ⟨(Nat.le_of_ble_eq_true rfl), (Nat.le_of_ble_eq_true rfl)⟩ rfl ⟨(Nat.le_of_ble_eq_true rfl), (Nat.le_of_ble_eq_true rfl)⟩ rfl rfl rfl rfl rfl ?_
  intro r6
  refine js_icmp_lt (t := 14) (n := 12) X (dg dc_P_lower 5 rfl) (by decide) rfl ?_ ?_
  · refine js_aload_n (n := 15) X (dg dc_P_lower 8 rfl) rfl rfl rfl ?_
    refine js_getf (j := 3) (v := .ref 5) (n := 18) X (dg dc_P_lower 9 rfl) rfl hC_P (Nat.le_of_ble_eq_true rfl) hw_20 rfl rfl ?_
    refine js_iload_n (n := 19) X (dg dc_P_lower 10 rfl) rfl rfl rfl ?_
    refine js_iaload (f := P.2.2.2) (n := 20) X (dg dc_P_lower 11 rfl) rfl rfl ?_
    refine js_istore_n (lo' := [some (.ref 1), some (.int a1), some (.int a2), some (.int (P.2.2.2 (ix a1)))]) (n := 21) X (dg dc_P_lower 12 rfl) rfl rfl (Nat.le_of_ble_eq_true rfl) rfl ?_
    refine js_iload_n (n := 22) X (dg dc_P_lower 13 rfl) rfl rfl rfl ?_
    refine js_bipush (n := 24) 8 X (dg dc_P_lower 14 rfl) rfl (by decide) ?_
    refine js_icmp_ge (t := 40) (n := 27) X (dg dc_P_lower 15 rfl) (by decide) rfl ?_ ?_
    · refine js_iconst (n := 41) 0 X (dg dc_P_lower 23 rfl) rfl (by decide) ?_
      exact js_retZ X (dg dc_P_lower 24 rfl) rfl (Nat.le_of_ble_eq_true rfl) (Nat.le_of_ble_eq_true rfl) rfl
    refine js_iload_n (n := 28) X (dg dc_P_lower 16 rfl) rfl rfl rfl ?_
    refine js_iload_n (n := 29) X (dg dc_P_lower 17 rfl) rfl rfl rfl ?_
    refine js_if_eq (t := 36) (n := 32) X (dg dc_P_lower 18 rfl) (by decide) rfl ?_ ?_
    · refine js_iconst (n := 37) 1 X (dg dc_P_lower 21 rfl) rfl (by decide) ?_
      exact js_keep [true, true, true, true] (jl_P_lower_1_L37 l Dv fu h r out κ X P a1 a2 (P.2.2.2 (ix a1)) (P.2.2.2 (ix a1)) 1)
    refine js_iconst (n := 33) 2 X (dg dc_P_lower 19 rfl) rfl (by decide) ?_
    refine js_goto (t := 37) X (dg dc_P_lower 20 rfl) (by decide) ?_
    exact js_keep [true, true, true, true] (jl_P_lower_1_L37 l Dv fu h r out κ X P a1 a2 (P.2.2.2 (ix a1)) (P.2.2.2 (ix a1)) 2)
  refine js_iconst (n := 13) 0 X (dg dc_P_lower 6 rfl) rfl (by decide) ?_
  exact js_retZ X (dg dc_P_lower 7 rfl) rfl (Nat.le_of_ble_eq_true rfl) (Nat.le_of_ble_eq_true rfl) rfl
set_option maxRecDepth 100000 in
set_option maxHeartbeats 4000000 in
theorem jl_P_isValidBeside_1_L98 (l : Launch) (Dv : va_G) (fu : Nat) (h : S_H) (r : S_R) (out : Nat → Int64) (κ : ev_ka) (X : ev_X l Dv gaX mu_P_isValidBeside κ) (P : S_P) (v2 : Int32) (v3 : Int32) : ev_J l Dv gaX mu_P_isValidBeside κ 98 0 0 [some (.ref 1), none, some (.int v2), some (.int v3), none, none] [] (hpW (P, h.2) r out) (f_P_isValidBeside_L98 fu P v2 v3) (fun q => (some (.int q), hpW (P, h.2) r out)) := by
  unfold f_P_isValidBeside_L98
  refine js_iload_n (n := 99) X (dg dc_P_isValidBeside 56 rfl) rfl rfl rfl ?_
  refine js_iconst (n := 100) (-1) X (dg dc_P_isValidBeside 57 rfl) rfl (by decide) ?_
  refine js_icmp_eq (t := 122) (n := 103) X (dg dc_P_isValidBeside 58 rfl) (by decide) rfl ?_ ?_
  · refine js_iconst (n := 123) 1 X (dg dc_P_isValidBeside 70 rfl) rfl (by decide) ?_
    refine js_goto (t := 127) X (dg dc_P_isValidBeside 71 rfl) (by decide) ?_
    exact js_retZ X (dg dc_P_isValidBeside 73 rfl) rfl (Nat.le_of_ble_eq_true rfl) (Nat.le_of_ble_eq_true rfl) rfl
  refine js_iload_n (n := 104) X (dg dc_P_isValidBeside 59 rfl) rfl rfl rfl ?_
  refine js_aload_n (n := 105) X (dg dc_P_isValidBeside 60 rfl) rfl rfl rfl ?_
  refine js_getf (j := 1) (v := .ref 3) (n := 108) X (dg dc_P_isValidBeside 61 rfl) rfl hC_P (Nat.le_of_ble_eq_true rfl) hw_14 rfl rfl ?_
  refine js_iload_n (n := 109) X (dg dc_P_isValidBeside 62 rfl) rfl rfl rfl ?_
  refine js_iaload (f := P.2.1) (n := 110) X (dg dc_P_isValidBeside 63 rfl) rfl rfl ?_
  refine js_aload_n (n := 111) X (dg dc_P_isValidBeside 64 rfl) rfl rfl rfl ?_
  refine js_getf (j := 2) (v := .ref 4) (n := 114) X (dg dc_P_isValidBeside 65 rfl) rfl hC_P (Nat.le_of_ble_eq_true rfl) hw_19 rfl rfl ?_
  refine js_iload_n (n := 115) X (dg dc_P_isValidBeside 66 rfl) rfl rfl rfl ?_
  refine js_iaload (f := P.2.2.1) (n := 116) X (dg dc_P_isValidBeside 67 rfl) rfl rfl ?_
  refine js_callS (na := 3) (n := 119) X (dg dc_P_isValidBeside 68 rfl) rfl (c_O_allows l Dv fu _ v3 (P.2.1 (ix v2)) (P.2.2.1 (ix v2))) gS_P_64 rfl rfl hy_O_allows.2 ⟨(Nat.le_of_ble_eq_true rfl), (Nat.le_of_ble_eq_true rfl)⟩ ⟨(Nat.le_of_ble_eq_true rfl), (Nat.le_of_ble_eq_true rfl)⟩ rfl rfl rfl rfl ?_
  intro r116
  refine js_if_eq (t := 126) (n := 122) X (dg dc_P_isValidBeside 69 rfl) (by decide) rfl ?_ ?_
  · refine js_iconst (n := 127) 0 X (dg dc_P_isValidBeside 72 rfl) rfl (by decide) ?_
    exact js_retZ X (dg dc_P_isValidBeside 73 rfl) rfl (Nat.le_of_ble_eq_true rfl) (Nat.le_of_ble_eq_true rfl) rfl
  refine js_iconst (n := 123) 1 X (dg dc_P_isValidBeside 70 rfl) rfl (by decide) ?_
  refine js_goto (t := 127) X (dg dc_P_isValidBeside 71 rfl) (by decide) ?_
  exact js_retZ X (dg dc_P_isValidBeside 73 rfl) rfl (Nat.le_of_ble_eq_true rfl) (Nat.le_of_ble_eq_true rfl) rfl
set_option maxRecDepth 100000 in
set_option maxHeartbeats 4000000 in
theorem jl_P_isValidBeside_1_L49 (l : Launch) (Dv : va_G) (fu : Nat) (h : S_H) (r : S_R) (out : Nat → Int64) (κ : ev_ka) (X : ev_X l Dv gaX mu_P_isValidBeside κ) (P : S_P) (k16 : Int32 → Int32 → Int32 → Int32 → Option (Int32)) (hk16 : ∀ (v2 : Int32) (v3 : Int32) (v4 : Int32) (v5 : Int32), ev_J l Dv gaX mu_P_isValidBeside κ 16 0 0 [some (.ref 1), none, some (.int v2), some (.int v3), some (.int v4), some (.int v5)] [] (hpW (P, h.2) r out) (k16 v2 v3 v4 v5) (fun q => (some (.int q), hpW (P, h.2) r out))) (v2 : Int32) (v3 : Int32) (v4 : Int32) (v5 : Int32) : ev_J l Dv gaX mu_P_isValidBeside κ 49 0 0 [some (.ref 1), none, some (.int v2), some (.int v3), some (.int v4), some (.int v5)] [] (hpW (P, h.2) r out) (f_P_isValidBeside_L49 fu P k16 v2 v3 v4 v5) (fun q => (some (.int q), hpW (P, h.2) r out)) := by
  unfold f_P_isValidBeside_L49
  refine js_iload_n (n := 50) X (dg dc_P_isValidBeside 29 rfl) rfl rfl rfl ?_
  refine js_aload_n (n := 51) X (dg dc_P_isValidBeside 30 rfl) rfl rfl rfl ?_
  refine js_getf (j := 1) (v := .ref 3) (n := 54) X (dg dc_P_isValidBeside 31 rfl) rfl hC_P (Nat.le_of_ble_eq_true rfl) hw_14 rfl rfl ?_
  refine js_iload (n := 56) X (dg dc_P_isValidBeside 32 rfl) rfl rfl ?_
  refine js_iaload (f := P.2.1) (n := 57) X (dg dc_P_isValidBeside 33 rfl) rfl rfl ?_
  refine js_aload_n (n := 58) X (dg dc_P_isValidBeside 34 rfl) rfl rfl rfl ?_
  refine js_getf (j := 2) (v := .ref 4) (n := 61) X (dg dc_P_isValidBeside 35 rfl) rfl hC_P (Nat.le_of_ble_eq_true rfl) hw_19 rfl rfl ?_
  refine js_iload (n := 63) X (dg dc_P_isValidBeside 36 rfl) rfl rfl ?_
  refine js_iaload (f := P.2.2.1) (n := 64) X (dg dc_P_isValidBeside 37 rfl) rfl rfl ?_
  refine js_callS (na := 3) (n := 67) X (dg dc_P_isValidBeside 38 rfl) rfl (c_O_allows l Dv fu _ v3 (P.2.1 (ix v5)) (P.2.2.1 (ix v5))) gS_P_64 rfl rfl hy_O_allows.2 ⟨(Nat.le_of_ble_eq_true rfl), (Nat.le_of_ble_eq_true rfl)⟩ ⟨(Nat.le_of_ble_eq_true rfl), (Nat.le_of_ble_eq_true rfl)⟩ rfl rfl rfl rfl ?_
  intro r64
  refine js_if_ne (t := 72) (n := 70) X (dg dc_P_isValidBeside 39 rfl) (by decide) rfl ?_ ?_
  · refine js_iload_n (n := 73) X (dg dc_P_isValidBeside 42 rfl) rfl rfl rfl ?_
    refine js_aload_n (n := 74) X (dg dc_P_isValidBeside 43 rfl) rfl rfl rfl ?_
    refine js_getf (j := 1) (v := .ref 3) (n := 77) X (dg dc_P_isValidBeside 44 rfl) rfl hC_P (Nat.le_of_ble_eq_true rfl) hw_14 rfl rfl ?_
    refine js_iload (n := 79) X (dg dc_P_isValidBeside 45 rfl) rfl rfl ?_
    refine js_iaload (f := P.2.1) (n := 80) X (dg dc_P_isValidBeside 46 rfl) rfl rfl ?_
    refine js_aload_n (n := 81) X (dg dc_P_isValidBeside 47 rfl) rfl rfl rfl ?_
    refine js_getf (j := 2) (v := .ref 4) (n := 84) X (dg dc_P_isValidBeside 48 rfl) rfl hC_P (Nat.le_of_ble_eq_true rfl) hw_19 rfl rfl ?_
    refine js_iload (n := 86) X (dg dc_P_isValidBeside 49 rfl) rfl rfl ?_
    refine js_iaload (f := P.2.2.1) (n := 87) X (dg dc_P_isValidBeside 50 rfl) rfl rfl ?_
    refine js_iconst (n := 88) 0 X (dg dc_P_isValidBeside 51 rfl) rfl (by decide) ?_
    refine js_callS (na := 4) (n := 91) X (dg dc_P_isValidBeside 52 rfl) rfl (c_O_after l Dv fu _ v3 (P.2.1 (ix v5)) (P.2.2.1 (ix v5)) 0) gS_P_68 rfl rfl hy_O_after.2 ⟨(Nat.le_of_ble_eq_true rfl), (Nat.le_of_ble_eq_true rfl)⟩ ⟨(Nat.le_of_ble_eq_true rfl), (Nat.le_of_ble_eq_true rfl)⟩ rfl rfl rfl rfl ?_
    intro r88
    refine js_istore_n (lo' := [some (.ref 1), none, some (.int v2), some (.int r88), some (.int v4), some (.int v5)]) (n := 92) X (dg dc_P_isValidBeside 53 rfl) rfl rfl (Nat.le_of_ble_eq_true rfl) rfl ?_
    refine js_iinc (lo' := [some (.ref 1), none, some (.int v2), some (.int r88), some (.int v4), some (.int (v5 + 1))]) (n := 95) 1 X (dg dc_P_isValidBeside 54 rfl) rfl (by decide) (Nat.le_of_ble_eq_true rfl) rfl rfl ?_
    refine js_goto (t := 16) X (dg dc_P_isValidBeside 55 rfl) (by decide) ?_
    exact js_keep [true, false, true, true, true, true] (hk16 v2 r88 v4 (v5 + 1))
  refine js_iconst (n := 71) 0 X (dg dc_P_isValidBeside 40 rfl) rfl (by decide) ?_
  exact js_retZ X (dg dc_P_isValidBeside 41 rfl) rfl (Nat.le_of_ble_eq_true rfl) (Nat.le_of_ble_eq_true rfl) rfl
set_option maxRecDepth 100000 in
set_option maxHeartbeats 4000000 in
theorem jl_P_isValidBeside_1_L16 (l : Launch) (Dv : va_G) (fu : Nat) (h : S_H) (r : S_R) (out : Nat → Int64) (κ : ev_ka) (X : ev_X l Dv gaX mu_P_isValidBeside κ) (P : S_P) : ∀ (n : Nat) (v2 : Int32) (v3 : Int32) (v4 : Int32) (v5 : Int32), ev_J l Dv gaX mu_P_isValidBeside κ 16 0 0 [some (.ref 1), none, some (.int v2), some (.int v3), some (.int v4), some (.int v5)] [] (hpW (P, h.2) r out) (f_P_isValidBeside_L16 fu P n v2 v3 v4 v5) (fun q => (some (.int q), hpW (P, h.2) r out)) := by
  intro n
  induction n with
  | zero => exact fun _ _ _ _ => js_none
  | succ n ih =>
    intro v2 v3 v4 v5
    unfold f_P_isValidBeside_L16
    refine js_iload (n := 18) X (dg dc_P_isValidBeside 10 rfl) rfl rfl ?_
    refine js_iload (n := 20) X (dg dc_P_isValidBeside 11 rfl) rfl rfl ?_
    refine js_icmp_ge (t := 98) (n := 23) X (dg dc_P_isValidBeside 12 rfl) (by decide) rfl ?_ ?_
    · exact js_keep [true, false, true, true, false, false] (jl_P_isValidBeside_1_L98 l Dv fu h r out κ X P v2 v3)
    refine js_iload_n (n := 24) X (dg dc_P_isValidBeside 13 rfl) rfl rfl rfl ?_
    refine js_iconst (n := 25) (-1) X (dg dc_P_isValidBeside 14 rfl) rfl (by decide) ?_
    refine js_icmp_eq (t := 49) (n := 28) X (dg dc_P_isValidBeside 15 rfl) (by decide) rfl ?_ ?_
    · exact js_keep [true, false, true, true, true, true] (jl_P_isValidBeside_1_L49 l Dv fu h r out κ X P (f_P_isValidBeside_L16 fu P n) (fun z0 z1 z2 z3 => ih z0 z1 z2 z3) v2 v3 v4 v5)
    refine js_iload_n (n := 29) X (dg dc_P_isValidBeside 16 rfl) rfl rfl rfl ?_
    refine js_aload_n (n := 30) X (dg dc_P_isValidBeside 17 rfl) rfl rfl rfl ?_
    refine js_getf (j := 1) (v := .ref 3) (n := 33) X (dg dc_P_isValidBeside 18 rfl) rfl hC_P (Nat.le_of_ble_eq_true rfl) hw_14 rfl rfl ?_
    refine js_iload_n (n := 34) X (dg dc_P_isValidBeside 19 rfl) rfl rfl rfl ?_
    refine js_iaload (f := P.2.1) (n := 35) X (dg dc_P_isValidBeside 20 rfl) rfl rfl ?_
    refine js_aload_n (n := 36) X (dg dc_P_isValidBeside 21 rfl) rfl rfl rfl ?_
    refine js_getf (j := 2) (v := .ref 4) (n := 39) X (dg dc_P_isValidBeside 22 rfl) rfl hC_P (Nat.le_of_ble_eq_true rfl) hw_19 rfl rfl ?_
    refine js_iload_n (n := 40) X (dg dc_P_isValidBeside 23 rfl) rfl rfl rfl ?_
    refine js_iaload (f := P.2.2.1) (n := 41) X (dg dc_P_isValidBeside 24 rfl) rfl rfl ?_
    refine js_callS (na := 3) (n := 44) X (dg dc_P_isValidBeside 25 rfl) rfl (c_O_allows l Dv fu _ v3 (P.2.1 (ix v2)) (P.2.2.1 (ix v2))) gS_P_64 rfl rfl hy_O_allows.2 ⟨(Nat.le_of_ble_eq_true rfl), (Nat.le_of_ble_eq_true rfl)⟩ ⟨(Nat.le_of_ble_eq_true rfl), (Nat.le_of_ble_eq_true rfl)⟩ rfl rfl rfl rfl ?_
    intro r41
    refine js_if_ne (t := 49) (n := 47) X (dg dc_P_isValidBeside 26 rfl) (by decide) rfl ?_ ?_
    · exact js_keep [true, false, true, true, true, true] (jl_P_isValidBeside_1_L49 l Dv fu h r out κ X P (f_P_isValidBeside_L16 fu P n) (fun z0 z1 z2 z3 => ih z0 z1 z2 z3) v2 v3 v4 v5)
    refine js_iconst (n := 48) 0 X (dg dc_P_isValidBeside 27 rfl) rfl (by decide) ?_
    exact js_retZ X (dg dc_P_isValidBeside 28 rfl) rfl (Nat.le_of_ble_eq_true rfl) (Nat.le_of_ble_eq_true rfl) rfl
set_option maxRecDepth 100000 in
set_option maxHeartbeats 4000000 in
theorem c_P_isValidBeside_1 (l : Launch) (Dv : va_G) (fu : Nat) (h : S_H) (r : S_R) (out : Nat → Int64) (P : S_P) (a1 : Int32) (a2 : Int32) : ev_M l Dv gaX mu_P_isValidBeside [.ref 1, .int a1, .int a2] (hpW (P, h.2) r out) (f_P_isValidBeside fu P a1 a2) (fun q => (some (.int q), hpW (P, h.2) r out)) := by
  refine ev_met (lo0 := [some (.ref 1), some (.int a1), some (.int a2), none, none, none]) rfl rfl rfl (fun κ X => ?_)
  unfold f_P_isValidBeside
  refine js_iload_n (n := 1) X (dg dc_P_isValidBeside 0 rfl) rfl rfl rfl ?_
  refine js_istore_n (lo' := [some (.ref 1), some (.int a1), some (.int a2), some (.int a1), none, none]) (n := 2) X (dg dc_P_isValidBeside 1 rfl) rfl rfl (Nat.le_of_ble_eq_true rfl) rfl ?_
  refine js_aload_n (n := 3) X (dg dc_P_isValidBeside 2 rfl) rfl rfl rfl ?_
  refine js_iconst (n := 4) 2 X (dg dc_P_isValidBeside 3 rfl) rfl (by decide) ?_
  refine js_callV (na := 1) (ci := 1) (n := 7) X (dg dc_P_isValidBeside 4 rfl) rfl (c_P_end_1 l Dv fu (P, h.2) r out P 2) gV_P_28 rfl rfl hy_P_end ⟨(Nat.le_of_ble_eq_true rfl), (Nat.le_of_ble_eq_true rfl)⟩ rfl ⟨(Nat.le_of_ble_eq_true rfl), (Nat.le_of_ble_eq_true rfl)⟩ rfl rfl rfl rfl rfl ?_
  intro r4
  refine js_istore (lo' := [some (.ref 1), some (.int a1), some (.int a2), some (.int a1), some (.int r4), none]) (n := 9) X (dg dc_P_isValidBeside 5 rfl) rfl (Nat.le_of_ble_eq_true rfl) rfl ?_
  refine js_aload_n (n := 10) X (dg dc_P_isValidBeside 6 rfl) rfl rfl rfl ?_
  refine js_iconst (n := 11) 2 X (dg dc_P_isValidBeside 7 rfl) rfl (by decide) ?_
  refine js_callV (na := 1) (ci := 1) (n := 14) X (dg dc_P_isValidBeside 8 rfl) rfl (c_P_start_1 l Dv fu (P, h.2) r out P 2) gV_P_24 rfl rfl hy_P_start ⟨(Nat.le_of_ble_eq_true rfl), (Nat.le_of_ble_eq_true rfl)⟩ rfl ⟨(Nat.le_of_ble_eq_true rfl), (Nat.le_of_ble_eq_true rfl)⟩ rfl rfl rfl rfl rfl ?_
  intro r11
  refine js_istore (lo' := [some (.ref 1), some (.int a1), some (.int a2), some (.int a1), some (.int r4), some (.int r11)]) (n := 16) X (dg dc_P_isValidBeside 9 rfl) rfl (Nat.le_of_ble_eq_true rfl) rfl ?_
  exact js_keep [true, false, true, true, true, true] (jl_P_isValidBeside_1_L16 l Dv fu h r out κ X P fu a2 a1 r4 r11)
set_option maxRecDepth 100000 in
set_option maxHeartbeats 4000000 in
theorem jl_P_isValid_1_L117 (l : Launch) (Dv : va_G) (fu : Nat) (h : S_H) (r : S_R) (out : Nat → Int64) (κ : ev_ka) (X : ev_X l Dv gaX mu_P_isValid κ) (P : S_P) (v1 : Int32) : ev_J l Dv gaX mu_P_isValid κ 117 0 0 [some (.ref 1), some (.int v1), none, none, none] [] (hpW (P, h.2) r out) (f_P_isValid_L117 fu P v1) (fun q => (some (.int q), hpW (P, h.2) r out)) := by
  unfold f_P_isValid_L117
  refine js_aload_n (n := 118) X (dg dc_P_isValid 70 rfl) rfl rfl rfl ?_
  refine js_iload_n (n := 119) X (dg dc_P_isValid 71 rfl) rfl rfl rfl ?_
  refine js_iconst (n := 120) (-1) X (dg dc_P_isValid 72 rfl) rfl (by decide) ?_
  refine js_callV (na := 2) (ci := 1) (n := 123) X (dg dc_P_isValid 73 rfl) rfl (c_P_isValidBeside_1 l Dv fu (P, h.2) r out P v1 (-1)) gV_P_72 rfl rfl hy_P_isValidBeside ⟨(Nat.le_of_ble_eq_true rfl), (Nat.le_of_ble_eq_true rfl)⟩ rfl ⟨(Nat.le_of_ble_eq_true rfl), (Nat.le_of_ble_eq_true rfl)⟩ rfl rfl rfl rfl rfl ?_
  intro r120
  exact js_retZ X (dg dc_P_isValid 74 rfl) rfl (Nat.le_of_ble_eq_true rfl) (Nat.le_of_ble_eq_true rfl) rfl
set_option maxRecDepth 100000 in
set_option maxHeartbeats 4000000 in
theorem jl_P_isValid_1_L73 (l : Launch) (Dv : va_G) (fu : Nat) (h : S_H) (r : S_R) (out : Nat → Int64) (κ : ev_ka) (X : ev_X l Dv gaX mu_P_isValid κ) (P : S_P) : ∀ (n : Nat) (v1 : Int32) (v3 : Int32) (v4 : Int32), ev_J l Dv gaX mu_P_isValid κ 73 0 0 [some (.ref 1), some (.int v1), none, some (.int v3), some (.int v4)] [] (hpW (P, h.2) r out) (f_P_isValid_L73 fu P n v1 v3 v4) (fun q => (some (.int q), hpW (P, h.2) r out)) := by
  intro n
  induction n with
  | zero => exact fun _ _ _ => js_none
  | succ n ih =>
    intro v1 v3 v4
    unfold f_P_isValid_L73
    refine js_iload (n := 75) X (dg dc_P_isValid 46 rfl) rfl rfl ?_
    refine js_iload_n (n := 76) X (dg dc_P_isValid 47 rfl) rfl rfl rfl ?_
    refine js_icmp_ge (t := 117) (n := 79) X (dg dc_P_isValid 48 rfl) (by decide) rfl ?_ ?_
    · exact js_keep [true, true, false, false, false] (jl_P_isValid_1_L117 l Dv fu h r out κ X P v1)
    refine js_aload_n (n := 80) X (dg dc_P_isValid 49 rfl) rfl rfl rfl ?_
    refine js_iload_n (n := 81) X (dg dc_P_isValid 50 rfl) rfl rfl rfl ?_
    refine js_iload (n := 83) X (dg dc_P_isValid 51 rfl) rfl rfl ?_
    refine js_callV (na := 2) (ci := 1) (n := 86) X (dg dc_P_isValid 52 rfl) rfl (c_P_isValidBeside_1 l Dv fu (P, h.2) r out P v1 v4) gV_P_72 rfl rfl hy_P_isValidBeside ⟨(Nat.le_of_ble_eq_true rfl), (Nat.le_of_ble_eq_true rfl)⟩ rfl ⟨(Nat.le_of_ble_eq_true rfl), (Nat.le_of_ble_eq_true rfl)⟩ rfl rfl rfl rfl rfl ?_
    intro r83
    refine js_if_ne (t := 91) (n := 89) X (dg dc_P_isValid 53 rfl) (by decide) rfl ?_ ?_
    · refine js_iload_n (n := 92) X (dg dc_P_isValid 56 rfl) rfl rfl rfl ?_
      refine js_aload_n (n := 93) X (dg dc_P_isValid 57 rfl) rfl rfl rfl ?_
      refine js_getf (j := 1) (v := .ref 3) (n := 96) X (dg dc_P_isValid 58 rfl) rfl hC_P (Nat.le_of_ble_eq_true rfl) hw_14 rfl rfl ?_
      refine js_iload (n := 98) X (dg dc_P_isValid 59 rfl) rfl rfl ?_
      refine js_iaload (f := P.2.1) (n := 99) X (dg dc_P_isValid 60 rfl) rfl rfl ?_
      refine js_aload_n (n := 100) X (dg dc_P_isValid 61 rfl) rfl rfl rfl ?_
      refine js_getf (j := 2) (v := .ref 4) (n := 103) X (dg dc_P_isValid 62 rfl) rfl hC_P (Nat.le_of_ble_eq_true rfl) hw_19 rfl rfl ?_
      refine js_iload (n := 105) X (dg dc_P_isValid 63 rfl) rfl rfl ?_
      refine js_iaload (f := P.2.2.1) (n := 106) X (dg dc_P_isValid 64 rfl) rfl rfl ?_
      refine js_iconst (n := 107) 0 X (dg dc_P_isValid 65 rfl) rfl (by decide) ?_
      refine js_callS (na := 4) (n := 110) X (dg dc_P_isValid 66 rfl) rfl (c_O_after l Dv fu _ v1 (P.2.1 (ix v4)) (P.2.2.1 (ix v4)) 0) gS_P_68 rfl rfl hy_O_after.2 ⟨(Nat.le_of_ble_eq_true rfl), (Nat.le_of_ble_eq_true rfl)⟩ ⟨(Nat.le_of_ble_eq_true rfl), (Nat.le_of_ble_eq_true rfl)⟩ rfl rfl rfl rfl ?_
      intro r107
      refine js_istore_n (lo' := [some (.ref 1), some (.int r107), none, some (.int v3), some (.int v4)]) (n := 111) X (dg dc_P_isValid 67 rfl) rfl rfl (Nat.le_of_ble_eq_true rfl) rfl ?_
      refine js_iinc (lo' := [some (.ref 1), some (.int r107), none, some (.int v3), some (.int (v4 + 1))]) (n := 114) 1 X (dg dc_P_isValid 68 rfl) rfl (by decide) (Nat.le_of_ble_eq_true rfl) rfl rfl ?_
      refine js_goto (t := 73) X (dg dc_P_isValid 69 rfl) (by decide) ?_
      exact js_keep [true, true, false, true, true] (ih r107 v3 (v4 + 1))
    refine js_iconst (n := 90) 0 X (dg dc_P_isValid 54 rfl) rfl (by decide) ?_
    exact js_retZ X (dg dc_P_isValid 55 rfl) rfl (Nat.le_of_ble_eq_true rfl) (Nat.le_of_ble_eq_true rfl) rfl
set_option maxRecDepth 100000 in
set_option maxHeartbeats 4000000 in
theorem jl_P_isValid_1_L60 (l : Launch) (Dv : va_G) (fu : Nat) (h : S_H) (r : S_R) (out : Nat → Int64) (κ : ev_ka) (X : ev_X l Dv gaX mu_P_isValid κ) (P : S_P) (v1 : Int32) : ev_J l Dv gaX mu_P_isValid κ 60 0 0 [some (.ref 1), some (.int v1), none, none, none] [] (hpW (P, h.2) r out) (f_P_isValid_L60 fu P v1) (fun q => (some (.int q), hpW (P, h.2) r out)) := by
  unfold f_P_isValid_L60
  refine js_aload_n (n := 61) X (dg dc_P_isValid 38 rfl) rfl rfl rfl ?_
  refine js_iconst (n := 62) 1 X (dg dc_P_isValid 39 rfl) rfl (by decide) ?_
  refine js_callV (na := 1) (ci := 1) (n := 65) X (dg dc_P_isValid 40 rfl) rfl (c_P_end_1 l Dv fu (P, h.2) r out P 1) gV_P_28 rfl rfl hy_P_end ⟨(Nat.le_of_ble_eq_true rfl), (Nat.le_of_ble_eq_true rfl)⟩ rfl ⟨(Nat.le_of_ble_eq_true rfl), (Nat.le_of_ble_eq_true rfl)⟩ rfl rfl rfl rfl rfl ?_
  intro r62
  refine js_istore_n (lo' := [some (.ref 1), some (.int v1), none, some (.int r62), none]) (n := 66) X (dg dc_P_isValid 41 rfl) rfl rfl (Nat.le_of_ble_eq_true rfl) rfl ?_
  refine js_aload_n (n := 67) X (dg dc_P_isValid 42 rfl) rfl rfl rfl ?_
  refine js_iconst (n := 68) 1 X (dg dc_P_isValid 43 rfl) rfl (by decide) ?_
  refine js_callV (na := 1) (ci := 1) (n := 71) X (dg dc_P_isValid 44 rfl) rfl (c_P_start_1 l Dv fu (P, h.2) r out P 1) gV_P_24 rfl rfl hy_P_start ⟨(Nat.le_of_ble_eq_true rfl), (Nat.le_of_ble_eq_true rfl)⟩ rfl ⟨(Nat.le_of_ble_eq_true rfl), (Nat.le_of_ble_eq_true rfl)⟩ rfl rfl rfl rfl rfl ?_
  intro r68
  refine js_istore (lo' := [some (.ref 1), some (.int v1), none, some (.int r62), some (.int r68)]) (n := 73) X (dg dc_P_isValid 45 rfl) rfl (Nat.le_of_ble_eq_true rfl) rfl ?_
  exact js_keep [true, true, false, true, true] (jl_P_isValid_1_L73 l Dv fu h r out κ X P fu v1 r62 r68)
set_option maxRecDepth 100000 in
set_option maxHeartbeats 4000000 in
theorem jl_P_isValid_1_L10 (l : Launch) (Dv : va_G) (fu : Nat) (h : S_H) (r : S_R) (out : Nat → Int64) (κ : ev_ka) (X : ev_X l Dv gaX mu_P_isValid κ) (P : S_P) : ∀ (n : Nat) (v1 : Int32) (v2 : Int32) (v3 : Int32), ev_J l Dv gaX mu_P_isValid κ 10 0 0 [some (.ref 1), some (.int v1), some (.int v2), some (.int v3), none] [] (hpW (P, h.2) r out) (f_P_isValid_L10 fu P n v1 v2 v3) (fun q => (some (.int q), hpW (P, h.2) r out)) := by
  intro n
  induction n with
  | zero => exact fun _ _ _ => js_none
  | succ n ih =>
    intro v1 v2 v3
    unfold f_P_isValid_L10
    refine js_iload_n (n := 11) X (dg dc_P_isValid 8 rfl) rfl rfl rfl ?_
    refine js_iload_n (n := 12) X (dg dc_P_isValid 9 rfl) rfl rfl rfl ?_
    refine js_icmp_ge (t := 60) (n := 15) X (dg dc_P_isValid 10 rfl) (by decide) rfl ?_ ?_
    · exact js_keep [true, true, false, false, false] (jl_P_isValid_1_L60 l Dv fu h r out κ X P v1)
    refine js_iload_n (n := 16) X (dg dc_P_isValid 11 rfl) rfl rfl rfl ?_
    refine js_aload_n (n := 17) X (dg dc_P_isValid 12 rfl) rfl rfl rfl ?_
    refine js_getf (j := 1) (v := .ref 3) (n := 20) X (dg dc_P_isValid 13 rfl) rfl hC_P (Nat.le_of_ble_eq_true rfl) hw_14 rfl rfl ?_
    refine js_iload_n (n := 21) X (dg dc_P_isValid 14 rfl) rfl rfl rfl ?_
    refine js_iaload (f := P.2.1) (n := 22) X (dg dc_P_isValid 15 rfl) rfl rfl ?_
    refine js_aload_n (n := 23) X (dg dc_P_isValid 16 rfl) rfl rfl rfl ?_
    refine js_getf (j := 2) (v := .ref 4) (n := 26) X (dg dc_P_isValid 17 rfl) rfl hC_P (Nat.le_of_ble_eq_true rfl) hw_19 rfl rfl ?_
    refine js_iload_n (n := 27) X (dg dc_P_isValid 18 rfl) rfl rfl rfl ?_
    refine js_iaload (f := P.2.2.1) (n := 28) X (dg dc_P_isValid 19 rfl) rfl rfl ?_
    refine js_callS (na := 3) (n := 31) X (dg dc_P_isValid 20 rfl) rfl (c_O_allows l Dv fu _ v1 (P.2.1 (ix v3)) (P.2.2.1 (ix v3))) gS_P_64 rfl rfl hy_O_allows.2 ⟨(Nat.le_of_ble_eq_true rfl), (Nat.le_of_ble_eq_true rfl)⟩ ⟨(Nat.le_of_ble_eq_true rfl), (Nat.le_of_ble_eq_true rfl)⟩ rfl rfl rfl rfl ?_
    intro r28
    refine js_if_ne (t := 36) (n := 34) X (dg dc_P_isValid 21 rfl) (by decide) rfl ?_ ?_
    · refine js_iload_n (n := 37) X (dg dc_P_isValid 24 rfl) rfl rfl rfl ?_
      refine js_aload_n (n := 38) X (dg dc_P_isValid 25 rfl) rfl rfl rfl ?_
      refine js_getf (j := 1) (v := .ref 3) (n := 41) X (dg dc_P_isValid 26 rfl) rfl hC_P (Nat.le_of_ble_eq_true rfl) hw_14 rfl rfl ?_
      refine js_iload_n (n := 42) X (dg dc_P_isValid 27 rfl) rfl rfl rfl ?_
      refine js_iaload (f := P.2.1) (n := 43) X (dg dc_P_isValid 28 rfl) rfl rfl ?_
      refine js_aload_n (n := 44) X (dg dc_P_isValid 29 rfl) rfl rfl rfl ?_
      refine js_getf (j := 2) (v := .ref 4) (n := 47) X (dg dc_P_isValid 30 rfl) rfl hC_P (Nat.le_of_ble_eq_true rfl) hw_19 rfl rfl ?_
      refine js_iload_n (n := 48) X (dg dc_P_isValid 31 rfl) rfl rfl rfl ?_
      refine js_iaload (f := P.2.2.1) (n := 49) X (dg dc_P_isValid 32 rfl) rfl rfl ?_
      refine js_iconst (n := 50) 0 X (dg dc_P_isValid 33 rfl) rfl (by decide) ?_
      refine js_callS (na := 4) (n := 53) X (dg dc_P_isValid 34 rfl) rfl (c_O_after l Dv fu _ v1 (P.2.1 (ix v3)) (P.2.2.1 (ix v3)) 0) gS_P_68 rfl rfl hy_O_after.2 ⟨(Nat.le_of_ble_eq_true rfl), (Nat.le_of_ble_eq_true rfl)⟩ ⟨(Nat.le_of_ble_eq_true rfl), (Nat.le_of_ble_eq_true rfl)⟩ rfl rfl rfl rfl ?_
      intro r50
      refine js_istore_n (lo' := [some (.ref 1), some (.int r50), some (.int v2), some (.int v3), none]) (n := 54) X (dg dc_P_isValid 35 rfl) rfl rfl (Nat.le_of_ble_eq_true rfl) rfl ?_
      refine js_iinc (lo' := [some (.ref 1), some (.int r50), some (.int v2), some (.int (v3 + 1)), none]) (n := 57) 1 X (dg dc_P_isValid 36 rfl) rfl (by decide) (Nat.le_of_ble_eq_true rfl) rfl rfl ?_
      refine js_goto (t := 10) X (dg dc_P_isValid 37 rfl) (by decide) ?_
      exact js_keep [true, true, true, true, false] (ih r50 v2 (v3 + 1))
    refine js_iconst (n := 35) 0 X (dg dc_P_isValid 22 rfl) rfl (by decide) ?_
    exact js_retZ X (dg dc_P_isValid 23 rfl) rfl (Nat.le_of_ble_eq_true rfl) (Nat.le_of_ble_eq_true rfl) rfl
set_option maxRecDepth 100000 in
set_option maxHeartbeats 4000000 in
theorem c_P_isValid_1 (l : Launch) (Dv : va_G) (fu : Nat) (h : S_H) (r : S_R) (out : Nat → Int64) (P : S_P) : ev_M l Dv gaX mu_P_isValid [.ref 1] (hpW (P, h.2) r out) (f_P_isValid fu P) (fun q => (some (.int q), hpW (P, h.2) r out)) := by
  refine ev_met (lo0 := [some (.ref 1), none, none, none, none]) rfl rfl rfl (fun κ X => ?_)
  unfold f_P_isValid
  refine js_iconst (n := 1) 0 X (dg dc_P_isValid 0 rfl) rfl (by decide) ?_
  refine js_istore_n (lo' := [some (.ref 1), some (.int 0), none, none, none]) (n := 2) X (dg dc_P_isValid 1 rfl) rfl rfl (Nat.le_of_ble_eq_true rfl) rfl ?_
  refine js_aload_n (n := 3) X (dg dc_P_isValid 2 rfl) rfl rfl rfl ?_
  refine js_iconst (n := 4) 0 X (dg dc_P_isValid 3 rfl) rfl (by decide) ?_
  refine js_callV (na := 1) (ci := 1) (n := 7) X (dg dc_P_isValid 4 rfl) rfl (c_P_end_1 l Dv fu (P, h.2) r out P 0) gV_P_28 rfl rfl hy_P_end ⟨(Nat.le_of_ble_eq_true rfl), (Nat.le_of_ble_eq_true rfl)⟩ rfl ⟨(Nat.le_of_ble_eq_true rfl), (Nat.le_of_ble_eq_true rfl)⟩ rfl rfl rfl rfl rfl ?_
  intro r4
  refine js_istore_n (lo' := [some (.ref 1), some (.int 0), some (.int r4), none, none]) (n := 8) X (dg dc_P_isValid 5 rfl) rfl rfl (Nat.le_of_ble_eq_true rfl) rfl ?_
  refine js_iconst (n := 9) 0 X (dg dc_P_isValid 6 rfl) rfl (by decide) ?_
  refine js_istore_n (lo' := [some (.ref 1), some (.int 0), some (.int r4), some (.int 0), none]) (n := 10) X (dg dc_P_isValid 7 rfl) rfl rfl (Nat.le_of_ble_eq_true rfl) rfl ?_
  exact js_keep [true, true, true, true, false] (jl_P_isValid_1_L10 l Dv fu h r out κ X P fu 0 r4 0)
