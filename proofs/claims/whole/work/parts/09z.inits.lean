set_option maxRecDepth 100000 in
set_option maxHeartbeats 4000000 in
theorem c_P_init_1 (l : Launch) (D : va_G) : ev_M l D gaX mu_P_init [.ref 1] [.inr (0, [.null, .null, .null, .null, .int 0, .int 0]), .inr (1, [.null, .null, .null, .null])] (some ()) (fun _ => (none, [.inr (0, [.null, .null, .null, .null, .int 0, .int 0]), .inr (1, [.ref 2, .ref 3, .ref 4, .ref 5]), .inl (.int, 3, .inl fun _ => 0), .inl (.int, 14, .inl fun _ => 0), .inl (.int, 14, .inl fun _ => 0), .inl (.int, 14, .inl fun _ => 0)])) := by
  refine ev_met (lo0 := [some (.ref 1)]) rfl rfl rfl (fun κ X => ?_)
  refine js_aload_n (n := 1) X (dg dc_P_init 0 rfl) rfl rfl rfl ?_
  refine js_objI (n := 4) X (dg dc_P_init 1 rfl) rfl hw_459 hw_457 hw_458 (Nat.le_of_ble_eq_true rfl) (Nat.le_of_ble_eq_true rfl) ?_
  refine js_aload_n (n := 5) X (dg dc_P_init 2 rfl) rfl rfl rfl ?_
  refine js_iconst (n := 6) 3 X (dg dc_P_init 3 rfl) rfl (by decide) ?_
  refine js_newa (N := 3) (n := 8) (.inl fun _ => 0) X (dg dc_P_init 4 rfl) rfl hw_575 rfl (fun _ => rfl) (by decide) (Nat.le_of_ble_eq_true rfl) (Nat.le_of_ble_eq_true rfl) (by decide) (by decide) rfl rfl rfl ?_
  refine js_putr (j := 0) (n := 11) X (dg dc_P_init 5 rfl) rfl hC_P (Nat.le_of_ble_eq_true rfl) hw_1 rfl (Or.inr ⟨_, rfl⟩) (Or.inr ⟨rfl, rfl, rfl⟩) (Nat.le_of_ble_eq_true rfl) ?_
  refine js_aload_n (n := 12) X (dg dc_P_init 6 rfl) rfl rfl rfl ?_
  refine js_bipush (n := 14) 14 X (dg dc_P_init 7 rfl) rfl (by decide) ?_
  refine js_newa (N := 14) (n := 16) (.inl fun _ => 0) X (dg dc_P_init 8 rfl) rfl hw_575 rfl (fun _ => rfl) (by decide) (Nat.le_of_ble_eq_true rfl) (Nat.le_of_ble_eq_true rfl) (by decide) (by decide) rfl rfl rfl ?_
  refine js_putr (j := 1) (n := 19) X (dg dc_P_init 9 rfl) rfl hC_P (Nat.le_of_ble_eq_true rfl) hw_14 rfl (Or.inr ⟨_, rfl⟩) (Or.inr ⟨rfl, rfl, rfl⟩) (Nat.le_of_ble_eq_true rfl) ?_
  refine js_aload_n (n := 20) X (dg dc_P_init 10 rfl) rfl rfl rfl ?_
  refine js_bipush (n := 22) 14 X (dg dc_P_init 11 rfl) rfl (by decide) ?_
  refine js_newa (N := 14) (n := 24) (.inl fun _ => 0) X (dg dc_P_init 12 rfl) rfl hw_575 rfl (fun _ => rfl) (by decide) (Nat.le_of_ble_eq_true rfl) (Nat.le_of_ble_eq_true rfl) (by decide) (by decide) rfl rfl rfl ?_
  refine js_putr (j := 2) (n := 27) X (dg dc_P_init 13 rfl) rfl hC_P (Nat.le_of_ble_eq_true rfl) hw_19 rfl (Or.inr ⟨_, rfl⟩) (Or.inr ⟨rfl, rfl, rfl⟩) (Nat.le_of_ble_eq_true rfl) ?_
  refine js_aload_n (n := 28) X (dg dc_P_init 14 rfl) rfl rfl rfl ?_
  refine js_bipush (n := 30) 14 X (dg dc_P_init 15 rfl) rfl (by decide) ?_
  refine js_newa (N := 14) (n := 32) (.inl fun _ => 0) X (dg dc_P_init 16 rfl) rfl hw_575 rfl (fun _ => rfl) (by decide) (Nat.le_of_ble_eq_true rfl) (Nat.le_of_ble_eq_true rfl) (by decide) (by decide) rfl rfl rfl ?_
  refine js_putr (j := 3) (n := 35) X (dg dc_P_init 17 rfl) rfl hC_P (Nat.le_of_ble_eq_true rfl) hw_20 rfl (Or.inr ⟨_, rfl⟩) (Or.inr ⟨rfl, rfl, rfl⟩) (Nat.le_of_ble_eq_true rfl) ?_
  exact js_retV X (dg dc_P_init 18 rfl) rfl (Nat.le_of_ble_eq_true rfl) (Nat.le_of_ble_eq_true rfl) rfl
set_option maxRecDepth 100000 in
set_option maxHeartbeats 4000000 in
theorem c_P_init_2 (l : Launch) (D : va_G) : ev_M l D gaX mu_P_init [.ref 6] [.inr (0, [.ref 1, .null, .null, .null, .int 0, .int 0]), .inr (1, [.ref 2, .ref 3, .ref 4, .ref 5]), .inl (.int, 3, .inl fun _ => 0), .inl (.int, 14, .inl fun _ => 0), .inl (.int, 14, .inl fun _ => 0), .inl (.int, 14, .inl fun _ => 0), .inr (1, [.null, .null, .null, .null])] (some ()) (fun _ => (none, [.inr (0, [.ref 1, .null, .null, .null, .int 0, .int 0]), .inr (1, [.ref 2, .ref 3, .ref 4, .ref 5]), .inl (.int, 3, .inl fun _ => 0), .inl (.int, 14, .inl fun _ => 0), .inl (.int, 14, .inl fun _ => 0), .inl (.int, 14, .inl fun _ => 0), .inr (1, [.ref 7, .ref 8, .ref 9, .ref 10]), .inl (.int, 3, .inl fun _ => 0), .inl (.int, 14, .inl fun _ => 0), .inl (.int, 14, .inl fun _ => 0), .inl (.int, 14, .inl fun _ => 0)])) := by
  refine ev_met (lo0 := [some (.ref 6)]) rfl rfl rfl (fun κ X => ?_)
  refine js_aload_n (n := 1) X (dg dc_P_init 0 rfl) rfl rfl rfl ?_
  refine js_objI (n := 4) X (dg dc_P_init 1 rfl) rfl hw_459 hw_457 hw_458 (Nat.le_of_ble_eq_true rfl) (Nat.le_of_ble_eq_true rfl) ?_
  refine js_aload_n (n := 5) X (dg dc_P_init 2 rfl) rfl rfl rfl ?_
  refine js_iconst (n := 6) 3 X (dg dc_P_init 3 rfl) rfl (by decide) ?_
  refine js_newa (N := 3) (n := 8) (.inl fun _ => 0) X (dg dc_P_init 4 rfl) rfl hw_575 rfl (fun _ => rfl) (by decide) (Nat.le_of_ble_eq_true rfl) (Nat.le_of_ble_eq_true rfl) (by decide) (by decide) rfl rfl rfl ?_
  refine js_putr (j := 0) (n := 11) X (dg dc_P_init 5 rfl) rfl hC_P (Nat.le_of_ble_eq_true rfl) hw_1 rfl (Or.inr ⟨_, rfl⟩) (Or.inr ⟨rfl, rfl, rfl⟩) (Nat.le_of_ble_eq_true rfl) ?_
  refine js_aload_n (n := 12) X (dg dc_P_init 6 rfl) rfl rfl rfl ?_
  refine js_bipush (n := 14) 14 X (dg dc_P_init 7 rfl) rfl (by decide) ?_
  refine js_newa (N := 14) (n := 16) (.inl fun _ => 0) X (dg dc_P_init 8 rfl) rfl hw_575 rfl (fun _ => rfl) (by decide) (Nat.le_of_ble_eq_true rfl) (Nat.le_of_ble_eq_true rfl) (by decide) (by decide) rfl rfl rfl ?_
  refine js_putr (j := 1) (n := 19) X (dg dc_P_init 9 rfl) rfl hC_P (Nat.le_of_ble_eq_true rfl) hw_14 rfl (Or.inr ⟨_, rfl⟩) (Or.inr ⟨rfl, rfl, rfl⟩) (Nat.le_of_ble_eq_true rfl) ?_
  refine js_aload_n (n := 20) X (dg dc_P_init 10 rfl) rfl rfl rfl ?_
  refine js_bipush (n := 22) 14 X (dg dc_P_init 11 rfl) rfl (by decide) ?_
  refine js_newa (N := 14) (n := 24) (.inl fun _ => 0) X (dg dc_P_init 12 rfl) rfl hw_575 rfl (fun _ => rfl) (by decide) (Nat.le_of_ble_eq_true rfl) (Nat.le_of_ble_eq_true rfl) (by decide) (by decide) rfl rfl rfl ?_
  refine js_putr (j := 2) (n := 27) X (dg dc_P_init 13 rfl) rfl hC_P (Nat.le_of_ble_eq_true rfl) hw_19 rfl (Or.inr ⟨_, rfl⟩) (Or.inr ⟨rfl, rfl, rfl⟩) (Nat.le_of_ble_eq_true rfl) ?_
  refine js_aload_n (n := 28) X (dg dc_P_init 14 rfl) rfl rfl rfl ?_
  refine js_bipush (n := 30) 14 X (dg dc_P_init 15 rfl) rfl (by decide) ?_
  refine js_newa (N := 14) (n := 32) (.inl fun _ => 0) X (dg dc_P_init 16 rfl) rfl hw_575 rfl (fun _ => rfl) (by decide) (Nat.le_of_ble_eq_true rfl) (Nat.le_of_ble_eq_true rfl) (by decide) (by decide) rfl rfl rfl ?_
  refine js_putr (j := 3) (n := 35) X (dg dc_P_init 17 rfl) rfl hC_P (Nat.le_of_ble_eq_true rfl) hw_20 rfl (Or.inr ⟨_, rfl⟩) (Or.inr ⟨rfl, rfl, rfl⟩) (Nat.le_of_ble_eq_true rfl) ?_
  exact js_retV X (dg dc_P_init 18 rfl) rfl (Nat.le_of_ble_eq_true rfl) (Nat.le_of_ble_eq_true rfl) rfl
set_option maxRecDepth 100000 in
set_option maxHeartbeats 4000000 in
theorem c_M_init_1 (l : Launch) (D : va_G) : ev_M l D gaX mu_M_init [.ref 12] [.inr (0, [.ref 1, .ref 6, .null, .null, .int 0, .int 0]), .inr (1, [.ref 2, .ref 3, .ref 4, .ref 5]), .inl (.int, 3, .inl fun _ => 0), .inl (.int, 14, .inl fun _ => 0), .inl (.int, 14, .inl fun _ => 0), .inl (.int, 14, .inl fun _ => 0), .inr (1, [.ref 7, .ref 8, .ref 9, .ref 10]), .inl (.int, 3, .inl fun _ => 0), .inl (.int, 14, .inl fun _ => 0), .inl (.int, 14, .inl fun _ => 0), .inl (.int, 14, .inl fun _ => 0), .inr (2, [.null, .null, .null, .int 0, .int 0, .int 0, .int 0, .int 0, .null]), .inr (3, [.null, .null, .null, .null, .int 0, .null, .null, .null, .int 0])] (some ()) (fun _ => (none, [.inr (0, [.ref 1, .ref 6, .null, .null, .int 0, .int 0]), .inr (1, [.ref 2, .ref 3, .ref 4, .ref 5]), .inl (.int, 3, .inl fun _ => 0), .inl (.int, 14, .inl fun _ => 0), .inl (.int, 14, .inl fun _ => 0), .inl (.int, 14, .inl fun _ => 0), .inr (1, [.ref 7, .ref 8, .ref 9, .ref 10]), .inl (.int, 3, .inl fun _ => 0), .inl (.int, 14, .inl fun _ => 0), .inl (.int, 14, .inl fun _ => 0), .inl (.int, 14, .inl fun _ => 0), .inr (2, [.null, .null, .null, .int 0, .int 0, .int 0, .int 0, .int 0, .null]), .inr (3, [.ref 13, .ref 14, .ref 15, .ref 16, .int 0, .ref 17, .ref 18, .ref 19, .int 0]), .inl (.int, 14, .inl fun _ => 0), .inl (.int, 14, .inl fun _ => 0), .inl (.int, 14, .inl fun _ => 0), .inl (.int, 14, .inl fun _ => 0), .inl (.int, 3, .inl fun _ => 0), .inl (.int, 3, .inl fun _ => 0), .inl (.int, 3, .inl fun _ => 0)])) := by
  refine ev_met (lo0 := [some (.ref 12)]) rfl rfl rfl (fun κ X => ?_)
  refine js_aload_n (n := 1) X (dg dc_M_init 0 rfl) rfl rfl rfl ?_
  refine js_objI (n := 4) X (dg dc_M_init 1 rfl) rfl hw_462 hw_457 hw_458 (Nat.le_of_ble_eq_true rfl) (Nat.le_of_ble_eq_true rfl) ?_
  refine js_aload_n (n := 5) X (dg dc_M_init 2 rfl) rfl rfl rfl ?_
  refine js_bipush (n := 7) 14 X (dg dc_M_init 3 rfl) rfl (by decide) ?_
  refine js_newa (N := 14) (n := 9) (.inl fun _ => 0) X (dg dc_M_init 4 rfl) rfl hw_575 rfl (fun _ => rfl) (by decide) (Nat.le_of_ble_eq_true rfl) (Nat.le_of_ble_eq_true rfl) (by decide) (by decide) rfl rfl rfl ?_
  refine js_putr (j := 0) (n := 12) X (dg dc_M_init 5 rfl) rfl hC_M (Nat.le_of_ble_eq_true rfl) hw_314 rfl (Or.inr ⟨_, rfl⟩) (Or.inr ⟨rfl, rfl, rfl⟩) (Nat.le_of_ble_eq_true rfl) ?_
  refine js_aload_n (n := 13) X (dg dc_M_init 6 rfl) rfl rfl rfl ?_
  refine js_bipush (n := 15) 14 X (dg dc_M_init 7 rfl) rfl (by decide) ?_
  refine js_newa (N := 14) (n := 17) (.inl fun _ => 0) X (dg dc_M_init 8 rfl) rfl hw_575 rfl (fun _ => rfl) (by decide) (Nat.le_of_ble_eq_true rfl) (Nat.le_of_ble_eq_true rfl) (by decide) (by decide) rfl rfl rfl ?_
  refine js_putr (j := 1) (n := 20) X (dg dc_M_init 9 rfl) rfl hC_M (Nat.le_of_ble_eq_true rfl) hw_312 rfl (Or.inr ⟨_, rfl⟩) (Or.inr ⟨rfl, rfl, rfl⟩) (Nat.le_of_ble_eq_true rfl) ?_
  refine js_aload_n (n := 21) X (dg dc_M_init 10 rfl) rfl rfl rfl ?_
  refine js_bipush (n := 23) 14 X (dg dc_M_init 11 rfl) rfl (by decide) ?_
  refine js_newa (N := 14) (n := 25) (.inl fun _ => 0) X (dg dc_M_init 12 rfl) rfl hw_575 rfl (fun _ => rfl) (by decide) (Nat.le_of_ble_eq_true rfl) (Nat.le_of_ble_eq_true rfl) (by decide) (by decide) rfl rfl rfl ?_
  refine js_putr (j := 2) (n := 28) X (dg dc_M_init 13 rfl) rfl hC_M (Nat.le_of_ble_eq_true rfl) hw_311 rfl (Or.inr ⟨_, rfl⟩) (Or.inr ⟨rfl, rfl, rfl⟩) (Nat.le_of_ble_eq_true rfl) ?_
  refine js_aload_n (n := 29) X (dg dc_M_init 14 rfl) rfl rfl rfl ?_
  refine js_bipush (n := 31) 14 X (dg dc_M_init 15 rfl) rfl (by decide) ?_
  refine js_newa (N := 14) (n := 33) (.inl fun _ => 0) X (dg dc_M_init 16 rfl) rfl hw_575 rfl (fun _ => rfl) (by decide) (Nat.le_of_ble_eq_true rfl) (Nat.le_of_ble_eq_true rfl) (by decide) (by decide) rfl rfl rfl ?_
  refine js_putr (j := 3) (n := 36) X (dg dc_M_init 17 rfl) rfl hC_M (Nat.le_of_ble_eq_true rfl) hw_343 rfl (Or.inr ⟨_, rfl⟩) (Or.inr ⟨rfl, rfl, rfl⟩) (Nat.le_of_ble_eq_true rfl) ?_
  refine js_aload_n (n := 37) X (dg dc_M_init 18 rfl) rfl rfl rfl ?_
  refine js_iconst (n := 38) 0 X (dg dc_M_init 19 rfl) rfl (by decide) ?_
  refine js_puti (j := 4) (n := 41) X (dg dc_M_init 20 rfl) rfl hC_M (Nat.le_of_ble_eq_true rfl) hw_305 rfl rfl (Or.inl rfl) (Nat.le_of_ble_eq_true rfl) ?_
  refine js_aload_n (n := 42) X (dg dc_M_init 21 rfl) rfl rfl rfl ?_
  refine js_iconst (n := 43) 3 X (dg dc_M_init 22 rfl) rfl (by decide) ?_
  refine js_newa (N := 3) (n := 45) (.inl fun _ => 0) X (dg dc_M_init 23 rfl) rfl hw_575 rfl (fun _ => rfl) (by decide) (Nat.le_of_ble_eq_true rfl) (Nat.le_of_ble_eq_true rfl) (by decide) (by decide) rfl rfl rfl ?_
  refine js_putr (j := 5) (n := 48) X (dg dc_M_init 24 rfl) rfl hC_M (Nat.le_of_ble_eq_true rfl) hw_307 rfl (Or.inr ⟨_, rfl⟩) (Or.inr ⟨rfl, rfl, rfl⟩) (Nat.le_of_ble_eq_true rfl) ?_
  refine js_aload_n (n := 49) X (dg dc_M_init 25 rfl) rfl rfl rfl ?_
  refine js_iconst (n := 50) 3 X (dg dc_M_init 26 rfl) rfl (by decide) ?_
  refine js_newa (N := 3) (n := 52) (.inl fun _ => 0) X (dg dc_M_init 27 rfl) rfl hw_575 rfl (fun _ => rfl) (by decide) (Nat.le_of_ble_eq_true rfl) (Nat.le_of_ble_eq_true rfl) (by decide) (by decide) rfl rfl rfl ?_
  refine js_putr (j := 6) (n := 55) X (dg dc_M_init 28 rfl) rfl hC_M (Nat.le_of_ble_eq_true rfl) hw_310 rfl (Or.inr ⟨_, rfl⟩) (Or.inr ⟨rfl, rfl, rfl⟩) (Nat.le_of_ble_eq_true rfl) ?_
  refine js_aload_n (n := 56) X (dg dc_M_init 29 rfl) rfl rfl rfl ?_
  refine js_iconst (n := 57) 3 X (dg dc_M_init 30 rfl) rfl (by decide) ?_
  refine js_newa (N := 3) (n := 59) (.inl fun _ => 0) X (dg dc_M_init 31 rfl) rfl hw_575 rfl (fun _ => rfl) (by decide) (Nat.le_of_ble_eq_true rfl) (Nat.le_of_ble_eq_true rfl) (by decide) (by decide) rfl rfl rfl ?_
  refine js_putr (j := 7) (n := 62) X (dg dc_M_init 32 rfl) rfl hC_M (Nat.le_of_ble_eq_true rfl) hw_324 rfl (Or.inr ⟨_, rfl⟩) (Or.inr ⟨rfl, rfl, rfl⟩) (Nat.le_of_ble_eq_true rfl) ?_
  refine js_aload_n (n := 63) X (dg dc_M_init 33 rfl) rfl rfl rfl ?_
  refine js_iconst (n := 64) 0 X (dg dc_M_init 34 rfl) rfl (by decide) ?_
  refine js_puti (j := 8) (n := 67) X (dg dc_M_init 35 rfl) rfl hC_M (Nat.le_of_ble_eq_true rfl) hw_304 rfl rfl (Or.inl rfl) (Nat.le_of_ble_eq_true rfl) ?_
  exact js_retV X (dg dc_M_init 36 rfl) rfl (Nat.le_of_ble_eq_true rfl) (Nat.le_of_ble_eq_true rfl) rfl
set_option maxRecDepth 100000 in
set_option maxHeartbeats 4000000 in
theorem c_J_init_1 (l : Launch) (D : va_G) : ev_M l D gaX mu_J_init [.ref 20] [.inr (0, [.ref 1, .ref 6, .null, .null, .int 0, .int 0]), .inr (1, [.ref 2, .ref 3, .ref 4, .ref 5]), .inl (.int, 3, .inl fun _ => 0), .inl (.int, 14, .inl fun _ => 0), .inl (.int, 14, .inl fun _ => 0), .inl (.int, 14, .inl fun _ => 0), .inr (1, [.ref 7, .ref 8, .ref 9, .ref 10]), .inl (.int, 3, .inl fun _ => 0), .inl (.int, 14, .inl fun _ => 0), .inl (.int, 14, .inl fun _ => 0), .inl (.int, 14, .inl fun _ => 0), .inr (2, [.ref 12, .null, .null, .int 0, .int 0, .int 0, .int 0, .int 0, .null]), .inr (3, [.ref 13, .ref 14, .ref 15, .ref 16, .int 0, .ref 17, .ref 18, .ref 19, .int 0]), .inl (.int, 14, .inl fun _ => 0), .inl (.int, 14, .inl fun _ => 0), .inl (.int, 14, .inl fun _ => 0), .inl (.int, 14, .inl fun _ => 0), .inl (.int, 3, .inl fun _ => 0), .inl (.int, 3, .inl fun _ => 0), .inl (.int, 3, .inl fun _ => 0), .inr (4, [.null])] (some ()) (fun _ => (none, [.inr (0, [.ref 1, .ref 6, .null, .null, .int 0, .int 0]), .inr (1, [.ref 2, .ref 3, .ref 4, .ref 5]), .inl (.int, 3, .inl fun _ => 0), .inl (.int, 14, .inl fun _ => 0), .inl (.int, 14, .inl fun _ => 0), .inl (.int, 14, .inl fun _ => 0), .inr (1, [.ref 7, .ref 8, .ref 9, .ref 10]), .inl (.int, 3, .inl fun _ => 0), .inl (.int, 14, .inl fun _ => 0), .inl (.int, 14, .inl fun _ => 0), .inl (.int, 14, .inl fun _ => 0), .inr (2, [.ref 12, .null, .null, .int 0, .int 0, .int 0, .int 0, .int 0, .null]), .inr (3, [.ref 13, .ref 14, .ref 15, .ref 16, .int 0, .ref 17, .ref 18, .ref 19, .int 0]), .inl (.int, 14, .inl fun _ => 0), .inl (.int, 14, .inl fun _ => 0), .inl (.int, 14, .inl fun _ => 0), .inl (.int, 14, .inl fun _ => 0), .inl (.int, 3, .inl fun _ => 0), .inl (.int, 3, .inl fun _ => 0), .inl (.int, 3, .inl fun _ => 0), .inr (4, [.ref 21]), .inl (.int, 8, .inl fun _ => 0)])) := by
  refine ev_met (lo0 := [some (.ref 20)]) rfl rfl rfl (fun κ X => ?_)
  refine js_aload_n (n := 1) X (dg dc_J_init 0 rfl) rfl rfl rfl ?_
  refine js_objI (n := 4) X (dg dc_J_init 1 rfl) rfl hw_464 hw_457 hw_458 (Nat.le_of_ble_eq_true rfl) (Nat.le_of_ble_eq_true rfl) ?_
  refine js_aload_n (n := 5) X (dg dc_J_init 2 rfl) rfl rfl rfl ?_
  refine js_bipush (n := 7) 8 X (dg dc_J_init 3 rfl) rfl (by decide) ?_
  refine js_newa (N := 8) (n := 9) (.inl fun _ => 0) X (dg dc_J_init 4 rfl) rfl hw_575 rfl (fun _ => rfl) (by decide) (Nat.le_of_ble_eq_true rfl) (Nat.le_of_ble_eq_true rfl) (by decide) (by decide) rfl rfl rfl ?_
  refine js_putr (j := 0) (n := 12) X (dg dc_J_init 5 rfl) rfl hC_J (Nat.le_of_ble_eq_true rfl) hw_356 rfl (Or.inr ⟨_, rfl⟩) (Or.inr ⟨rfl, rfl, rfl⟩) (Nat.le_of_ble_eq_true rfl) ?_
  exact js_retV X (dg dc_J_init 6 rfl) rfl (Nat.le_of_ble_eq_true rfl) (Nat.le_of_ble_eq_true rfl) rfl
set_option maxRecDepth 100000 in
set_option maxHeartbeats 4000000 in
theorem c_D_init_1 (l : Launch) (D : va_G) : ev_M l D gaX mu_D_init [.ref 23] [.inr (0, [.ref 1, .ref 6, .null, .null, .int 0, .int 0]), .inr (1, [.ref 2, .ref 3, .ref 4, .ref 5]), .inl (.int, 3, .inl fun _ => 0), .inl (.int, 14, .inl fun _ => 0), .inl (.int, 14, .inl fun _ => 0), .inl (.int, 14, .inl fun _ => 0), .inr (1, [.ref 7, .ref 8, .ref 9, .ref 10]), .inl (.int, 3, .inl fun _ => 0), .inl (.int, 14, .inl fun _ => 0), .inl (.int, 14, .inl fun _ => 0), .inl (.int, 14, .inl fun _ => 0), .inr (2, [.ref 12, .ref 20, .ref 22, .int 0, .int 0, .int 0, .int 0, .int 0, .null]), .inr (3, [.ref 13, .ref 14, .ref 15, .ref 16, .int 0, .ref 17, .ref 18, .ref 19, .int 0]), .inl (.int, 14, .inl fun _ => 0), .inl (.int, 14, .inl fun _ => 0), .inl (.int, 14, .inl fun _ => 0), .inl (.int, 14, .inl fun _ => 0), .inl (.int, 3, .inl fun _ => 0), .inl (.int, 3, .inl fun _ => 0), .inl (.int, 3, .inl fun _ => 0), .inr (4, [.ref 21]), .inl (.int, 8, .inl fun _ => 0), .inl (.int, 7, .inl fun _ => 0), .inr (5, [.long 0])] (some ()) (fun _ => (none, [.inr (0, [.ref 1, .ref 6, .null, .null, .int 0, .int 0]), .inr (1, [.ref 2, .ref 3, .ref 4, .ref 5]), .inl (.int, 3, .inl fun _ => 0), .inl (.int, 14, .inl fun _ => 0), .inl (.int, 14, .inl fun _ => 0), .inl (.int, 14, .inl fun _ => 0), .inr (1, [.ref 7, .ref 8, .ref 9, .ref 10]), .inl (.int, 3, .inl fun _ => 0), .inl (.int, 14, .inl fun _ => 0), .inl (.int, 14, .inl fun _ => 0), .inl (.int, 14, .inl fun _ => 0), .inr (2, [.ref 12, .ref 20, .ref 22, .int 0, .int 0, .int 0, .int 0, .int 0, .null]), .inr (3, [.ref 13, .ref 14, .ref 15, .ref 16, .int 0, .ref 17, .ref 18, .ref 19, .int 0]), .inl (.int, 14, .inl fun _ => 0), .inl (.int, 14, .inl fun _ => 0), .inl (.int, 14, .inl fun _ => 0), .inl (.int, 14, .inl fun _ => 0), .inl (.int, 3, .inl fun _ => 0), .inl (.int, 3, .inl fun _ => 0), .inl (.int, 3, .inl fun _ => 0), .inr (4, [.ref 21]), .inl (.int, 8, .inl fun _ => 0), .inl (.int, 7, .inl fun _ => 0), .inr (5, [.long 0])])) := by
  refine ev_met (lo0 := [some (.ref 23)]) rfl rfl rfl (fun κ X => ?_)
  refine js_aload_n (n := 1) X (dg dc_D_init 0 rfl) rfl rfl rfl ?_
  refine js_objI (n := 4) X (dg dc_D_init 1 rfl) rfl hw_466 hw_457 hw_458 (Nat.le_of_ble_eq_true rfl) (Nat.le_of_ble_eq_true rfl) ?_
  refine js_aload_n (n := 5) X (dg dc_D_init 2 rfl) rfl rfl rfl ?_
  refine js_lconst (n := 6) 0 X (dg dc_D_init 3 rfl) rfl (by decide) ?_
  refine js_putj (j := 0) (n := 9) X (dg dc_D_init 4 rfl) rfl hC_D (Nat.le_of_ble_eq_true rfl) hw_77 rfl rfl (Or.inl rfl) (Nat.le_of_ble_eq_true rfl) ?_
  exact js_retV X (dg dc_D_init 5 rfl) rfl (Nat.le_of_ble_eq_true rfl) (Nat.le_of_ble_eq_true rfl) rfl
set_option maxRecDepth 100000 in
set_option maxHeartbeats 4000000 in
theorem c_T_init_1 (l : Launch) (D : va_G) : ev_M l D gaX mu_T_init [.ref 11] [.inr (0, [.ref 1, .ref 6, .null, .null, .int 0, .int 0]), .inr (1, [.ref 2, .ref 3, .ref 4, .ref 5]), .inl (.int, 3, .inl fun _ => 0), .inl (.int, 14, .inl fun _ => 0), .inl (.int, 14, .inl fun _ => 0), .inl (.int, 14, .inl fun _ => 0), .inr (1, [.ref 7, .ref 8, .ref 9, .ref 10]), .inl (.int, 3, .inl fun _ => 0), .inl (.int, 14, .inl fun _ => 0), .inl (.int, 14, .inl fun _ => 0), .inl (.int, 14, .inl fun _ => 0), .inr (2, [.null, .null, .null, .int 0, .int 0, .int 0, .int 0, .int 0, .null])] (some ()) (fun _ => (none, [.inr (0, [.ref 1, .ref 6, .null, .null, .int 0, .int 0]), .inr (1, [.ref 2, .ref 3, .ref 4, .ref 5]), .inl (.int, 3, .inl fun _ => 0), .inl (.int, 14, .inl fun _ => 0), .inl (.int, 14, .inl fun _ => 0), .inl (.int, 14, .inl fun _ => 0), .inr (1, [.ref 7, .ref 8, .ref 9, .ref 10]), .inl (.int, 3, .inl fun _ => 0), .inl (.int, 14, .inl fun _ => 0), .inl (.int, 14, .inl fun _ => 0), .inl (.int, 14, .inl fun _ => 0), .inr (2, [.ref 12, .ref 20, .ref 22, .int 0, .int 0, .int 0, .int 0, .int 0, .ref 23]), .inr (3, [.ref 13, .ref 14, .ref 15, .ref 16, .int 0, .ref 17, .ref 18, .ref 19, .int 0]), .inl (.int, 14, .inl fun _ => 0), .inl (.int, 14, .inl fun _ => 0), .inl (.int, 14, .inl fun _ => 0), .inl (.int, 14, .inl fun _ => 0), .inl (.int, 3, .inl fun _ => 0), .inl (.int, 3, .inl fun _ => 0), .inl (.int, 3, .inl fun _ => 0), .inr (4, [.ref 21]), .inl (.int, 8, .inl fun _ => 0), .inl (.int, 7, .inl fun _ => 0), .inr (5, [.long 0])])) := by
  refine ev_met (lo0 := [some (.ref 11)]) rfl rfl rfl (fun κ X => ?_)
  refine js_aload_n (n := 1) X (dg dc_T_init 0 rfl) rfl rfl rfl ?_
  refine js_objI (n := 4) X (dg dc_T_init 1 rfl) rfl hw_461 hw_457 hw_458 (Nat.le_of_ble_eq_true rfl) (Nat.le_of_ble_eq_true rfl) ?_
  refine js_aload_n (n := 5) X (dg dc_T_init 2 rfl) rfl rfl rfl ?_
  refine js_new (fs := [.null, .null, .null, .null, .int 0, .null, .null, .null, .int 0]) (n := 8) X (dg dc_T_init 3 rfl) rfl hC_M hw_580 hw_581 hw_319 hfs_M (fun _ => rfl) (Nat.le_of_ble_eq_true rfl) (Nat.le_of_ble_eq_true rfl) rfl rfl rfl ?_
  refine js_dup (n := 9) X (dg dc_T_init 4 rfl) rfl rfl ?_
  refine js_callI (k := fun _ => some ()) (na := 0) (n := 12) X (dg dc_T_init 5 rfl) rfl (c_M_init_1 l D) gI_M_init rfl rfl rfl hw_319 (Or.inr ⟨"HistoryJudge", (List.mem_of_getElem? (i := 1) rfl)⟩) hw_582 rfl hy_M_init.2 ⟨(Nat.le_of_ble_eq_true rfl), (Nat.le_of_ble_eq_true rfl)⟩ ⟨(Nat.le_of_ble_eq_true rfl), (Nat.le_of_ble_eq_true rfl)⟩ rfl rfl rfl rfl ?_
  intro _
  refine js_putr (j := 0) (n := 15) X (dg dc_T_init 6 rfl) rfl hC_T (Nat.le_of_ble_eq_true rfl) hw_302 rfl (Or.inl ⟨_, rfl⟩) (Or.inr ⟨rfl, rfl, rfl⟩) (Nat.le_of_ble_eq_true rfl) ?_
  refine js_aload_n (n := 16) X (dg dc_T_init 7 rfl) rfl rfl rfl ?_
  refine js_new (fs := [.null]) (n := 19) X (dg dc_T_init 8 rfl) rfl hC_J hw_584 hw_585 hw_365 hfs_J (fun _ => rfl) (Nat.le_of_ble_eq_true rfl) (Nat.le_of_ble_eq_true rfl) rfl rfl rfl ?_
  refine js_dup (n := 20) X (dg dc_T_init 9 rfl) rfl rfl ?_
  refine js_callI (k := fun _ => some ()) (na := 0) (n := 23) X (dg dc_T_init 10 rfl) rfl (c_J_init_1 l D) gI_J_init rfl rfl rfl hw_365 (Or.inr ⟨"HistoryJudge", (List.mem_of_getElem? (i := 2) rfl)⟩) hw_586 rfl hy_J_init.2 ⟨(Nat.le_of_ble_eq_true rfl), (Nat.le_of_ble_eq_true rfl)⟩ ⟨(Nat.le_of_ble_eq_true rfl), (Nat.le_of_ble_eq_true rfl)⟩ rfl rfl rfl rfl ?_
  intro _
  refine js_putr (j := 1) (n := 26) X (dg dc_T_init 11 rfl) rfl hC_T (Nat.le_of_ble_eq_true rfl) hw_353 rfl (Or.inl ⟨_, rfl⟩) (Or.inr ⟨rfl, rfl, rfl⟩) (Nat.le_of_ble_eq_true rfl) ?_
  refine js_aload_n (n := 27) X (dg dc_T_init 12 rfl) rfl rfl rfl ?_
  refine js_bipush (n := 29) 7 X (dg dc_T_init 13 rfl) rfl (by decide) ?_
  refine js_newa (N := 7) (n := 31) (.inl fun _ => 0) X (dg dc_T_init 14 rfl) rfl hw_575 rfl (fun _ => rfl) (by decide) (Nat.le_of_ble_eq_true rfl) (Nat.le_of_ble_eq_true rfl) (by decide) (by decide) rfl rfl rfl ?_
  refine js_putr (j := 2) (n := 34) X (dg dc_T_init 15 rfl) rfl hC_T (Nat.le_of_ble_eq_true rfl) hw_383 rfl (Or.inr ⟨_, rfl⟩) (Or.inr ⟨rfl, rfl, rfl⟩) (Nat.le_of_ble_eq_true rfl) ?_
  refine js_aload_n (n := 35) X (dg dc_T_init 16 rfl) rfl rfl rfl ?_
  refine js_iconst (n := 36) 0 X (dg dc_T_init 17 rfl) rfl (by decide) ?_
  refine js_puti (j := 3) (n := 39) X (dg dc_T_init 18 rfl) rfl hC_T (Nat.le_of_ble_eq_true rfl) hw_303 rfl rfl (Or.inl rfl) (Nat.le_of_ble_eq_true rfl) ?_
  refine js_aload_n (n := 40) X (dg dc_T_init 19 rfl) rfl rfl rfl ?_
  refine js_iconst (n := 41) 0 X (dg dc_T_init 20 rfl) rfl (by decide) ?_
  refine js_puti (j := 4) (n := 44) X (dg dc_T_init 21 rfl) rfl hC_T (Nat.le_of_ble_eq_true rfl) hw_381 rfl rfl (Or.inl rfl) (Nat.le_of_ble_eq_true rfl) ?_
  refine js_aload_n (n := 45) X (dg dc_T_init 22 rfl) rfl rfl rfl ?_
  refine js_iconst (n := 46) 0 X (dg dc_T_init 23 rfl) rfl (by decide) ?_
  refine js_puti (j := 5) (n := 49) X (dg dc_T_init 24 rfl) rfl hC_T (Nat.le_of_ble_eq_true rfl) hw_385 rfl rfl (Or.inl rfl) (Nat.le_of_ble_eq_true rfl) ?_
  refine js_aload_n (n := 50) X (dg dc_T_init 25 rfl) rfl rfl rfl ?_
  refine js_iconst (n := 51) 0 X (dg dc_T_init 26 rfl) rfl (by decide) ?_
  refine js_puti (j := 6) (n := 54) X (dg dc_T_init 27 rfl) rfl hC_T (Nat.le_of_ble_eq_true rfl) hw_301 rfl rfl (Or.inl rfl) (Nat.le_of_ble_eq_true rfl) ?_
  refine js_aload_n (n := 55) X (dg dc_T_init 28 rfl) rfl rfl rfl ?_
  refine js_iconst (n := 56) 0 X (dg dc_T_init 29 rfl) rfl (by decide) ?_
  refine js_putz (j := 7) (y := some ()) (n := 59) X (dg dc_T_init 30 rfl) rfl hC_T (Nat.le_of_ble_eq_true rfl) hw_380 rfl rfl (Or.inl rfl) (Nat.le_of_ble_eq_true rfl) ?_
  refine js_aload_n (n := 60) X (dg dc_T_init 31 rfl) rfl rfl rfl ?_
  refine js_new (fs := [.long 0]) (n := 63) X (dg dc_T_init 32 rfl) rfl hC_D hw_588 hw_589 hw_84 hfs_D (fun _ => rfl) (Nat.le_of_ble_eq_true rfl) (Nat.le_of_ble_eq_true rfl) rfl rfl rfl ?_
  refine js_dup (n := 64) X (dg dc_T_init 33 rfl) rfl rfl ?_
  refine js_callI (k := fun _ => some ()) (na := 0) (n := 67) X (dg dc_T_init 34 rfl) rfl (c_D_init_1 l D) gI_D_init rfl rfl rfl hw_84 (Or.inr ⟨"HistoryJudge", (List.mem_of_getElem? (i := 3) rfl)⟩) hw_590 rfl hy_D_init.2 ⟨(Nat.le_of_ble_eq_true rfl), (Nat.le_of_ble_eq_true rfl)⟩ ⟨(Nat.le_of_ble_eq_true rfl), (Nat.le_of_ble_eq_true rfl)⟩ rfl rfl rfl rfl ?_
  intro _
  refine js_putr (j := 8) (n := 70) X (dg dc_T_init 35 rfl) rfl hC_T (Nat.le_of_ble_eq_true rfl) hw_386 rfl (Or.inl ⟨_, rfl⟩) (Or.inr ⟨rfl, rfl, rfl⟩) (Nat.le_of_ble_eq_true rfl) ?_
  exact js_retV X (dg dc_T_init 36 rfl) rfl (Nat.le_of_ble_eq_true rfl) (Nat.le_of_ble_eq_true rfl) rfl
set_option maxRecDepth 100000 in
set_option maxHeartbeats 4000000 in
theorem c_D_init_2 (l : Launch) (D : va_G) : ev_M l D gaX mu_D_init [.ref 24] [.inr (0, [.ref 1, .ref 6, .ref 11, .null, .int 0, .int 0]), .inr (1, [.ref 2, .ref 3, .ref 4, .ref 5]), .inl (.int, 3, .inl fun _ => 0), .inl (.int, 14, .inl fun _ => 0), .inl (.int, 14, .inl fun _ => 0), .inl (.int, 14, .inl fun _ => 0), .inr (1, [.ref 7, .ref 8, .ref 9, .ref 10]), .inl (.int, 3, .inl fun _ => 0), .inl (.int, 14, .inl fun _ => 0), .inl (.int, 14, .inl fun _ => 0), .inl (.int, 14, .inl fun _ => 0), .inr (2, [.ref 12, .ref 20, .ref 22, .int 0, .int 0, .int 0, .int 0, .int 0, .ref 23]), .inr (3, [.ref 13, .ref 14, .ref 15, .ref 16, .int 0, .ref 17, .ref 18, .ref 19, .int 0]), .inl (.int, 14, .inl fun _ => 0), .inl (.int, 14, .inl fun _ => 0), .inl (.int, 14, .inl fun _ => 0), .inl (.int, 14, .inl fun _ => 0), .inl (.int, 3, .inl fun _ => 0), .inl (.int, 3, .inl fun _ => 0), .inl (.int, 3, .inl fun _ => 0), .inr (4, [.ref 21]), .inl (.int, 8, .inl fun _ => 0), .inl (.int, 7, .inl fun _ => 0), .inr (5, [.long 0]), .inr (5, [.long 0])] (some ()) (fun _ => (none, [.inr (0, [.ref 1, .ref 6, .ref 11, .null, .int 0, .int 0]), .inr (1, [.ref 2, .ref 3, .ref 4, .ref 5]), .inl (.int, 3, .inl fun _ => 0), .inl (.int, 14, .inl fun _ => 0), .inl (.int, 14, .inl fun _ => 0), .inl (.int, 14, .inl fun _ => 0), .inr (1, [.ref 7, .ref 8, .ref 9, .ref 10]), .inl (.int, 3, .inl fun _ => 0), .inl (.int, 14, .inl fun _ => 0), .inl (.int, 14, .inl fun _ => 0), .inl (.int, 14, .inl fun _ => 0), .inr (2, [.ref 12, .ref 20, .ref 22, .int 0, .int 0, .int 0, .int 0, .int 0, .ref 23]), .inr (3, [.ref 13, .ref 14, .ref 15, .ref 16, .int 0, .ref 17, .ref 18, .ref 19, .int 0]), .inl (.int, 14, .inl fun _ => 0), .inl (.int, 14, .inl fun _ => 0), .inl (.int, 14, .inl fun _ => 0), .inl (.int, 14, .inl fun _ => 0), .inl (.int, 3, .inl fun _ => 0), .inl (.int, 3, .inl fun _ => 0), .inl (.int, 3, .inl fun _ => 0), .inr (4, [.ref 21]), .inl (.int, 8, .inl fun _ => 0), .inl (.int, 7, .inl fun _ => 0), .inr (5, [.long 0]), .inr (5, [.long 0])])) := by
  refine ev_met (lo0 := [some (.ref 24)]) rfl rfl rfl (fun κ X => ?_)
  refine js_aload_n (n := 1) X (dg dc_D_init 0 rfl) rfl rfl rfl ?_
  refine js_objI (n := 4) X (dg dc_D_init 1 rfl) rfl hw_466 hw_457 hw_458 (Nat.le_of_ble_eq_true rfl) (Nat.le_of_ble_eq_true rfl) ?_
  refine js_aload_n (n := 5) X (dg dc_D_init 2 rfl) rfl rfl rfl ?_
  refine js_lconst (n := 6) 0 X (dg dc_D_init 3 rfl) rfl (by decide) ?_
  refine js_putj (j := 0) (n := 9) X (dg dc_D_init 4 rfl) rfl hC_D (Nat.le_of_ble_eq_true rfl) hw_77 rfl rfl (Or.inl rfl) (Nat.le_of_ble_eq_true rfl) ?_
  exact js_retV X (dg dc_D_init 5 rfl) rfl (Nat.le_of_ble_eq_true rfl) (Nat.le_of_ble_eq_true rfl) rfl
set_option maxRecDepth 100000 in
set_option maxHeartbeats 4000000 in
theorem c_H_init_1 (l : Launch) (D : va_G) : ev_M l D gaX mu_H_init [.ref 0] [.inr (0, [.null, .null, .null, .null, .int 0, .int 0])] (some ()) (fun _ => (none, [.inr (0, [.ref 1, .ref 6, .ref 11, .ref 24, .int 0, .int 0]), .inr (1, [.ref 2, .ref 3, .ref 4, .ref 5]), .inl (.int, 3, .inl fun _ => 0), .inl (.int, 14, .inl fun _ => 0), .inl (.int, 14, .inl fun _ => 0), .inl (.int, 14, .inl fun _ => 0), .inr (1, [.ref 7, .ref 8, .ref 9, .ref 10]), .inl (.int, 3, .inl fun _ => 0), .inl (.int, 14, .inl fun _ => 0), .inl (.int, 14, .inl fun _ => 0), .inl (.int, 14, .inl fun _ => 0), .inr (2, [.ref 12, .ref 20, .ref 22, .int 0, .int 0, .int 0, .int 0, .int 0, .ref 23]), .inr (3, [.ref 13, .ref 14, .ref 15, .ref 16, .int 0, .ref 17, .ref 18, .ref 19, .int 0]), .inl (.int, 14, .inl fun _ => 0), .inl (.int, 14, .inl fun _ => 0), .inl (.int, 14, .inl fun _ => 0), .inl (.int, 14, .inl fun _ => 0), .inl (.int, 3, .inl fun _ => 0), .inl (.int, 3, .inl fun _ => 0), .inl (.int, 3, .inl fun _ => 0), .inr (4, [.ref 21]), .inl (.int, 8, .inl fun _ => 0), .inl (.int, 7, .inl fun _ => 0), .inr (5, [.long 0]), .inr (5, [.long 0])])) := by
  refine ev_met (lo0 := [some (.ref 0)]) rfl rfl rfl (fun κ X => ?_)
  refine js_aload_n (n := 1) X (dg dc_H_init 0 rfl) rfl rfl rfl ?_
  refine js_objI (n := 4) X (dg dc_H_init 1 rfl) rfl hw_456 hw_457 hw_458 (Nat.le_of_ble_eq_true rfl) (Nat.le_of_ble_eq_true rfl) ?_
  refine js_aload_n (n := 5) X (dg dc_H_init 2 rfl) rfl rfl rfl ?_
  refine js_new (fs := [.null, .null, .null, .null]) (n := 8) X (dg dc_H_init 3 rfl) rfl hC_P hw_573 hw_574 hw_6 hfs_P (fun _ => rfl) (Nat.le_of_ble_eq_true rfl) (Nat.le_of_ble_eq_true rfl) rfl rfl rfl ?_
  refine js_dup (n := 9) X (dg dc_H_init 4 rfl) rfl rfl ?_
  refine js_callI (k := fun _ => some ()) (na := 0) (n := 12) X (dg dc_H_init 5 rfl) rfl (c_P_init_1 l D) gI_P_init rfl rfl rfl hw_6 (Or.inr ⟨"HistoryJudge", (List.mem_of_getElem? (i := 0) rfl)⟩) hw_576 rfl hy_P_init.2 ⟨(Nat.le_of_ble_eq_true rfl), (Nat.le_of_ble_eq_true rfl)⟩ ⟨(Nat.le_of_ble_eq_true rfl), (Nat.le_of_ble_eq_true rfl)⟩ rfl rfl rfl rfl ?_
  intro _
  refine js_putr (j := 0) (n := 15) X (dg dc_H_init 6 rfl) rfl hC_H (Nat.le_of_ble_eq_true rfl) hw_0 rfl (Or.inl ⟨_, rfl⟩) (Or.inr ⟨rfl, rfl, rfl⟩) (Nat.le_of_ble_eq_true rfl) ?_
  refine js_aload_n (n := 16) X (dg dc_H_init 7 rfl) rfl rfl rfl ?_
  refine js_new (fs := [.null, .null, .null, .null]) (n := 19) X (dg dc_H_init 8 rfl) rfl hC_P hw_573 hw_574 hw_6 hfs_P (fun _ => rfl) (Nat.le_of_ble_eq_true rfl) (Nat.le_of_ble_eq_true rfl) rfl rfl rfl ?_
  refine js_dup (n := 20) X (dg dc_H_init 9 rfl) rfl rfl ?_
  refine js_callI (k := fun _ => some ()) (na := 0) (n := 23) X (dg dc_H_init 10 rfl) rfl (c_P_init_2 l D) gI_P_init rfl rfl rfl hw_6 (Or.inr ⟨"HistoryJudge", (List.mem_of_getElem? (i := 0) rfl)⟩) hw_576 rfl hy_P_init.2 ⟨(Nat.le_of_ble_eq_true rfl), (Nat.le_of_ble_eq_true rfl)⟩ ⟨(Nat.le_of_ble_eq_true rfl), (Nat.le_of_ble_eq_true rfl)⟩ rfl rfl rfl rfl ?_
  intro _
  refine js_putr (j := 1) (n := 26) X (dg dc_H_init 11 rfl) rfl hC_H (Nat.le_of_ble_eq_true rfl) hw_12 rfl (Or.inl ⟨_, rfl⟩) (Or.inr ⟨rfl, rfl, rfl⟩) (Nat.le_of_ble_eq_true rfl) ?_
  refine js_aload_n (n := 27) X (dg dc_H_init 12 rfl) rfl rfl rfl ?_
  refine js_new (fs := [.null, .null, .null, .int 0, .int 0, .int 0, .int 0, .int 0, .null]) (n := 30) X (dg dc_H_init 13 rfl) rfl hC_T hw_578 hw_579 hw_397 hfs_T (fun _ => rfl) (Nat.le_of_ble_eq_true rfl) (Nat.le_of_ble_eq_true rfl) rfl rfl rfl ?_
  refine js_dup (n := 31) X (dg dc_H_init 14 rfl) rfl rfl ?_
  refine js_callI (k := fun _ => some ()) (na := 0) (n := 34) X (dg dc_H_init 15 rfl) rfl (c_T_init_1 l D) gI_T_init rfl rfl rfl hw_397 (Or.inr ⟨"HistoryJudge", (List.mem_of_getElem? (i := 4) rfl)⟩) hw_592 rfl hy_T_init.2 ⟨(Nat.le_of_ble_eq_true rfl), (Nat.le_of_ble_eq_true rfl)⟩ ⟨(Nat.le_of_ble_eq_true rfl), (Nat.le_of_ble_eq_true rfl)⟩ rfl rfl rfl rfl ?_
  intro _
  refine js_putr (j := 2) (n := 37) X (dg dc_H_init 16 rfl) rfl hC_H (Nat.le_of_ble_eq_true rfl) hw_418 rfl (Or.inl ⟨_, rfl⟩) (Or.inr ⟨rfl, rfl, rfl⟩) (Nat.le_of_ble_eq_true rfl) ?_
  refine js_aload_n (n := 38) X (dg dc_H_init 17 rfl) rfl rfl rfl ?_
  refine js_new (fs := [.long 0]) (n := 41) X (dg dc_H_init 18 rfl) rfl hC_D hw_594 hw_589 hw_84 hfs_D (fun _ => rfl) (Nat.le_of_ble_eq_true rfl) (Nat.le_of_ble_eq_true rfl) rfl rfl rfl ?_
  refine js_dup (n := 42) X (dg dc_H_init 19 rfl) rfl rfl ?_
  refine js_callI (k := fun _ => some ()) (na := 0) (n := 45) X (dg dc_H_init 20 rfl) rfl (c_D_init_2 l D) gI_D_init rfl rfl rfl hw_84 (Or.inr ⟨"HistoryJudge", (List.mem_of_getElem? (i := 5) rfl)⟩) hw_590 rfl hy_D_init.2 ⟨(Nat.le_of_ble_eq_true rfl), (Nat.le_of_ble_eq_true rfl)⟩ ⟨(Nat.le_of_ble_eq_true rfl), (Nat.le_of_ble_eq_true rfl)⟩ rfl rfl rfl rfl ?_
  intro _
  refine js_putr (j := 3) (n := 48) X (dg dc_H_init 21 rfl) rfl hC_H (Nat.le_of_ble_eq_true rfl) hw_76 rfl (Or.inl ⟨_, rfl⟩) (Or.inr ⟨rfl, rfl, rfl⟩) (Nat.le_of_ble_eq_true rfl) ?_
  refine js_aload_n (n := 49) X (dg dc_H_init 22 rfl) rfl rfl rfl ?_
  refine js_iconst (n := 50) 0 X (dg dc_H_init 23 rfl) rfl (by decide) ?_
  refine js_puti (j := 4) (n := 53) X (dg dc_H_init 24 rfl) rfl hC_H (Nat.le_of_ble_eq_true rfl) hw_426 rfl rfl (Or.inl rfl) (Nat.le_of_ble_eq_true rfl) ?_
  refine js_aload_n (n := 54) X (dg dc_H_init 25 rfl) rfl rfl rfl ?_
  refine js_iconst (n := 55) 0 X (dg dc_H_init 26 rfl) rfl (by decide) ?_
  refine js_putz (j := 5) (y := some ()) (n := 58) X (dg dc_H_init 27 rfl) rfl hC_H (Nat.le_of_ble_eq_true rfl) hw_11 rfl rfl (Or.inl rfl) (Nat.le_of_ble_eq_true rfl) ?_
  exact js_retV X (dg dc_H_init 28 rfl) rfl (Nat.le_of_ble_eq_true rfl) (Nat.le_of_ble_eq_true rfl) rfl
set_option maxRecDepth 100000 in
set_option maxHeartbeats 4000000 in
theorem c_R_init_1 (l : Launch) (D : va_G) : ev_M l D gaX mu_R_init [.ref 25] [.inr (0, [.ref 1, .ref 6, .ref 11, .ref 24, .int 0, .int 0]), .inr (1, [.ref 2, .ref 3, .ref 4, .ref 5]), .inl (.int, 3, .inl fun _ => 0), .inl (.int, 14, .inl fun _ => 0), .inl (.int, 14, .inl fun _ => 0), .inl (.int, 14, .inl fun _ => 0), .inr (1, [.ref 7, .ref 8, .ref 9, .ref 10]), .inl (.int, 3, .inl fun _ => 0), .inl (.int, 14, .inl fun _ => 0), .inl (.int, 14, .inl fun _ => 0), .inl (.int, 14, .inl fun _ => 0), .inr (2, [.ref 12, .ref 20, .ref 22, .int 0, .int 0, .int 0, .int 0, .int 0, .ref 23]), .inr (3, [.ref 13, .ref 14, .ref 15, .ref 16, .int 0, .ref 17, .ref 18, .ref 19, .int 0]), .inl (.int, 14, .inl fun _ => 0), .inl (.int, 14, .inl fun _ => 0), .inl (.int, 14, .inl fun _ => 0), .inl (.int, 14, .inl fun _ => 0), .inl (.int, 3, .inl fun _ => 0), .inl (.int, 3, .inl fun _ => 0), .inl (.int, 3, .inl fun _ => 0), .inr (4, [.ref 21]), .inl (.int, 8, .inl fun _ => 0), .inl (.int, 7, .inl fun _ => 0), .inr (5, [.long 0]), .inr (5, [.long 0]), .inr (6, [.int 0, .null, .null, .null, .null, .null, .null, .int 0, .long 0, .null, .null, .null, .null, .int 0, .int 0, .null, .null, .null, .null, .null, .null, .null, .int 0, .int 0, .int 0, .int 0, .int 0, .null])] (some ()) (fun _ => (none, [.inr (0, [.ref 1, .ref 6, .ref 11, .ref 24, .int 0, .int 0]), .inr (1, [.ref 2, .ref 3, .ref 4, .ref 5]), .inl (.int, 3, .inl fun _ => 0), .inl (.int, 14, .inl fun _ => 0), .inl (.int, 14, .inl fun _ => 0), .inl (.int, 14, .inl fun _ => 0), .inr (1, [.ref 7, .ref 8, .ref 9, .ref 10]), .inl (.int, 3, .inl fun _ => 0), .inl (.int, 14, .inl fun _ => 0), .inl (.int, 14, .inl fun _ => 0), .inl (.int, 14, .inl fun _ => 0), .inr (2, [.ref 12, .ref 20, .ref 22, .int 0, .int 0, .int 0, .int 0, .int 0, .ref 23]), .inr (3, [.ref 13, .ref 14, .ref 15, .ref 16, .int 0, .ref 17, .ref 18, .ref 19, .int 0]), .inl (.int, 14, .inl fun _ => 0), .inl (.int, 14, .inl fun _ => 0), .inl (.int, 14, .inl fun _ => 0), .inl (.int, 14, .inl fun _ => 0), .inl (.int, 3, .inl fun _ => 0), .inl (.int, 3, .inl fun _ => 0), .inl (.int, 3, .inl fun _ => 0), .inr (4, [.ref 21]), .inl (.int, 8, .inl fun _ => 0), .inl (.int, 7, .inl fun _ => 0), .inr (5, [.long 0]), .inr (5, [.long 0]), .inr (6, [.int 0, .ref 26, .ref 27, .ref 28, .ref 29, .ref 30, .ref 31, .int 0, .long 0, .ref 32, .ref 33, .ref 34, .ref 35, .int 0, .int 0, .ref 36, .ref 37, .ref 38, .ref 39, .ref 40, .ref 41, .ref 42, .int 0, .int 0, .int 0, .int 0, .int 0, .ref 43]), .inl (.int, 3, .inl fun _ => 0), .inl (.int, 14, .inl fun _ => 0), .inl (.int, 14, .inl fun _ => 0), .inl (.int, 14, .inl fun _ => 0), .inl (.int, 3, .inl fun _ => 0), .inl (.int, 42, .inl fun _ => 0), .inl (.int, 3, .inl fun _ => 0), .inl (.boolean, 3, .inl fun _ => 0), .inl (.int, 3, .inl fun _ => 0), .inl (.boolean, 3, .inl fun _ => 0), .inl (.int, 14, .inl fun _ => 0), .inl (.int, 14, .inl fun _ => 0), .inl (.int, 14, .inl fun _ => 0), .inl (.int, 14, .inl fun _ => 0), .inl (.int, 14, .inl fun _ => 0), .inl (.int, 3, .inl fun _ => 0), .inl (.int, 3, .inl fun _ => 0), .inl (.int, 7, .inl fun _ => 0)])) := by
  refine ev_met (lo0 := [some (.ref 25)]) rfl rfl rfl (fun κ X => ?_)
  refine js_aload_n (n := 1) X (dg dc_R_init 0 rfl) rfl rfl rfl ?_
  refine js_objI (n := 4) X (dg dc_R_init 1 rfl) rfl hw_571 hw_457 hw_458 (Nat.le_of_ble_eq_true rfl) (Nat.le_of_ble_eq_true rfl) ?_
  refine js_aload_n (n := 5) X (dg dc_R_init 2 rfl) rfl rfl rfl ?_
  refine js_iconst (n := 6) 3 X (dg dc_R_init 3 rfl) rfl (by decide) ?_
  refine js_newa (N := 3) (n := 8) (.inl fun _ => 0) X (dg dc_R_init 4 rfl) rfl hw_575 rfl (fun _ => rfl) (by decide) (Nat.le_of_ble_eq_true rfl) (Nat.le_of_ble_eq_true rfl) (by decide) (by decide) rfl rfl rfl ?_
  refine js_putr (j := 1) (n := 11) X (dg dc_R_init 5 rfl) rfl hC_R (Nat.le_of_ble_eq_true rfl) hw_127 rfl (Or.inr ⟨_, rfl⟩) (Or.inr ⟨rfl, rfl, rfl⟩) (Nat.le_of_ble_eq_true rfl) ?_
  refine js_aload_n (n := 12) X (dg dc_R_init 6 rfl) rfl rfl rfl ?_
  refine js_bipush (n := 14) 14 X (dg dc_R_init 7 rfl) rfl (by decide) ?_
  refine js_newa (N := 14) (n := 16) (.inl fun _ => 0) X (dg dc_R_init 8 rfl) rfl hw_575 rfl (fun _ => rfl) (by decide) (Nat.le_of_ble_eq_true rfl) (Nat.le_of_ble_eq_true rfl) (by decide) (by decide) rfl rfl rfl ?_
  refine js_putr (j := 2) (n := 19) X (dg dc_R_init 9 rfl) rfl hC_R (Nat.le_of_ble_eq_true rfl) hw_138 rfl (Or.inr ⟨_, rfl⟩) (Or.inr ⟨rfl, rfl, rfl⟩) (Nat.le_of_ble_eq_true rfl) ?_
  refine js_aload_n (n := 20) X (dg dc_R_init 10 rfl) rfl rfl rfl ?_
  refine js_bipush (n := 22) 14 X (dg dc_R_init 11 rfl) rfl (by decide) ?_
  refine js_newa (N := 14) (n := 24) (.inl fun _ => 0) X (dg dc_R_init 12 rfl) rfl hw_575 rfl (fun _ => rfl) (by decide) (Nat.le_of_ble_eq_true rfl) (Nat.le_of_ble_eq_true rfl) (by decide) (by decide) rfl rfl rfl ?_
  refine js_putr (j := 3) (n := 27) X (dg dc_R_init 13 rfl) rfl hC_R (Nat.le_of_ble_eq_true rfl) hw_137 rfl (Or.inr ⟨_, rfl⟩) (Or.inr ⟨rfl, rfl, rfl⟩) (Nat.le_of_ble_eq_true rfl) ?_
  refine js_aload_n (n := 28) X (dg dc_R_init 14 rfl) rfl rfl rfl ?_
  refine js_bipush (n := 30) 14 X (dg dc_R_init 15 rfl) rfl (by decide) ?_
  refine js_newa (N := 14) (n := 32) (.inl fun _ => 0) X (dg dc_R_init 16 rfl) rfl hw_575 rfl (fun _ => rfl) (by decide) (Nat.le_of_ble_eq_true rfl) (Nat.le_of_ble_eq_true rfl) (by decide) (by decide) rfl rfl rfl ?_
  refine js_putr (j := 4) (n := 35) X (dg dc_R_init 17 rfl) rfl hC_R (Nat.le_of_ble_eq_true rfl) hw_160 rfl (Or.inr ⟨_, rfl⟩) (Or.inr ⟨rfl, rfl, rfl⟩) (Nat.le_of_ble_eq_true rfl) ?_
  refine js_aload_n (n := 36) X (dg dc_R_init 18 rfl) rfl rfl rfl ?_
  refine js_iconst (n := 37) 3 X (dg dc_R_init 19 rfl) rfl (by decide) ?_
  refine js_newa (N := 3) (n := 39) (.inl fun _ => 0) X (dg dc_R_init 20 rfl) rfl hw_575 rfl (fun _ => rfl) (by decide) (Nat.le_of_ble_eq_true rfl) (Nat.le_of_ble_eq_true rfl) (by decide) (by decide) rfl rfl rfl ?_
  refine js_putr (j := 5) (n := 42) X (dg dc_R_init 21 rfl) rfl hC_R (Nat.le_of_ble_eq_true rfl) hw_166 rfl (Or.inr ⟨_, rfl⟩) (Or.inr ⟨rfl, rfl, rfl⟩) (Nat.le_of_ble_eq_true rfl) ?_
  refine js_aload_n (n := 43) X (dg dc_R_init 22 rfl) rfl rfl rfl ?_
  refine js_bipush (n := 45) 42 X (dg dc_R_init 23 rfl) rfl (by decide) ?_
  refine js_newa (N := 42) (n := 47) (.inl fun _ => 0) X (dg dc_R_init 24 rfl) rfl hw_575 rfl (fun _ => rfl) (by decide) (Nat.le_of_ble_eq_true rfl) (Nat.le_of_ble_eq_true rfl) (by decide) (by decide) rfl rfl rfl ?_
  refine js_putr (j := 6) (n := 50) X (dg dc_R_init 25 rfl) rfl hC_R (Nat.le_of_ble_eq_true rfl) hw_165 rfl (Or.inr ⟨_, rfl⟩) (Or.inr ⟨rfl, rfl, rfl⟩) (Nat.le_of_ble_eq_true rfl) ?_
  refine js_aload_n (n := 51) X (dg dc_R_init 26 rfl) rfl rfl rfl ?_
  refine js_iconst (n := 52) 3 X (dg dc_R_init 27 rfl) rfl (by decide) ?_
  refine js_newa (N := 3) (n := 54) (.inl fun _ => 0) X (dg dc_R_init 28 rfl) rfl hw_575 rfl (fun _ => rfl) (by decide) (Nat.le_of_ble_eq_true rfl) (Nat.le_of_ble_eq_true rfl) (by decide) (by decide) rfl rfl rfl ?_
  refine js_putr (j := 9) (n := 57) X (dg dc_R_init 29 rfl) rfl hC_R (Nat.le_of_ble_eq_true rfl) hw_256 rfl (Or.inr ⟨_, rfl⟩) (Or.inr ⟨rfl, rfl, rfl⟩) (Nat.le_of_ble_eq_true rfl) ?_
  refine js_aload_n (n := 58) X (dg dc_R_init 30 rfl) rfl rfl rfl ?_
  refine js_iconst (n := 59) 3 X (dg dc_R_init 31 rfl) rfl (by decide) ?_
  refine js_newa (N := 3) (n := 61) (.inl fun _ => 0) X (dg dc_R_init 32 rfl) rfl hw_595 rfl (fun _ => rfl) (by decide) (Nat.le_of_ble_eq_true rfl) (Nat.le_of_ble_eq_true rfl) (by decide) (by decide) rfl rfl rfl ?_
  refine js_putr (j := 10) (n := 64) X (dg dc_R_init 33 rfl) rfl hC_R (Nat.le_of_ble_eq_true rfl) hw_139 rfl (Or.inr ⟨_, rfl⟩) (Or.inr ⟨rfl, rfl, rfl⟩) (Nat.le_of_ble_eq_true rfl) ?_
  refine js_aload_n (n := 65) X (dg dc_R_init 34 rfl) rfl rfl rfl ?_
  refine js_iconst (n := 66) 3 X (dg dc_R_init 35 rfl) rfl (by decide) ?_
  refine js_newa (N := 3) (n := 68) (.inl fun _ => 0) X (dg dc_R_init 36 rfl) rfl hw_575 rfl (fun _ => rfl) (by decide) (Nat.le_of_ble_eq_true rfl) (Nat.le_of_ble_eq_true rfl) (by decide) (by decide) rfl rfl rfl ?_
  refine js_putr (j := 11) (n := 71) X (dg dc_R_init 37 rfl) rfl hC_R (Nat.le_of_ble_eq_true rfl) hw_218 rfl (Or.inr ⟨_, rfl⟩) (Or.inr ⟨rfl, rfl, rfl⟩) (Nat.le_of_ble_eq_true rfl) ?_
  refine js_aload_n (n := 72) X (dg dc_R_init 38 rfl) rfl rfl rfl ?_
  refine js_iconst (n := 73) 3 X (dg dc_R_init 39 rfl) rfl (by decide) ?_
  refine js_newa (N := 3) (n := 75) (.inl fun _ => 0) X (dg dc_R_init 40 rfl) rfl hw_595 rfl (fun _ => rfl) (by decide) (Nat.le_of_ble_eq_true rfl) (Nat.le_of_ble_eq_true rfl) (by decide) (by decide) rfl rfl rfl ?_
  refine js_putr (j := 12) (n := 78) X (dg dc_R_init 41 rfl) rfl hC_R (Nat.le_of_ble_eq_true rfl) hw_219 rfl (Or.inr ⟨_, rfl⟩) (Or.inr ⟨rfl, rfl, rfl⟩) (Nat.le_of_ble_eq_true rfl) ?_
  refine js_aload_n (n := 79) X (dg dc_R_init 42 rfl) rfl rfl rfl ?_
  refine js_bipush (n := 81) 14 X (dg dc_R_init 43 rfl) rfl (by decide) ?_
  refine js_newa (N := 14) (n := 83) (.inl fun _ => 0) X (dg dc_R_init 44 rfl) rfl hw_575 rfl (fun _ => rfl) (by decide) (Nat.le_of_ble_eq_true rfl) (Nat.le_of_ble_eq_true rfl) (by decide) (by decide) rfl rfl rfl ?_
  refine js_putr (j := 15) (n := 86) X (dg dc_R_init 45 rfl) rfl hC_R (Nat.le_of_ble_eq_true rfl) hw_217 rfl (Or.inr ⟨_, rfl⟩) (Or.inr ⟨rfl, rfl, rfl⟩) (Nat.le_of_ble_eq_true rfl) ?_
  refine js_aload_n (n := 87) X (dg dc_R_init 46 rfl) rfl rfl rfl ?_
  refine js_bipush (n := 89) 14 X (dg dc_R_init 47 rfl) rfl (by decide) ?_
  refine js_newa (N := 14) (n := 91) (.inl fun _ => 0) X (dg dc_R_init 48 rfl) rfl hw_575 rfl (fun _ => rfl) (by decide) (Nat.le_of_ble_eq_true rfl) (Nat.le_of_ble_eq_true rfl) (by decide) (by decide) rfl rfl rfl ?_
  refine js_putr (j := 16) (n := 94) X (dg dc_R_init 49 rfl) rfl hC_R (Nat.le_of_ble_eq_true rfl) hw_215 rfl (Or.inr ⟨_, rfl⟩) (Or.inr ⟨rfl, rfl, rfl⟩) (Nat.le_of_ble_eq_true rfl) ?_
  refine js_aload_n (n := 95) X (dg dc_R_init 50 rfl) rfl rfl rfl ?_
  refine js_bipush (n := 97) 14 X (dg dc_R_init 51 rfl) rfl (by decide) ?_
  refine js_newa (N := 14) (n := 99) (.inl fun _ => 0) X (dg dc_R_init 52 rfl) rfl hw_575 rfl (fun _ => rfl) (by decide) (Nat.le_of_ble_eq_true rfl) (Nat.le_of_ble_eq_true rfl) (by decide) (by decide) rfl rfl rfl ?_
  refine js_putr (j := 17) (n := 102) X (dg dc_R_init 53 rfl) rfl hC_R (Nat.le_of_ble_eq_true rfl) hw_241 rfl (Or.inr ⟨_, rfl⟩) (Or.inr ⟨rfl, rfl, rfl⟩) (Nat.le_of_ble_eq_true rfl) ?_
  refine js_aload_n (n := 103) X (dg dc_R_init 54 rfl) rfl rfl rfl ?_
  refine js_bipush (n := 105) 14 X (dg dc_R_init 55 rfl) rfl (by decide) ?_
  refine js_newa (N := 14) (n := 107) (.inl fun _ => 0) X (dg dc_R_init 56 rfl) rfl hw_575 rfl (fun _ => rfl) (by decide) (Nat.le_of_ble_eq_true rfl) (Nat.le_of_ble_eq_true rfl) (by decide) (by decide) rfl rfl rfl ?_
  refine js_putr (j := 18) (n := 110) X (dg dc_R_init 57 rfl) rfl hC_R (Nat.le_of_ble_eq_true rfl) hw_228 rfl (Or.inr ⟨_, rfl⟩) (Or.inr ⟨rfl, rfl, rfl⟩) (Nat.le_of_ble_eq_true rfl) ?_
  refine js_aload_n (n := 111) X (dg dc_R_init 58 rfl) rfl rfl rfl ?_
  refine js_bipush (n := 113) 14 X (dg dc_R_init 59 rfl) rfl (by decide) ?_
  refine js_newa (N := 14) (n := 115) (.inl fun _ => 0) X (dg dc_R_init 60 rfl) rfl hw_575 rfl (fun _ => rfl) (by decide) (Nat.le_of_ble_eq_true rfl) (Nat.le_of_ble_eq_true rfl) (by decide) (by decide) rfl rfl rfl ?_
  refine js_putr (j := 19) (n := 118) X (dg dc_R_init 61 rfl) rfl hC_R (Nat.le_of_ble_eq_true rfl) hw_216 rfl (Or.inr ⟨_, rfl⟩) (Or.inr ⟨rfl, rfl, rfl⟩) (Nat.le_of_ble_eq_true rfl) ?_
  refine js_aload_n (n := 119) X (dg dc_R_init 62 rfl) rfl rfl rfl ?_
  refine js_iconst (n := 120) 3 X (dg dc_R_init 63 rfl) rfl (by decide) ?_
  refine js_newa (N := 3) (n := 122) (.inl fun _ => 0) X (dg dc_R_init 64 rfl) rfl hw_575 rfl (fun _ => rfl) (by decide) (Nat.le_of_ble_eq_true rfl) (Nat.le_of_ble_eq_true rfl) (by decide) (by decide) rfl rfl rfl ?_
  refine js_putr (j := 20) (n := 125) X (dg dc_R_init 65 rfl) rfl hC_R (Nat.le_of_ble_eq_true rfl) hw_242 rfl (Or.inr ⟨_, rfl⟩) (Or.inr ⟨rfl, rfl, rfl⟩) (Nat.le_of_ble_eq_true rfl) ?_
  refine js_aload_n (n := 126) X (dg dc_R_init 66 rfl) rfl rfl rfl ?_
  refine js_iconst (n := 127) 3 X (dg dc_R_init 67 rfl) rfl (by decide) ?_
  refine js_newa (N := 3) (n := 129) (.inl fun _ => 0) X (dg dc_R_init 68 rfl) rfl hw_575 rfl (fun _ => rfl) (by decide) (Nat.le_of_ble_eq_true rfl) (Nat.le_of_ble_eq_true rfl) (by decide) (by decide) rfl rfl rfl ?_
  refine js_putr (j := 21) (n := 132) X (dg dc_R_init 69 rfl) rfl hC_R (Nat.le_of_ble_eq_true rfl) hw_247 rfl (Or.inr ⟨_, rfl⟩) (Or.inr ⟨rfl, rfl, rfl⟩) (Nat.le_of_ble_eq_true rfl) ?_
  refine js_aload_n (n := 133) X (dg dc_R_init 70 rfl) rfl rfl rfl ?_
  refine js_bipush (n := 135) 7 X (dg dc_R_init 71 rfl) rfl (by decide) ?_
  refine js_newa (N := 7) (n := 137) (.inl fun _ => 0) X (dg dc_R_init 72 rfl) rfl hw_575 rfl (fun _ => rfl) (by decide) (Nat.le_of_ble_eq_true rfl) (Nat.le_of_ble_eq_true rfl) (by decide) (by decide) rfl rfl rfl ?_
  refine js_putr (j := 27) (n := 140) X (dg dc_R_init 73 rfl) rfl hC_R (Nat.le_of_ble_eq_true rfl) hw_273 rfl (Or.inr ⟨_, rfl⟩) (Or.inr ⟨rfl, rfl, rfl⟩) (Nat.le_of_ble_eq_true rfl) ?_
  exact js_retV X (dg dc_R_init 74 rfl) rfl (Nat.le_of_ble_eq_true rfl) (Nat.le_of_ble_eq_true rfl) rfl
