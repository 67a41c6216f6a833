set_option maxRecDepth 100000 in
set_option maxHeartbeats 4000000 in
theorem c_P_size_1 (l : Launch) (Dv : va_G) (fu : Nat) (h : S_H) (r : S_R) (out : Nat → Int64) (P : S_P) : ev_M l Dv gaX mu_P_size [.ref 1] (hpW (P, h.2) r out) (f_P_size fu P) (fun q => (some (.int q), hpW (P, h.2) r out)) := by
  refine ev_met (lo0 := [some (.ref 1)]) rfl rfl rfl (fun κ X => ?_)
  unfold f_P_size
  refine js_aload_n (n := 1) X (dg dc_P_size 0 rfl) rfl rfl rfl ?_
  refine js_getf (j := 0) (v := .ref 2) (n := 4) X (dg dc_P_size 1 rfl) rfl hC_P (Nat.le_of_ble_eq_true rfl) hw_1 rfl rfl ?_
  refine js_iconst (n := 5) 0 X (dg dc_P_size 2 rfl) rfl (by decide) ?_
  refine js_iaload (f := P.1) (n := 6) X (dg dc_P_size 3 rfl) rfl rfl ?_
  refine js_aload_n (n := 7) X (dg dc_P_size 4 rfl) rfl rfl rfl ?_
  refine js_getf (j := 0) (v := .ref 2) (n := 10) X (dg dc_P_size 5 rfl) rfl hC_P (Nat.le_of_ble_eq_true rfl) hw_1 rfl rfl ?_
  refine js_iconst (n := 11) 1 X (dg dc_P_size 6 rfl) rfl (by decide) ?_
  refine js_iaload (f := P.1) (n := 12) X (dg dc_P_size 7 rfl) rfl rfl ?_
  refine js_iadd (n := 13) X (dg dc_P_size 8 rfl) rfl ?_
  refine js_aload_n (n := 14) X (dg dc_P_size 9 rfl) rfl rfl rfl ?_
  refine js_getf (j := 0) (v := .ref 2) (n := 17) X (dg dc_P_size 10 rfl) rfl hC_P (Nat.le_of_ble_eq_true rfl) hw_1 rfl rfl ?_
  refine js_iconst (n := 18) 2 X (dg dc_P_size 11 rfl) rfl (by decide) ?_
  refine js_iaload (f := P.1) (n := 19) X (dg dc_P_size 12 rfl) rfl rfl ?_
  refine js_iadd (n := 20) X (dg dc_P_size 13 rfl) rfl ?_
  exact js_retI X (dg dc_P_size 14 rfl) rfl (Nat.le_of_ble_eq_true rfl) (Nat.le_of_ble_eq_true rfl) rfl
set_option maxRecDepth 100000 in
set_option maxHeartbeats 4000000 in
theorem jl_P_empty_1_L2 (l : Launch) (Dv : va_G) (fu : Nat) (h : S_H) (r : S_R) (out : Nat → Int64) (κ : ev_ka) (X : ev_X l Dv gaX mu_P_empty κ) : ∀ (n : Nat) (P : S_P) (v1 : Int32), ev_J l Dv gaX mu_P_empty κ 2 0 0 [some (.ref 1), some (.int v1)] [] (hpW (P, h.2) r out) (f_P_empty_L2 fu n P v1) (fun q => (none, hpW (q, h.2) r out)) := by
  intro n
  induction n with
  | zero => exact fun _ _ => js_none
  | succ n ih =>
    intro P v1
    unfold f_P_empty_L2
    refine js_iload_n (n := 3) X (dg dc_P_empty 2 rfl) rfl rfl rfl ?_
    refine js_iconst (n := 4) 3 X (dg dc_P_empty 3 rfl) rfl (by decide) ?_
    refine js_icmp_ge (t := 20) (n := 7) X (dg dc_P_empty 4 rfl) (by decide) rfl ?_ ?_
    · exact js_retV X (dg dc_P_empty 12 rfl) rfl (Nat.le_of_ble_eq_true rfl) (Nat.le_of_ble_eq_true rfl) rfl
    refine js_aload_n (n := 8) X (dg dc_P_empty 5 rfl) rfl rfl rfl ?_
    refine js_getf (j := 0) (v := .ref 2) (n := 11) X (dg dc_P_empty 6 rfl) rfl hC_P (Nat.le_of_ble_eq_true rfl) hw_1 rfl rfl ?_
    refine js_iload_n (n := 12) X (dg dc_P_empty 7 rfl) rfl rfl rfl ?_
    refine js_iconst (n := 13) 0 X (dg dc_P_empty 8 rfl) rfl (by decide) ?_
    refine js_iastore (f := P.1) (n := 14) X (dg dc_P_empty 9 rfl) rfl rfl ?_
    refine js_iinc (lo' := [some (.ref 1), some (.int (v1 + 1))]) (n := 17) 1 X (dg dc_P_empty 10 rfl) rfl (by decide) (Nat.le_of_ble_eq_true rfl) rfl rfl ?_
    refine js_goto (t := 2) X (dg dc_P_empty 11 rfl) (by decide) ?_
    exact js_keep [true, true] (ih ((upd P.1 (ix v1) 0), P.2) (v1 + 1))
set_option maxRecDepth 100000 in
set_option maxHeartbeats 4000000 in
theorem c_P_empty_1 (l : Launch) (Dv : va_G) (fu : Nat) (h : S_H) (r : S_R) (out : Nat → Int64) (P : S_P) : ev_M l Dv gaX mu_P_empty [.ref 1] (hpW (P, h.2) r out) (f_P_empty fu P) (fun q => (none, hpW (q, h.2) r out)) := by
  refine ev_met (lo0 := [some (.ref 1), none]) rfl rfl rfl (fun κ X => ?_)
  unfold f_P_empty
  refine js_iconst (n := 1) 0 X (dg dc_P_empty 0 rfl) rfl (by decide) ?_
  refine js_istore_n (lo' := [some (.ref 1), some (.int 0)]) (n := 2) X (dg dc_P_empty 1 rfl) rfl rfl (Nat.le_of_ble_eq_true rfl) rfl ?_
  exact js_keep [true, true] (jl_P_empty_1_L2 l Dv fu h r out κ X fu P 0)
set_option maxRecDepth 100000 in
set_option maxHeartbeats 4000000 in
theorem c_H_clear_0 (l : Launch) (Dv : va_G) (fu : Nat) (r : S_R) (out : Nat → Int64) (H : S_H) : ev_M l Dv gaX mu_H_clear [.ref 0] (hpW H r out) (f_H_clear fu H) (fun q => (some (.int q.1), hpW q.2 r out)) := by
  refine ev_met (lo0 := [some (.ref 0), none]) rfl rfl rfl (fun κ X => ?_)
  unfold f_H_clear
  refine js_aload_n (n := 1) X (dg dc_H_clear 0 rfl) rfl rfl rfl ?_
  refine js_getf (j := 0) (v := .ref 1) (n := 4) X (dg dc_H_clear 1 rfl) rfl hC_H (Nat.le_of_ble_eq_true rfl) hw_0 rfl rfl ?_
  refine js_callV (na := 0) (ci := 1) (n := 7) X (dg dc_H_clear 2 rfl) rfl (c_P_size_1 l Dv fu H r out H.1) gV_H_79 rfl rfl hy_P_size ⟨(Nat.le_of_ble_eq_true rfl), (Nat.le_of_ble_eq_true rfl)⟩ rfl ⟨(Nat.le_of_ble_eq_true rfl), (Nat.le_of_ble_eq_true rfl)⟩ rfl rfl rfl rfl rfl ?_
  intro r4
  refine js_istore_n (lo' := [some (.ref 0), some (.int r4)]) (n := 8) X (dg dc_H_clear 3 rfl) rfl rfl (Nat.le_of_ble_eq_true rfl) rfl ?_
  refine js_aload_n (n := 9) X (dg dc_H_clear 4 rfl) rfl rfl rfl ?_
  refine js_getf (j := 0) (v := .ref 1) (n := 12) X (dg dc_H_clear 5 rfl) rfl hC_H (Nat.le_of_ble_eq_true rfl) hw_0 rfl rfl ?_
  refine js_callV (na := 0) (ci := 1) (n := 15) X (dg dc_H_clear 6 rfl) rfl (c_P_empty_1 l Dv fu H r out H.1) gV_H_83 rfl rfl hy_P_empty ⟨(Nat.le_of_ble_eq_true rfl), (Nat.le_of_ble_eq_true rfl)⟩ rfl ⟨(Nat.le_of_ble_eq_true rfl), (Nat.le_of_ble_eq_true rfl)⟩ rfl rfl rfl rfl rfl ?_
  intro P_12
  refine js_aload_n (n := 16) X (dg dc_H_clear 7 rfl) rfl rfl rfl ?_
  refine js_iconst (n := 17) 0 X (dg dc_H_clear 8 rfl) rfl (by decide) ?_
  refine js_putz (j := 5) (n := 20) X (dg dc_H_clear 9 rfl) rfl hC_H (Nat.le_of_ble_eq_true rfl) hw_11 rfl rfl (Or.inl rfl) (Nat.le_of_ble_eq_true rfl) ?_
  refine js_iload_n (n := 21) X (dg dc_H_clear 10 rfl) rfl rfl rfl ?_
  exact js_retI X (dg dc_H_clear 11 rfl) rfl (Nat.le_of_ble_eq_true rfl) (Nat.le_of_ble_eq_true rfl) rfl
set_option maxRecDepth 100000 in
set_option maxHeartbeats 4000000 in
theorem c_H_isBelow (l : Launch) (Dv : va_G) (fu : Nat) (hp : ev_H) (a0 : Int32) (a1 : Int32) : ev_M l Dv gaX mu_H_isBelow [.int a0, .int a1] (hp) (f_H_isBelow fu a0 a1) (fun q => (some (.int q), hp)) := by
  refine ev_met (lo0 := [some (.int a0), some (.int a1)]) rfl rfl rfl (fun κ X => ?_)
  unfold f_H_isBelow
  refine js_iload_n (n := 1) X (dg dc_H_isBelow 0 rfl) rfl rfl rfl ?_
  refine js_if_lt (t := 13) (n := 4) X (dg dc_H_isBelow 1 rfl) (by decide) rfl ?_ ?_
  · refine js_iconst (n := 14) 0 X (dg dc_H_isBelow 7 rfl) rfl (by decide) ?_
    exact js_retZ X (dg dc_H_isBelow 8 rfl) rfl (Nat.le_of_ble_eq_true rfl) (Nat.le_of_ble_eq_true rfl) rfl
  refine js_iload_n (n := 5) X (dg dc_H_isBelow 2 rfl) rfl rfl rfl ?_
  refine js_iload_n (n := 6) X (dg dc_H_isBelow 3 rfl) rfl rfl rfl ?_
  refine js_icmp_ge (t := 13) (n := 9) X (dg dc_H_isBelow 4 rfl) (by decide) rfl ?_ ?_
  · refine js_iconst (n := 14) 0 X (dg dc_H_isBelow 7 rfl) rfl (by decide) ?_
    exact js_retZ X (dg dc_H_isBelow 8 rfl) rfl (Nat.le_of_ble_eq_true rfl) (Nat.le_of_ble_eq_true rfl) rfl
  refine js_iconst (n := 10) 1 X (dg dc_H_isBelow 5 rfl) rfl (by decide) ?_
  refine js_goto (t := 14) X (dg dc_H_isBelow 6 rfl) (by decide) ?_
  exact js_retZ X (dg dc_H_isBelow 8 rfl) rfl (Nat.le_of_ble_eq_true rfl) (Nat.le_of_ble_eq_true rfl) rfl
set_option maxRecDepth 100000 in
set_option maxHeartbeats 4000000 in
theorem c_P_size_6 (l : Launch) (Dv : va_G) (fu : Nat) (h : S_H) (r : S_R) (out : Nat → Int64) (P : S_P) : ev_M l Dv gaX mu_P_size [.ref 6] (hpW (h.1, P, h.2.2) r out) (f_P_size fu P) (fun q => (some (.int q), hpW (h.1, P, h.2.2) r out)) := by
  refine ev_met (lo0 := [some (.ref 6)]) rfl rfl rfl (fun κ X => ?_)
  unfold f_P_size
  refine js_aload_n (n := 1) X (dg dc_P_size 0 rfl) rfl rfl rfl ?_
  refine js_getf (j := 0) (v := .ref 7) (n := 4) X (dg dc_P_size 1 rfl) rfl hC_P (Nat.le_of_ble_eq_true rfl) hw_1 rfl rfl ?_
  refine js_iconst (n := 5) 0 X (dg dc_P_size 2 rfl) rfl (by decide) ?_
  refine js_iaload (f := P.1) (n := 6) X (dg dc_P_size 3 rfl) rfl rfl ?_
  refine js_aload_n (n := 7) X (dg dc_P_size 4 rfl) rfl rfl rfl ?_
  refine js_getf (j := 0) (v := .ref 7) (n := 10) X (dg dc_P_size 5 rfl) rfl hC_P (Nat.le_of_ble_eq_true rfl) hw_1 rfl rfl ?_
  refine js_iconst (n := 11) 1 X (dg dc_P_size 6 rfl) rfl (by decide) ?_
  refine js_iaload (f := P.1) (n := 12) X (dg dc_P_size 7 rfl) rfl rfl ?_
  refine js_iadd (n := 13) X (dg dc_P_size 8 rfl) rfl ?_
  refine js_aload_n (n := 14) X (dg dc_P_size 9 rfl) rfl rfl rfl ?_
  refine js_getf (j := 0) (v := .ref 7) (n := 17) X (dg dc_P_size 10 rfl) rfl hC_P (Nat.le_of_ble_eq_true rfl) hw_1 rfl rfl ?_
  refine js_iconst (n := 18) 2 X (dg dc_P_size 11 rfl) rfl (by decide) ?_
  refine js_iaload (f := P.1) (n := 19) X (dg dc_P_size 12 rfl) rfl rfl ?_
  refine js_iadd (n := 20) X (dg dc_P_size 13 rfl) rfl ?_
  exact js_retI X (dg dc_P_size 14 rfl) rfl (Nat.le_of_ble_eq_true rfl) (Nat.le_of_ble_eq_true rfl) rfl
set_option maxRecDepth 100000 in
set_option maxHeartbeats 4000000 in
theorem jl_P_copyFrom_6_1_L25 (l : Launch) (Dv : va_G) (fu : Nat) (h : S_H) (r : S_R) (out : Nat → Int64) (κ : ev_ka) (X : ev_X l Dv gaX mu_P_copyFrom κ) (P1 : S_P) (P : S_P) : ev_J l Dv gaX mu_P_copyFrom κ 25 0 0 [some (.ref 6), some (.ref 1), none] [] (hpW (P1, P, h.2.2) r out) (f_P_copyFrom_L25 fu P1 P) (fun q => (none, hpW (P1, q, h.2.2) r out)) := by
  unfold f_P_copyFrom_L25
  refine js_aload_n (n := 26) X (dg dc_P_copyFrom 15 rfl) rfl rfl rfl ?_
  refine js_callV (na := 0) (ci := 1) (n := 29) X (dg dc_P_copyFrom 16 rfl) rfl (c_P_size_6 l Dv fu (P1, P, h.2.2) r out P) gV_P_31 rfl rfl hy_P_size ⟨(Nat.le_of_ble_eq_true rfl), (Nat.le_of_ble_eq_true rfl)⟩ rfl ⟨(Nat.le_of_ble_eq_true rfl), (Nat.le_of_ble_eq_true rfl)⟩ rfl rfl rfl rfl rfl ?_
  intro r26
  refine js_istore_n (lo' := [some (.ref 6), some (.ref 1), some (.int r26)]) (n := 30) X (dg dc_P_copyFrom 17 rfl) rfl rfl (Nat.le_of_ble_eq_true rfl) rfl ?_
  refine js_aload_n (n := 31) X (dg dc_P_copyFrom 18 rfl) rfl rfl rfl ?_
  refine js_getf (j := 1) (v := .ref 3) (n := 34) X (dg dc_P_copyFrom 19 rfl) rfl hC_P (Nat.le_of_ble_eq_true rfl) hw_14 rfl rfl ?_
  refine js_iconst (n := 35) 0 X (dg dc_P_copyFrom 20 rfl) rfl (by decide) ?_
  refine js_aload_n (n := 36) X (dg dc_P_copyFrom 21 rfl) rfl rfl rfl ?_
  refine js_getf (j := 1) (v := .ref 8) (n := 39) X (dg dc_P_copyFrom 22 rfl) rfl hC_P (Nat.le_of_ble_eq_true rfl) hw_14 rfl rfl ?_
  refine js_iconst (n := 40) 0 X (dg dc_P_copyFrom 23 rfl) rfl (by decide) ?_
  refine js_iload_n (n := 41) X (dg dc_P_copyFrom 24 rfl) rfl rfl rfl ?_
  refine js_copy (f := P1.2.1) (g := P.2.1) (n := 44) X (dg dc_P_copyFrom 25 rfl) rfl hw_15 hw_16 hw_17 hw_18 (Nat.le_of_ble_eq_true rfl) (by decide) rfl rfl ?_
  refine js_aload_n (n := 45) X (dg dc_P_copyFrom 26 rfl) rfl rfl rfl ?_
  refine js_getf (j := 2) (v := .ref 4) (n := 48) X (dg dc_P_copyFrom 27 rfl) rfl hC_P (Nat.le_of_ble_eq_true rfl) hw_19 rfl rfl ?_
  refine js_iconst (n := 49) 0 X (dg dc_P_copyFrom 28 rfl) rfl (by decide) ?_
  refine js_aload_n (n := 50) X (dg dc_P_copyFrom 29 rfl) rfl rfl rfl ?_
  refine js_getf (j := 2) (v := .ref 9) (n := 53) X (dg dc_P_copyFrom 30 rfl) rfl hC_P (Nat.le_of_ble_eq_true rfl) hw_19 rfl rfl ?_
  refine js_iconst (n := 54) 0 X (dg dc_P_copyFrom 31 rfl) rfl (by decide) ?_
  refine js_iload_n (n := 55) X (dg dc_P_copyFrom 32 rfl) rfl rfl rfl ?_
  refine js_copy (f := P1.2.2.1) (g := P.2.2.1) (n := 58) X (dg dc_P_copyFrom 33 rfl) rfl hw_15 hw_16 hw_17 hw_18 (Nat.le_of_ble_eq_true rfl) (by decide) rfl rfl ?_
  refine js_aload_n (n := 59) X (dg dc_P_copyFrom 34 rfl) rfl rfl rfl ?_
  refine js_getf (j := 3) (v := .ref 5) (n := 62) X (dg dc_P_copyFrom 35 rfl) rfl hC_P (Nat.le_of_ble_eq_true rfl) hw_20 rfl rfl ?_
  refine js_iconst (n := 63) 0 X (dg dc_P_copyFrom 36 rfl) rfl (by decide) ?_
  refine js_aload_n (n := 64) X (dg dc_P_copyFrom 37 rfl) rfl rfl rfl ?_
  refine js_getf (j := 3) (v := .ref 10) (n := 67) X (dg dc_P_copyFrom 38 rfl) rfl hC_P (Nat.le_of_ble_eq_true rfl) hw_20 rfl rfl ?_
  refine js_iconst (n := 68) 0 X (dg dc_P_copyFrom 39 rfl) rfl (by decide) ?_
  refine js_iload_n (n := 69) X (dg dc_P_copyFrom 40 rfl) rfl rfl rfl ?_
  refine js_copy (f := P1.2.2.2) (g := P.2.2.2) (n := 72) X (dg dc_P_copyFrom 41 rfl) rfl hw_15 hw_16 hw_17 hw_18 (Nat.le_of_ble_eq_true rfl) (by decide) rfl rfl ?_
  exact js_retV X (dg dc_P_copyFrom 42 rfl) rfl (Nat.le_of_ble_eq_true rfl) (Nat.le_of_ble_eq_true rfl) rfl
set_option maxRecDepth 100000 in
set_option maxHeartbeats 4000000 in
theorem jl_P_copyFrom_6_1_L2 (l : Launch) (Dv : va_G) (fu : Nat) (h : S_H) (r : S_R) (out : Nat → Int64) (κ : ev_ka) (X : ev_X l Dv gaX mu_P_copyFrom κ) (P1 : S_P) : ∀ (n : Nat) (P : S_P) (v2 : Int32), ev_J l Dv gaX mu_P_copyFrom κ 2 0 0 [some (.ref 6), some (.ref 1), some (.int v2)] [] (hpW (P1, P, h.2.2) r out) (f_P_copyFrom_L2 fu P1 n P v2) (fun q => (none, hpW (P1, q, h.2.2) r out)) := by
  intro n
  induction n with
  | zero => exact fun _ _ => js_none
  | succ n ih =>
    intro P v2
    unfold f_P_copyFrom_L2
    refine js_iload_n (n := 3) X (dg dc_P_copyFrom 2 rfl) rfl rfl rfl ?_
    refine js_iconst (n := 4) 3 X (dg dc_P_copyFrom 3 rfl) rfl (by decide) ?_
    refine js_icmp_ge (t := 25) (n := 7) X (dg dc_P_copyFrom 4 rfl) (by decide) rfl ?_ ?_
    · exact js_keep [true, true, false] (jl_P_copyFrom_6_1_L25 l Dv fu h r out κ X P1 P)
    refine js_aload_n (n := 8) X (dg dc_P_copyFrom 5 rfl) rfl rfl rfl ?_
    refine js_getf (j := 0) (v := .ref 7) (n := 11) X (dg dc_P_copyFrom 6 rfl) rfl hC_P (Nat.le_of_ble_eq_true rfl) hw_1 rfl rfl ?_
    refine js_iload_n (n := 12) X (dg dc_P_copyFrom 7 rfl) rfl rfl rfl ?_
    refine js_aload_n (n := 13) X (dg dc_P_copyFrom 8 rfl) rfl rfl rfl ?_
    refine js_getf (j := 0) (v := .ref 2) (n := 16) X (dg dc_P_copyFrom 9 rfl) rfl hC_P (Nat.le_of_ble_eq_true rfl) hw_1 rfl rfl ?_
    refine js_iload_n (n := 17) X (dg dc_P_copyFrom 10 rfl) rfl rfl rfl ?_
    refine js_iaload (f := P1.1) (n := 18) X (dg dc_P_copyFrom 11 rfl) rfl rfl ?_
    refine js_iastore (f := P.1) (n := 19) X (dg dc_P_copyFrom 12 rfl) rfl rfl ?_
    refine js_iinc (lo' := [some (.ref 6), some (.ref 1), some (.int (v2 + 1))]) (n := 22) 1 X (dg dc_P_copyFrom 13 rfl) rfl (by decide) (Nat.le_of_ble_eq_true rfl) rfl rfl ?_
    refine js_goto (t := 2) X (dg dc_P_copyFrom 14 rfl) (by decide) ?_
    exact js_keep [true, true, true] (ih ((upd P.1 (ix v2) (P1.1 (ix v2))), P.2) (v2 + 1))
set_option maxRecDepth 100000 in
set_option maxHeartbeats 4000000 in
theorem c_P_copyFrom_6_1 (l : Launch) (Dv : va_G) (fu : Nat) (h : S_H) (r : S_R) (out : Nat → Int64) (P : S_P) (P1 : S_P) : ev_M l Dv gaX mu_P_copyFrom [.ref 6, .ref 1] (hpW (P1, P, h.2.2) r out) (f_P_copyFrom fu P P1) (fun q => (none, hpW (P1, q, h.2.2) r out)) := by
  refine ev_met (lo0 := [some (.ref 6), some (.ref 1), none]) rfl rfl rfl (fun κ X => ?_)
  unfold f_P_copyFrom
  refine js_iconst (n := 1) 0 X (dg dc_P_copyFrom 0 rfl) rfl (by decide) ?_
  refine js_istore_n (lo' := [some (.ref 6), some (.ref 1), some (.int 0)]) (n := 2) X (dg dc_P_copyFrom 1 rfl) rfl rfl (Nat.le_of_ble_eq_true rfl) rfl ?_
  exact js_keep [true, true, true] (jl_P_copyFrom_6_1_L2 l Dv fu h r out κ X P1 fu P 0)
set_option maxRecDepth 100000 in
set_option maxHeartbeats 4000000 in
theorem c_P_start_6 (l : Launch) (Dv : va_G) (fu : Nat) (h : S_H) (r : S_R) (out : Nat → Int64) (P : S_P) (a1 : Int32) : ev_M l Dv gaX mu_P_start [.ref 6, .int a1] (hpW (h.1, P, h.2.2) r out) (f_P_start fu P a1) (fun q => (some (.int q), hpW (h.1, P, h.2.2) r out)) := by
  refine ev_met (lo0 := [some (.ref 6), some (.int a1)]) rfl rfl rfl (fun κ X => ?_)
  unfold f_P_start
  refine js_iload_n (n := 1) X (dg dc_P_start 0 rfl) rfl rfl rfl ?_
  refine js_lsw X (dg dc_P_start 1 rfl) (by decide) ?_
  refine js_sw1 28 (by decide) (by decide) ?_ ?_
  · refine js_iconst (n := 29) 0 X (dg dc_P_start 2 rfl) rfl (by decide) ?_
    exact js_retI X (dg dc_P_start 3 rfl) rfl (Nat.le_of_ble_eq_true rfl) (Nat.le_of_ble_eq_true rfl) rfl
  refine js_sw1 30 (by decide) (by decide) ?_ ?_
  · refine js_aload_n (n := 31) X (dg dc_P_start 4 rfl) rfl rfl rfl ?_
    refine js_getf (j := 0) (v := .ref 7) (n := 34) X (dg dc_P_start 5 rfl) rfl hC_P (Nat.le_of_ble_eq_true rfl) hw_1 rfl rfl ?_
    refine js_iconst (n := 35) 0 X (dg dc_P_start 6 rfl) rfl (by decide) ?_
    refine js_iaload (f := P.1) (n := 36) X (dg dc_P_start 7 rfl) rfl rfl ?_
    exact js_retI X (dg dc_P_start 8 rfl) rfl (Nat.le_of_ble_eq_true rfl) (Nat.le_of_ble_eq_true rfl) rfl
  refine js_sw0 37 (by decide) ?_
  refine js_aload_n (n := 38) X (dg dc_P_start 9 rfl) rfl rfl rfl ?_
  refine js_getf (j := 0) (v := .ref 7) (n := 41) X (dg dc_P_start 10 rfl) rfl hC_P (Nat.le_of_ble_eq_true rfl) hw_1 rfl rfl ?_
  refine js_iconst (n := 42) 0 X (dg dc_P_start 11 rfl) rfl (by decide) ?_
  refine js_iaload (f := P.1) (n := 43) X (dg dc_P_start 12 rfl) rfl rfl ?_
  refine js_aload_n (n := 44) X (dg dc_P_start 13 rfl) rfl rfl rfl ?_
  refine js_getf (j := 0) (v := .ref 7) (n := 47) X (dg dc_P_start 14 rfl) rfl hC_P (Nat.le_of_ble_eq_true rfl) hw_1 rfl rfl ?_
  refine js_iconst (n := 48) 1 X (dg dc_P_start 15 rfl) rfl (by decide) ?_
  refine js_iaload (f := P.1) (n := 49) X (dg dc_P_start 16 rfl) rfl rfl ?_
  refine js_iadd (n := 50) X (dg dc_P_start 17 rfl) rfl ?_
  exact js_retI X (dg dc_P_start 18 rfl) rfl (Nat.le_of_ble_eq_true rfl) (Nat.le_of_ble_eq_true rfl) rfl
set_option maxRecDepth 100000 in
set_option maxHeartbeats 4000000 in
theorem c_P_end_6 (l : Launch) (Dv : va_G) (fu : Nat) (h : S_H) (r : S_R) (out : Nat → Int64) (P : S_P) (a1 : Int32) : ev_M l Dv gaX mu_P_end [.ref 6, .int a1] (hpW (h.1, P, h.2.2) r out) (f_P_end fu P a1) (fun q => (some (.int q), hpW (h.1, P, h.2.2) r out)) := by
  refine ev_met (lo0 := [some (.ref 6), some (.int a1)]) rfl rfl rfl (fun κ X => ?_)
  unfold f_P_end
  refine js_aload_n (n := 1) X (dg dc_P_end 0 rfl) rfl rfl rfl ?_
  refine js_iload_n (n := 2) X (dg dc_P_end 1 rfl) rfl rfl rfl ?_
  refine js_callV (na := 1) (ci := 1) (n := 5) X (dg dc_P_end 2 rfl) rfl (c_P_start_6 l Dv fu (h.1, P, h.2.2) r out P a1) gV_P_24 rfl rfl hy_P_start ⟨(Nat.le_of_ble_eq_true rfl), (Nat.le_of_ble_eq_true rfl)⟩ rfl ⟨(Nat.le_of_ble_eq_true rfl), (Nat.le_of_ble_eq_true rfl)⟩ rfl rfl rfl rfl rfl ?_
  intro r2
  refine js_aload_n (n := 6) X (dg dc_P_end 3 rfl) rfl rfl rfl ?_
  refine js_getf (j := 0) (v := .ref 7) (n := 9) X (dg dc_P_end 4 rfl) rfl hC_P (Nat.le_of_ble_eq_true rfl) hw_1 rfl rfl ?_
  refine js_iload_n (n := 10) X (dg dc_P_end 5 rfl) rfl rfl rfl ?_
  refine js_iaload (f := P.1) (n := 11) X (dg dc_P_end 6 rfl) rfl rfl ?_
  refine js_iadd (n := 12) X (dg dc_P_end 7 rfl) rfl ?_
  exact js_retI X (dg dc_P_end 8 rfl) rfl (Nat.le_of_ble_eq_true rfl) (Nat.le_of_ble_eq_true rfl) rfl
set_option maxRecDepth 100000 in
set_option maxHeartbeats 4000000 in
theorem c_P_put_6 (l : Launch) (Dv : va_G) (fu : Nat) (h : S_H) (r : S_R) (out : Nat → Int64) (P : S_P) (a1 : Int32) (a2 : Int32) (a3 : Int32) (a4 : Int32) : ev_M l Dv gaX mu_P_put [.ref 6, .int a1, .int a2, .int a3, .int a4] (hpW (h.1, P, h.2.2) r out) (f_P_put fu P a1 a2 a3 a4) (fun q => (none, hpW (h.1, q, h.2.2) r out)) := by
  refine ev_met (lo0 := [some (.ref 6), some (.int a1), some (.int a2), some (.int a3), some (.int a4)]) rfl rfl rfl (fun κ X => ?_)
  unfold f_P_put
  refine js_aload_n (n := 1) X (dg dc_P_put 0 rfl) rfl rfl rfl ?_
  refine js_getf (j := 1) (v := .ref 8) (n := 4) X (dg dc_P_put 1 rfl) rfl hC_P (Nat.le_of_ble_eq_true rfl) hw_14 rfl rfl ?_
  refine js_iload_n (n := 5) X (dg dc_P_put 2 rfl) rfl rfl rfl ?_
  refine js_iload_n (n := 6) X (dg dc_P_put 3 rfl) rfl rfl rfl ?_
  refine js_iastore (f := P.2.1) (n := 7) X (dg dc_P_put 4 rfl) rfl rfl ?_
  refine js_aload_n (n := 8) X (dg dc_P_put 5 rfl) rfl rfl rfl ?_
  refine js_getf (j := 2) (v := .ref 9) (n := 11) X (dg dc_P_put 6 rfl) rfl hC_P (Nat.le_of_ble_eq_true rfl) hw_19 rfl rfl ?_
  refine js_iload_n (n := 12) X (dg dc_P_put 7 rfl) rfl rfl rfl ?_
  refine js_iload_n (n := 13) X (dg dc_P_put 8 rfl) rfl rfl rfl ?_
  refine js_iastore (f := P.2.2.1) (n := 14) X (dg dc_P_put 9 rfl) rfl rfl ?_
  refine js_aload_n (n := 15) X (dg dc_P_put 10 rfl) rfl rfl rfl ?_
  refine js_getf (j := 3) (v := .ref 10) (n := 18) X (dg dc_P_put 11 rfl) rfl hC_P (Nat.le_of_ble_eq_true rfl) hw_20 rfl rfl ?_
  refine js_iload_n (n := 19) X (dg dc_P_put 12 rfl) rfl rfl rfl ?_
  refine js_iload (n := 21) X (dg dc_P_put 13 rfl) rfl rfl ?_
  refine js_iastore (f := P.2.2.2) (n := 22) X (dg dc_P_put 14 rfl) rfl rfl ?_
  exact js_retV X (dg dc_P_put 15 rfl) rfl (Nat.le_of_ble_eq_true rfl) (Nat.le_of_ble_eq_true rfl) rfl
set_option maxRecDepth 100000 in
set_option maxHeartbeats 4000000 in
theorem jl_P_shiftUp_6_L2 (l : Launch) (Dv : va_G) (fu : Nat) (h : S_H) (r : S_R) (out : Nat → Int64) (κ : ev_ka) (X : ev_X l Dv gaX mu_P_shiftUp κ) : ∀ (n : Nat) (P : S_P) (v1 : Int32) (v3 : Int32), ev_J l Dv gaX mu_P_shiftUp κ 2 0 0 [some (.ref 6), some (.int v1), none, some (.int v3)] [] (hpW (h.1, P, h.2.2) r out) (f_P_shiftUp_L2 fu n P v1 v3) (fun q => (none, hpW (h.1, q, h.2.2) r out)) := by
  intro n
  induction n with
  | zero => exact fun _ _ _ => js_none
  | succ n ih =>
    intro P v1 v3
    unfold f_P_shiftUp_L2
    refine js_iload_n (n := 3) X (dg dc_P_shiftUp 2 rfl) rfl rfl rfl ?_
    refine js_iload_n (n := 4) X (dg dc_P_shiftUp 3 rfl) rfl rfl rfl ?_
    refine js_icmp_le (t := 42) (n := 7) X (dg dc_P_shiftUp 4 rfl) (by decide) rfl ?_ ?_
    · exact js_retV X (dg dc_P_shiftUp 28 rfl) rfl (Nat.le_of_ble_eq_true rfl) (Nat.le_of_ble_eq_true rfl) rfl
    refine js_aload_n (n := 8) X (dg dc_P_shiftUp 5 rfl) rfl rfl rfl ?_
    refine js_iload_n (n := 9) X (dg dc_P_shiftUp 6 rfl) rfl rfl rfl ?_
    refine js_aload_n (n := 10) X (dg dc_P_shiftUp 7 rfl) rfl rfl rfl ?_
    refine js_getf (j := 1) (v := .ref 8) (n := 13) X (dg dc_P_shiftUp 8 rfl) rfl hC_P (Nat.le_of_ble_eq_true rfl) hw_14 rfl rfl ?_
    refine js_iload_n (n := 14) X (dg dc_P_shiftUp 9 rfl) rfl rfl rfl ?_
    refine js_iconst (n := 15) 1 X (dg dc_P_shiftUp 10 rfl) rfl (by decide) ?_
    refine js_isub (n := 16) X (dg dc_P_shiftUp 11 rfl) rfl ?_
    refine js_iaload (f := P.2.1) (n := 17) X (dg dc_P_shiftUp 12 rfl) rfl rfl ?_
    refine js_aload_n (n := 18) X (dg dc_P_shiftUp 13 rfl) rfl rfl rfl ?_
    refine js_getf (j := 2) (v := .ref 9) (n := 21) X (dg dc_P_shiftUp 14 rfl) rfl hC_P (Nat.le_of_ble_eq_true rfl) hw_19 rfl rfl ?_
    refine js_iload_n (n := 22) X (dg dc_P_shiftUp 15 rfl) rfl rfl rfl ?_
    refine js_iconst (n := 23) 1 X (dg dc_P_shiftUp 16 rfl) rfl (by decide) ?_
    refine js_isub (n := 24) X (dg dc_P_shiftUp 17 rfl) rfl ?_
    refine js_iaload (f := P.2.2.1) (n := 25) X (dg dc_P_shiftUp 18 rfl) rfl rfl ?_
    refine js_aload_n (n := 26) X (dg dc_P_shiftUp 19 rfl) rfl rfl rfl ?_
    refine js_getf (j := 3) (v := .ref 10) (n := 29) X (dg dc_P_shiftUp 20 rfl) rfl hC_P (Nat.le_of_ble_eq_true rfl) hw_20 rfl rfl ?_
    refine js_iload_n (n := 30) X (dg dc_P_shiftUp 21 rfl) rfl rfl rfl ?_
    refine js_iconst (n := 31) 1 X (dg dc_P_shiftUp 22 rfl) rfl (by decide) ?_
    refine js_isub (n := 32) X (dg dc_P_shiftUp 23 rfl) rfl ?_
    refine js_iaload (f := P.2.2.2) (n := 33) X (dg dc_P_shiftUp 24 rfl) rfl rfl ?_
    refine js_callV (na := 4) (ci := 1) (n := 36) X (dg dc_P_shiftUp 25 rfl) rfl (c_P_put_6 l Dv fu (h.1, P, h.2.2) r out P v3 (P.2.1 (ix (v3 - 1))) (P.2.2.1 (ix (v3 - 1))) (P.2.2.2 (ix (v3 - 1)))) gV_P_48 rfl rfl hy_P_put ⟨(Nat.le_of_ble_eq_true rfl), (Nat.le_of_ble_eq_true rfl)⟩ rfl ⟨(Nat.le_of_ble_eq_true rfl), (Nat.le_of_ble_eq_true rfl)⟩ rfl rfl rfl rfl rfl ?_
    intro P_33
    refine js_iinc (lo' := [some (.ref 6), some (.int v1), none, some (.int (v3 + (-1)))]) (n := 39) (-1) X (dg dc_P_shiftUp 26 rfl) rfl (by decide) (Nat.le_of_ble_eq_true rfl) rfl rfl ?_
    refine js_goto (t := 2) X (dg dc_P_shiftUp 27 rfl) (by decide) ?_
    exact js_keep [true, true, false, true] (ih P_33 v1 (v3 + (-1)))
set_option maxRecDepth 100000 in
set_option maxHeartbeats 4000000 in
theorem c_P_shiftUp_6 (l : Launch) (Dv : va_G) (fu : Nat) (h : S_H) (r : S_R) (out : Nat → Int64) (P : S_P) (a1 : Int32) (a2 : Int32) : ev_M l Dv gaX mu_P_shiftUp [.ref 6, .int a1, .int a2] (hpW (h.1, P, h.2.2) r out) (f_P_shiftUp fu P a1 a2) (fun q => (none, hpW (h.1, q, h.2.2) r out)) := by
  refine ev_met (lo0 := [some (.ref 6), some (.int a1), some (.int a2), none]) rfl rfl rfl (fun κ X => ?_)
  unfold f_P_shiftUp
  refine js_iload_n (n := 1) X (dg dc_P_shiftUp 0 rfl) rfl rfl rfl ?_
  refine js_istore_n (lo' := [some (.ref 6), some (.int a1), some (.int a2), some (.int a2)]) (n := 2) X (dg dc_P_shiftUp 1 rfl) rfl rfl (Nat.le_of_ble_eq_true rfl) rfl ?_
  exact js_keep [true, true, false, true] (jl_P_shiftUp_6_L2 l Dv fu h r out κ X fu P a1 a2)
set_option maxRecDepth 100000 in
set_option maxHeartbeats 4000000 in
theorem jl_P_renumber_6_L8 (l : Launch) (Dv : va_G) (fu : Nat) (h : S_H) (r : S_R) (out : Nat → Int64) (κ : ev_ka) (X : ev_X l Dv gaX mu_P_renumber κ) : ∀ (n : Nat) (P : S_P) (v1 : Int32) (v2 : Int32) (v3 : Int32) (v4 : Int32), ev_J l Dv gaX mu_P_renumber κ 8 0 0 [some (.ref 6), some (.int v1), some (.int v2), some (.int v3), some (.int v4)] [] (hpW (h.1, P, h.2.2) r out) (f_P_renumber_L8 fu n P v1 v2 v3 v4) (fun q => (none, hpW (h.1, q, h.2.2) r out)) := by
  intro n
  induction n with
  | zero => exact fun _ _ _ _ _ => js_none
  | succ n ih =>
    intro P v1 v2 v3 v4
    unfold f_P_renumber_L8
    refine js_iload (n := 10) X (dg dc_P_renumber 5 rfl) rfl rfl ?_
    refine js_iload_n (n := 11) X (dg dc_P_renumber 6 rfl) rfl rfl rfl ?_
    refine js_icmp_ge (t := 45) (n := 14) X (dg dc_P_renumber 7 rfl) (by decide) rfl ?_ ?_
    · exact js_retV X (dg dc_P_renumber 26 rfl) rfl (Nat.le_of_ble_eq_true rfl) (Nat.le_of_ble_eq_true rfl) rfl
    refine js_aload_n (n := 15) X (dg dc_P_renumber 8 rfl) rfl rfl rfl ?_
    refine js_getf (j := 3) (v := .ref 10) (n := 18) X (dg dc_P_renumber 9 rfl) rfl hC_P (Nat.le_of_ble_eq_true rfl) hw_20 rfl rfl ?_
    refine js_iload (n := 20) X (dg dc_P_renumber 10 rfl) rfl rfl ?_
    refine js_iaload (f := P.2.2.2) (n := 21) X (dg dc_P_renumber 11 rfl) rfl rfl ?_
    refine js_bipush (n := 23) 8 X (dg dc_P_renumber 12 rfl) rfl (by decide) ?_
    refine js_iload_n (n := 24) X (dg dc_P_renumber 13 rfl) rfl rfl rfl ?_
    refine js_iadd (n := 25) X (dg dc_P_renumber 14 rfl) rfl ?_
    refine js_icmp_lt (t := 39) (n := 28) X (dg dc_P_renumber 15 rfl) (by decide) rfl ?_ ?_
    · refine js_iinc (lo' := [some (.ref 6), some (.int v1), some (.int v2), some (.int v3), some (.int (v4 + 1))]) (n := 42) 1 X (dg dc_P_renumber 24 rfl) rfl (by decide) (Nat.le_of_ble_eq_true rfl) rfl rfl ?_
      refine js_goto (t := 8) X (dg dc_P_renumber 25 rfl) (by decide) ?_
      exact js_keep [true, true, true, true, true] (ih P v1 v2 v3 (v4 + 1))
    refine js_aload_n (n := 29) X (dg dc_P_renumber 16 rfl) rfl rfl rfl ?_
    refine js_getf (j := 3) (v := .ref 10) (n := 32) X (dg dc_P_renumber 17 rfl) rfl hC_P (Nat.le_of_ble_eq_true rfl) hw_20 rfl rfl ?_
    refine js_iload (n := 34) X (dg dc_P_renumber 18 rfl) rfl rfl ?_
    refine js_dup2 (n := 35) X (dg dc_P_renumber 19 rfl) rfl rfl rfl ?_
    refine js_iaload (f := P.2.2.2) (n := 36) X (dg dc_P_renumber 20 rfl) rfl rfl ?_
    refine js_iload_n (n := 37) X (dg dc_P_renumber 21 rfl) rfl rfl rfl ?_
    refine js_iadd (n := 38) X (dg dc_P_renumber 22 rfl) rfl ?_
    refine js_iastore (f := P.2.2.2) (n := 39) X (dg dc_P_renumber 23 rfl) rfl rfl ?_
    refine js_iinc (lo' := [some (.ref 6), some (.int v1), some (.int v2), some (.int v3), some (.int (v4 + 1))]) (n := 42) 1 X (dg dc_P_renumber 24 rfl) rfl (by decide) (Nat.le_of_ble_eq_true rfl) rfl rfl ?_
    refine js_goto (t := 8) X (dg dc_P_renumber 25 rfl) (by decide) ?_
    exact js_keep [true, true, true, true, true] (ih (P.1, P.2.1, P.2.2.1, (upd P.2.2.2 (ix v4) ((P.2.2.2 (ix v4)) + v2))) v1 v2 v3 (v4 + 1))
set_option maxRecDepth 100000 in
set_option maxHeartbeats 4000000 in
theorem c_P_renumber_6 (l : Launch) (Dv : va_G) (fu : Nat) (h : S_H) (r : S_R) (out : Nat → Int64) (P : S_P) (a1 : Int32) (a2 : Int32) : ev_M l Dv gaX mu_P_renumber [.ref 6, .int a1, .int a2] (hpW (h.1, P, h.2.2) r out) (f_P_renumber fu P a1 a2) (fun q => (none, hpW (h.1, q, h.2.2) r out)) := by
  refine ev_met (lo0 := [some (.ref 6), some (.int a1), some (.int a2), none, none]) rfl rfl rfl (fun κ X => ?_)
  unfold f_P_renumber
  refine js_aload_n (n := 1) X (dg dc_P_renumber 0 rfl) rfl rfl rfl ?_
  refine js_callV (na := 0) (ci := 1) (n := 4) X (dg dc_P_renumber 1 rfl) rfl (c_P_size_6 l Dv fu (h.1, P, h.2.2) r out P) gV_P_31 rfl rfl hy_P_size ⟨(Nat.le_of_ble_eq_true rfl), (Nat.le_of_ble_eq_true rfl)⟩ rfl ⟨(Nat.le_of_ble_eq_true rfl), (Nat.le_of_ble_eq_true rfl)⟩ rfl rfl rfl rfl rfl ?_
  intro r1
  refine js_istore_n (lo' := [some (.ref 6), some (.int a1), some (.int a2), some (.int r1), none]) (n := 5) X (dg dc_P_renumber 2 rfl) rfl rfl (Nat.le_of_ble_eq_true rfl) rfl ?_
  refine js_iconst (n := 6) 0 X (dg dc_P_renumber 3 rfl) rfl (by decide) ?_
  refine js_istore (lo' := [some (.ref 6), some (.int a1), some (.int a2), some (.int r1), some (.int 0)]) (n := 8) X (dg dc_P_renumber 4 rfl) rfl (Nat.le_of_ble_eq_true rfl) rfl ?_
  exact js_keep [true, true, true, true, true] (jl_P_renumber_6_L8 l Dv fu h r out κ X fu P a1 a2 r1 0)
set_option maxRecDepth 100000 in
set_option maxHeartbeats 4000000 in
theorem c_P_append_6 (l : Launch) (Dv : va_G) (fu : Nat) (h : S_H) (r : S_R) (out : Nat → Int64) (P : S_P) (a1 : Int32) (a2 : Int32) (a3 : Int32) (a4 : Int32) : ev_M l Dv gaX mu_P_append [.ref 6, .int a1, .int a2, .int a3, .int a4] (hpW (h.1, P, h.2.2) r out) (f_P_append fu P a1 a2 a3 a4) (fun q => (none, hpW (h.1, q, h.2.2) r out)) := by
  refine ev_met (lo0 := [some (.ref 6), some (.int a1), some (.int a2), some (.int a3), some (.int a4), none]) rfl rfl rfl (fun κ X => ?_)
  unfold f_P_append
  refine js_aload_n (n := 1) X (dg dc_P_append 0 rfl) rfl rfl rfl ?_
  refine js_iload_n (n := 2) X (dg dc_P_append 1 rfl) rfl rfl rfl ?_
  refine js_callV (na := 1) (ci := 1) (n := 5) X (dg dc_P_append 2 rfl) rfl (c_P_end_6 l Dv fu (h.1, P, h.2.2) r out P a1) gV_P_28 rfl rfl hy_P_end ⟨(Nat.le_of_ble_eq_true rfl), (Nat.le_of_ble_eq_true rfl)⟩ rfl ⟨(Nat.le_of_ble_eq_true rfl), (Nat.le_of_ble_eq_true rfl)⟩ rfl rfl rfl rfl rfl ?_
  intro r2
  refine js_istore (lo' := [some (.ref 6), some (.int a1), some (.int a2), some (.int a3), some (.int a4), some (.int r2)]) (n := 7) X (dg dc_P_append 3 rfl) rfl (Nat.le_of_ble_eq_true rfl) rfl ?_
  refine js_aload_n (n := 8) X (dg dc_P_append 4 rfl) rfl rfl rfl ?_
  refine js_iload (n := 10) X (dg dc_P_append 5 rfl) rfl rfl ?_
  refine js_aload_n (n := 11) X (dg dc_P_append 6 rfl) rfl rfl rfl ?_
  refine js_callV (na := 0) (ci := 1) (n := 14) X (dg dc_P_append 7 rfl) rfl (c_P_size_6 l Dv fu (h.1, P, h.2.2) r out P) gV_P_31 rfl rfl hy_P_size ⟨(Nat.le_of_ble_eq_true rfl), (Nat.le_of_ble_eq_true rfl)⟩ rfl ⟨(Nat.le_of_ble_eq_true rfl), (Nat.le_of_ble_eq_true rfl)⟩ rfl rfl rfl rfl rfl ?_
  intro r11
  refine js_callV (na := 2) (ci := 1) (n := 17) X (dg dc_P_append 8 rfl) rfl (c_P_shiftUp_6 l Dv fu (h.1, P, h.2.2) r out P r2 r11) gV_P_41 rfl rfl hy_P_shiftUp ⟨(Nat.le_of_ble_eq_true rfl), (Nat.le_of_ble_eq_true rfl)⟩ rfl ⟨(Nat.le_of_ble_eq_true rfl), (Nat.le_of_ble_eq_true rfl)⟩ rfl rfl rfl rfl rfl ?_
  intro P_14
  refine js_aload_n (n := 18) X (dg dc_P_append 9 rfl) rfl rfl rfl ?_
  refine js_getf (j := 0) (v := .ref 7) (n := 21) X (dg dc_P_append 10 rfl) rfl hC_P (Nat.le_of_ble_eq_true rfl) hw_1 rfl rfl ?_
  refine js_iload_n (n := 22) X (dg dc_P_append 11 rfl) rfl rfl rfl ?_
  refine js_dup2 (n := 23) X (dg dc_P_append 12 rfl) rfl rfl rfl ?_
  refine js_iaload (f := P_14.1) (n := 24) X (dg dc_P_append 13 rfl) rfl rfl ?_
  refine js_iconst (n := 25) 1 X (dg dc_P_append 14 rfl) rfl (by decide) ?_
  refine js_iadd (n := 26) X (dg dc_P_append 15 rfl) rfl ?_
  refine js_iastore (f := P_14.1) (n := 27) X (dg dc_P_append 16 rfl) rfl rfl ?_
  refine js_aload_n (n := 28) X (dg dc_P_append 17 rfl) rfl rfl rfl ?_
  refine js_iload (n := 30) X (dg dc_P_append 18 rfl) rfl rfl ?_
  refine js_iconst (n := 31) 1 X (dg dc_P_append 19 rfl) rfl (by decide) ?_
  refine js_callV (na := 2) (ci := 1) (n := 34) X (dg dc_P_append 20 rfl) rfl (c_P_renumber_6 l Dv fu (h.1, ((upd P_14.1 (ix a1) ((P_14.1 (ix a1)) + 1)), P_14.2), h.2.2) r out ((upd P_14.1 (ix a1) ((P_14.1 (ix a1)) + 1)), P_14.2) r2 1) gV_P_45 rfl rfl hy_P_renumber ⟨(Nat.le_of_ble_eq_true rfl), (Nat.le_of_ble_eq_true rfl)⟩ rfl ⟨(Nat.le_of_ble_eq_true rfl), (Nat.le_of_ble_eq_true rfl)⟩ rfl rfl rfl rfl rfl ?_
  intro P_31
  refine js_aload_n (n := 35) X (dg dc_P_append 21 rfl) rfl rfl rfl ?_
  refine js_iload (n := 37) X (dg dc_P_append 22 rfl) rfl rfl ?_
  refine js_iload_n (n := 38) X (dg dc_P_append 23 rfl) rfl rfl rfl ?_
  refine js_iload_n (n := 39) X (dg dc_P_append 24 rfl) rfl rfl rfl ?_
  refine js_iload (n := 41) X (dg dc_P_append 25 rfl) rfl rfl ?_
  refine js_callV (na := 4) (ci := 1) (n := 44) X (dg dc_P_append 26 rfl) rfl (c_P_put_6 l Dv fu (h.1, P_31, h.2.2) r out P_31 r2 a2 a3 a4) gV_P_48 rfl rfl hy_P_put ⟨(Nat.le_of_ble_eq_true rfl), (Nat.le_of_ble_eq_true rfl)⟩ rfl ⟨(Nat.le_of_ble_eq_true rfl), (Nat.le_of_ble_eq_true rfl)⟩ rfl rfl rfl rfl rfl ?_
  intro P_41
  exact js_retV X (dg dc_P_append 27 rfl) rfl (Nat.le_of_ble_eq_true rfl) (Nat.le_of_ble_eq_true rfl) rfl
set_option maxRecDepth 100000 in
set_option maxHeartbeats 4000000 in
theorem c_O_isOpen (l : Launch) (Dv : va_G) (fu : Nat) (hp : ev_H) (a0 : Int32) (a1 : Int32) : ev_M l Dv gaX mu_O_isOpen [.int a0, .int a1] (hp) (f_O_isOpen fu a0 a1) (fun q => (some (.int q), hp)) := by
  refine ev_met (lo0 := [some (.int a0), some (.int a1)]) rfl rfl rfl (fun κ X => ?_)
  unfold f_O_isOpen
  refine js_iload_n (n := 1) X (dg dc_O_isOpen 0 rfl) rfl rfl rfl ?_
  refine js_iconst (n := 2) 4 X (dg dc_O_isOpen 1 rfl) rfl (by decide) ?_
  refine js_iload_n (n := 3) X (dg dc_O_isOpen 2 rfl) rfl rfl rfl ?_
  refine js_imul (n := 4) X (dg dc_O_isOpen 3 rfl) rfl ?_
  refine js_ishr (n := 5) X (dg dc_O_isOpen 4 rfl) rfl ?_
  refine js_bipush (n := 7) 8 X (dg dc_O_isOpen 5 rfl) rfl (by decide) ?_
  refine js_iand (n := 8) X (dg dc_O_isOpen 6 rfl) rfl ?_
  refine js_if_eq (t := 15) (n := 11) X (dg dc_O_isOpen 7 rfl) (by decide) rfl ?_ ?_
  · refine js_iconst (n := 16) 0 X (dg dc_O_isOpen 10 rfl) rfl (by decide) ?_
    exact js_retZ X (dg dc_O_isOpen 11 rfl) rfl (Nat.le_of_ble_eq_true rfl) (Nat.le_of_ble_eq_true rfl) rfl
  refine js_iconst (n := 12) 1 X (dg dc_O_isOpen 8 rfl) rfl (by decide) ?_
  refine js_goto (t := 16) X (dg dc_O_isOpen 9 rfl) (by decide) ?_
  exact js_retZ X (dg dc_O_isOpen 11 rfl) rfl (Nat.le_of_ble_eq_true rfl) (Nat.le_of_ble_eq_true rfl) rfl
set_option maxRecDepth 100000 in
set_option maxHeartbeats 4000000 in
theorem c_O_source (l : Launch) (Dv : va_G) (fu : Nat) (hp : ev_H) (a0 : Int32) : ev_M l Dv gaX mu_O_source [.int a0] (hp) (f_O_source fu a0) (fun q => (some (.int q), hp)) := by
  refine ev_met (lo0 := [some (.int a0)]) rfl rfl rfl (fun κ X => ?_)
  unfold f_O_source
  refine js_iload_n (n := 1) X (dg dc_O_source 0 rfl) rfl rfl rfl ?_
  refine js_iconst (n := 2) 1 X (dg dc_O_source 1 rfl) rfl (by decide) ?_
  refine js_iadd (n := 3) X (dg dc_O_source 2 rfl) rfl ?_
  refine js_iconst (n := 4) 3 X (dg dc_O_source 3 rfl) rfl (by decide) ?_
  refine js_irem (n := 5) X (dg dc_O_source 4 rfl) rfl ?_
  exact js_retI X (dg dc_O_source 5 rfl) rfl (Nat.le_of_ble_eq_true rfl) (Nat.le_of_ble_eq_true rfl) rfl
set_option maxRecDepth 100000 in
set_option maxHeartbeats 4000000 in
theorem c_O_allows (l : Launch) (Dv : va_G) (fu : Nat) (hp : ev_H) (a0 : Int32) (a1 : Int32) (a2 : Int32) : ev_M l Dv gaX mu_O_allows [.int a0, .int a1, .int a2] (hp) (f_O_allows fu a0 a1 a2) (fun q => (some (.int q), hp)) := by
  refine ev_met (lo0 := [some (.int a0), some (.int a1), some (.int a2)]) rfl rfl rfl (fun κ X => ?_)
  unfold f_O_allows
  refine js_iload_n (n := 1) X (dg dc_O_allows 0 rfl) rfl rfl rfl ?_
  refine js_lsw X (dg dc_O_allows 1 rfl) (by decide) ?_
  refine js_sw1 28 (by decide) (by decide) ?_ ?_
  · refine js_iload_n (n := 29) X (dg dc_O_allows 2 rfl) rfl rfl rfl ?_
    refine js_iload_n (n := 30) X (dg dc_O_allows 3 rfl) rfl rfl rfl ?_
    refine js_callS (na := 2) (n := 33) X (dg dc_O_allows 4 rfl) rfl (c_O_isOpen l Dv fu _ a0 a2) gS_O_11 rfl rfl hy_O_isOpen.2 ⟨(Nat.le_of_ble_eq_true rfl), (Nat.le_of_ble_eq_true rfl)⟩ ⟨(Nat.le_of_ble_eq_true rfl), (Nat.le_of_ble_eq_true rfl)⟩ rfl rfl rfl rfl ?_
    intro r30
    refine js_if_ne (t := 40) (n := 36) X (dg dc_O_allows 5 rfl) (by decide) rfl ?_ ?_
    · refine js_iconst (n := 41) 0 X (dg dc_O_allows 8 rfl) rfl (by decide) ?_
      exact js_retZ X (dg dc_O_allows 9 rfl) rfl (Nat.le_of_ble_eq_true rfl) (Nat.le_of_ble_eq_true rfl) rfl
    refine js_iconst (n := 37) 1 X (dg dc_O_allows 6 rfl) rfl (by decide) ?_
    refine js_goto (t := 41) X (dg dc_O_allows 7 rfl) (by decide) ?_
    exact js_retZ X (dg dc_O_allows 9 rfl) rfl (Nat.le_of_ble_eq_true rfl) (Nat.le_of_ble_eq_true rfl) rfl
  refine js_sw1 42 (by decide) (by decide) ?_ ?_
  · refine js_iload_n (n := 43) X (dg dc_O_allows 10 rfl) rfl rfl rfl ?_
    refine js_iload_n (n := 44) X (dg dc_O_allows 11 rfl) rfl rfl rfl ?_
    refine js_callS (na := 2) (n := 47) X (dg dc_O_allows 12 rfl) rfl (c_O_isOpen l Dv fu _ a0 a2) gS_O_11 rfl rfl hy_O_isOpen.2 ⟨(Nat.le_of_ble_eq_true rfl), (Nat.le_of_ble_eq_true rfl)⟩ ⟨(Nat.le_of_ble_eq_true rfl), (Nat.le_of_ble_eq_true rfl)⟩ rfl rfl rfl rfl ?_
    intro r44
    refine js_if_eq (t := 65) (n := 50) X (dg dc_O_allows 13 rfl) (by decide) rfl ?_ ?_
    · refine js_iconst (n := 66) 0 X (dg dc_O_allows 21 rfl) rfl (by decide) ?_
      exact js_retZ X (dg dc_O_allows 22 rfl) rfl (Nat.le_of_ble_eq_true rfl) (Nat.le_of_ble_eq_true rfl) rfl
    refine js_iload_n (n := 51) X (dg dc_O_allows 14 rfl) rfl rfl rfl ?_
    refine js_iload_n (n := 52) X (dg dc_O_allows 15 rfl) rfl rfl rfl ?_
    refine js_callS (na := 1) (n := 55) X (dg dc_O_allows 16 rfl) rfl (c_O_source l Dv fu _ a2) gS_O_15 rfl rfl hy_O_source.2 ⟨(Nat.le_of_ble_eq_true rfl), (Nat.le_of_ble_eq_true rfl)⟩ ⟨(Nat.le_of_ble_eq_true rfl), (Nat.le_of_ble_eq_true rfl)⟩ rfl rfl rfl rfl ?_
    intro r52
    refine js_callS (na := 2) (n := 58) X (dg dc_O_allows 17 rfl) rfl (c_O_isOpen l Dv fu _ a0 r52) gS_O_11 rfl rfl hy_O_isOpen.2 ⟨(Nat.le_of_ble_eq_true rfl), (Nat.le_of_ble_eq_true rfl)⟩ ⟨(Nat.le_of_ble_eq_true rfl), (Nat.le_of_ble_eq_true rfl)⟩ rfl rfl rfl rfl ?_
    intro r55
    refine js_if_eq (t := 65) (n := 61) X (dg dc_O_allows 18 rfl) (by decide) rfl ?_ ?_
    · refine js_iconst (n := 66) 0 X (dg dc_O_allows 21 rfl) rfl (by decide) ?_
      exact js_retZ X (dg dc_O_allows 22 rfl) rfl (Nat.le_of_ble_eq_true rfl) (Nat.le_of_ble_eq_true rfl) rfl
    refine js_iconst (n := 62) 1 X (dg dc_O_allows 19 rfl) rfl (by decide) ?_
    refine js_goto (t := 66) X (dg dc_O_allows 20 rfl) (by decide) ?_
    exact js_retZ X (dg dc_O_allows 22 rfl) rfl (Nat.le_of_ble_eq_true rfl) (Nat.le_of_ble_eq_true rfl) rfl
  refine js_sw0 67 (by decide) ?_
  refine js_iload_n (n := 68) X (dg dc_O_allows 23 rfl) rfl rfl rfl ?_
  refine js_iload_n (n := 69) X (dg dc_O_allows 24 rfl) rfl rfl rfl ?_
  refine js_callS (na := 2) (n := 72) X (dg dc_O_allows 25 rfl) rfl (c_O_isOpen l Dv fu _ a0 a2) gS_O_11 rfl rfl hy_O_isOpen.2 ⟨(Nat.le_of_ble_eq_true rfl), (Nat.le_of_ble_eq_true rfl)⟩ ⟨(Nat.le_of_ble_eq_true rfl), (Nat.le_of_ble_eq_true rfl)⟩ rfl rfl rfl rfl ?_
  intro r69
  exact js_retZ X (dg dc_O_allows 26 rfl) rfl (Nat.le_of_ble_eq_true rfl) (Nat.le_of_ble_eq_true rfl) rfl
set_option maxRecDepth 100000 in
set_option maxHeartbeats 4000000 in
theorem c_O_content (l : Launch) (Dv : va_G) (fu : Nat) (hp : ev_H) (a0 : Int32) (a1 : Int32) : ev_M l Dv gaX mu_O_content [.int a0, .int a1] (hp) (f_O_content fu a0 a1) (fun q => (some (.int q), hp)) := by
  refine ev_met (lo0 := [some (.int a0), some (.int a1)]) rfl rfl rfl (fun κ X => ?_)
  unfold f_O_content
  refine js_iload_n (n := 1) X (dg dc_O_content 0 rfl) rfl rfl rfl ?_
  refine js_iconst (n := 2) 4 X (dg dc_O_content 1 rfl) rfl (by decide) ?_
  refine js_iload_n (n := 3) X (dg dc_O_content 2 rfl) rfl rfl rfl ?_
  refine js_imul (n := 4) X (dg dc_O_content 3 rfl) rfl ?_
  refine js_ishr (n := 5) X (dg dc_O_content 4 rfl) rfl ?_
  refine js_bipush (n := 7) 15 X (dg dc_O_content 5 rfl) rfl (by decide) ?_
  refine js_iand (n := 8) X (dg dc_O_content 6 rfl) rfl ?_
  exact js_retI X (dg dc_O_content 7 rfl) rfl (Nat.le_of_ble_eq_true rfl) (Nat.le_of_ble_eq_true rfl) rfl
set_option maxRecDepth 100000 in
set_option maxHeartbeats 4000000 in
theorem c_O_held (l : Launch) (Dv : va_G) (fu : Nat) (hp : ev_H) (a0 : Int32) (a1 : Int32) : ev_M l Dv gaX mu_O_held [.int a0, .int a1] (hp) (f_O_held fu a0 a1) (fun q => (some (.int q), hp)) := by
  refine ev_met (lo0 := [some (.int a0), some (.int a1)]) rfl rfl rfl (fun κ X => ?_)
  unfold f_O_held
  refine js_iload_n (n := 1) X (dg dc_O_held 0 rfl) rfl rfl rfl ?_
  refine js_iconst (n := 2) 4 X (dg dc_O_held 1 rfl) rfl (by decide) ?_
  refine js_iload_n (n := 3) X (dg dc_O_held 2 rfl) rfl rfl rfl ?_
  refine js_imul (n := 4) X (dg dc_O_held 3 rfl) rfl ?_
  refine js_ishr (n := 5) X (dg dc_O_held 4 rfl) rfl ?_
  refine js_bipush (n := 7) 7 X (dg dc_O_held 5 rfl) rfl (by decide) ?_
  refine js_iand (n := 8) X (dg dc_O_held 6 rfl) rfl ?_
  exact js_retI X (dg dc_O_held 7 rfl) rfl (Nat.le_of_ble_eq_true rfl) (Nat.le_of_ble_eq_true rfl) rfl
set_option maxRecDepth 100000 in
set_option maxHeartbeats 4000000 in
theorem jl_O_after_L118 (l : Launch) (Dv : va_G) (fu : Nat) (hp : ev_H) (κ : ev_ka) (X : ev_X l Dv gaX mu_O_after κ) (v0 : Int32) (v2 : Int32) (v6 : Int32) : ev_J l Dv gaX mu_O_after κ 118 0 0 [some (.int v0), none, some (.int v2), none, none, none, some (.int v6)] [] (hp) (f_O_after_L118 fu v0 v2 v6) (fun q => (some (.int q), hp)) := by
  unfold f_O_after_L118
  refine js_iload_n (n := 119) X (dg dc_O_after 44 rfl) rfl rfl rfl ?_
  refine js_bipush (n := 121) 15 X (dg dc_O_after 45 rfl) rfl (by decide) ?_
  refine js_iconst (n := 122) 4 X (dg dc_O_after 46 rfl) rfl (by decide) ?_
  refine js_iload_n (n := 123) X (dg dc_O_after 47 rfl) rfl rfl rfl ?_
  refine js_imul (n := 124) X (dg dc_O_after 48 rfl) rfl ?_
  refine js_ishl (n := 125) X (dg dc_O_after 49 rfl) rfl ?_
  refine js_iconst (n := 126) (-1) X (dg dc_O_after 50 rfl) rfl (by decide) ?_
  refine js_ixor (n := 127) X (dg dc_O_after 51 rfl) rfl ?_
  refine js_iand (n := 128) X (dg dc_O_after 52 rfl) rfl ?_
  refine js_iload (n := 130) X (dg dc_O_after 53 rfl) rfl rfl ?_
  refine js_iconst (n := 131) 4 X (dg dc_O_after 54 rfl) rfl (by decide) ?_
  refine js_iload_n (n := 132) X (dg dc_O_after 55 rfl) rfl rfl rfl ?_
  refine js_imul (n := 133) X (dg dc_O_after 56 rfl) rfl ?_
  refine js_ishl (n := 134) X (dg dc_O_after 57 rfl) rfl ?_
  refine js_ior (n := 135) X (dg dc_O_after 58 rfl) rfl ?_
  exact js_retI X (dg dc_O_after 59 rfl) rfl (Nat.le_of_ble_eq_true rfl) (Nat.le_of_ble_eq_true rfl) rfl
set_option maxRecDepth 100000 in
set_option maxHeartbeats 4000000 in
theorem c_O_after (l : Launch) (Dv : va_G) (fu : Nat) (hp : ev_H) (a0 : Int32) (a1 : Int32) (a2 : Int32) (a3 : Int32) : ev_M l Dv gaX mu_O_after [.int a0, .int a1, .int a2, .int a3] (hp) (f_O_after fu a0 a1 a2 a3) (fun q => (some (.int q), hp)) := by
  refine ev_met (lo0 := [some (.int a0), some (.int a1), some (.int a2), some (.int a3), none, none, none]) rfl rfl rfl (fun κ X => ?_)
  unfold f_O_after
  refine js_iload_n (n := 1) X (dg dc_O_after 0 rfl) rfl rfl rfl ?_
  refine js_iload_n (n := 2) X (dg dc_O_after 1 rfl) rfl rfl rfl ?_
  refine js_callS (na := 2) (n := 5) X (dg dc_O_after 2 rfl) rfl (c_O_content l Dv fu _ a0 a2) gS_O_23 rfl rfl hy_O_content.2 ⟨(Nat.le_of_ble_eq_true rfl), (Nat.le_of_ble_eq_true rfl)⟩ ⟨(Nat.le_of_ble_eq_true rfl), (Nat.le_of_ble_eq_true rfl)⟩ rfl rfl rfl rfl ?_
  intro r2
  refine js_istore (lo' := [some (.int a0), some (.int a1), some (.int a2), some (.int a3), some (.int r2), none, none]) (n := 7) X (dg dc_O_after 3 rfl) rfl (Nat.le_of_ble_eq_true rfl) rfl ?_
  refine js_iload (n := 9) X (dg dc_O_after 4 rfl) rfl rfl ?_
  refine js_bipush (n := 11) 8 X (dg dc_O_after 5 rfl) rfl (by decide) ?_
  refine js_iand (n := 12) X (dg dc_O_after 6 rfl) rfl ?_
  refine js_istore (lo' := [some (.int a0), some (.int a1), some (.int a2), some (.int a3), some (.int r2), some (.int (r2 &&& 8)), none]) (n := 14) X (dg dc_O_after 7 rfl) rfl (Nat.le_of_ble_eq_true rfl) rfl ?_
  refine js_iload_n (n := 15) X (dg dc_O_after 8 rfl) rfl rfl rfl ?_
  refine js_tsw X (dg dc_O_after 9 rfl) (by decide) ?_
  refine js_sw1 56 (by decide) (by decide) ?_ ?_
  · refine js_bipush (n := 58) 8 X (dg dc_O_after 10 rfl) rfl (by decide) ?_
    refine js_iload_n (n := 59) X (dg dc_O_after 11 rfl) rfl rfl rfl ?_
    refine js_iadd (n := 60) X (dg dc_O_after 12 rfl) rfl ?_
    refine js_istore (lo' := [some (.int a0), some (.int a1), some (.int a2), some (.int a3), some (.int r2), some (.int (r2 &&& 8)), some (.int (8 + a3))]) (n := 62) X (dg dc_O_after 13 rfl) rfl (Nat.le_of_ble_eq_true rfl) rfl ?_
    refine js_goto (t := 118) X (dg dc_O_after 14 rfl) (by decide) ?_
    exact js_keep [true, false, true, false, false, false, true] (jl_O_after_L118 l Dv fu hp κ X a0 a2 (8 + a3))
  refine js_sw1 65 (by decide) (by decide) ?_ ?_
  · refine js_iconst (n := 66) 0 X (dg dc_O_after 15 rfl) rfl (by decide) ?_
    refine js_istore (lo' := [some (.int a0), some (.int a1), some (.int a2), some (.int a3), some (.int r2), some (.int (r2 &&& 8)), some (.int 0)]) (n := 68) X (dg dc_O_after 16 rfl) rfl (Nat.le_of_ble_eq_true rfl) rfl ?_
    refine js_goto (t := 118) X (dg dc_O_after 17 rfl) (by decide) ?_
    exact js_keep [true, false, true, false, false, false, true] (jl_O_after_L118 l Dv fu hp κ X a0 a2 0)
  refine js_sw1 71 (by decide) (by decide) ?_ ?_
  · refine js_iload (n := 73) X (dg dc_O_after 18 rfl) rfl rfl ?_
    refine js_istore (lo' := [some (.int a0), some (.int a1), some (.int a2), some (.int a3), some (.int r2), some (.int (r2 &&& 8)), some (.int r2)]) (n := 75) X (dg dc_O_after 19 rfl) rfl (Nat.le_of_ble_eq_true rfl) rfl ?_
    refine js_goto (t := 118) X (dg dc_O_after 20 rfl) (by decide) ?_
    exact js_keep [true, false, true, false, false, false, true] (jl_O_after_L118 l Dv fu hp κ X a0 a2 r2)
  refine js_sw1 112 (by decide) (by decide) ?_ ?_
  · refine js_iload (n := 114) X (dg dc_O_after 40 rfl) rfl rfl ?_
    refine js_iload_n (n := 115) X (dg dc_O_after 41 rfl) rfl rfl rfl ?_
    refine js_iadd (n := 116) X (dg dc_O_after 42 rfl) rfl ?_
    refine js_istore (lo' := [some (.int a0), some (.int a1), some (.int a2), some (.int a3), some (.int r2), some (.int (r2 &&& 8)), some (.int ((r2 &&& 8) + a3))]) (n := 118) X (dg dc_O_after 43 rfl) rfl (Nat.le_of_ble_eq_true rfl) rfl ?_
    exact js_keep [true, false, true, false, false, false, true] (jl_O_after_L118 l Dv fu hp κ X a0 a2 ((r2 &&& 8) + a3))
  refine js_sw1 78 (by decide) (by decide) ?_ ?_
  · refine js_iload (n := 80) X (dg dc_O_after 21 rfl) rfl rfl ?_
    refine js_iload_n (n := 81) X (dg dc_O_after 22 rfl) rfl rfl rfl ?_
    refine js_iload_n (n := 82) X (dg dc_O_after 23 rfl) rfl rfl rfl ?_
    refine js_callS (na := 2) (n := 85) X (dg dc_O_after 24 rfl) rfl (c_O_held l Dv fu _ a0 a2) gS_O_19 rfl rfl hy_O_held.2 ⟨(Nat.le_of_ble_eq_true rfl), (Nat.le_of_ble_eq_true rfl)⟩ ⟨(Nat.le_of_ble_eq_true rfl), (Nat.le_of_ble_eq_true rfl)⟩ rfl rfl rfl rfl ?_
    intro r82
    refine js_iload_n (n := 86) X (dg dc_O_after 25 rfl) rfl rfl rfl ?_
    refine js_iadd (n := 87) X (dg dc_O_after 26 rfl) rfl ?_
    refine js_bipush (n := 89) 8 X (dg dc_O_after 27 rfl) rfl (by decide) ?_
    refine js_irem (n := 90) X (dg dc_O_after 28 rfl) rfl ?_
    refine js_iadd (n := 91) X (dg dc_O_after 29 rfl) rfl ?_
    refine js_istore (lo' := [some (.int a0), some (.int a1), some (.int a2), some (.int a3), some (.int r2), some (.int (r2 &&& 8)), some (.int ((r2 &&& 8) + ((r82 + a3) - (r82 + a3) / 8 * 8)))]) (n := 93) X (dg dc_O_after 30 rfl) rfl (Nat.le_of_ble_eq_true rfl) rfl ?_
    refine js_goto (t := 118) X (dg dc_O_after 31 rfl) (by decide) ?_
    exact js_keep [true, false, true, false, false, false, true] (jl_O_after_L118 l Dv fu hp κ X a0 a2 ((r2 &&& 8) + ((r82 + a3) - (r82 + a3) / 8 * 8)))
  refine js_sw1 112 (by decide) (by decide) ?_ ?_
  · refine js_iload (n := 114) X (dg dc_O_after 40 rfl) rfl rfl ?_
    refine js_iload_n (n := 115) X (dg dc_O_after 41 rfl) rfl rfl rfl ?_
    refine js_iadd (n := 116) X (dg dc_O_after 42 rfl) rfl ?_
    refine js_istore (lo' := [some (.int a0), some (.int a1), some (.int a2), some (.int a3), some (.int r2), some (.int (r2 &&& 8)), some (.int ((r2 &&& 8) + a3))]) (n := 118) X (dg dc_O_after 43 rfl) rfl (Nat.le_of_ble_eq_true rfl) rfl ?_
    exact js_keep [true, false, true, false, false, false, true] (jl_O_after_L118 l Dv fu hp κ X a0 a2 ((r2 &&& 8) + a3))
  refine js_sw1 96 (by decide) (by decide) ?_ ?_
  · refine js_iload (n := 98) X (dg dc_O_after 32 rfl) rfl rfl ?_
    refine js_iload_n (n := 99) X (dg dc_O_after 33 rfl) rfl rfl rfl ?_
    refine js_iload_n (n := 100) X (dg dc_O_after 34 rfl) rfl rfl rfl ?_
    refine js_callS (na := 1) (n := 103) X (dg dc_O_after 35 rfl) rfl (c_O_source l Dv fu _ a2) gS_O_15 rfl rfl hy_O_source.2 ⟨(Nat.le_of_ble_eq_true rfl), (Nat.le_of_ble_eq_true rfl)⟩ ⟨(Nat.le_of_ble_eq_true rfl), (Nat.le_of_ble_eq_true rfl)⟩ rfl rfl rfl rfl ?_
    intro r100
    refine js_callS (na := 2) (n := 106) X (dg dc_O_after 36 rfl) rfl (c_O_held l Dv fu _ a0 r100) gS_O_19 rfl rfl hy_O_held.2 ⟨(Nat.le_of_ble_eq_true rfl), (Nat.le_of_ble_eq_true rfl)⟩ ⟨(Nat.le_of_ble_eq_true rfl), (Nat.le_of_ble_eq_true rfl)⟩ rfl rfl rfl rfl ?_
    intro r103
    refine js_iadd (n := 107) X (dg dc_O_after 37 rfl) rfl ?_
    refine js_istore (lo' := [some (.int a0), some (.int a1), some (.int a2), some (.int a3), some (.int r2), some (.int (r2 &&& 8)), some (.int ((r2 &&& 8) + r103))]) (n := 109) X (dg dc_O_after 38 rfl) rfl (Nat.le_of_ble_eq_true rfl) rfl ?_
    refine js_goto (t := 118) X (dg dc_O_after 39 rfl) (by decide) ?_
    exact js_keep [true, false, true, false, false, false, true] (jl_O_after_L118 l Dv fu hp κ X a0 a2 ((r2 &&& 8) + r103))
  refine js_sw0 112 (by decide) ?_
  refine js_iload (n := 114) X (dg dc_O_after 40 rfl) rfl rfl ?_
  refine js_iload_n (n := 115) X (dg dc_O_after 41 rfl) rfl rfl rfl ?_
  refine js_iadd (n := 116) X (dg dc_O_after 42 rfl) rfl ?_
  refine js_istore (lo' := [some (.int a0), some (.int a1), some (.int a2), some (.int a3), some (.int r2), some (.int (r2 &&& 8)), some (.int ((r2 &&& 8) + a3))]) (n := 118) X (dg dc_O_after 43 rfl) rfl (Nat.le_of_ble_eq_true rfl) rfl ?_
  exact js_keep [true, false, true, false, false, false, true] (jl_O_after_L118 l Dv fu hp κ X a0 a2 ((r2 &&& 8) + a3))
set_option maxRecDepth 100000 in
set_option maxHeartbeats 4000000 in
theorem jl_P_isValidBeside_6_L98 (l : Launch) (Dv : va_G) (fu : Nat) (h : S_H) (r : S_R) (out : Nat → Int64) (κ : ev_ka) (X : ev_X l Dv gaX mu_P_isValidBeside κ) (P : S_P) (v2 : Int32) (v3 : Int32) : ev_J l Dv gaX mu_P_isValidBeside κ 98 0 0 [some (.ref 6), none, some (.int v2), some (.int v3), none, none] [] (hpW (h.1, P, h.2.2) r out) (f_P_isValidBeside_L98 fu P v2 v3) (fun q => (some (.int q), hpW (h.1, P, h.2.2) r out)) := by
  unfold f_P_isValidBeside_L98
  refine js_iload_n (n := 99) X (dg dc_P_isValidBeside 56 rfl) rfl rfl rfl ?_
  refine js_iconst (n := 100) (-1) X (dg dc_P_isValidBeside 57 rfl) rfl (by decide) ?_
  refine js_icmp_eq (t := 122) (n := 103) X (dg dc_P_isValidBeside 58 rfl) (by decide) rfl ?_ ?_
  · refine js_iconst (n := 123) 1 X (dg dc_P_isValidBeside 70 rfl) rfl (by decide) ?_
    refine js_goto (t := 127) X (dg dc_P_isValidBeside 71 rfl) (by decide) ?_
    exact js_retZ X (dg dc_P_isValidBeside 73 rfl) rfl (Nat.le_of_ble_eq_true rfl) (Nat.le_of_ble_eq_true rfl) rfl
  refine js_iload_n (n := 104) X (dg dc_P_isValidBeside 59 rfl) rfl rfl rfl ?_
  refine js_aload_n (n := 105) X (dg dc_P_isValidBeside 60 rfl) rfl rfl rfl ?_
  refine js_getf (j := 1) (v := .ref 8) (n := 108) X (dg dc_P_isValidBeside 61 rfl) rfl hC_P (Nat.le_of_ble_eq_true rfl) hw_14 rfl rfl ?_
  refine js_iload_n (n := 109) X (dg dc_P_isValidBeside 62 rfl) rfl rfl rfl ?_
  refine js_iaload (f := P.2.1) (n := 110) X (dg dc_P_isValidBeside 63 rfl) rfl rfl ?_
  refine js_aload_n (n := 111) X (dg dc_P_isValidBeside 64 rfl) rfl rfl rfl ?_
  refine js_getf (j := 2) (v := .ref 9) (n := 114) X (dg dc_P_isValidBeside 65 rfl) rfl hC_P (Nat.le_of_ble_eq_true rfl) hw_19 rfl rfl ?_
  refine js_iload_n (n := 115) X (dg dc_P_isValidBeside 66 rfl) rfl rfl rfl ?_
  refine js_iaload (f := P.2.2.1) (n := 116) X (dg dc_P_isValidBeside 67 rfl) rfl rfl ?_
  refine js_callS (na := 3) (n := 119) X (dg dc_P_isValidBeside 68 rfl) rfl (c_O_allows l Dv fu _ v3 (P.2.1 (ix v2)) (P.2.2.1 (ix v2))) gS_P_64 rfl rfl hy_O_allows.2 ⟨(Nat.le_of_ble_eq_true rfl), (Nat.le_of_ble_eq_true rfl)⟩ ⟨(Nat.le_of_ble_eq_true rfl), (Nat.le_of_ble_eq_true rfl)⟩ rfl rfl rfl rfl ?_
  intro r116
  refine js_if_eq (t := 126) (n := 122) X (dg dc_P_isValidBeside 69 rfl) (by decide) rfl ?_ ?_
  · refine js_iconst (n := 127) 0 X (dg dc_P_isValidBeside 72 rfl) rfl (by decide) ?_
    exact js_retZ X (dg dc_P_isValidBeside 73 rfl) rfl (Nat.le_of_ble_eq_true rfl) (Nat.le_of_ble_eq_true rfl) rfl
  refine js_iconst (n := 123) 1 X (dg dc_P_isValidBeside 70 rfl) rfl (by decide) ?_
  refine js_goto (t := 127) X (dg dc_P_isValidBeside 71 rfl) (by decide) ?_
  exact js_retZ X (dg dc_P_isValidBeside 73 rfl) rfl (Nat.le_of_ble_eq_true rfl) (Nat.le_of_ble_eq_true rfl) rfl
set_option maxRecDepth 100000 in
set_option maxHeartbeats 4000000 in
theorem jl_P_isValidBeside_6_L49 (l : Launch) (Dv : va_G) (fu : Nat) (h : S_H) (r : S_R) (out : Nat → Int64) (κ : ev_ka) (X : ev_X l Dv gaX mu_P_isValidBeside κ) (P : S_P) (k16 : Int32 → Int32 → Int32 → Int32 → Option (Int32)) (hk16 : ∀ (v2 : Int32) (v3 : Int32) (v4 : Int32) (v5 : Int32), ev_J l Dv gaX mu_P_isValidBeside κ 16 0 0 [some (.ref 6), none, some (.int v2), some (.int v3), some (.int v4), some (.int v5)] [] (hpW (h.1, P, h.2.2) r out) (k16 v2 v3 v4 v5) (fun q => (some (.int q), hpW (h.1, P, h.2.2) r out))) (v2 : Int32) (v3 : Int32) (v4 : Int32) (v5 : Int32) : ev_J l Dv gaX mu_P_isValidBeside κ 49 0 0 [some (.ref 6), none, some (.int v2), some (.int v3), some (.int v4), some (.int v5)] [] (hpW (h.1, P, h.2.2) r out) (f_P_isValidBeside_L49 fu P k16 v2 v3 v4 v5) (fun q => (some (.int q), hpW (h.1, P, h.2.2) r out)) := by
  unfold f_P_isValidBeside_L49
  refine js_iload_n (n := 50) X (dg dc_P_isValidBeside 29 rfl) rfl rfl rfl ?_
  refine js_aload_n (n := 51) X (dg dc_P_isValidBeside 30 rfl) rfl rfl rfl ?_
  refine js_getf (j := 1) (v := .ref 8) (n := 54) X (dg dc_P_isValidBeside 31 rfl) rfl hC_P (Nat.le_of_ble_eq_true rfl) hw_14 rfl rfl ?_
  refine js_iload (n := 56) X (dg dc_P_isValidBeside 32 rfl) rfl rfl ?_
  refine js_iaload (f := P.2.1) (n := 57) X (dg dc_P_isValidBeside 33 rfl) rfl rfl ?_
  refine js_aload_n (n := 58) X (dg dc_P_isValidBeside 34 rfl) rfl rfl rfl ?_
  refine js_getf (j := 2) (v := .ref 9) (n := 61) X (dg dc_P_isValidBeside 35 rfl) rfl hC_P (Nat.le_of_ble_eq_true rfl) hw_19 rfl rfl ?_
  refine js_iload (n := 63) X (dg dc_P_isValidBeside 36 rfl) rfl rfl ?_
  refine js_iaload (f := P.2.2.1) (n := 64) X (dg dc_P_isValidBeside 37 rfl) rfl rfl ?_
  refine js_callS (na := 3) (n := 67) X (dg dc_P_isValidBeside 38 rfl) rfl (c_O_allows l Dv fu _ v3 (P.2.1 (ix v5)) (P.2.2.1 (ix v5))) gS_P_64 rfl rfl hy_O_allows.2 ⟨(Nat.le_of_ble_eq_true rfl), (Nat.le_of_ble_eq_true rfl)⟩ ⟨(Nat.le_of_ble_eq_true rfl), (Nat.le_of_ble_eq_true rfl)⟩ rfl rfl rfl rfl ?_
  intro r64
  refine js_if_ne (t := 72) (n := 70) X (dg dc_P_isValidBeside 39 rfl) (by decide) rfl ?_ ?_
  · refine js_iload_n (n := 73) X (dg dc_P_isValidBeside 42 rfl) rfl rfl rfl ?_
    refine js_aload_n (n := 74) X (dg dc_P_isValidBeside 43 rfl) rfl rfl rfl ?_
    refine js_getf (j := 1) (v := .ref 8) (n := 77) X (dg dc_P_isValidBeside 44 rfl) rfl hC_P (Nat.le_of_ble_eq_true rfl) hw_14 rfl rfl ?_
    refine js_iload (n := 79) X (dg dc_P_isValidBeside 45 rfl) rfl rfl ?_
    refine js_iaload (f := P.2.1) (n := 80) X (dg dc_P_isValidBeside 46 rfl) rfl rfl ?_
    refine js_aload_n (n := 81) X (dg dc_P_isValidBeside 47 rfl) rfl rfl rfl ?_
    refine js_getf (j := 2) (v := .ref 9) (n := 84) X (dg dc_P_isValidBeside 48 rfl) rfl hC_P (Nat.le_of_ble_eq_true rfl) hw_19 rfl rfl ?_
    refine js_iload (n := 86) X (dg dc_P_isValidBeside 49 rfl) rfl rfl ?_
    refine js_iaload (f := P.2.2.1) (n := 87) X (dg dc_P_isValidBeside 50 rfl) rfl rfl ?_
    refine js_iconst (n := 88) 0 X (dg dc_P_isValidBeside 51 rfl) rfl (by decide) ?_
    refine js_callS (na := 4) (n := 91) X (dg dc_P_isValidBeside 52 rfl) rfl (c_O_after l Dv fu _ v3 (P.2.1 (ix v5)) (P.2.2.1 (ix v5)) 0) gS_P_68 rfl rfl hy_O_after.2 ⟨(Nat.le_of_ble_eq_true rfl), (Nat.le_of_ble_eq_true rfl)⟩ ⟨(Nat.le_of_ble_eq_true rfl), (Nat.le_of_ble_eq_true rfl)⟩ rfl rfl rfl rfl ?_
    intro r88
    refine js_istore_n (lo' := [some (.ref 6), none, some (.int v2), some (.int r88), some (.int v4), some (.int v5)]) (n := 92) X (dg dc_P_isValidBeside 53 rfl) rfl rfl (Nat.le_of_ble_eq_true rfl) rfl ?_
    refine js_iinc (lo' := [some (.ref 6), none, some (.int v2), some (.int r88), some (.int v4), some (.int (v5 + 1))]) (n := 95) 1 X (dg dc_P_isValidBeside 54 rfl) rfl (by decide) (Nat.le_of_ble_eq_true rfl) rfl rfl ?_
    refine js_goto (t := 16) X (dg dc_P_isValidBeside 55 rfl) (by decide) ?_
    exact js_keep [true, false, true, true, true, true] (hk16 v2 r88 v4 (v5 + 1))
  refine js_iconst (n := 71) 0 X (dg dc_P_isValidBeside 40 rfl) rfl (by decide) ?_
  exact js_retZ X (dg dc_P_isValidBeside 41 rfl) rfl (Nat.le_of_ble_eq_true rfl) (Nat.le_of_ble_eq_true rfl) rfl
set_option maxRecDepth 100000 in
set_option maxHeartbeats 4000000 in
theorem jl_P_isValidBeside_6_L16 (l : Launch) (Dv : va_G) (fu : Nat) (h : S_H) (r : S_R) (out : Nat → Int64) (κ : ev_ka) (X : ev_X l Dv gaX mu_P_isValidBeside κ) (P : S_P) : ∀ (n : Nat) (v2 : Int32) (v3 : Int32) (v4 : Int32) (v5 : Int32), ev_J l Dv gaX mu_P_isValidBeside κ 16 0 0 [some (.ref 6), none, some (.int v2), some (.int v3), some (.int v4), some (.int v5)] [] (hpW (h.1, P, h.2.2) r out) (f_P_isValidBeside_L16 fu P n v2 v3 v4 v5) (fun q => (some (.int q), hpW (h.1, P, h.2.2) r out)) := by
  intro n
  induction n with
  | zero => exact fun _ _ _ _ => js_none
  | succ n ih =>
    intro v2 v3 v4 v5
    unfold f_P_isValidBeside_L16
    refine js_iload (n := 18) X (dg dc_P_isValidBeside 10 rfl) rfl rfl ?_
    refine js_iload (n := 20) X (dg dc_P_isValidBeside 11 rfl) rfl rfl ?_
    refine js_icmp_ge (t := 98) (n := 23) X (dg dc_P_isValidBeside 12 rfl) (by decide) rfl ?_ ?_
    · exact js_keep [true, false, true, true, false, false] (jl_P_isValidBeside_6_L98 l Dv fu h r out κ X P v2 v3)
    refine js_iload_n (n := 24) X (dg dc_P_isValidBeside 13 rfl) rfl rfl rfl ?_
    refine js_iconst (n := 25) (-1) X (dg dc_P_isValidBeside 14 rfl) rfl (by decide) ?_
    refine js_icmp_eq (t := 49) (n := 28) X (dg dc_P_isValidBeside 15 rfl) (by decide) rfl ?_ ?_
    · exact js_keep [true, false, true, true, true, true] (jl_P_isValidBeside_6_L49 l Dv fu h r out κ X P (f_P_isValidBeside_L16 fu P n) (fun z0 z1 z2 z3 => ih z0 z1 z2 z3) v2 v3 v4 v5)
    refine js_iload_n (n := 29) X (dg dc_P_isValidBeside 16 rfl) rfl rfl rfl ?_
    refine js_aload_n (n := 30) X (dg dc_P_isValidBeside 17 rfl) rfl rfl rfl ?_
    refine js_getf (j := 1) (v := .ref 8) (n := 33) X (dg dc_P_isValidBeside 18 rfl) rfl hC_P (Nat.le_of_ble_eq_true rfl) hw_14 rfl rfl ?_
    refine js_iload_n (n := 34) X (dg dc_P_isValidBeside 19 rfl) rfl rfl rfl ?_
    refine js_iaload (f := P.2.1) (n := 35) X (dg dc_P_isValidBeside 20 rfl) rfl rfl ?_
    refine js_aload_n (n := 36) X (dg dc_P_isValidBeside 21 rfl) rfl rfl rfl ?_
    refine js_getf (j := 2) (v := .ref 9) (n := 39) X (dg dc_P_isValidBeside 22 rfl) rfl hC_P (Nat.le_of_ble_eq_true rfl) hw_19 rfl rfl ?_
    refine js_iload_n (n := 40) X (dg dc_P_isValidBeside 23 rfl) rfl rfl rfl ?_
    refine js_iaload (f := P.2.2.1) (n := 41) X (dg dc_P_isValidBeside 24 rfl) rfl rfl ?_
    refine js_callS (na := 3) (n := 44) X (dg dc_P_isValidBeside 25 rfl) rfl (c_O_allows l Dv fu _ v3 (P.2.1 (ix v2)) (P.2.2.1 (ix v2))) gS_P_64 rfl rfl hy_O_allows.2 ⟨(Nat.le_of_ble_eq_true rfl), (Nat.le_of_ble_eq_true rfl)⟩ ⟨(Nat.le_of_ble_eq_true rfl), (Nat.le_of_ble_eq_true rfl)⟩ rfl rfl rfl rfl ?_
    intro r41
    refine js_if_ne (t := 49) (n := 47) X (dg dc_P_isValidBeside 26 rfl) (by decide) rfl ?_ ?_
    · exact js_keep [true, false, true, true, true, true] (jl_P_isValidBeside_6_L49 l Dv fu h r out κ X P (f_P_isValidBeside_L16 fu P n) (fun z0 z1 z2 z3 => ih z0 z1 z2 z3) v2 v3 v4 v5)
    refine js_iconst (n := 48) 0 X (dg dc_P_isValidBeside 27 rfl) rfl (by decide) ?_
    exact js_retZ X (dg dc_P_isValidBeside 28 rfl) rfl (Nat.le_of_ble_eq_true rfl) (Nat.le_of_ble_eq_true rfl) rfl
set_option maxRecDepth 100000 in
set_option maxHeartbeats 4000000 in
theorem c_P_isValidBeside_6 (l : Launch) (Dv : va_G) (fu : Nat) (h : S_H) (r : S_R) (out : Nat → Int64) (P : S_P) (a1 : Int32) (a2 : Int32) : ev_M l Dv gaX mu_P_isValidBeside [.ref 6, .int a1, .int a2] (hpW (h.1, P, h.2.2) r out) (f_P_isValidBeside fu P a1 a2) (fun q => (some (.int q), hpW (h.1, P, h.2.2) r out)) := by
  refine ev_met (lo0 := [some (.ref 6), some (.int a1), some (.int a2), none, none, none]) rfl rfl rfl (fun κ X => ?_)
  unfold f_P_isValidBeside
  refine js_iload_n (n := 1) X (dg dc_P_isValidBeside 0 rfl) rfl rfl rfl ?_
  refine js_istore_n (lo' := [some (.ref 6), some (.int a1), some (.int a2), some (.int a1), none, none]) (n := 2) X (dg dc_P_isValidBeside 1 rfl) rfl rfl (Nat.le_of_ble_eq_true rfl) rfl ?_
  refine js_aload_n (n := 3) X (dg dc_P_isValidBeside 2 rfl) rfl rfl rfl ?_
  refine js_iconst (n := 4) 2 X (dg dc_P_isValidBeside 3 rfl) rfl (by decide) ?_
  refine js_callV (na := 1) (ci := 1) (n := 7) X (dg dc_P_isValidBeside 4 rfl) rfl (c_P_end_6 l Dv fu (h.1, P, h.2.2) r out P 2) gV_P_28 rfl rfl hy_P_end ⟨(Nat.le_of_ble_eq_true rfl), (Nat.le_of_ble_eq_true rfl)⟩ rfl ⟨(Nat.le_of_ble_eq_true rfl), (Nat.le_of_ble_eq_true rfl)⟩ rfl rfl rfl rfl rfl ?_
  intro r4
  refine js_istore (lo' := [some (.ref 6), some (.int a1), some (.int a2), some (.int a1), some (.int r4), none]) (n := 9) X (dg dc_P_isValidBeside 5 rfl) rfl (Nat.le_of_ble_eq_true rfl) rfl ?_
  refine js_aload_n (n := 10) X (dg dc_P_isValidBeside 6 rfl) rfl rfl rfl ?_
  refine js_iconst (n := 11) 2 X (dg dc_P_isValidBeside 7 rfl) rfl (by decide) ?_
  refine js_callV (na := 1) (ci := 1) (n := 14) X (dg dc_P_isValidBeside 8 rfl) rfl (c_P_start_6 l Dv fu (h.1, P, h.2.2) r out P 2) gV_P_24 rfl rfl hy_P_start ⟨(Nat.le_of_ble_eq_true rfl), (Nat.le_of_ble_eq_true rfl)⟩ rfl ⟨(Nat.le_of_ble_eq_true rfl), (Nat.le_of_ble_eq_true rfl)⟩ rfl rfl rfl rfl rfl ?_
  intro r11
  refine js_istore (lo' := [some (.ref 6), some (.int a1), some (.int a2), some (.int a1), some (.int r4), some (.int r11)]) (n := 16) X (dg dc_P_isValidBeside 9 rfl) rfl (Nat.le_of_ble_eq_true rfl) rfl ?_
  exact js_keep [true, false, true, true, true, true] (jl_P_isValidBeside_6_L16 l Dv fu h r out κ X P fu a2 a1 r4 r11)
set_option maxRecDepth 100000 in
set_option maxHeartbeats 4000000 in
theorem jl_P_isValid_6_L117 (l : Launch) (Dv : va_G) (fu : Nat) (h : S_H) (r : S_R) (out : Nat → Int64) (κ : ev_ka) (X : ev_X l Dv gaX mu_P_isValid κ) (P : S_P) (v1 : Int32) : ev_J l Dv gaX mu_P_isValid κ 117 0 0 [some (.ref 6), some (.int v1), none, none, none] [] (hpW (h.1, P, h.2.2) r out) (f_P_isValid_L117 fu P v1) (fun q => (some (.int q), hpW (h.1, P, h.2.2) r out)) := by
  unfold f_P_isValid_L117
  refine js_aload_n (n := 118) X (dg dc_P_isValid 70 rfl) rfl rfl rfl ?_
  refine js_iload_n (n := 119) X (dg dc_P_isValid 71 rfl) rfl rfl rfl ?_
  refine js_iconst (n := 120) (-1) X (dg dc_P_isValid 72 rfl) rfl (by decide) ?_
  refine js_callV (na := 2) (ci := 1) (n := 123) X (dg dc_P_isValid 73 rfl) rfl (c_P_isValidBeside_6 l Dv fu (h.1, P, h.2.2) r out P v1 (-1)) gV_P_72 rfl rfl hy_P_isValidBeside ⟨(Nat.le_of_ble_eq_true rfl), (Nat.le_of_ble_eq_true rfl)⟩ rfl ⟨(Nat.le_of_ble_eq_true rfl), (Nat.le_of_ble_eq_true rfl)⟩ rfl rfl rfl rfl rfl ?_
  intro r120
  exact js_retZ X (dg dc_P_isValid 74 rfl) rfl (Nat.le_of_ble_eq_true rfl) (Nat.le_of_ble_eq_true rfl) rfl
set_option maxRecDepth 100000 in
set_option maxHeartbeats 4000000 in
theorem jl_P_isValid_6_L73 (l : Launch) (Dv : va_G) (fu : Nat) (h : S_H) (r : S_R) (out : Nat → Int64) (κ : ev_ka) (X : ev_X l Dv gaX mu_P_isValid κ) (P : S_P) : ∀ (n : Nat) (v1 : Int32) (v3 : Int32) (v4 : Int32), ev_J l Dv gaX mu_P_isValid κ 73 0 0 [some (.ref 6), some (.int v1), none, some (.int v3), some (.int v4)] [] (hpW (h.1, P, h.2.2) r out) (f_P_isValid_L73 fu P n v1 v3 v4) (fun q => (some (.int q), hpW (h.1, P, h.2.2) r out)) := by
  intro n
  induction n with
  | zero => exact fun _ _ _ => js_none
  | succ n ih =>
    intro v1 v3 v4
    unfold f_P_isValid_L73
    refine js_iload (n := 75) X (dg dc_P_isValid 46 rfl) rfl rfl ?_
    refine js_iload_n (n := 76) X (dg dc_P_isValid 47 rfl) rfl rfl rfl ?_
    refine js_icmp_ge (t := 117) (n := 79) X (dg dc_P_isValid 48 rfl) (by decide) rfl ?_ ?_
    · exact js_keep [true, true, false, false, false] (jl_P_isValid_6_L117 l Dv fu h r out κ X P v1)
    refine js_aload_n (n := 80) X (dg dc_P_isValid 49 rfl) rfl rfl rfl ?_
    refine js_iload_n (n := 81) X (dg dc_P_isValid 50 rfl) rfl rfl rfl ?_
    refine js_iload (n := 83) X (dg dc_P_isValid 51 rfl) rfl rfl ?_
    refine js_callV (na := 2) (ci := 1) (n := 86) X (dg dc_P_isValid 52 rfl) rfl (c_P_isValidBeside_6 l Dv fu (h.1, P, h.2.2) r out P v1 v4) gV_P_72 rfl rfl hy_P_isValidBeside ⟨(Nat.le_of_ble_eq_true rfl), (Nat.le_of_ble_eq_true rfl)⟩ rfl ⟨(Nat.le_of_ble_eq_true rfl), (Nat.le_of_ble_eq_true rfl)⟩ rfl rfl rfl rfl rfl ?_
    intro r83
    refine js_if_ne (t := 91) (n := 89) X (dg dc_P_isValid 53 rfl) (by decide) rfl ?_ ?_
    · refine js_iload_n (n := 92) X (dg dc_P_isValid 56 rfl) rfl rfl rfl ?_
      refine js_aload_n (n := 93) X (dg dc_P_isValid 57 rfl) rfl rfl rfl ?_
      refine js_getf (j := 1) (v := .ref 8) (n := 96) X (dg dc_P_isValid 58 rfl) rfl hC_P (Nat.le_of_ble_eq_true rfl) hw_14 rfl rfl ?_
      refine js_iload (n := 98) X (dg dc_P_isValid 59 rfl) rfl rfl ?_
      refine js_iaload (f := P.2.1) (n := 99) X (dg dc_P_isValid 60 rfl) rfl rfl ?_
      refine js_aload_n (n := 100) X (dg dc_P_isValid 61 rfl) rfl rfl rfl ?_
      refine js_getf (j := 2) (v := .ref 9) (n := 103) X (dg dc_P_isValid 62 rfl) rfl hC_P (Nat.le_of_ble_eq_true rfl) hw_19 rfl rfl ?_
      refine js_iload (n := 105) X (dg dc_P_isValid 63 rfl) rfl rfl ?_
      refine js_iaload (f := P.2.2.1) (n := 106) X (dg dc_P_isValid 64 rfl) rfl rfl ?_
      refine js_iconst (n := 107) 0 X (dg dc_P_isValid 65 rfl) rfl (by decide) ?_
      refine js_callS (na := 4) (n := 110) X (dg dc_P_isValid 66 rfl) rfl (c_O_after l Dv fu _ v1 (P.2.1 (ix v4)) (P.2.2.1 (ix v4)) 0) gS_P_68 rfl rfl hy_O_after.2 ⟨(Nat.le_of_ble_eq_true rfl), (Nat.le_of_ble_eq_true rfl)⟩ ⟨(Nat.le_of_ble_eq_true rfl), (Nat.le_of_ble_eq_true rfl)⟩ rfl rfl rfl rfl ?_
      intro r107
      refine js_istore_n (lo' := [some (.ref 6), some (.int r107), none, some (.int v3), some (.int v4)]) (n := 111) X (dg dc_P_isValid 67 rfl) rfl rfl (Nat.le_of_ble_eq_true rfl) rfl ?_
      refine js_iinc (lo' := [some (.ref 6), some (.int r107), none, some (.int v3), some (.int (v4 + 1))]) (n := 114) 1 X (dg dc_P_isValid 68 rfl) rfl (by decide) (Nat.le_of_ble_eq_true rfl) rfl rfl ?_
      refine js_goto (t := 73) X (dg dc_P_isValid 69 rfl) (by decide) ?_
      exact js_keep [true, true, false, true, true] (ih r107 v3 (v4 + 1))
    refine js_iconst (n := 90) 0 X (dg dc_P_isValid 54 rfl) rfl (by decide) ?_
    exact js_retZ X (dg dc_P_isValid 55 rfl) rfl (Nat.le_of_ble_eq_true rfl) (Nat.le_of_ble_eq_true rfl) rfl
set_option maxRecDepth 100000 in
set_option maxHeartbeats 4000000 in
theorem jl_P_isValid_6_L60 (l : Launch) (Dv : va_G) (fu : Nat) (h : S_H) (r : S_R) (out : Nat → Int64) (κ : ev_ka) (X : ev_X l Dv gaX mu_P_isValid κ) (P : S_P) (v1 : Int32) : ev_J l Dv gaX mu_P_isValid κ 60 0 0 [some (.ref 6), some (.int v1), none, none, none] [] (hpW (h.1, P, h.2.2) r out) (f_P_isValid_L60 fu P v1) (fun q => (some (.int q), hpW (h.1, P, h.2.2) r out)) := by
  unfold f_P_isValid_L60
  refine js_aload_n (n := 61) X (dg dc_P_isValid 38 rfl) rfl rfl rfl ?_
  refine js_iconst (n := 62) 1 X (dg dc_P_isValid 39 rfl) rfl (by decide) ?_
  refine js_callV (na := 1) (ci := 1) (n := 65) X (dg dc_P_isValid 40 rfl) rfl (c_P_end_6 l Dv fu (h.1, P, h.2.2) r out P 1) gV_P_28 rfl rfl hy_P_end ⟨(Nat.le_of_ble_eq_true rfl), (Nat.le_of_ble_eq_true rfl)⟩ rfl ⟨(Nat.le_of_ble_eq_true rfl), (Nat.le_of_ble_eq_true rfl)⟩ rfl rfl rfl rfl rfl ?_
  intro r62
  refine js_istore_n (lo' := [some (.ref 6), some (.int v1), none, some (.int r62), none]) (n := 66) X (dg dc_P_isValid 41 rfl) rfl rfl (Nat.le_of_ble_eq_true rfl) rfl ?_
  refine js_aload_n (n := 67) X (dg dc_P_isValid 42 rfl) rfl rfl rfl ?_
  refine js_iconst (n := 68) 1 X (dg dc_P_isValid 43 rfl) rfl (by decide) ?_
  refine js_callV (na := 1) (ci := 1) (n := 71) X (dg dc_P_isValid 44 rfl) rfl (c_P_start_6 l Dv fu (h.1, P, h.2.2) r out P 1) gV_P_24 rfl rfl hy_P_start ⟨(Nat.le_of_ble_eq_true rfl), (Nat.le_of_ble_eq_true rfl)⟩ rfl ⟨(Nat.le_of_ble_eq_true rfl), (Nat.le_of_ble_eq_true rfl)⟩ rfl rfl rfl rfl rfl ?_
  intro r68
  refine js_istore (lo' := [some (.ref 6), some (.int v1), none, some (.int r62), some (.int r68)]) (n := 73) X (dg dc_P_isValid 45 rfl) rfl (Nat.le_of_ble_eq_true rfl) rfl ?_
  exact js_keep [true, true, false, true, true] (jl_P_isValid_6_L73 l Dv fu h r out κ X P fu v1 r62 r68)
set_option maxRecDepth 100000 in
set_option maxHeartbeats 4000000 in
theorem jl_P_isValid_6_L10 (l : Launch) (Dv : va_G) (fu : Nat) (h : S_H) (r : S_R) (out : Nat → Int64) (κ : ev_ka) (X : ev_X l Dv gaX mu_P_isValid κ) (P : S_P) : ∀ (n : Nat) (v1 : Int32) (v2 : Int32) (v3 : Int32), ev_J l Dv gaX mu_P_isValid κ 10 0 0 [some (.ref 6), some (.int v1), some (.int v2), some (.int v3), none] [] (hpW (h.1, P, h.2.2) r out) (f_P_isValid_L10 fu P n v1 v2 v3) (fun q => (some (.int q), hpW (h.1, P, h.2.2) r out)) := by
  intro n
  induction n with
  | zero => exact fun _ _ _ => js_none
  | succ n ih =>
    intro v1 v2 v3
    unfold f_P_isValid_L10
    refine js_iload_n (n := 11) X (dg dc_P_isValid 8 rfl) rfl rfl rfl ?_
    refine js_iload_n (n := 12) X (dg dc_P_isValid 9 rfl) rfl rfl rfl ?_
    refine js_icmp_ge (t := 60) (n := 15) X (dg dc_P_isValid 10 rfl) (by decide) rfl ?_ ?_
    · exact js_keep [true, true, false, false, false] (jl_P_isValid_6_L60 l Dv fu h r out κ X P v1)
    refine js_iload_n (n := 16) X (dg dc_P_isValid 11 rfl) rfl rfl rfl ?_
    refine js_aload_n (n := 17) X (dg dc_P_isValid 12 rfl) rfl rfl rfl ?_
    refine js_getf (j := 1) (v := .ref 8) (n := 20) X (dg dc_P_isValid 13 rfl) rfl hC_P (Nat.le_of_ble_eq_true rfl) hw_14 rfl rfl ?_
    refine js_iload_n (n := 21) X (dg dc_P_isValid 14 rfl) rfl rfl rfl ?_
    refine js_iaload (f := P.2.1) (n := 22) X (dg dc_P_isValid 15 rfl) rfl rfl ?_
    refine js_aload_n (n := 23) X (dg dc_P_isValid 16 rfl) rfl rfl rfl ?_
    refine js_getf (j := 2) (v := .ref 9) (n := 26) X (dg dc_P_isValid 17 rfl) rfl hC_P (Nat.le_of_ble_eq_true rfl) hw_19 rfl rfl ?_
    refine js_iload_n (n := 27) X (dg dc_P_isValid 18 rfl) rfl rfl rfl ?_
    refine js_iaload (f := P.2.2.1) (n := 28) X (dg dc_P_isValid 19 rfl) rfl rfl ?_
    refine js_callS (na := 3) (n := 31) X (dg dc_P_isValid 20 rfl) rfl (c_O_allows l Dv fu _ v1 (P.2.1 (ix v3)) (P.2.2.1 (ix v3))) gS_P_64 rfl rfl hy_O_allows.2 ⟨(Nat.le_of_ble_eq_true rfl), (Nat.le_of_ble_eq_true rfl)⟩ ⟨(Nat.le_of_ble_eq_true rfl), (Nat.le_of_ble_eq_true rfl)⟩ rfl rfl rfl rfl ?_
    intro r28
    refine js_if_ne (t := 36) (n := 34) X (dg dc_P_isValid 21 rfl) (by decide) rfl ?_ ?_
    · refine js_iload_n (n := 37) X (dg dc_P_isValid 24 rfl) rfl rfl rfl ?_
      refine js_aload_n (n := 38) X (dg dc_P_isValid 25 rfl) rfl rfl rfl ?_
      refine js_getf (j := 1) (v := .ref 8) (n := 41) X (dg dc_P_isValid 26 rfl) rfl hC_P (Nat.le_of_ble_eq_true rfl) hw_14 rfl rfl ?_
      refine js_iload_n (n := 42) X (dg dc_P_isValid 27 rfl) rfl rfl rfl ?_
      refine js_iaload (f := P.2.1) (n := 43) X (dg dc_P_isValid 28 rfl) rfl rfl ?_
      refine js_aload_n (n := 44) X (dg dc_P_isValid 29 rfl) rfl rfl rfl ?_
      refine js_getf (j := 2) (v := .ref 9) (n := 47) X (dg dc_P_isValid 30 rfl) rfl hC_P (Nat.le_of_ble_eq_true rfl) hw_19 rfl rfl ?_
      refine js_iload_n (n := 48) X (dg dc_P_isValid 31 rfl) rfl rfl rfl ?_
      refine js_iaload (f := P.2.2.1) (n := 49) X (dg dc_P_isValid 32 rfl) rfl rfl ?_
      refine js_iconst (n := 50) 0 X (dg dc_P_isValid 33 rfl) rfl (by decide) ?_
      refine js_callS (na := 4) (n := 53) X (dg dc_P_isValid 34 rfl) rfl (c_O_after l Dv fu _ v1 (P.2.1 (ix v3)) (P.2.2.1 (ix v3)) 0) gS_P_68 rfl rfl hy_O_after.2 ⟨(Nat.le_of_ble_eq_true rfl), (Nat.le_of_ble_eq_true rfl)⟩ ⟨(Nat.le_of_ble_eq_true rfl), (Nat.le_of_ble_eq_true rfl)⟩ rfl rfl rfl rfl ?_
      intro r50
      refine js_istore_n (lo' := [some (.ref 6), some (.int r50), some (.int v2), some (.int v3), none]) (n := 54) X (dg dc_P_isValid 35 rfl) rfl rfl (Nat.le_of_ble_eq_true rfl) rfl ?_
      refine js_iinc (lo' := [some (.ref 6), some (.int r50), some (.int v2), some (.int (v3 + 1)), none]) (n := 57) 1 X (dg dc_P_isValid 36 rfl) rfl (by decide) (Nat.le_of_ble_eq_true rfl) rfl rfl ?_
      refine js_goto (t := 10) X (dg dc_P_isValid 37 rfl) (by decide) ?_
      exact js_keep [true, true, true, true, false] (ih r50 v2 (v3 + 1))
    refine js_iconst (n := 35) 0 X (dg dc_P_isValid 22 rfl) rfl (by decide) ?_
    exact js_retZ X (dg dc_P_isValid 23 rfl) rfl (Nat.le_of_ble_eq_true rfl) (Nat.le_of_ble_eq_true rfl) rfl
set_option maxRecDepth 100000 in
set_option maxHeartbeats 4000000 in
theorem c_P_isValid_6 (l : Launch) (Dv : va_G) (fu : Nat) (h : S_H) (r : S_R) (out : Nat → Int64) (P : S_P) : ev_M l Dv gaX mu_P_isValid [.ref 6] (hpW (h.1, P, h.2.2) r out) (f_P_isValid fu P) (fun q => (some (.int q), hpW (h.1, P, h.2.2) r out)) := by
  refine ev_met (lo0 := [some (.ref 6), none, none, none, none]) rfl rfl rfl (fun κ X => ?_)
  unfold f_P_isValid
  refine js_iconst (n := 1) 0 X (dg dc_P_isValid 0 rfl) rfl (by decide) ?_
  refine js_istore_n (lo' := [some (.ref 6), some (.int 0), none, none, none]) (n := 2) X (dg dc_P_isValid 1 rfl) rfl rfl (Nat.le_of_ble_eq_true rfl) rfl ?_
  refine js_aload_n (n := 3) X (dg dc_P_isValid 2 rfl) rfl rfl rfl ?_
  refine js_iconst (n := 4) 0 X (dg dc_P_isValid 3 rfl) rfl (by decide) ?_
  refine js_callV (na := 1) (ci := 1) (n := 7) X (dg dc_P_isValid 4 rfl) rfl (c_P_end_6 l Dv fu (h.1, P, h.2.2) r out P 0) gV_P_28 rfl rfl hy_P_end ⟨(Nat.le_of_ble_eq_true rfl), (Nat.le_of_ble_eq_true rfl)⟩ rfl ⟨(Nat.le_of_ble_eq_true rfl), (Nat.le_of_ble_eq_true rfl)⟩ rfl rfl rfl rfl rfl ?_
  intro r4
  refine js_istore_n (lo' := [some (.ref 6), some (.int 0), some (.int r4), none, none]) (n := 8) X (dg dc_P_isValid 5 rfl) rfl rfl (Nat.le_of_ble_eq_true rfl) rfl ?_
  refine js_iconst (n := 9) 0 X (dg dc_P_isValid 6 rfl) rfl (by decide) ?_
  refine js_istore_n (lo' := [some (.ref 6), some (.int 0), some (.int r4), some (.int 0), none]) (n := 10) X (dg dc_P_isValid 7 rfl) rfl rfl (Nat.le_of_ble_eq_true rfl) rfl ?_
  exact js_keep [true, true, true, true, false] (jl_P_isValid_6_L10 l Dv fu h r out κ X P fu 0 r4 0)
