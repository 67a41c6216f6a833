set_option maxRecDepth 100000 in
set_option maxHeartbeats 4000000 in
theorem jl_P_copyFrom_1_6_L25 (l : Launch) (Dv : va_G) (fu : Nat) (h : S_H) (r : S_R) (out : Nat → Int64) (κ : ev_ka) (X : ev_X l Dv gaX mu_P_copyFrom κ) (P1 : S_P) (P : S_P) : ev_J l Dv gaX mu_P_copyFrom κ 25 0 0 [some (.ref 1), some (.ref 6), none] [] (hpW (P, P1, h.2.2) r out) (f_P_copyFrom_L25 fu P1 P) (fun q => (none, hpW (q, P1, h.2.2) r out)) := by
  unfold f_P_copyFrom_L25
  refine js_aload_n (n := 26) X (dg dc_P_copyFrom 15 rfl) rfl rfl rfl ?_
  refine js_callV (na := 0) (ci := 1) (n := 29) X (dg dc_P_copyFrom 16 rfl) rfl (c_P_size_1 l Dv fu (P, P1, h.2.2) r out P) gV_P_31 rfl rfl hy_P_size ⟨(Nat.le_of_ble_eq_true rfl), (Nat.le_of_ble_eq_true rfl)⟩ rfl ⟨(Nat.le_of_ble_eq_true rfl), (Nat.le_of_ble_eq_true rfl)⟩ rfl rfl rfl rfl rfl ?_
  intro r26
  refine js_istore_n (lo' := [some (.ref 1), some (.ref 6), some (.int r26)]) (n := 30) X (dg dc_P_copyFrom 17 rfl) rfl rfl (Nat.le_of_ble_eq_true rfl) rfl ?_
  refine js_aload_n (n := 31) X (dg dc_P_copyFrom 18 rfl) rfl rfl rfl ?_
  refine js_getf (j := 1) (v := .ref 8) (n := 34) X (dg dc_P_copyFrom 19 rfl) rfl hC_P (Nat.le_of_ble_eq_true rfl) hw_14 rfl rfl ?_
  refine js_iconst (n := 35) 0 X (dg dc_P_copyFrom 20 rfl) rfl (by decide) ?_
  refine js_aload_n (n := 36) X (dg dc_P_copyFrom 21 rfl) rfl rfl rfl ?_
  refine js_getf (j := 1) (v := .ref 3) (n := 39) X (dg dc_P_copyFrom 22 rfl) rfl hC_P (Nat.le_of_ble_eq_true rfl) hw_14 rfl rfl ?_
  refine js_iconst (n := 40) 0 X (dg dc_P_copyFrom 23 rfl) rfl (by decide) ?_
  refine js_iload_n (n := 41) X (dg dc_P_copyFrom 24 rfl) rfl rfl rfl ?_
  refine js_copy (f := P1.2.1) (g := P.2.1) (n := 44) X (dg dc_P_copyFrom 25 rfl) rfl hw_15 hw_16 hw_17 hw_18 (Nat.le_of_ble_eq_true rfl) (by decide) rfl rfl ?_
  refine js_aload_n (n := 45) X (dg dc_P_copyFrom 26 rfl) rfl rfl rfl ?_
  refine js_getf (j := 2) (v := .ref 9) (n := 48) X (dg dc_P_copyFrom 27 rfl) rfl hC_P (Nat.le_of_ble_eq_true rfl) hw_19 rfl rfl ?_
  refine js_iconst (n := 49) 0 X (dg dc_P_copyFrom 28 rfl) rfl (by decide) ?_
  refine js_aload_n (n := 50) X (dg dc_P_copyFrom 29 rfl) rfl rfl rfl ?_
  refine js_getf (j := 2) (v := .ref 4) (n := 53) X (dg dc_P_copyFrom 30 rfl) rfl hC_P (Nat.le_of_ble_eq_true rfl) hw_19 rfl rfl ?_
  refine js_iconst (n := 54) 0 X (dg dc_P_copyFrom 31 rfl) rfl (by decide) ?_
  refine js_iload_n (n := 55) X (dg dc_P_copyFrom 32 rfl) rfl rfl rfl ?_
  refine js_copy (f := P1.2.2.1) (g := P.2.2.1) (n := 58) X (dg dc_P_copyFrom 33 rfl) rfl hw_15 hw_16 hw_17 hw_18 (Nat.le_of_ble_eq_true rfl) (by decide) rfl rfl ?_
  refine js_aload_n (n := 59) X (dg dc_P_copyFrom 34 rfl) rfl rfl rfl ?_
  refine js_getf (j := 3) (v := .ref 10) (n := 62) X (dg dc_P_copyFrom 35 rfl) rfl hC_P (Nat.le_of_ble_eq_true rfl) hw_20 rfl rfl ?_
  refine js_iconst (n := 63) 0 X (dg dc_P_copyFrom 36 rfl) rfl (by decide) ?_
  refine js_aload_n (n := 64) X (dg dc_P_copyFrom 37 rfl) rfl rfl rfl ?_
  refine js_getf (j := 3) (v := .ref 5) (n := 67) X (dg dc_P_copyFrom 38 rfl) rfl hC_P (Nat.le_of_ble_eq_true rfl) hw_20 rfl rfl ?_
  refine js_iconst (n := 68) 0 X (dg dc_P_copyFrom 39 rfl) rfl (by decide) ?_
  refine js_iload_n (n := 69) X (dg dc_P_copyFrom 40 rfl) rfl rfl rfl ?_
  refine js_copy (f := P1.2.2.2) (g := P.2.2.2) (n := 72) X (dg dc_P_copyFrom 41 rfl) rfl hw_15 hw_16 hw_17 hw_18 (Nat.le_of_ble_eq_true rfl) (by decide) rfl rfl ?_
  exact js_retV X (dg dc_P_copyFrom 42 rfl) rfl (Nat.le_of_ble_eq_true rfl) (Nat.le_of_ble_eq_true rfl) rfl
set_option maxRecDepth 100000 in
set_option maxHeartbeats 4000000 in
theorem jl_P_copyFrom_1_6_L2 (l : Launch) (Dv : va_G) (fu : Nat) (h : S_H) (r : S_R) (out : Nat → Int64) (κ : ev_ka) (X : ev_X l Dv gaX mu_P_copyFrom κ) (P1 : S_P) : ∀ (n : Nat) (P : S_P) (v2 : Int32), ev_J l Dv gaX mu_P_copyFrom κ 2 0 0 [some (.ref 1), some (.ref 6), some (.int v2)] [] (hpW (P, P1, h.2.2) r out) (f_P_copyFrom_L2 fu P1 n P v2) (fun q => (none, hpW (q, P1, h.2.2) r out)) := by
  intro n
  induction n with
  | zero => exact fun _ _ => js_none
  | succ n ih =>
    intro P v2
    unfold f_P_copyFrom_L2
    refine js_iload_n (n := 3) X (dg dc_P_copyFrom 2 rfl) rfl rfl rfl ?_
    refine js_iconst (n := 4) 3 X (dg dc_P_copyFrom 3 rfl) rfl (by decide) ?_
    refine js_icmp_ge (t := 25) (n := 7) X (dg dc_P_copyFrom 4 rfl) (by decide) rfl ?_ ?_
    · exact js_keep [true, true, false] (jl_P_copyFrom_1_6_L25 l Dv fu h r out κ X P1 P)
    refine js_aload_n (n := 8) X (dg dc_P_copyFrom 5 rfl) rfl rfl rfl ?_
    refine js_getf (j := 0) (v := .ref 2) (n := 11) X (dg dc_P_copyFrom 6 rfl) rfl hC_P (Nat.le_of_ble_eq_true rfl) hw_1 rfl rfl ?_
    refine js_iload_n (n := 12) X (dg dc_P_copyFrom 7 rfl) rfl rfl rfl ?_
    refine js_aload_n (n := 13) X (dg dc_P_copyFrom 8 rfl) rfl rfl rfl ?_
    refine js_getf (j := 0) (v := .ref 7) (n := 16) X (dg dc_P_copyFrom 9 rfl) rfl hC_P (Nat.le_of_ble_eq_true rfl) hw_1 rfl rfl ?_
    refine js_iload_n (n := 17) X (dg dc_P_copyFrom 10 rfl) rfl rfl rfl ?_
    refine js_iaload (f := P1.1) (n := 18) X (dg dc_P_copyFrom 11 rfl) rfl rfl ?_
    refine js_iastore (f := P.1) (n := 19) X (dg dc_P_copyFrom 12 rfl) rfl rfl ?_
    refine js_iinc (lo' := [some (.ref 1), some (.ref 6), some (.int (v2 + 1))]) (n := 22) 1 X (dg dc_P_copyFrom 13 rfl) rfl (by decide) (Nat.le_of_ble_eq_true rfl) rfl rfl ?_
    refine js_goto (t := 2) X (dg dc_P_copyFrom 14 rfl) (by decide) ?_
    exact js_keep [true, true, true] (ih ((upd P.1 (ix v2) (P1.1 (ix v2))), P.2) (v2 + 1))
set_option maxRecDepth 100000 in
set_option maxHeartbeats 4000000 in
theorem c_P_copyFrom_1_6 (l : Launch) (Dv : va_G) (fu : Nat) (h : S_H) (r : S_R) (out : Nat → Int64) (P : S_P) (P1 : S_P) : ev_M l Dv gaX mu_P_copyFrom [.ref 1, .ref 6] (hpW (P, P1, h.2.2) r out) (f_P_copyFrom fu P P1) (fun q => (none, hpW (q, P1, h.2.2) r out)) := by
  refine ev_met (lo0 := [some (.ref 1), some (.ref 6), none]) rfl rfl rfl (fun κ X => ?_)
  unfold f_P_copyFrom
  refine js_iconst (n := 1) 0 X (dg dc_P_copyFrom 0 rfl) rfl (by decide) ?_
  refine js_istore_n (lo' := [some (.ref 1), some (.ref 6), some (.int 0)]) (n := 2) X (dg dc_P_copyFrom 1 rfl) rfl rfl (Nat.le_of_ble_eq_true rfl) rfl ?_
  exact js_keep [true, true, true] (jl_P_copyFrom_1_6_L2 l Dv fu h r out κ X P1 fu P 0)
set_option maxRecDepth 100000 in
set_option maxHeartbeats 4000000 in
theorem c_H_appendIfValid_0 (l : Launch) (Dv : va_G) (fu : Nat) (r : S_R) (out : Nat → Int64) (H : S_H) (a1 : Int32) (a2 : Int32) (a3 : Int32) (a4 : Int32) : ev_M l Dv gaX mu_H_appendIfValid [.ref 0, .int a1, .int a2, .int a3, .int a4] (hpW H r out) (f_H_appendIfValid fu H a1 a2 a3 a4) (fun q => (some (.int q.1), hpW q.2 r out)) := by
  refine ev_met (lo0 := [some (.ref 0), some (.int a1), some (.int a2), some (.int a3), some (.int a4)]) rfl rfl rfl (fun κ X => ?_)
  unfold f_H_appendIfValid
  refine js_aload_n (n := 1) X (dg dc_H_appendIfValid 0 rfl) rfl rfl rfl ?_
  refine js_getf (j := 1) (v := .ref 6) (n := 4) X (dg dc_H_appendIfValid 1 rfl) rfl hC_H (Nat.le_of_ble_eq_true rfl) hw_12 rfl rfl ?_
  refine js_aload_n (n := 5) X (dg dc_H_appendIfValid 2 rfl) rfl rfl rfl ?_
  refine js_getf (j := 0) (v := .ref 1) (n := 8) X (dg dc_H_appendIfValid 3 rfl) rfl hC_H (Nat.le_of_ble_eq_true rfl) hw_0 rfl rfl ?_
  refine js_callV (na := 1) (ci := 1) (n := 11) X (dg dc_H_appendIfValid 4 rfl) rfl (c_P_copyFrom_6_1 l Dv fu H r out H.2.1 H.1) gV_H_125 rfl rfl hy_P_copyFrom ⟨(Nat.le_of_ble_eq_true rfl), (Nat.le_of_ble_eq_true rfl)⟩ rfl ⟨(Nat.le_of_ble_eq_true rfl), (Nat.le_of_ble_eq_true rfl)⟩ rfl rfl rfl rfl rfl ?_
  intro P_8
  refine js_aload_n (n := 12) X (dg dc_H_appendIfValid 5 rfl) rfl rfl rfl ?_
  refine js_getf (j := 1) (v := .ref 6) (n := 15) X (dg dc_H_appendIfValid 6 rfl) rfl hC_H (Nat.le_of_ble_eq_true rfl) hw_12 rfl rfl ?_
  refine js_iload_n (n := 16) X (dg dc_H_appendIfValid 7 rfl) rfl rfl rfl ?_
  refine js_iload_n (n := 17) X (dg dc_H_appendIfValid 8 rfl) rfl rfl rfl ?_
  refine js_iload_n (n := 18) X (dg dc_H_appendIfValid 9 rfl) rfl rfl rfl ?_
  refine js_iload (n := 20) X (dg dc_H_appendIfValid 10 rfl) rfl rfl ?_
  refine js_callV (na := 4) (ci := 1) (n := 23) X (dg dc_H_appendIfValid 11 rfl) rfl (c_P_append_6 l Dv fu (H.1, P_8, H.2.2) r out P_8 a1 a2 a3 a4) gV_H_212 rfl rfl hy_P_append ⟨(Nat.le_of_ble_eq_true rfl), (Nat.le_of_ble_eq_true rfl)⟩ rfl ⟨(Nat.le_of_ble_eq_true rfl), (Nat.le_of_ble_eq_true rfl)⟩ rfl rfl rfl rfl rfl ?_
  intro P_20
  refine js_aload_n (n := 24) X (dg dc_H_appendIfValid 12 rfl) rfl rfl rfl ?_
  refine js_getf (j := 1) (v := .ref 6) (n := 27) X (dg dc_H_appendIfValid 13 rfl) rfl hC_H (Nat.le_of_ble_eq_true rfl) hw_12 rfl rfl ?_
  refine js_callV (na := 0) (ci := 1) (n := 30) X (dg dc_H_appendIfValid 14 rfl) rfl (c_P_isValid_6 l Dv fu (H.1, P_20, H.2.2) r out P_20) gV_H_121 rfl rfl hy_P_isValid ⟨(Nat.le_of_ble_eq_true rfl), (Nat.le_of_ble_eq_true rfl)⟩ rfl ⟨(Nat.le_of_ble_eq_true rfl), (Nat.le_of_ble_eq_true rfl)⟩ rfl rfl rfl rfl rfl ?_
  intro r27
  refine js_if_ne (t := 35) (n := 33) X (dg dc_H_appendIfValid 15 rfl) (by decide) rfl ?_ ?_
  · refine js_aload_n (n := 36) X (dg dc_H_appendIfValid 18 rfl) rfl rfl rfl ?_
    refine js_getf (j := 0) (v := .ref 1) (n := 39) X (dg dc_H_appendIfValid 19 rfl) rfl hC_H (Nat.le_of_ble_eq_true rfl) hw_0 rfl rfl ?_
    refine js_aload_n (n := 40) X (dg dc_H_appendIfValid 20 rfl) rfl rfl rfl ?_
    refine js_getf (j := 1) (v := .ref 6) (n := 43) X (dg dc_H_appendIfValid 21 rfl) rfl hC_H (Nat.le_of_ble_eq_true rfl) hw_12 rfl rfl ?_
    refine js_callV (na := 1) (ci := 1) (n := 46) X (dg dc_H_appendIfValid 22 rfl) rfl (c_P_copyFrom_1_6 l Dv fu (H.1, P_20, H.2.2) r out H.1 P_20) gV_H_125 rfl rfl hy_P_copyFrom ⟨(Nat.le_of_ble_eq_true rfl), (Nat.le_of_ble_eq_true rfl)⟩ rfl ⟨(Nat.le_of_ble_eq_true rfl), (Nat.le_of_ble_eq_true rfl)⟩ rfl rfl rfl rfl rfl ?_
    intro P_43
    refine js_iconst (n := 47) 1 X (dg dc_H_appendIfValid 23 rfl) rfl (by decide) ?_
    exact js_retZ X (dg dc_H_appendIfValid 24 rfl) rfl (Nat.le_of_ble_eq_true rfl) (Nat.le_of_ble_eq_true rfl) rfl
  refine js_iconst (n := 34) 0 X (dg dc_H_appendIfValid 16 rfl) rfl (by decide) ?_
  exact js_retZ X (dg dc_H_appendIfValid 17 rfl) rfl (Nat.le_of_ble_eq_true rfl) (Nat.le_of_ble_eq_true rfl) rfl
set_option maxRecDepth 100000 in
set_option maxHeartbeats 4000000 in
theorem cg_D_below_24 (l : Launch) (Dv : va_G) (fu : Nat) (h : S_H) (r : S_R) (out : Nat → Int64) (D : S_D) (a1 : Int32) (m_hw_78 : Int64) (m_hw_79 : Int64) (km_hw_78 : (Jvm.Cond.constantLong "HistoryJudge$Draws" (13 : Nat) m_hw_78) ∈ lg) (km_hw_79 : (Jvm.Cond.constantLong "HistoryJudge$Draws" (15 : Nat) m_hw_79) ∈ lg) : ev_M l Dv gaX mu_D_below [.ref 24, .int a1] (hpW (h.1, h.2.1, h.2.2.1, D, h.2.2.2.2) r out) (
  if a1 ≤ 0 then
    some (0, (D * m_hw_78) + m_hw_79)
  else
    ck (nz a1) <|
    some ((((((D * m_hw_78) + m_hw_79).toUInt64 >>> ((33 : Int32).toInt64.toUInt64 &&& Int64.toUInt64 63)).toInt64).toInt32) - (((((D * m_hw_78) + m_hw_79).toUInt64 >>> ((33 : Int32).toInt64.toUInt64 &&& Int64.toUInt64 63)).toInt64).toInt32) / a1 * a1, (D * m_hw_78) + m_hw_79)) (fun q => (some (.int q.1), hpW (h.1, h.2.1, h.2.2.1, q.2, h.2.2.2.2) r out)) := by
  refine ev_met (lo0 := [some (.ref 24), some (.int a1), none]) rfl rfl rfl (fun κ X => ?_)
  refine js_aload_n (n := 1) X (dg dc_D_below 0 rfl) rfl rfl rfl ?_
  refine js_aload_n (n := 2) X (dg dc_D_below 1 rfl) rfl rfl rfl ?_
  refine js_getf (j := 0) (v := .long D) (n := 5) X (dg dc_D_below 2 rfl) rfl hC_D (Nat.le_of_ble_eq_true rfl) hw_77 rfl rfl ?_
  refine js_ldc2 (n := 8) (v := m_hw_78) X (dg dc_D_below 3 rfl) rfl km_hw_78 ?_
  refine js_lmul (n := 9) X (dg dc_D_below 4 rfl) rfl ?_
  refine js_ldc2 (n := 12) (v := m_hw_79) X (dg dc_D_below 5 rfl) rfl km_hw_79 ?_
  refine js_ladd (n := 13) X (dg dc_D_below 6 rfl) rfl ?_
  refine js_putj (j := 0) (n := 16) X (dg dc_D_below 7 rfl) rfl hC_D (Nat.le_of_ble_eq_true rfl) hw_77 rfl rfl (Or.inl rfl) (Nat.le_of_ble_eq_true rfl) ?_
  refine js_aload_n (n := 17) X (dg dc_D_below 8 rfl) rfl rfl rfl ?_
  refine js_getf (j := 0) (v := .long ((D * m_hw_78) + m_hw_79)) (n := 20) X (dg dc_D_below 9 rfl) rfl hC_D (Nat.le_of_ble_eq_true rfl) hw_77 rfl rfl ?_
  refine js_bipush (n := 22) 33 X (dg dc_D_below 10 rfl) rfl (by decide) ?_
  refine js_lushr (n := 23) X (dg dc_D_below 11 rfl) rfl ?_
  refine js_l2i (n := 24) X (dg dc_D_below 12 rfl) rfl ?_
  refine js_istore_n (lo' := [some (.ref 24), some (.int a1), some (.int (((((D * m_hw_78) + m_hw_79).toUInt64 >>> ((33 : Int32).toInt64.toUInt64 &&& Int64.toUInt64 63)).toInt64).toInt32))]) (n := 25) X (dg dc_D_below 13 rfl) rfl rfl (Nat.le_of_ble_eq_true rfl) rfl ?_
  refine js_iload_n (n := 26) X (dg dc_D_below 14 rfl) rfl rfl rfl ?_
  refine js_if_le (t := 35) (n := 29) X (dg dc_D_below 15 rfl) (by decide) rfl ?_ ?_
  · refine js_iconst (n := 36) 0 X (dg dc_D_below 20 rfl) rfl (by decide) ?_
    exact js_retI X (dg dc_D_below 21 rfl) rfl (Nat.le_of_ble_eq_true rfl) (Nat.le_of_ble_eq_true rfl) rfl
  refine js_iload_n (n := 30) X (dg dc_D_below 16 rfl) rfl rfl rfl ?_
  refine js_iload_n (n := 31) X (dg dc_D_below 17 rfl) rfl rfl rfl ?_
  refine js_irem (n := 32) X (dg dc_D_below 18 rfl) rfl ?_
  refine js_goto (t := 36) X (dg dc_D_below 19 rfl) (by decide) ?_
  exact js_retI X (dg dc_D_below 21 rfl) rfl (Nat.le_of_ble_eq_true rfl) (Nat.le_of_ble_eq_true rfl) rfl
set_option maxRecDepth 100000 in
set_option maxHeartbeats 4000000 in
theorem c_D_below_24 (l : Launch) (Dv : va_G) (fu : Nat) (h : S_H) (r : S_R) (out : Nat → Int64) (D : S_D) (a1 : Int32) : ev_M l Dv gaX mu_D_below [.ref 24, .int a1] (hpW (h.1, h.2.1, h.2.2.1, D, h.2.2.2.2) r out) (f_D_below fu D a1) (fun q => (some (.int q.1), hpW (h.1, h.2.1, h.2.2.1, q.2, h.2.2.2.2) r out)) := by
  unfold f_D_below
  exact cg_D_below_24 l Dv fu h r out D a1 6364136223846793005 1442695040888963407 hw_78 hw_79
set_option maxRecDepth 100000 in
set_option maxHeartbeats 4000000 in
theorem c_P_known_1 (l : Launch) (Dv : va_G) (fu : Nat) (h : S_H) (r : S_R) (out : Nat → Int64) (P : S_P) (a1 : Int32) : ev_M l Dv gaX mu_P_known [.ref 1, .int a1] (hpW (P, h.2) r out) (f_P_known fu P a1) (fun q => (some (.int q), hpW (P, h.2) r out)) := by
  refine ev_met (lo0 := [some (.ref 1), some (.int a1)]) rfl rfl rfl (fun κ X => ?_)
  unfold f_P_known
  refine js_iload_n (n := 1) X (dg dc_P_known 0 rfl) rfl rfl rfl ?_
  refine js_if_ne (t := 13) (n := 4) X (dg dc_P_known 1 rfl) (by decide) rfl ?_ ?_
  · refine js_aload_n (n := 14) X (dg dc_P_known 7 rfl) rfl rfl rfl ?_
    refine js_getf (j := 0) (v := .ref 2) (n := 17) X (dg dc_P_known 8 rfl) rfl hC_P (Nat.le_of_ble_eq_true rfl) hw_1 rfl rfl ?_
    refine js_iconst (n := 18) 0 X (dg dc_P_known 9 rfl) rfl (by decide) ?_
    refine js_iaload (f := P.1) (n := 19) X (dg dc_P_known 10 rfl) rfl rfl ?_
    refine js_aload_n (n := 20) X (dg dc_P_known 11 rfl) rfl rfl rfl ?_
    refine js_getf (j := 0) (v := .ref 2) (n := 23) X (dg dc_P_known 12 rfl) rfl hC_P (Nat.le_of_ble_eq_true rfl) hw_1 rfl rfl ?_
    refine js_iload_n (n := 24) X (dg dc_P_known 13 rfl) rfl rfl rfl ?_
    refine js_iaload (f := P.1) (n := 25) X (dg dc_P_known 14 rfl) rfl rfl ?_
    refine js_iadd (n := 26) X (dg dc_P_known 15 rfl) rfl ?_
    exact js_retI X (dg dc_P_known 16 rfl) rfl (Nat.le_of_ble_eq_true rfl) (Nat.le_of_ble_eq_true rfl) rfl
  refine js_aload_n (n := 5) X (dg dc_P_known 2 rfl) rfl rfl rfl ?_
  refine js_getf (j := 0) (v := .ref 2) (n := 8) X (dg dc_P_known 3 rfl) rfl hC_P (Nat.le_of_ble_eq_true rfl) hw_1 rfl rfl ?_
  refine js_iconst (n := 9) 0 X (dg dc_P_known 4 rfl) rfl (by decide) ?_
  refine js_iaload (f := P.1) (n := 10) X (dg dc_P_known 5 rfl) rfl rfl ?_
  refine js_goto (t := 26) X (dg dc_P_known 6 rfl) (by decide) ?_
  exact js_retI X (dg dc_P_known 16 rfl) rfl (Nat.le_of_ble_eq_true rfl) (Nat.le_of_ble_eq_true rfl) rfl
set_option maxRecDepth 100000 in
set_option maxHeartbeats 4000000 in
theorem c_P_start_1 (l : Launch) (Dv : va_G) (fu : Nat) (h : S_H) (r : S_R) (out : Nat → Int64) (P : S_P) (a1 : Int32) : ev_M l Dv gaX mu_P_start [.ref 1, .int a1] (hpW (P, h.2) r out) (f_P_start fu P a1) (fun q => (some (.int q), hpW (P, h.2) r out)) := by
  refine ev_met (lo0 := [some (.ref 1), some (.int a1)]) rfl rfl rfl (fun κ X => ?_)
  unfold f_P_start
  refine js_iload_n (n := 1) X (dg dc_P_start 0 rfl) rfl rfl rfl ?_
  refine js_lsw X (dg dc_P_start 1 rfl) (by decide) ?_
  refine js_sw1 28 (by decide) (by decide) ?_ ?_
  · refine js_iconst (n := 29) 0 X (dg dc_P_start 2 rfl) rfl (by decide) ?_
    exact js_retI X (dg dc_P_start 3 rfl) rfl (Nat.le_of_ble_eq_true rfl) (Nat.le_of_ble_eq_true rfl) rfl
  refine js_sw1 30 (by decide) (by decide) ?_ ?_
  · refine js_aload_n (n := 31) X (dg dc_P_start 4 rfl) rfl rfl rfl ?_
    refine js_getf (j := 0) (v := .ref 2) (n := 34) X (dg dc_P_start 5 rfl) rfl hC_P (Nat.le_of_ble_eq_true rfl) hw_1 rfl rfl ?_
    refine js_iconst (n := 35) 0 X (dg dc_P_start 6 rfl) rfl (by decide) ?_
    refine js_iaload (f := P.1) (n := 36) X (dg dc_P_start 7 rfl) rfl rfl ?_
    exact js_retI X (dg dc_P_start 8 rfl) rfl (Nat.le_of_ble_eq_true rfl) (Nat.le_of_ble_eq_true rfl) rfl
  refine js_sw0 37 (by decide) ?_
  refine js_aload_n (n := 38) X (dg dc_P_start 9 rfl) rfl rfl rfl ?_
  refine js_getf (j := 0) (v := .ref 2) (n := 41) X (dg dc_P_start 10 rfl) rfl hC_P (Nat.le_of_ble_eq_true rfl) hw_1 rfl rfl ?_
  refine js_iconst (n := 42) 0 X (dg dc_P_start 11 rfl) rfl (by decide) ?_
  refine js_iaload (f := P.1) (n := 43) X (dg dc_P_start 12 rfl) rfl rfl ?_
  refine js_aload_n (n := 44) X (dg dc_P_start 13 rfl) rfl rfl rfl ?_
  refine js_getf (j := 0) (v := .ref 2) (n := 47) X (dg dc_P_start 14 rfl) rfl hC_P (Nat.le_of_ble_eq_true rfl) hw_1 rfl rfl ?_
  refine js_iconst (n := 48) 1 X (dg dc_P_start 15 rfl) rfl (by decide) ?_
  refine js_iaload (f := P.1) (n := 49) X (dg dc_P_start 16 rfl) rfl rfl ?_
  refine js_iadd (n := 50) X (dg dc_P_start 17 rfl) rfl ?_
  exact js_retI X (dg dc_P_start 18 rfl) rfl (Nat.le_of_ble_eq_true rfl) (Nat.le_of_ble_eq_true rfl) rfl
set_option maxRecDepth 100000 in
set_option maxHeartbeats 4000000 in
theorem c_P_knownAt_1 (l : Launch) (Dv : va_G) (fu : Nat) (h : S_H) (r : S_R) (out : Nat → Int64) (P : S_P) (a1 : Int32) (a2 : Int32) : ev_M l Dv gaX mu_P_knownAt [.ref 1, .int a1, .int a2] (hpW (P, h.2) r out) (f_P_knownAt fu P a1 a2) (fun q => (some (.int q), hpW (P, h.2) r out)) := by
  refine ev_met (lo0 := [some (.ref 1), some (.int a1), some (.int a2)]) rfl rfl rfl (fun κ X => ?_)
  unfold f_P_knownAt
  refine js_iload_n (n := 1) X (dg dc_P_knownAt 0 rfl) rfl rfl rfl ?_
  refine js_aload_n (n := 2) X (dg dc_P_knownAt 1 rfl) rfl rfl rfl ?_
  refine js_getf (j := 0) (v := .ref 2) (n := 5) X (dg dc_P_knownAt 2 rfl) rfl hC_P (Nat.le_of_ble_eq_true rfl) hw_1 rfl rfl ?_
  refine js_iconst (n := 6) 0 X (dg dc_P_knownAt 3 rfl) rfl (by decide) ?_
  refine js_iaload (f := P.1) (n := 7) X (dg dc_P_knownAt 4 rfl) rfl rfl ?_
  refine js_icmp_ge (t := 14) (n := 10) X (dg dc_P_knownAt 5 rfl) (by decide) rfl ?_ ?_
  · refine js_aload_n (n := 15) X (dg dc_P_knownAt 8 rfl) rfl rfl rfl ?_
    refine js_iload_n (n := 16) X (dg dc_P_knownAt 9 rfl) rfl rfl rfl ?_
    refine js_callV (na := 1) (ci := 1) (n := 19) X (dg dc_P_knownAt 10 rfl) rfl (c_P_start_1 l Dv fu (P, h.2) r out P a1) gV_P_24 rfl rfl hy_P_start ⟨(Nat.le_of_ble_eq_true rfl), (Nat.le_of_ble_eq_true rfl)⟩ rfl ⟨(Nat.le_of_ble_eq_true rfl), (Nat.le_of_ble_eq_true rfl)⟩ rfl rfl rfl rfl rfl ?_
    intro r16
    refine js_iload_n (n := 20) X (dg dc_P_knownAt 11 rfl) rfl rfl rfl ?_
    refine js_iadd (n := 21) X (dg dc_P_knownAt 12 rfl) rfl ?_
    refine js_aload_n (n := 22) X (dg dc_P_knownAt 13 rfl) rfl rfl rfl ?_
    refine js_getf (j := 0) (v := .ref 2) (n := 25) X (dg dc_P_knownAt 14 rfl) rfl hC_P (Nat.le_of_ble_eq_true rfl) hw_1 rfl rfl ?_
    refine js_iconst (n := 26) 0 X (dg dc_P_knownAt 15 rfl) rfl (by decide) ?_
    refine js_iaload (f := P.1) (n := 27) X (dg dc_P_knownAt 16 rfl) rfl rfl ?_
    refine js_isub (n := 28) X (dg dc_P_knownAt 17 rfl) rfl ?_
    exact js_retI X (dg dc_P_knownAt 18 rfl) rfl (Nat.le_of_ble_eq_true rfl) (Nat.le_of_ble_eq_true rfl) rfl
  refine js_iload_n (n := 11) X (dg dc_P_knownAt 6 rfl) rfl rfl rfl ?_
  refine js_goto (t := 28) X (dg dc_P_knownAt 7 rfl) (by decide) ?_
  exact js_retI X (dg dc_P_knownAt 18 rfl) rfl (Nat.le_of_ble_eq_true rfl) (Nat.le_of_ble_eq_true rfl) rfl
set_option maxRecDepth 100000 in
set_option maxHeartbeats 4000000 in
theorem jl_H_drawCommand_0_L82 (l : Launch) (Dv : va_G) (fu : Nat) (r : S_R) (out : Nat → Int64) (κ : ev_ka) (X : ev_X l Dv gaX mu_H_drawCommand κ) (H : S_H) (v1 : Int32) (v2 : Int32) (v3 : Int32) : ev_J l Dv gaX mu_H_drawCommand κ 82 0 0 [some (.ref 0), some (.int v1), some (.int v2), some (.int v3), none, none, none] [] (hpW H r out) (f_H_drawCommand_L82 fu H v1 v2 v3) (fun q => (some (.int q.1), hpW q.2 r out)) := by
  unfold f_H_drawCommand_L82
  refine js_aload_n (n := 83) X (dg dc_H_drawCommand 40 rfl) rfl rfl rfl ?_
  refine js_getf (j := 3) (v := .ref 24) (n := 86) X (dg dc_H_drawCommand 41 rfl) rfl hC_H (Nat.le_of_ble_eq_true rfl) hw_76 rfl rfl ?_
  refine js_bipush (n := 88) 8 X (dg dc_H_drawCommand 42 rfl) rfl (by decide) ?_
  refine js_callV (na := 1) (ci := 5) (n := 91) X (dg dc_H_drawCommand 43 rfl) rfl (c_D_below_24 l Dv fu H r out H.2.2.2.1 8) gV_H_219 rfl rfl hy_D_below ⟨(Nat.le_of_ble_eq_true rfl), (Nat.le_of_ble_eq_true rfl)⟩ rfl ⟨(Nat.le_of_ble_eq_true rfl), (Nat.le_of_ble_eq_true rfl)⟩ rfl rfl rfl rfl rfl ?_
  rintro ⟨r88, D_88⟩
  refine js_istore (lo' := [some (.ref 0), some (.int v1), some (.int v2), some (.int v3), none, none, some (.int r88)]) (n := 93) X (dg dc_H_drawCommand 44 rfl) rfl (Nat.le_of_ble_eq_true rfl) rfl ?_
  refine js_aload_n (n := 94) X (dg dc_H_drawCommand 45 rfl) rfl rfl rfl ?_
  refine js_iload_n (n := 95) X (dg dc_H_drawCommand 46 rfl) rfl rfl rfl ?_
  refine js_iload_n (n := 96) X (dg dc_H_drawCommand 47 rfl) rfl rfl rfl ?_
  refine js_iload_n (n := 97) X (dg dc_H_drawCommand 48 rfl) rfl rfl rfl ?_
  refine js_iload (n := 99) X (dg dc_H_drawCommand 49 rfl) rfl rfl ?_
  refine js_callV (na := 4) (ci := 0) (n := 102) X (dg dc_H_drawCommand 50 rfl) rfl (c_H_appendIfValid_0 l Dv fu r out (H.1, H.2.1, H.2.2.1, D_88, H.2.2.2.2) v1 v2 v3 r88) gV_H_70 rfl rfl hy_H_appendIfValid ⟨(Nat.le_of_ble_eq_true rfl), (Nat.le_of_ble_eq_true rfl)⟩ rfl ⟨(Nat.le_of_ble_eq_true rfl), (Nat.le_of_ble_eq_true rfl)⟩ rfl rfl rfl rfl rfl ?_
  rintro ⟨r99, H_99⟩
  exact js_retZ X (dg dc_H_drawCommand 51 rfl) rfl (Nat.le_of_ble_eq_true rfl) (Nat.le_of_ble_eq_true rfl) rfl
set_option maxRecDepth 100000 in
set_option maxHeartbeats 4000000 in
theorem jl_H_drawCommand_0_L35 (l : Launch) (Dv : va_G) (fu : Nat) (r : S_R) (out : Nat → Int64) (κ : ev_ka) (X : ev_X l Dv gaX mu_H_drawCommand κ) (H : S_H) (v1 : Int32) (v2 : Int32) (v3 : Int32) (s0 : Int32) : ev_J l Dv gaX mu_H_drawCommand κ 35 0 0 [some (.ref 0), some (.int v1), some (.int v2), some (.int v3), none, none, none] [.int s0] (hpW H r out) (f_H_drawCommand_L35 fu H v1 v2 v3 s0) (fun q => (some (.int q.1), hpW q.2 r out)) := by
  unfold f_H_drawCommand_L35
  refine js_istore (lo' := [some (.ref 0), some (.int v1), some (.int v2), some (.int v3), some (.int s0), none, none]) (n := 37) X (dg dc_H_drawCommand 18 rfl) rfl (Nat.le_of_ble_eq_true rfl) rfl ?_
  refine js_aload_n (n := 38) X (dg dc_H_drawCommand 19 rfl) rfl rfl rfl ?_
  refine js_getf (j := 0) (v := .ref 1) (n := 41) X (dg dc_H_drawCommand 20 rfl) rfl hC_H (Nat.le_of_ble_eq_true rfl) hw_0 rfl rfl ?_
  refine js_iload_n (n := 42) X (dg dc_H_drawCommand 21 rfl) rfl rfl rfl ?_
  refine js_callV (na := 1) (ci := 1) (n := 45) X (dg dc_H_drawCommand 22 rfl) rfl (c_P_known_1 l Dv fu H r out H.1 v1) gV_H_222 rfl rfl hy_P_known ⟨(Nat.le_of_ble_eq_true rfl), (Nat.le_of_ble_eq_true rfl)⟩ rfl ⟨(Nat.le_of_ble_eq_true rfl), (Nat.le_of_ble_eq_true rfl)⟩ rfl rfl rfl rfl rfl ?_
  intro r42
  refine js_istore (lo' := [some (.ref 0), some (.int v1), some (.int v2), some (.int v3), some (.int s0), some (.int r42), none]) (n := 47) X (dg dc_H_drawCommand 23 rfl) rfl (Nat.le_of_ble_eq_true rfl) rfl ?_
  refine js_iload (n := 49) X (dg dc_H_drawCommand 24 rfl) rfl rfl ?_
  refine js_if_eq (t := 82) (n := 52) X (dg dc_H_drawCommand 25 rfl) (by decide) rfl ?_ ?_
  · exact js_keep [true, true, true, true, false, false, false] (jl_H_drawCommand_0_L82 l Dv fu r out κ X H v1 v2 v3)
  refine js_iload (n := 54) X (dg dc_H_drawCommand 26 rfl) rfl rfl ?_
  refine js_if_le (t := 82) (n := 57) X (dg dc_H_drawCommand 27 rfl) (by decide) rfl ?_ ?_
  · exact js_keep [true, true, true, true, false, false, false] (jl_H_drawCommand_0_L82 l Dv fu r out κ X H v1 v2 v3)
  refine js_bipush (n := 59) 8 X (dg dc_H_drawCommand 28 rfl) rfl (by decide) ?_
  refine js_aload_n (n := 60) X (dg dc_H_drawCommand 29 rfl) rfl rfl rfl ?_
  refine js_getf (j := 0) (v := .ref 1) (n := 63) X (dg dc_H_drawCommand 30 rfl) rfl hC_H (Nat.le_of_ble_eq_true rfl) hw_0 rfl rfl ?_
  refine js_iload_n (n := 64) X (dg dc_H_drawCommand 31 rfl) rfl rfl rfl ?_
  refine js_aload_n (n := 65) X (dg dc_H_drawCommand 32 rfl) rfl rfl rfl ?_
  refine js_getf (j := 3) (v := .ref 24) (n := 68) X (dg dc_H_drawCommand 33 rfl) rfl hC_H (Nat.le_of_ble_eq_true rfl) hw_76 rfl rfl ?_
  refine js_iload (n := 70) X (dg dc_H_drawCommand 34 rfl) rfl rfl ?_
  refine js_callV (na := 1) (ci := 5) (n := 73) X (dg dc_H_drawCommand 35 rfl) rfl (c_D_below_24 l Dv fu H r out H.2.2.2.1 r42) gV_H_219 rfl rfl hy_D_below ⟨(Nat.le_of_ble_eq_true rfl), (Nat.le_of_ble_eq_true rfl)⟩ rfl ⟨(Nat.le_of_ble_eq_true rfl), (Nat.le_of_ble_eq_true rfl)⟩ rfl rfl rfl rfl rfl ?_
  rintro ⟨r70, D_70⟩
  refine js_callV (na := 2) (ci := 1) (n := 76) X (dg dc_H_drawCommand 36 rfl) rfl (c_P_knownAt_1 l Dv fu (H.1, H.2.1, H.2.2.1, D_70, H.2.2.2.2) r out H.1 v1 r70) gV_H_225 rfl rfl hy_P_knownAt ⟨(Nat.le_of_ble_eq_true rfl), (Nat.le_of_ble_eq_true rfl)⟩ rfl ⟨(Nat.le_of_ble_eq_true rfl), (Nat.le_of_ble_eq_true rfl)⟩ rfl rfl rfl rfl rfl ?_
  intro r73
  refine js_iadd (n := 77) X (dg dc_H_drawCommand 37 rfl) rfl ?_
  refine js_istore (lo' := [some (.ref 0), some (.int v1), some (.int v2), some (.int v3), some (.int s0), some (.int r42), some (.int (8 + r73))]) (n := 79) X (dg dc_H_drawCommand 38 rfl) rfl (Nat.le_of_ble_eq_true rfl) rfl ?_
  refine js_goto (t := 93) X (dg dc_H_drawCommand 39 rfl) (by decide) ?_
  refine js_aload_n (n := 94) X (dg dc_H_drawCommand 45 rfl) rfl rfl rfl ?_
  refine js_iload_n (n := 95) X (dg dc_H_drawCommand 46 rfl) rfl rfl rfl ?_
  refine js_iload_n (n := 96) X (dg dc_H_drawCommand 47 rfl) rfl rfl rfl ?_
  refine js_iload_n (n := 97) X (dg dc_H_drawCommand 48 rfl) rfl rfl rfl ?_
  refine js_iload (n := 99) X (dg dc_H_drawCommand 49 rfl) rfl rfl ?_
  refine js_callV (na := 4) (ci := 0) (n := 102) X (dg dc_H_drawCommand 50 rfl) rfl (c_H_appendIfValid_0 l Dv fu r out (H.1, H.2.1, H.2.2.1, D_70, H.2.2.2.2) v1 v2 v3 (8 + r73)) gV_H_70 rfl rfl hy_H_appendIfValid ⟨(Nat.le_of_ble_eq_true rfl), (Nat.le_of_ble_eq_true rfl)⟩ rfl ⟨(Nat.le_of_ble_eq_true rfl), (Nat.le_of_ble_eq_true rfl)⟩ rfl rfl rfl rfl rfl ?_
  rintro ⟨r99, H_99⟩
  exact js_retZ X (dg dc_H_drawCommand 51 rfl) rfl (Nat.le_of_ble_eq_true rfl) (Nat.le_of_ble_eq_true rfl) rfl
set_option maxRecDepth 100000 in
set_option maxHeartbeats 4000000 in
theorem c_H_drawCommand_0 (l : Launch) (Dv : va_G) (fu : Nat) (r : S_R) (out : Nat → Int64) (H : S_H) (a1 : Int32) : ev_M l Dv gaX mu_H_drawCommand [.ref 0, .int a1] (hpW H r out) (f_H_drawCommand fu H a1) (fun q => (some (.int q.1), hpW q.2 r out)) := by
  refine ev_met (lo0 := [some (.ref 0), some (.int a1), none, none, none, none, none]) rfl rfl rfl (fun κ X => ?_)
  unfold f_H_drawCommand
  refine js_aload_n (n := 1) X (dg dc_H_drawCommand 0 rfl) rfl rfl rfl ?_
  refine js_getf (j := 3) (v := .ref 24) (n := 4) X (dg dc_H_drawCommand 1 rfl) rfl hC_H (Nat.le_of_ble_eq_true rfl) hw_76 rfl rfl ?_
  refine js_bipush (n := 6) 7 X (dg dc_H_drawCommand 2 rfl) rfl (by decide) ?_
  refine js_callV (na := 1) (ci := 5) (n := 9) X (dg dc_H_drawCommand 3 rfl) rfl (c_D_below_24 l Dv fu H r out H.2.2.2.1 7) gV_H_219 rfl rfl hy_D_below ⟨(Nat.le_of_ble_eq_true rfl), (Nat.le_of_ble_eq_true rfl)⟩ rfl ⟨(Nat.le_of_ble_eq_true rfl), (Nat.le_of_ble_eq_true rfl)⟩ rfl rfl rfl rfl rfl ?_
  rintro ⟨r6, D_6⟩
  refine js_istore_n (lo' := [some (.ref 0), some (.int a1), some (.int r6), none, none, none, none]) (n := 10) X (dg dc_H_drawCommand 4 rfl) rfl rfl (Nat.le_of_ble_eq_true rfl) rfl ?_
  refine js_aload_n (n := 11) X (dg dc_H_drawCommand 5 rfl) rfl rfl rfl ?_
  refine js_getf (j := 3) (v := .ref 24) (n := 14) X (dg dc_H_drawCommand 6 rfl) rfl hC_H (Nat.le_of_ble_eq_true rfl) hw_76 rfl rfl ?_
  refine js_iconst (n := 15) 3 X (dg dc_H_drawCommand 7 rfl) rfl (by decide) ?_
  refine js_callV (na := 1) (ci := 5) (n := 18) X (dg dc_H_drawCommand 8 rfl) rfl (c_D_below_24 l Dv fu (H.1, H.2.1, H.2.2.1, D_6, H.2.2.2.2) r out D_6 3) gV_H_219 rfl rfl hy_D_below ⟨(Nat.le_of_ble_eq_true rfl), (Nat.le_of_ble_eq_true rfl)⟩ rfl ⟨(Nat.le_of_ble_eq_true rfl), (Nat.le_of_ble_eq_true rfl)⟩ rfl rfl rfl rfl rfl ?_
  rintro ⟨r15, D_15⟩
  refine js_istore_n (lo' := [some (.ref 0), some (.int a1), some (.int r6), some (.int r15), none, none, none]) (n := 19) X (dg dc_H_drawCommand 9 rfl) rfl rfl (Nat.le_of_ble_eq_true rfl) rfl ?_
  refine js_aload_n (n := 20) X (dg dc_H_drawCommand 10 rfl) rfl rfl rfl ?_
  refine js_getf (j := 3) (v := .ref 24) (n := 23) X (dg dc_H_drawCommand 11 rfl) rfl hC_H (Nat.le_of_ble_eq_true rfl) hw_76 rfl rfl ?_
  refine js_iconst (n := 24) 4 X (dg dc_H_drawCommand 12 rfl) rfl (by decide) ?_
  refine js_callV (na := 1) (ci := 5) (n := 27) X (dg dc_H_drawCommand 13 rfl) rfl (c_D_below_24 l Dv fu (H.1, H.2.1, H.2.2.1, D_15, H.2.2.2.2) r out D_15 4) gV_H_219 rfl rfl hy_D_below ⟨(Nat.le_of_ble_eq_true rfl), (Nat.le_of_ble_eq_true rfl)⟩ rfl ⟨(Nat.le_of_ble_eq_true rfl), (Nat.le_of_ble_eq_true rfl)⟩ rfl rfl rfl rfl rfl ?_
  rintro ⟨r24, D_24⟩
  refine js_if_ne (t := 34) (n := 30) X (dg dc_H_drawCommand 14 rfl) (by decide) rfl ?_ ?_
  · refine js_iconst (n := 35) 0 X (dg dc_H_drawCommand 17 rfl) rfl (by decide) ?_
    exact js_keep [true, true, true, true, false, false, false] (jl_H_drawCommand_0_L35 l Dv fu r out κ X (H.1, H.2.1, H.2.2.1, D_24, H.2.2.2.2) a1 r6 r15 0)
  refine js_iconst (n := 31) 1 X (dg dc_H_drawCommand 15 rfl) rfl (by decide) ?_
  refine js_goto (t := 35) X (dg dc_H_drawCommand 16 rfl) (by decide) ?_
  exact js_keep [true, true, true, true, false, false, false] (jl_H_drawCommand_0_L35 l Dv fu r out κ X (H.1, H.2.1, H.2.2.1, D_24, H.2.2.2.2) a1 r6 r15 1)
set_option maxRecDepth 100000 in
set_option maxHeartbeats 4000000 in
theorem jl_H_drawBranch_0_L13 (l : Launch) (Dv : va_G) (fu : Nat) (r : S_R) (out : Nat → Int64) (κ : ev_ka) (X : ev_X l Dv gaX mu_H_drawBranch κ) (k2 : S_H → Int32 → Int32 → Int32 → Option (S_H)) (hk2 : ∀ (H : S_H) (v1 : Int32) (v2 : Int32) (v3 : Int32), ev_J l Dv gaX mu_H_drawBranch κ 2 0 0 [some (.ref 0), some (.int v1), some (.int v2), some (.int v3), none, none] [] (hpW H r out) (k2 H v1 v2 v3) (fun q => (none, hpW q r out))) : ∀ (n : Nat) (H : S_H) (v1 : Int32) (v2 : Int32) (v3 : Int32) (v4 : Int32) (v5 : Int32), ev_J l Dv gaX mu_H_drawBranch κ 13 0 0 [some (.ref 0), some (.int v1), some (.int v2), some (.int v3), some (.int v4), some (.int v5)] [] (hpW H r out) (f_H_drawBranch_L13 fu k2 n H v1 v2 v3 v4 v5) (fun q => (none, hpW q r out)) := by
  intro n
  induction n with
  | zero => exact fun _ _ _ _ _ _ => js_none
  | succ n ih =>
    intro H v1 v2 v3 v4 v5
    unfold f_H_drawBranch_L13
    refine js_iload (n := 15) X (dg dc_H_drawBranch 9 rfl) rfl rfl ?_
    refine js_bipush (n := 17) 20 X (dg dc_H_drawBranch 10 rfl) rfl (by decide) ?_
    refine js_icmp_ge (t := 38) (n := 20) X (dg dc_H_drawBranch 11 rfl) (by decide) rfl ?_ ?_
    · refine js_iinc (lo' := [some (.ref 0), some (.int v1), some (.int v2), some (.int (v3 + 1)), some (.int v4), some (.int v5)]) (n := 41) 1 X (dg dc_H_drawBranch 20 rfl) rfl (by decide) (Nat.le_of_ble_eq_true rfl) rfl rfl ?_
      refine js_goto (t := 2) X (dg dc_H_drawBranch 21 rfl) (by decide) ?_
      exact js_keep [true, true, true, true, false, false] (hk2 H v1 v2 (v3 + 1))
    refine js_iload (n := 22) X (dg dc_H_drawBranch 12 rfl) rfl rfl ?_
    refine js_if_ne (t := 38) (n := 25) X (dg dc_H_drawBranch 13 rfl) (by decide) rfl ?_ ?_
    · refine js_iinc (lo' := [some (.ref 0), some (.int v1), some (.int v2), some (.int (v3 + 1)), some (.int v4), some (.int v5)]) (n := 41) 1 X (dg dc_H_drawBranch 20 rfl) rfl (by decide) (Nat.le_of_ble_eq_true rfl) rfl rfl ?_
      refine js_goto (t := 2) X (dg dc_H_drawBranch 21 rfl) (by decide) ?_
      exact js_keep [true, true, true, true, false, false] (hk2 H v1 v2 (v3 + 1))
    refine js_aload_n (n := 26) X (dg dc_H_drawBranch 14 rfl) rfl rfl rfl ?_
    refine js_iload_n (n := 27) X (dg dc_H_drawBranch 15 rfl) rfl rfl rfl ?_
    refine js_callV (na := 1) (ci := 0) (n := 30) X (dg dc_H_drawBranch 16 rfl) rfl (c_H_drawCommand_0 l Dv fu r out H v1) gV_H_216 rfl rfl hy_H_drawCommand ⟨(Nat.le_of_ble_eq_true rfl), (Nat.le_of_ble_eq_true rfl)⟩ rfl ⟨(Nat.le_of_ble_eq_true rfl), (Nat.le_of_ble_eq_true rfl)⟩ rfl rfl rfl rfl rfl ?_
    rintro ⟨r27, H_27⟩
    refine js_istore (lo' := [some (.ref 0), some (.int v1), some (.int v2), some (.int v3), some (.int r27), some (.int v5)]) (n := 32) X (dg dc_H_drawBranch 17 rfl) rfl (Nat.le_of_ble_eq_true rfl) rfl ?_
    refine js_iinc (lo' := [some (.ref 0), some (.int v1), some (.int v2), some (.int v3), some (.int r27), some (.int (v5 + 1))]) (n := 35) 1 X (dg dc_H_drawBranch 18 rfl) rfl (by decide) (Nat.le_of_ble_eq_true rfl) rfl rfl ?_
    refine js_goto (t := 13) X (dg dc_H_drawBranch 19 rfl) (by decide) ?_
    exact js_keep [true, true, true, true, true, true] (ih H_27 v1 v2 v3 r27 (v5 + 1))
set_option maxRecDepth 100000 in
set_option maxHeartbeats 4000000 in
theorem jl_H_drawBranch_0_L2 (l : Launch) (Dv : va_G) (fu : Nat) (r : S_R) (out : Nat → Int64) (κ : ev_ka) (X : ev_X l Dv gaX mu_H_drawBranch κ) : ∀ (n : Nat) (H : S_H) (v1 : Int32) (v2 : Int32) (v3 : Int32), ev_J l Dv gaX mu_H_drawBranch κ 2 0 0 [some (.ref 0), some (.int v1), some (.int v2), some (.int v3), none, none] [] (hpW H r out) (f_H_drawBranch_L2 fu n H v1 v2 v3) (fun q => (none, hpW q r out)) := by
  intro n
  induction n with
  | zero => exact fun _ _ _ _ => js_none
  | succ n ih =>
    intro H v1 v2 v3
    unfold f_H_drawBranch_L2
    refine js_iload_n (n := 3) X (dg dc_H_drawBranch 2 rfl) rfl rfl rfl ?_
    refine js_iload_n (n := 4) X (dg dc_H_drawBranch 3 rfl) rfl rfl rfl ?_
    refine js_icmp_ge (t := 44) (n := 7) X (dg dc_H_drawBranch 4 rfl) (by decide) rfl ?_ ?_
    · exact js_retV X (dg dc_H_drawBranch 22 rfl) rfl (Nat.le_of_ble_eq_true rfl) (Nat.le_of_ble_eq_true rfl) rfl
    refine js_iconst (n := 8) 0 X (dg dc_H_drawBranch 5 rfl) rfl (by decide) ?_
    refine js_istore (lo' := [some (.ref 0), some (.int v1), some (.int v2), some (.int v3), some (.int 0), none]) (n := 10) X (dg dc_H_drawBranch 6 rfl) rfl (Nat.le_of_ble_eq_true rfl) rfl ?_
    refine js_iconst (n := 11) 0 X (dg dc_H_drawBranch 7 rfl) rfl (by decide) ?_
    refine js_istore (lo' := [some (.ref 0), some (.int v1), some (.int v2), some (.int v3), some (.int 0), some (.int 0)]) (n := 13) X (dg dc_H_drawBranch 8 rfl) rfl (Nat.le_of_ble_eq_true rfl) rfl ?_
    exact js_keep [true, true, true, true, true, true] (jl_H_drawBranch_0_L13 l Dv fu r out κ X (f_H_drawBranch_L2 fu n) (fun z0 z1 z2 z3 => ih z0 z1 z2 z3) fu H v1 v2 v3 0 0)
set_option maxRecDepth 100000 in
set_option maxHeartbeats 4000000 in
theorem c_H_drawBranch_0 (l : Launch) (Dv : va_G) (fu : Nat) (r : S_R) (out : Nat → Int64) (H : S_H) (a1 : Int32) (a2 : Int32) : ev_M l Dv gaX mu_H_drawBranch [.ref 0, .int a1, .int a2] (hpW H r out) (f_H_drawBranch fu H a1 a2) (fun q => (none, hpW q r out)) := by
  refine ev_met (lo0 := [some (.ref 0), some (.int a1), some (.int a2), none, none, none]) rfl rfl rfl (fun κ X => ?_)
  unfold f_H_drawBranch
  refine js_iconst (n := 1) 0 X (dg dc_H_drawBranch 0 rfl) rfl (by decide) ?_
  refine js_istore_n (lo' := [some (.ref 0), some (.int a1), some (.int a2), some (.int 0), none, none]) (n := 2) X (dg dc_H_drawBranch 1 rfl) rfl rfl (Nat.le_of_ble_eq_true rfl) rfl ?_
  exact js_keep [true, true, true, true, false, false] (jl_H_drawBranch_0_L2 l Dv fu r out κ X fu H a1 a2 0)
set_option maxRecDepth 100000 in
set_option maxHeartbeats 4000000 in
theorem jl_P_lower_6_L37 (l : Launch) (Dv : va_G) (fu : Nat) (h : S_H) (r : S_R) (out : Nat → Int64) (κ : ev_ka) (X : ev_X l Dv gaX mu_P_lower κ) (P : S_P) (v1 : Int32) (v2 : Int32) (v3 : Int32) (s0 : Int32) (s1 : Int32) : ev_J l Dv gaX mu_P_lower κ 37 0 0 [some (.ref 6), some (.int v1), some (.int v2), some (.int v3)] [.int s1, .int s0] (hpW (h.1, P, h.2.2) r out) (f_P_lower_L37 fu P v1 v2 v3 s0 s1) (fun q => (some (.int q.1), hpW (h.1, q.2, h.2.2) r out)) := by
  unfold f_P_lower_L37
  refine js_icmp_ge (t := 42) (n := 40) X (dg dc_P_lower 22 rfl) (by decide) rfl ?_ ?_
  · refine js_aload_n (n := 43) X (dg dc_P_lower 25 rfl) rfl rfl rfl ?_
    refine js_getf (j := 3) (v := .ref 10) (n := 46) X (dg dc_P_lower 26 rfl) rfl hC_P (Nat.le_of_ble_eq_true rfl) hw_20 rfl rfl ?_
    refine js_iload_n (n := 47) X (dg dc_P_lower 27 rfl) rfl rfl rfl ?_
    refine js_iload_n (n := 48) X (dg dc_P_lower 28 rfl) rfl rfl rfl ?_
    refine js_if_eq (t := 57) (n := 51) X (dg dc_P_lower 29 rfl) (by decide) rfl ?_ ?_
    · refine js_iconst (n := 58) 0 X (dg dc_P_lower 34 rfl) rfl (by decide) ?_
      refine js_iastore (f := P.2.2.2) (n := 59) X (dg dc_P_lower 35 rfl) rfl rfl ?_
      refine js_iconst (n := 60) 1 X (dg dc_P_lower 36 rfl) rfl (by decide) ?_
      exact js_retZ X (dg dc_P_lower 37 rfl) rfl (Nat.le_of_ble_eq_true rfl) (Nat.le_of_ble_eq_true rfl) rfl
    refine js_iload_n (n := 52) X (dg dc_P_lower 30 rfl) rfl rfl rfl ?_
    refine js_iconst (n := 53) 2 X (dg dc_P_lower 31 rfl) rfl (by decide) ?_
    refine js_idiv (n := 54) X (dg dc_P_lower 32 rfl) rfl ?_
    refine js_goto (t := 58) X (dg dc_P_lower 33 rfl) (by decide) ?_
    refine js_iastore (f := P.2.2.2) (n := 59) X (dg dc_P_lower 35 rfl) rfl rfl ?_
    refine js_iconst (n := 60) 1 X (dg dc_P_lower 36 rfl) rfl (by decide) ?_
    exact js_retZ X (dg dc_P_lower 37 rfl) rfl (Nat.le_of_ble_eq_true rfl) (Nat.le_of_ble_eq_true rfl) rfl
  refine js_iconst (n := 41) 0 X (dg dc_P_lower 23 rfl) rfl (by decide) ?_
  exact js_retZ X (dg dc_P_lower 24 rfl) rfl (Nat.le_of_ble_eq_true rfl) (Nat.le_of_ble_eq_true rfl) rfl
set_option maxRecDepth 100000 in
set_option maxHeartbeats 4000000 in
theorem c_P_lower_6 (l : Launch) (Dv : va_G) (fu : Nat) (h : S_H) (r : S_R) (out : Nat → Int64) (P : S_P) (a1 : Int32) (a2 : Int32) : ev_M l Dv gaX mu_P_lower [.ref 6, .int a1, .int a2] (hpW (h.1, P, h.2.2) r out) (f_P_lower fu P a1 a2) (fun q => (some (.int q.1), hpW (h.1, q.2, h.2.2) r out)) := by
  refine ev_met (lo0 := [some (.ref 6), some (.int a1), some (.int a2), none]) rfl rfl rfl (fun κ X => ?_)
  unfold f_P_lower
  refine js_iload_n (n := 1) X (dg dc_P_lower 0 rfl) rfl rfl rfl ?_
  refine js_if_lt (t := 12) (n := 4) X (dg dc_P_lower 1 rfl) (by decide) rfl ?_ ?_
  · refine js_iconst (n := 13) 0 X (dg dc_P_lower 6 rfl) rfl (by decide) ?_
    exact js_retZ X (dg dc_P_lower 7 rfl) rfl (Nat.le_of_ble_eq_true rfl) (Nat.le_of_ble_eq_true rfl) rfl
  refine js_iload_n (n := 5) X (dg dc_P_lower 2 rfl) rfl rfl rfl ?_
  refine js_aload_n (n := 6) X (dg dc_P_lower 3 rfl) rfl rfl rfl ?_
  refine js_callV (na := 0) (ci := 1) (n := 9) X (dg dc_P_lower 4 rfl) rfl (c_P_size_6 l Dv fu (h.1, P, h.2.2) r out P) gV_P_31 rfl rfl hy_P_size ⟨(Nat.le_of_ble_eq_true rfl), (Nat.le_of_ble_eq_true rfl)⟩ rfl ⟨(Nat.le_of_ble_eq_true rfl), (Nat.le_of_ble_eq_true rfl)⟩ rfl rfl rfl rfl rfl ?_
  intro r6
  refine js_icmp_lt (t := 14) (n := 12) X (dg dc_P_lower 5 rfl) (by decide) rfl ?_ ?_
  · refine js_aload_n (n := 15) X (dg dc_P_lower 8 rfl) rfl rfl rfl ?_
    refine js_getf (j := 3) (v := .ref 10) (n := 18) X (dg dc_P_lower 9 rfl) rfl hC_P (Nat.le_of_ble_eq_true rfl) hw_20 rfl rfl ?_
    refine js_iload_n (n := 19) X (dg dc_P_lower 10 rfl) rfl rfl rfl ?_
    refine js_iaload (f := P.2.2.2) (n := 20) X (dg dc_P_lower 11 rfl) rfl rfl ?_
    refine js_istore_n (lo' := [some (.ref 6), some (.int a1), some (.int a2), some (.int (P.2.2.2 (ix a1)))]) (n := 21) X (dg dc_P_lower 12 rfl) rfl rfl (Nat.le_of_ble_eq_true rfl) rfl ?_
    refine js_iload_n (n := 22) X (dg dc_P_lower 13 rfl) rfl rfl rfl ?_
    refine js_bipush (n := 24) 8 X (dg dc_P_lower 14 rfl) rfl (by decide) ?_
    refine js_icmp_ge (t := 40) (n := 27) X (dg dc_P_lower 15 rfl) (by decide) rfl ?_ ?_
    · refine js_iconst (n := 41) 0 X (dg dc_P_lower 23 rfl) rfl (by decide) ?_
      exact js_retZ X (dg dc_P_lower 24 rfl) rfl (Nat.le_of_ble_eq_true rfl) (Nat.le_of_ble_eq_true rfl) rfl
    refine js_iload_n (n := 28) X (dg dc_P_lower 16 rfl) rfl rfl rfl ?_
    refine js_iload_n (n := 29) X (dg dc_P_lower 17 rfl) rfl rfl rfl ?_
    refine js_if_eq (t := 36) (n := 32) X (dg dc_P_lower 18 rfl) (by decide) rfl ?_ ?_
    · refine js_iconst (n := 37) 1 X (dg dc_P_lower 21 rfl) rfl (by decide) ?_
      exact js_keep [true, true, true, true] (jl_P_lower_6_L37 l Dv fu h r out κ X P a1 a2 (P.2.2.2 (ix a1)) (P.2.2.2 (ix a1)) 1)
    refine js_iconst (n := 33) 2 X (dg dc_P_lower 19 rfl) rfl (by decide) ?_
    refine js_goto (t := 37) X (dg dc_P_lower 20 rfl) (by decide) ?_
    exact js_keep [true, true, true, true] (jl_P_lower_6_L37 l Dv fu h r out κ X P a1 a2 (P.2.2.2 (ix a1)) (P.2.2.2 (ix a1)) 2)
  refine js_iconst (n := 13) 0 X (dg dc_P_lower 6 rfl) rfl (by decide) ?_
  exact js_retZ X (dg dc_P_lower 7 rfl) rfl (Nat.le_of_ble_eq_true rfl) (Nat.le_of_ble_eq_true rfl) rfl
set_option maxRecDepth 100000 in
set_option maxHeartbeats 4000000 in
theorem c_P_hasRoom_6 (l : Launch) (Dv : va_G) (fu : Nat) (h : S_H) (r : S_R) (out : Nat → Int64) (P : S_P) (a1 : Int32) : ev_M l Dv gaX mu_P_hasRoom [.ref 6, .int a1] (hpW (h.1, P, h.2.2) r out) (f_P_hasRoom fu P a1) (fun q => (some (.int q), hpW (h.1, P, h.2.2) r out)) := by
  refine ev_met (lo0 := [some (.ref 6), some (.int a1)]) rfl rfl rfl (fun κ X => ?_)
  unfold f_P_hasRoom
  refine js_aload_n (n := 1) X (dg dc_P_hasRoom 0 rfl) rfl rfl rfl ?_
  refine js_getf (j := 0) (v := .ref 7) (n := 4) X (dg dc_P_hasRoom 1 rfl) rfl hC_P (Nat.le_of_ble_eq_true rfl) hw_1 rfl rfl ?_
  refine js_iload_n (n := 5) X (dg dc_P_hasRoom 2 rfl) rfl rfl rfl ?_
  refine js_iaload (f := P.1) (n := 6) X (dg dc_P_hasRoom 3 rfl) rfl rfl ?_
  refine js_iload_n (n := 7) X (dg dc_P_hasRoom 4 rfl) rfl rfl rfl ?_
  refine js_if_ne (t := 15) (n := 10) X (dg dc_P_hasRoom 5 rfl) (by decide) rfl ?_ ?_
  · refine js_iconst (n := 16) 4 X (dg dc_P_hasRoom 8 rfl) rfl (by decide) ?_
    refine js_icmp_ge (t := 23) (n := 19) X (dg dc_P_hasRoom 9 rfl) (by decide) rfl ?_ ?_
    · refine js_iconst (n := 24) 0 X (dg dc_P_hasRoom 12 rfl) rfl (by decide) ?_
      exact js_retZ X (dg dc_P_hasRoom 13 rfl) rfl (Nat.le_of_ble_eq_true rfl) (Nat.le_of_ble_eq_true rfl) rfl
    refine js_iconst (n := 20) 1 X (dg dc_P_hasRoom 10 rfl) rfl (by decide) ?_
    refine js_goto (t := 24) X (dg dc_P_hasRoom 11 rfl) (by decide) ?_
    exact js_retZ X (dg dc_P_hasRoom 13 rfl) rfl (Nat.le_of_ble_eq_true rfl) (Nat.le_of_ble_eq_true rfl) rfl
  refine js_bipush (n := 12) 6 X (dg dc_P_hasRoom 6 rfl) rfl (by decide) ?_
  refine js_goto (t := 16) X (dg dc_P_hasRoom 7 rfl) (by decide) ?_
  refine js_icmp_ge (t := 23) (n := 19) X (dg dc_P_hasRoom 9 rfl) (by decide) rfl ?_ ?_
  · refine js_iconst (n := 24) 0 X (dg dc_P_hasRoom 12 rfl) rfl (by decide) ?_
    exact js_retZ X (dg dc_P_hasRoom 13 rfl) rfl (Nat.le_of_ble_eq_true rfl) (Nat.le_of_ble_eq_true rfl) rfl
  refine js_iconst (n := 20) 1 X (dg dc_P_hasRoom 10 rfl) rfl (by decide) ?_
  refine js_goto (t := 24) X (dg dc_P_hasRoom 11 rfl) (by decide) ?_
  exact js_retZ X (dg dc_P_hasRoom 13 rfl) rfl (Nat.le_of_ble_eq_true rfl) (Nat.le_of_ble_eq_true rfl) rfl
set_option maxRecDepth 100000 in
set_option maxHeartbeats 4000000 in
theorem jl_P_promote_6_L102 (l : Launch) (Dv : va_G) (fu : Nat) (h : S_H) (r : S_R) (out : Nat → Int64) (κ : ev_ka) (X : ev_X l Dv gaX mu_P_promote κ) : ∀ (n : Nat) (P : S_P) (v2 : Int32) (v3 : Int32) (v7 : Int32) (v8 : Int32), ev_J l Dv gaX mu_P_promote κ 102 0 0 [some (.ref 6), none, some (.int v2), some (.int v3), none, none, none, some (.int v7), some (.int v8), none] [] (hpW (h.1, P, h.2.2) r out) (f_P_promote_L102 fu n P v2 v3 v7 v8) (fun q => (some (.int q.1), hpW (h.1, q.2, h.2.2) r out)) := by
  intro n
  induction n with
  | zero => exact fun _ _ _ _ _ => js_none
  | succ n ih =>
    intro P v2 v3 v7 v8
    unfold f_P_promote_L102
    refine js_iload (n := 104) X (dg dc_P_promote 66 rfl) rfl rfl ?_
    refine js_iload (n := 106) X (dg dc_P_promote 67 rfl) rfl rfl ?_
    refine js_icmp_ge (t := 170) (n := 109) X (dg dc_P_promote 68 rfl) (by decide) rfl ?_ ?_
    · refine js_iconst (n := 171) 1 X (dg dc_P_promote 103 rfl) rfl (by decide) ?_
      exact js_retZ X (dg dc_P_promote 104 rfl) rfl (Nat.le_of_ble_eq_true rfl) (Nat.le_of_ble_eq_true rfl) rfl
    refine js_aload_n (n := 110) X (dg dc_P_promote 69 rfl) rfl rfl rfl ?_
    refine js_getf (j := 3) (v := .ref 10) (n := 113) X (dg dc_P_promote 70 rfl) rfl hC_P (Nat.le_of_ble_eq_true rfl) hw_20 rfl rfl ?_
    refine js_iload (n := 115) X (dg dc_P_promote 71 rfl) rfl rfl ?_
    refine js_iaload (f := P.2.2.2) (n := 116) X (dg dc_P_promote 72 rfl) rfl rfl ?_
    refine js_bipush (n := 118) 8 X (dg dc_P_promote 73 rfl) rfl (by decide) ?_
    refine js_isub (n := 119) X (dg dc_P_promote 74 rfl) rfl ?_
    refine js_istore (lo' := [some (.ref 6), none, some (.int v2), some (.int v3), none, none, none, some (.int v7), some (.int v8), some (.int ((P.2.2.2 (ix v8)) - 8))]) (n := 121) X (dg dc_P_promote 75 rfl) rfl (Nat.le_of_ble_eq_true rfl) rfl ?_
    refine js_iload (n := 123) X (dg dc_P_promote 76 rfl) rfl rfl ?_
    refine js_iload_n (n := 124) X (dg dc_P_promote 77 rfl) rfl rfl rfl ?_
    refine js_icmp_ne (t := 141) (n := 127) X (dg dc_P_promote 78 rfl) (by decide) rfl ?_ ?_
    · refine js_iload (n := 143) X (dg dc_P_promote 87 rfl) rfl rfl ?_
      refine js_iload_n (n := 144) X (dg dc_P_promote 88 rfl) rfl rfl rfl ?_
      refine js_icmp_lt (t := 164) (n := 147) X (dg dc_P_promote 89 rfl) (by decide) rfl ?_ ?_
      · refine js_iinc (lo' := [some (.ref 6), none, some (.int v2), some (.int v3), none, none, none, some (.int v7), some (.int (v8 + 1)), some (.int ((P.2.2.2 (ix v8)) - 8))]) (n := 167) 1 X (dg dc_P_promote 101 rfl) rfl (by decide) (Nat.le_of_ble_eq_true rfl) rfl rfl ?_
        refine js_goto (t := 102) X (dg dc_P_promote 102 rfl) (by decide) ?_
        exact js_keep [true, false, true, true, false, false, false, true, true, false] (ih P v2 v3 v7 (v8 + 1))
      refine js_iload (n := 149) X (dg dc_P_promote 90 rfl) rfl rfl ?_
      refine js_iload_n (n := 150) X (dg dc_P_promote 91 rfl) rfl rfl rfl ?_
      refine js_icmp_ge (t := 164) (n := 153) X (dg dc_P_promote 92 rfl) (by decide) rfl ?_ ?_
      · refine js_iinc (lo' := [some (.ref 6), none, some (.int v2), some (.int v3), none, none, none, some (.int v7), some (.int (v8 + 1)), some (.int ((P.2.2.2 (ix v8)) - 8))]) (n := 167) 1 X (dg dc_P_promote 101 rfl) rfl (by decide) (Nat.le_of_ble_eq_true rfl) rfl rfl ?_
        refine js_goto (t := 102) X (dg dc_P_promote 102 rfl) (by decide) ?_
        exact js_keep [true, false, true, true, false, false, false, true, true, false] (ih P v2 v3 v7 (v8 + 1))
      refine js_aload_n (n := 154) X (dg dc_P_promote 93 rfl) rfl rfl rfl ?_
      refine js_getf (j := 3) (v := .ref 10) (n := 157) X (dg dc_P_promote 94 rfl) rfl hC_P (Nat.le_of_ble_eq_true rfl) hw_20 rfl rfl ?_
      refine js_iload (n := 159) X (dg dc_P_promote 95 rfl) rfl rfl ?_
      refine js_dup2 (n := 160) X (dg dc_P_promote 96 rfl) rfl rfl rfl ?_
      refine js_iaload (f := P.2.2.2) (n := 161) X (dg dc_P_promote 97 rfl) rfl rfl ?_
      refine js_iconst (n := 162) 1 X (dg dc_P_promote 98 rfl) rfl (by decide) ?_
      refine js_iadd (n := 163) X (dg dc_P_promote 99 rfl) rfl ?_
      refine js_iastore (f := P.2.2.2) (n := 164) X (dg dc_P_promote 100 rfl) rfl rfl ?_
      refine js_iinc (lo' := [some (.ref 6), none, some (.int v2), some (.int v3), none, none, none, some (.int v7), some (.int (v8 + 1)), some (.int ((P.2.2.2 (ix v8)) - 8))]) (n := 167) 1 X (dg dc_P_promote 101 rfl) rfl (by decide) (Nat.le_of_ble_eq_true rfl) rfl rfl ?_
      refine js_goto (t := 102) X (dg dc_P_promote 102 rfl) (by decide) ?_
      exact js_keep [true, false, true, true, false, false, false, true, true, false] (ih (P.1, P.2.1, P.2.2.1, (upd P.2.2.2 (ix v8) ((P.2.2.2 (ix v8)) + 1))) v2 v3 v7 (v8 + 1))
    refine js_aload_n (n := 128) X (dg dc_P_promote 79 rfl) rfl rfl rfl ?_
    refine js_getf (j := 3) (v := .ref 10) (n := 131) X (dg dc_P_promote 80 rfl) rfl hC_P (Nat.le_of_ble_eq_true rfl) hw_20 rfl rfl ?_
    refine js_iload (n := 133) X (dg dc_P_promote 81 rfl) rfl rfl ?_
    refine js_bipush (n := 135) 8 X (dg dc_P_promote 82 rfl) rfl (by decide) ?_
    refine js_iload_n (n := 136) X (dg dc_P_promote 83 rfl) rfl rfl rfl ?_
    refine js_iadd (n := 137) X (dg dc_P_promote 84 rfl) rfl ?_
    refine js_iastore (f := P.2.2.2) (n := 138) X (dg dc_P_promote 85 rfl) rfl rfl ?_
    refine js_goto (t := 164) X (dg dc_P_promote 86 rfl) (by decide) ?_
    refine js_iinc (lo' := [some (.ref 6), none, some (.int v2), some (.int v3), none, none, none, some (.int v7), some (.int (v8 + 1)), some (.int ((P.2.2.2 (ix v8)) - 8))]) (n := 167) 1 X (dg dc_P_promote 101 rfl) rfl (by decide) (Nat.le_of_ble_eq_true rfl) rfl rfl ?_
    refine js_goto (t := 102) X (dg dc_P_promote 102 rfl) (by decide) ?_
    exact js_keep [true, false, true, true, false, false, false, true, true, false] (ih (P.1, P.2.1, P.2.2.1, (upd P.2.2.2 (ix v8) (8 + v3))) v2 v3 v7 (v8 + 1))
set_option maxRecDepth 100000 in
set_option maxHeartbeats 4000000 in
theorem c_P_promote_6 (l : Launch) (Dv : va_G) (fu : Nat) (h : S_H) (r : S_R) (out : Nat → Int64) (P : S_P) (a1 : Int32) : ev_M l Dv gaX mu_P_promote [.ref 6, .int a1] (hpW (h.1, P, h.2.2) r out) (f_P_promote fu P a1) (fun q => (some (.int q.1), hpW (h.1, q.2, h.2.2) r out)) := by
  refine ev_met (lo0 := [some (.ref 6), some (.int a1), none, none, none, none, none, none, none, none]) rfl rfl rfl (fun κ X => ?_)
  unfold f_P_promote
  refine js_aload_n (n := 1) X (dg dc_P_promote 0 rfl) rfl rfl rfl ?_
  refine js_getf (j := 0) (v := .ref 7) (n := 4) X (dg dc_P_promote 1 rfl) rfl hC_P (Nat.le_of_ble_eq_true rfl) hw_1 rfl rfl ?_
  refine js_iload_n (n := 5) X (dg dc_P_promote 2 rfl) rfl rfl rfl ?_
  refine js_iaload (f := P.1) (n := 6) X (dg dc_P_promote 3 rfl) rfl rfl ?_
  refine js_if_eq (t := 17) (n := 9) X (dg dc_P_promote 4 rfl) (by decide) rfl ?_ ?_
  · refine js_iconst (n := 18) 0 X (dg dc_P_promote 9 rfl) rfl (by decide) ?_
    exact js_retZ X (dg dc_P_promote 10 rfl) rfl (Nat.le_of_ble_eq_true rfl) (Nat.le_of_ble_eq_true rfl) rfl
  refine js_aload_n (n := 10) X (dg dc_P_promote 5 rfl) rfl rfl rfl ?_
  refine js_iconst (n := 11) 0 X (dg dc_P_promote 6 rfl) rfl (by decide) ?_
  refine js_callV (na := 1) (ci := 1) (n := 14) X (dg dc_P_promote 7 rfl) rfl (c_P_hasRoom_6 l Dv fu (h.1, P, h.2.2) r out P 0) gV_P_59 rfl rfl hy_P_hasRoom ⟨(Nat.le_of_ble_eq_true rfl), (Nat.le_of_ble_eq_true rfl)⟩ rfl ⟨(Nat.le_of_ble_eq_true rfl), (Nat.le_of_ble_eq_true rfl)⟩ rfl rfl rfl rfl rfl ?_
  intro r11
  refine js_if_ne (t := 19) (n := 17) X (dg dc_P_promote 8 rfl) (by decide) rfl ?_ ?_
  · refine js_aload_n (n := 20) X (dg dc_P_promote 11 rfl) rfl rfl rfl ?_
    refine js_iload_n (n := 21) X (dg dc_P_promote 12 rfl) rfl rfl rfl ?_
    refine js_callV (na := 1) (ci := 1) (n := 24) X (dg dc_P_promote 13 rfl) rfl (c_P_start_6 l Dv fu (h.1, P, h.2.2) r out P a1) gV_P_24 rfl rfl hy_P_start ⟨(Nat.le_of_ble_eq_true rfl), (Nat.le_of_ble_eq_true rfl)⟩ rfl ⟨(Nat.le_of_ble_eq_true rfl), (Nat.le_of_ble_eq_true rfl)⟩ rfl rfl rfl rfl rfl ?_
    intro r21
    refine js_istore_n (lo' := [some (.ref 6), some (.int a1), some (.int r21), none, none, none, none, none, none, none]) (n := 25) X (dg dc_P_promote 14 rfl) rfl rfl (Nat.le_of_ble_eq_true rfl) rfl ?_
    refine js_aload_n (n := 26) X (dg dc_P_promote 15 rfl) rfl rfl rfl ?_
    refine js_getf (j := 0) (v := .ref 7) (n := 29) X (dg dc_P_promote 16 rfl) rfl hC_P (Nat.le_of_ble_eq_true rfl) hw_1 rfl rfl ?_
    refine js_iconst (n := 30) 0 X (dg dc_P_promote 17 rfl) rfl (by decide) ?_
    refine js_iaload (f := P.1) (n := 31) X (dg dc_P_promote 18 rfl) rfl rfl ?_
    refine js_istore_n (lo' := [some (.ref 6), some (.int a1), some (.int r21), some (.int (P.1 (ix 0))), none, none, none, none, none, none]) (n := 32) X (dg dc_P_promote 19 rfl) rfl rfl (Nat.le_of_ble_eq_true rfl) rfl ?_
    refine js_aload_n (n := 33) X (dg dc_P_promote 20 rfl) rfl rfl rfl ?_
    refine js_getf (j := 1) (v := .ref 8) (n := 36) X (dg dc_P_promote 21 rfl) rfl hC_P (Nat.le_of_ble_eq_true rfl) hw_14 rfl rfl ?_
    refine js_iload_n (n := 37) X (dg dc_P_promote 22 rfl) rfl rfl rfl ?_
    refine js_iaload (f := P.2.1) (n := 38) X (dg dc_P_promote 23 rfl) rfl rfl ?_
    refine js_istore (lo' := [some (.ref 6), some (.int a1), some (.int r21), some (.int (P.1 (ix 0))), some (.int (P.2.1 (ix r21))), none, none, none, none, none]) (n := 40) X (dg dc_P_promote 24 rfl) rfl (Nat.le_of_ble_eq_true rfl) rfl ?_
    refine js_aload_n (n := 41) X (dg dc_P_promote 25 rfl) rfl rfl rfl ?_
    refine js_getf (j := 2) (v := .ref 9) (n := 44) X (dg dc_P_promote 26 rfl) rfl hC_P (Nat.le_of_ble_eq_true rfl) hw_19 rfl rfl ?_
    refine js_iload_n (n := 45) X (dg dc_P_promote 27 rfl) rfl rfl rfl ?_
    refine js_iaload (f := P.2.2.1) (n := 46) X (dg dc_P_promote 28 rfl) rfl rfl ?_
    refine js_istore (lo' := [some (.ref 6), some (.int a1), some (.int r21), some (.int (P.1 (ix 0))), some (.int (P.2.1 (ix r21))), some (.int (P.2.2.1 (ix r21))), none, none, none, none]) (n := 48) X (dg dc_P_promote 29 rfl) rfl (Nat.le_of_ble_eq_true rfl) rfl ?_
    refine js_aload_n (n := 49) X (dg dc_P_promote 30 rfl) rfl rfl rfl ?_
    refine js_getf (j := 3) (v := .ref 10) (n := 52) X (dg dc_P_promote 31 rfl) rfl hC_P (Nat.le_of_ble_eq_true rfl) hw_20 rfl rfl ?_
    refine js_iload_n (n := 53) X (dg dc_P_promote 32 rfl) rfl rfl rfl ?_
    refine js_iaload (f := P.2.2.2) (n := 54) X (dg dc_P_promote 33 rfl) rfl rfl ?_
    refine js_istore (lo' := [some (.ref 6), some (.int a1), some (.int r21), some (.int (P.1 (ix 0))), some (.int (P.2.1 (ix r21))), some (.int (P.2.2.1 (ix r21))), some (.int (P.2.2.2 (ix r21))), none, none, none]) (n := 56) X (dg dc_P_promote 34 rfl) rfl (Nat.le_of_ble_eq_true rfl) rfl ?_
    refine js_aload_n (n := 57) X (dg dc_P_promote 35 rfl) rfl rfl rfl ?_
    refine js_iload_n (n := 58) X (dg dc_P_promote 36 rfl) rfl rfl rfl ?_
    refine js_iload_n (n := 59) X (dg dc_P_promote 37 rfl) rfl rfl rfl ?_
    refine js_callV (na := 2) (ci := 1) (n := 62) X (dg dc_P_promote 38 rfl) rfl (c_P_shiftUp_6 l Dv fu (h.1, P, h.2.2) r out P (P.1 (ix 0)) r21) gV_P_41 rfl rfl hy_P_shiftUp ⟨(Nat.le_of_ble_eq_true rfl), (Nat.le_of_ble_eq_true rfl)⟩ rfl ⟨(Nat.le_of_ble_eq_true rfl), (Nat.le_of_ble_eq_true rfl)⟩ rfl rfl rfl rfl rfl ?_
    intro P_59
    refine js_aload_n (n := 63) X (dg dc_P_promote 39 rfl) rfl rfl rfl ?_
    refine js_iload_n (n := 64) X (dg dc_P_promote 40 rfl) rfl rfl rfl ?_
    refine js_iload (n := 66) X (dg dc_P_promote 41 rfl) rfl rfl ?_
    refine js_iload (n := 68) X (dg dc_P_promote 42 rfl) rfl rfl ?_
    refine js_iload (n := 70) X (dg dc_P_promote 43 rfl) rfl rfl ?_
    refine js_callV (na := 4) (ci := 1) (n := 73) X (dg dc_P_promote 44 rfl) rfl (c_P_put_6 l Dv fu (h.1, P_59, h.2.2) r out P_59 (P.1 (ix 0)) (P.2.1 (ix r21)) (P.2.2.1 (ix r21)) (P.2.2.2 (ix r21))) gV_P_48 rfl rfl hy_P_put ⟨(Nat.le_of_ble_eq_true rfl), (Nat.le_of_ble_eq_true rfl)⟩ rfl ⟨(Nat.le_of_ble_eq_true rfl), (Nat.le_of_ble_eq_true rfl)⟩ rfl rfl rfl rfl rfl ?_
    intro P_70
    refine js_aload_n (n := 74) X (dg dc_P_promote 45 rfl) rfl rfl rfl ?_
    refine js_getf (j := 0) (v := .ref 7) (n := 77) X (dg dc_P_promote 46 rfl) rfl hC_P (Nat.le_of_ble_eq_true rfl) hw_1 rfl rfl ?_
    refine js_iload_n (n := 78) X (dg dc_P_promote 47 rfl) rfl rfl rfl ?_
    refine js_dup2 (n := 79) X (dg dc_P_promote 48 rfl) rfl rfl rfl ?_
    refine js_iaload (f := P_70.1) (n := 80) X (dg dc_P_promote 49 rfl) rfl rfl ?_
    refine js_iconst (n := 81) 1 X (dg dc_P_promote 50 rfl) rfl (by decide) ?_
    refine js_isub (n := 82) X (dg dc_P_promote 51 rfl) rfl ?_
    refine js_iastore (f := P_70.1) (n := 83) X (dg dc_P_promote 52 rfl) rfl rfl ?_
    refine js_aload_n (n := 84) X (dg dc_P_promote 53 rfl) rfl rfl rfl ?_
    refine js_getf (j := 0) (v := .ref 7) (n := 87) X (dg dc_P_promote 54 rfl) rfl hC_P (Nat.le_of_ble_eq_true rfl) hw_1 rfl rfl ?_
    refine js_iconst (n := 88) 0 X (dg dc_P_promote 55 rfl) rfl (by decide) ?_
    refine js_dup2 (n := 89) X (dg dc_P_promote 56 rfl) rfl rfl rfl ?_
    refine js_iaload (f := (upd P_70.1 (ix a1) ((P_70.1 (ix a1)) - 1))) (n := 90) X (dg dc_P_promote 57 rfl) rfl rfl ?_
    refine js_iconst (n := 91) 1 X (dg dc_P_promote 58 rfl) rfl (by decide) ?_
    refine js_iadd (n := 92) X (dg dc_P_promote 59 rfl) rfl ?_
    refine js_iastore (f := (upd P_70.1 (ix a1) ((P_70.1 (ix a1)) - 1))) (n := 93) X (dg dc_P_promote 60 rfl) rfl rfl ?_
    refine js_aload_n (n := 94) X (dg dc_P_promote 61 rfl) rfl rfl rfl ?_
    refine js_callV (na := 0) (ci := 1) (n := 97) X (dg dc_P_promote 62 rfl) rfl (c_P_size_6 l Dv fu (h.1, ((upd (upd P_70.1 (ix a1) ((P_70.1 (ix a1)) - 1)) (ix 0) (((upd P_70.1 (ix a1) ((P_70.1 (ix a1)) - 1)) (ix 0)) + 1)), P_70.2), h.2.2) r out ((upd (upd P_70.1 (ix a1) ((P_70.1 (ix a1)) - 1)) (ix 0) (((upd P_70.1 (ix a1) ((P_70.1 (ix a1)) - 1)) (ix 0)) + 1)), P_70.2)) gV_P_31 rfl rfl hy_P_size ⟨(Nat.le_of_ble_eq_true rfl), (Nat.le_of_ble_eq_true rfl)⟩ rfl ⟨(Nat.le_of_ble_eq_true rfl), (Nat.le_of_ble_eq_true rfl)⟩ rfl rfl rfl rfl rfl ?_
    intro r94
    refine js_istore (lo' := [some (.ref 6), some (.int a1), some (.int r21), some (.int (P.1 (ix 0))), some (.int (P.2.1 (ix r21))), some (.int (P.2.2.1 (ix r21))), some (.int (P.2.2.2 (ix r21))), some (.int r94), none, none]) (n := 99) X (dg dc_P_promote 63 rfl) rfl (Nat.le_of_ble_eq_true rfl) rfl ?_
    refine js_iconst (n := 100) 0 X (dg dc_P_promote 64 rfl) rfl (by decide) ?_
    refine js_istore (lo' := [some (.ref 6), some (.int a1), some (.int r21), some (.int (P.1 (ix 0))), some (.int (P.2.1 (ix r21))), some (.int (P.2.2.1 (ix r21))), some (.int (P.2.2.2 (ix r21))), some (.int r94), some (.int 0), none]) (n := 102) X (dg dc_P_promote 65 rfl) rfl (Nat.le_of_ble_eq_true rfl) rfl ?_
    exact js_keep [true, false, true, true, false, false, false, true, true, false] (jl_P_promote_6_L102 l Dv fu h r out κ X fu ((upd (upd P_70.1 (ix a1) ((P_70.1 (ix a1)) - 1)) (ix 0) (((upd P_70.1 (ix a1) ((P_70.1 (ix a1)) - 1)) (ix 0)) + 1)), P_70.2) r21 (P.1 (ix 0)) r94 0)
  refine js_iconst (n := 18) 0 X (dg dc_P_promote 9 rfl) rfl (by decide) ?_
  exact js_retZ X (dg dc_P_promote 10 rfl) rfl (Nat.le_of_ble_eq_true rfl) (Nat.le_of_ble_eq_true rfl) rfl
set_option maxRecDepth 100000 in
set_option maxHeartbeats 4000000 in
theorem jl_P_isNeeded_6_L7 (l : Launch) (Dv : va_G) (fu : Nat) (h : S_H) (r : S_R) (out : Nat → Int64) (κ : ev_ka) (X : ev_X l Dv gaX mu_P_isNeeded κ) (P : S_P) : ∀ (n : Nat) (v1 : Int32) (v2 : Int32) (v3 : Int32), ev_J l Dv gaX mu_P_isNeeded κ 7 0 0 [some (.ref 6), some (.int v1), some (.int v2), some (.int v3)] [] (hpW (h.1, P, h.2.2) r out) (f_P_isNeeded_L7 fu P n v1 v2 v3) (fun q => (some (.int q), hpW (h.1, P, h.2.2) r out)) := by
  intro n
  induction n with
  | zero => exact fun _ _ _ => js_none
  | succ n ih =>
    intro v1 v2 v3
    unfold f_P_isNeeded_L7
    refine js_iload_n (n := 8) X (dg dc_P_isNeeded 5 rfl) rfl rfl rfl ?_
    refine js_iload_n (n := 9) X (dg dc_P_isNeeded 6 rfl) rfl rfl rfl ?_
    refine js_icmp_ge (t := 33) (n := 12) X (dg dc_P_isNeeded 7 rfl) (by decide) rfl ?_ ?_
    · refine js_iconst (n := 34) 0 X (dg dc_P_isNeeded 20 rfl) rfl (by decide) ?_
      exact js_retZ X (dg dc_P_isNeeded 21 rfl) rfl (Nat.le_of_ble_eq_true rfl) (Nat.le_of_ble_eq_true rfl) rfl
    refine js_aload_n (n := 13) X (dg dc_P_isNeeded 8 rfl) rfl rfl rfl ?_
    refine js_getf (j := 3) (v := .ref 10) (n := 16) X (dg dc_P_isNeeded 9 rfl) rfl hC_P (Nat.le_of_ble_eq_true rfl) hw_20 rfl rfl ?_
    refine js_iload_n (n := 17) X (dg dc_P_isNeeded 10 rfl) rfl rfl rfl ?_
    refine js_iaload (f := P.2.2.2) (n := 18) X (dg dc_P_isNeeded 11 rfl) rfl rfl ?_
    refine js_bipush (n := 20) 8 X (dg dc_P_isNeeded 12 rfl) rfl (by decide) ?_
    refine js_iload_n (n := 21) X (dg dc_P_isNeeded 13 rfl) rfl rfl rfl ?_
    refine js_iadd (n := 22) X (dg dc_P_isNeeded 14 rfl) rfl ?_
    refine js_icmp_ne (t := 27) (n := 25) X (dg dc_P_isNeeded 15 rfl) (by decide) rfl ?_ ?_
    · refine js_iinc (lo' := [some (.ref 6), some (.int v1), some (.int v2), some (.int (v3 + 1))]) (n := 30) 1 X (dg dc_P_isNeeded 18 rfl) rfl (by decide) (Nat.le_of_ble_eq_true rfl) rfl rfl ?_
      refine js_goto (t := 7) X (dg dc_P_isNeeded 19 rfl) (by decide) ?_
      exact js_keep [true, true, true, true] (ih v1 v2 (v3 + 1))
    refine js_iconst (n := 26) 1 X (dg dc_P_isNeeded 16 rfl) rfl (by decide) ?_
    exact js_retZ X (dg dc_P_isNeeded 17 rfl) rfl (Nat.le_of_ble_eq_true rfl) (Nat.le_of_ble_eq_true rfl) rfl
set_option maxRecDepth 100000 in
set_option maxHeartbeats 4000000 in
theorem c_P_isNeeded_6 (l : Launch) (Dv : va_G) (fu : Nat) (h : S_H) (r : S_R) (out : Nat → Int64) (P : S_P) (a1 : Int32) : ev_M l Dv gaX mu_P_isNeeded [.ref 6, .int a1] (hpW (h.1, P, h.2.2) r out) (f_P_isNeeded fu P a1) (fun q => (some (.int q), hpW (h.1, P, h.2.2) r out)) := by
  refine ev_met (lo0 := [some (.ref 6), some (.int a1), none, none]) rfl rfl rfl (fun κ X => ?_)
  unfold f_P_isNeeded
  refine js_aload_n (n := 1) X (dg dc_P_isNeeded 0 rfl) rfl rfl rfl ?_
  refine js_callV (na := 0) (ci := 1) (n := 4) X (dg dc_P_isNeeded 1 rfl) rfl (c_P_size_6 l Dv fu (h.1, P, h.2.2) r out P) gV_P_31 rfl rfl hy_P_size ⟨(Nat.le_of_ble_eq_true rfl), (Nat.le_of_ble_eq_true rfl)⟩ rfl ⟨(Nat.le_of_ble_eq_true rfl), (Nat.le_of_ble_eq_true rfl)⟩ rfl rfl rfl rfl rfl ?_
  intro r1
  refine js_istore_n (lo' := [some (.ref 6), some (.int a1), some (.int r1), none]) (n := 5) X (dg dc_P_isNeeded 2 rfl) rfl rfl (Nat.le_of_ble_eq_true rfl) rfl ?_
  refine js_iconst (n := 6) 0 X (dg dc_P_isNeeded 3 rfl) rfl (by decide) ?_
  refine js_istore_n (lo' := [some (.ref 6), some (.int a1), some (.int r1), some (.int 0)]) (n := 7) X (dg dc_P_isNeeded 4 rfl) rfl rfl (Nat.le_of_ble_eq_true rfl) rfl ?_
  exact js_keep [true, true, true, true] (jl_P_isNeeded_6_L7 l Dv fu h r out κ X P fu a1 r1 0)
set_option maxRecDepth 100000 in
set_option maxHeartbeats 4000000 in
theorem c_P_branchOf_6 (l : Launch) (Dv : va_G) (fu : Nat) (h : S_H) (r : S_R) (out : Nat → Int64) (P : S_P) (a1 : Int32) : ev_M l Dv gaX mu_P_branchOf [.ref 6, .int a1] (hpW (h.1, P, h.2.2) r out) (f_P_branchOf fu P a1) (fun q => (some (.int q), hpW (h.1, P, h.2.2) r out)) := by
  refine ev_met (lo0 := [some (.ref 6), some (.int a1)]) rfl rfl rfl (fun κ X => ?_)
  unfold f_P_branchOf
  refine js_iload_n (n := 1) X (dg dc_P_branchOf 0 rfl) rfl rfl rfl ?_
  refine js_aload_n (n := 2) X (dg dc_P_branchOf 1 rfl) rfl rfl rfl ?_
  refine js_iconst (n := 3) 1 X (dg dc_P_branchOf 2 rfl) rfl (by decide) ?_
  refine js_callV (na := 1) (ci := 1) (n := 6) X (dg dc_P_branchOf 3 rfl) rfl (c_P_start_6 l Dv fu (h.1, P, h.2.2) r out P 1) gV_P_24 rfl rfl hy_P_start ⟨(Nat.le_of_ble_eq_true rfl), (Nat.le_of_ble_eq_true rfl)⟩ rfl ⟨(Nat.le_of_ble_eq_true rfl), (Nat.le_of_ble_eq_true rfl)⟩ rfl rfl rfl rfl rfl ?_
  intro r3
  refine js_icmp_ge (t := 11) (n := 9) X (dg dc_P_branchOf 4 rfl) (by decide) rfl ?_ ?_
  · refine js_iload_n (n := 12) X (dg dc_P_branchOf 7 rfl) rfl rfl rfl ?_
    refine js_aload_n (n := 13) X (dg dc_P_branchOf 8 rfl) rfl rfl rfl ?_
    refine js_iconst (n := 14) 2 X (dg dc_P_branchOf 9 rfl) rfl (by decide) ?_
    refine js_callV (na := 1) (ci := 1) (n := 17) X (dg dc_P_branchOf 10 rfl) rfl (c_P_start_6 l Dv fu (h.1, P, h.2.2) r out P 2) gV_P_24 rfl rfl hy_P_start ⟨(Nat.le_of_ble_eq_true rfl), (Nat.le_of_ble_eq_true rfl)⟩ rfl ⟨(Nat.le_of_ble_eq_true rfl), (Nat.le_of_ble_eq_true rfl)⟩ rfl rfl rfl rfl rfl ?_
    intro r14
    refine js_icmp_ge (t := 24) (n := 20) X (dg dc_P_branchOf 11 rfl) (by decide) rfl ?_ ?_
    · refine js_iconst (n := 25) 2 X (dg dc_P_branchOf 14 rfl) rfl (by decide) ?_
      exact js_retI X (dg dc_P_branchOf 15 rfl) rfl (Nat.le_of_ble_eq_true rfl) (Nat.le_of_ble_eq_true rfl) rfl
    refine js_iconst (n := 21) 1 X (dg dc_P_branchOf 12 rfl) rfl (by decide) ?_
    refine js_goto (t := 25) X (dg dc_P_branchOf 13 rfl) (by decide) ?_
    exact js_retI X (dg dc_P_branchOf 15 rfl) rfl (Nat.le_of_ble_eq_true rfl) (Nat.le_of_ble_eq_true rfl) rfl
  refine js_iconst (n := 10) 0 X (dg dc_P_branchOf 5 rfl) rfl (by decide) ?_
  exact js_retI X (dg dc_P_branchOf 6 rfl) rfl (Nat.le_of_ble_eq_true rfl) (Nat.le_of_ble_eq_true rfl) rfl
set_option maxRecDepth 100000 in
set_option maxHeartbeats 4000000 in
theorem jl_P_remove_6_L78 (l : Launch) (Dv : va_G) (fu : Nat) (h : S_H) (r : S_R) (out : Nat → Int64) (κ : ev_ka) (X : ev_X l Dv gaX mu_P_remove κ) (P : S_P) (v1 : Int32) : ev_J l Dv gaX mu_P_remove κ 78 0 0 [some (.ref 6), some (.int v1), none, none] [] (hpW (h.1, P, h.2.2) r out) (f_P_remove_L78 fu P v1) (fun q => (some (.int q.1), hpW (h.1, q.2, h.2.2) r out)) := by
  unfold f_P_remove_L78
  refine js_aload_n (n := 79) X (dg dc_P_remove 50 rfl) rfl rfl rfl ?_
  refine js_iload_n (n := 80) X (dg dc_P_remove 51 rfl) rfl rfl rfl ?_
  refine js_iconst (n := 81) 1 X (dg dc_P_remove 52 rfl) rfl (by decide) ?_
  refine js_iadd (n := 82) X (dg dc_P_remove 53 rfl) rfl ?_
  refine js_iconst (n := 83) (-1) X (dg dc_P_remove 54 rfl) rfl (by decide) ?_
  refine js_callV (na := 2) (ci := 1) (n := 86) X (dg dc_P_remove 55 rfl) rfl (c_P_renumber_6 l Dv fu (h.1, P, h.2.2) r out P (v1 + 1) (-1)) gV_P_45 rfl rfl hy_P_renumber ⟨(Nat.le_of_ble_eq_true rfl), (Nat.le_of_ble_eq_true rfl)⟩ rfl ⟨(Nat.le_of_ble_eq_true rfl), (Nat.le_of_ble_eq_true rfl)⟩ rfl rfl rfl rfl rfl ?_
  intro P_83
  refine js_iconst (n := 87) 1 X (dg dc_P_remove 56 rfl) rfl (by decide) ?_
  exact js_retZ X (dg dc_P_remove 57 rfl) rfl (Nat.le_of_ble_eq_true rfl) (Nat.le_of_ble_eq_true rfl) rfl
set_option maxRecDepth 100000 in
set_option maxHeartbeats 4000000 in
theorem jl_P_remove_6_L42 (l : Launch) (Dv : va_G) (fu : Nat) (h : S_H) (r : S_R) (out : Nat → Int64) (κ : ev_ka) (X : ev_X l Dv gaX mu_P_remove κ) : ∀ (n : Nat) (P : S_P) (v1 : Int32) (v2 : Int32) (v3 : Int32), ev_J l Dv gaX mu_P_remove κ 42 0 0 [some (.ref 6), some (.int v1), some (.int v2), some (.int v3)] [] (hpW (h.1, P, h.2.2) r out) (f_P_remove_L42 fu n P v1 v2 v3) (fun q => (some (.int q.1), hpW (h.1, q.2, h.2.2) r out)) := by
  intro n
  induction n with
  | zero => exact fun _ _ _ _ => js_none
  | succ n ih =>
    intro P v1 v2 v3
    unfold f_P_remove_L42
    refine js_iload_n (n := 43) X (dg dc_P_remove 28 rfl) rfl rfl rfl ?_
    refine js_iload_n (n := 44) X (dg dc_P_remove 29 rfl) rfl rfl rfl ?_
    refine js_icmp_ge (t := 78) (n := 47) X (dg dc_P_remove 30 rfl) (by decide) rfl ?_ ?_
    · exact js_keep [true, true, false, false] (jl_P_remove_6_L78 l Dv fu h r out κ X P v1)
    refine js_aload_n (n := 48) X (dg dc_P_remove 31 rfl) rfl rfl rfl ?_
    refine js_iload_n (n := 49) X (dg dc_P_remove 32 rfl) rfl rfl rfl ?_
    refine js_iconst (n := 50) 1 X (dg dc_P_remove 33 rfl) rfl (by decide) ?_
    refine js_isub (n := 51) X (dg dc_P_remove 34 rfl) rfl ?_
    refine js_aload_n (n := 52) X (dg dc_P_remove 35 rfl) rfl rfl rfl ?_
    refine js_getf (j := 1) (v := .ref 8) (n := 55) X (dg dc_P_remove 36 rfl) rfl hC_P (Nat.le_of_ble_eq_true rfl) hw_14 rfl rfl ?_
    refine js_iload_n (n := 56) X (dg dc_P_remove 37 rfl) rfl rfl rfl ?_
    refine js_iaload (f := P.2.1) (n := 57) X (dg dc_P_remove 38 rfl) rfl rfl ?_
    refine js_aload_n (n := 58) X (dg dc_P_remove 39 rfl) rfl rfl rfl ?_
    refine js_getf (j := 2) (v := .ref 9) (n := 61) X (dg dc_P_remove 40 rfl) rfl hC_P (Nat.le_of_ble_eq_true rfl) hw_19 rfl rfl ?_
    refine js_iload_n (n := 62) X (dg dc_P_remove 41 rfl) rfl rfl rfl ?_
    refine js_iaload (f := P.2.2.1) (n := 63) X (dg dc_P_remove 42 rfl) rfl rfl ?_
    refine js_aload_n (n := 64) X (dg dc_P_remove 43 rfl) rfl rfl rfl ?_
    refine js_getf (j := 3) (v := .ref 10) (n := 67) X (dg dc_P_remove 44 rfl) rfl hC_P (Nat.le_of_ble_eq_true rfl) hw_20 rfl rfl ?_
    refine js_iload_n (n := 68) X (dg dc_P_remove 45 rfl) rfl rfl rfl ?_
    refine js_iaload (f := P.2.2.2) (n := 69) X (dg dc_P_remove 46 rfl) rfl rfl ?_
    refine js_callV (na := 4) (ci := 1) (n := 72) X (dg dc_P_remove 47 rfl) rfl (c_P_put_6 l Dv fu (h.1, P, h.2.2) r out P (v3 - 1) (P.2.1 (ix v3)) (P.2.2.1 (ix v3)) (P.2.2.2 (ix v3))) gV_P_48 rfl rfl hy_P_put ⟨(Nat.le_of_ble_eq_true rfl), (Nat.le_of_ble_eq_true rfl)⟩ rfl ⟨(Nat.le_of_ble_eq_true rfl), (Nat.le_of_ble_eq_true rfl)⟩ rfl rfl rfl rfl rfl ?_
    intro P_69
    refine js_iinc (lo' := [some (.ref 6), some (.int v1), some (.int v2), some (.int (v3 + 1))]) (n := 75) 1 X (dg dc_P_remove 48 rfl) rfl (by decide) (Nat.le_of_ble_eq_true rfl) rfl rfl ?_
    refine js_goto (t := 42) X (dg dc_P_remove 49 rfl) (by decide) ?_
    exact js_keep [true, true, true, true] (ih P_69 v1 v2 (v3 + 1))
set_option maxRecDepth 100000 in
set_option maxHeartbeats 4000000 in
theorem c_P_remove_6 (l : Launch) (Dv : va_G) (fu : Nat) (h : S_H) (r : S_R) (out : Nat → Int64) (P : S_P) (a1 : Int32) : ev_M l Dv gaX mu_P_remove [.ref 6, .int a1] (hpW (h.1, P, h.2.2) r out) (f_P_remove fu P a1) (fun q => (some (.int q.1), hpW (h.1, q.2, h.2.2) r out)) := by
  refine ev_met (lo0 := [some (.ref 6), some (.int a1), none, none]) rfl rfl rfl (fun κ X => ?_)
  unfold f_P_remove
  refine js_aload_n (n := 1) X (dg dc_P_remove 0 rfl) rfl rfl rfl ?_
  refine js_callV (na := 0) (ci := 1) (n := 4) X (dg dc_P_remove 1 rfl) rfl (c_P_size_6 l Dv fu (h.1, P, h.2.2) r out P) gV_P_31 rfl rfl hy_P_size ⟨(Nat.le_of_ble_eq_true rfl), (Nat.le_of_ble_eq_true rfl)⟩ rfl ⟨(Nat.le_of_ble_eq_true rfl), (Nat.le_of_ble_eq_true rfl)⟩ rfl rfl rfl rfl rfl ?_
  intro r1
  refine js_istore_n (lo' := [some (.ref 6), some (.int a1), some (.int r1), none]) (n := 5) X (dg dc_P_remove 2 rfl) rfl rfl (Nat.le_of_ble_eq_true rfl) rfl ?_
  refine js_iload_n (n := 6) X (dg dc_P_remove 3 rfl) rfl rfl rfl ?_
  refine js_if_lt (t := 22) (n := 9) X (dg dc_P_remove 4 rfl) (by decide) rfl ?_ ?_
  · refine js_iconst (n := 23) 0 X (dg dc_P_remove 12 rfl) rfl (by decide) ?_
    exact js_retZ X (dg dc_P_remove 13 rfl) rfl (Nat.le_of_ble_eq_true rfl) (Nat.le_of_ble_eq_true rfl) rfl
  refine js_iload_n (n := 10) X (dg dc_P_remove 5 rfl) rfl rfl rfl ?_
  refine js_iload_n (n := 11) X (dg dc_P_remove 6 rfl) rfl rfl rfl ?_
  refine js_icmp_ge (t := 22) (n := 14) X (dg dc_P_remove 7 rfl) (by decide) rfl ?_ ?_
  · refine js_iconst (n := 23) 0 X (dg dc_P_remove 12 rfl) rfl (by decide) ?_
    exact js_retZ X (dg dc_P_remove 13 rfl) rfl (Nat.le_of_ble_eq_true rfl) (Nat.le_of_ble_eq_true rfl) rfl
  refine js_aload_n (n := 15) X (dg dc_P_remove 8 rfl) rfl rfl rfl ?_
  refine js_iload_n (n := 16) X (dg dc_P_remove 9 rfl) rfl rfl rfl ?_
  refine js_callV (na := 1) (ci := 1) (n := 19) X (dg dc_P_remove 10 rfl) rfl (c_P_isNeeded_6 l Dv fu (h.1, P, h.2.2) r out P a1) gV_P_52 rfl rfl hy_P_isNeeded ⟨(Nat.le_of_ble_eq_true rfl), (Nat.le_of_ble_eq_true rfl)⟩ rfl ⟨(Nat.le_of_ble_eq_true rfl), (Nat.le_of_ble_eq_true rfl)⟩ rfl rfl rfl rfl rfl ?_
  intro r16
  refine js_if_eq (t := 24) (n := 22) X (dg dc_P_remove 11 rfl) (by decide) rfl ?_ ?_
  · refine js_aload_n (n := 25) X (dg dc_P_remove 14 rfl) rfl rfl rfl ?_
    refine js_getf (j := 0) (v := .ref 7) (n := 28) X (dg dc_P_remove 15 rfl) rfl hC_P (Nat.le_of_ble_eq_true rfl) hw_1 rfl rfl ?_
    refine js_aload_n (n := 29) X (dg dc_P_remove 16 rfl) rfl rfl rfl ?_
    refine js_iload_n (n := 30) X (dg dc_P_remove 17 rfl) rfl rfl rfl ?_
    refine js_callV (na := 1) (ci := 1) (n := 33) X (dg dc_P_remove 18 rfl) rfl (c_P_branchOf_6 l Dv fu (h.1, P, h.2.2) r out P a1) gV_P_56 rfl rfl hy_P_branchOf ⟨(Nat.le_of_ble_eq_true rfl), (Nat.le_of_ble_eq_true rfl)⟩ rfl ⟨(Nat.le_of_ble_eq_true rfl), (Nat.le_of_ble_eq_true rfl)⟩ rfl rfl rfl rfl rfl ?_
    intro r30
    refine js_dup2 (n := 34) X (dg dc_P_remove 19 rfl) rfl rfl rfl ?_
    refine js_iaload (f := P.1) (n := 35) X (dg dc_P_remove 20 rfl) rfl rfl ?_
    refine js_iconst (n := 36) 1 X (dg dc_P_remove 21 rfl) rfl (by decide) ?_
    refine js_isub (n := 37) X (dg dc_P_remove 22 rfl) rfl ?_
    refine js_iastore (f := P.1) (n := 38) X (dg dc_P_remove 23 rfl) rfl rfl ?_
    refine js_iload_n (n := 39) X (dg dc_P_remove 24 rfl) rfl rfl rfl ?_
    refine js_iconst (n := 40) 1 X (dg dc_P_remove 25 rfl) rfl (by decide) ?_
    refine js_iadd (n := 41) X (dg dc_P_remove 26 rfl) rfl ?_
    refine js_istore_n (lo' := [some (.ref 6), some (.int a1), some (.int r1), some (.int (a1 + 1))]) (n := 42) X (dg dc_P_remove 27 rfl) rfl rfl (Nat.le_of_ble_eq_true rfl) rfl ?_
    exact js_keep [true, true, true, true] (jl_P_remove_6_L42 l Dv fu h r out κ X fu ((upd P.1 (ix r30) ((P.1 (ix r30)) - 1)), P.2) a1 r1 (a1 + 1))
  refine js_iconst (n := 23) 0 X (dg dc_P_remove 12 rfl) rfl (by decide) ?_
  exact js_retZ X (dg dc_P_remove 13 rfl) rfl (Nat.le_of_ble_eq_true rfl) (Nat.le_of_ble_eq_true rfl) rfl
set_option maxRecDepth 100000 in
set_option maxHeartbeats 4000000 in
theorem c_H_prepareCandidate_0 (l : Launch) (Dv : va_G) (fu : Nat) (r : S_R) (out : Nat → Int64) (H : S_H) (a1 : Int32) : ev_M l Dv gaX mu_H_prepareCandidate [.ref 0, .int a1] (hpW H r out) (f_H_prepareCandidate fu H a1) (fun q => (some (.int q.1), hpW q.2 r out)) := by
  refine ev_met (lo0 := [some (.ref 0), some (.int a1), none]) rfl rfl rfl (fun κ X => ?_)
  unfold f_H_prepareCandidate
  refine js_aload_n (n := 1) X (dg dc_H_prepareCandidate 0 rfl) rfl rfl rfl ?_
  refine js_getf (j := 1) (v := .ref 6) (n := 4) X (dg dc_H_prepareCandidate 1 rfl) rfl hC_H (Nat.le_of_ble_eq_true rfl) hw_12 rfl rfl ?_
  refine js_aload_n (n := 5) X (dg dc_H_prepareCandidate 2 rfl) rfl rfl rfl ?_
  refine js_getf (j := 0) (v := .ref 1) (n := 8) X (dg dc_H_prepareCandidate 3 rfl) rfl hC_H (Nat.le_of_ble_eq_true rfl) hw_0 rfl rfl ?_
  refine js_callV (na := 1) (ci := 1) (n := 11) X (dg dc_H_prepareCandidate 4 rfl) rfl (c_P_copyFrom_6_1 l Dv fu H r out H.2.1 H.1) gV_H_125 rfl rfl hy_P_copyFrom ⟨(Nat.le_of_ble_eq_true rfl), (Nat.le_of_ble_eq_true rfl)⟩ rfl ⟨(Nat.le_of_ble_eq_true rfl), (Nat.le_of_ble_eq_true rfl)⟩ rfl rfl rfl rfl rfl ?_
  intro P_8
  refine js_iload_n (n := 12) X (dg dc_H_prepareCandidate 5 rfl) rfl rfl rfl ?_
  refine js_bipush (n := 14) 14 X (dg dc_H_prepareCandidate 6 rfl) rfl (by decide) ?_
  refine js_icmp_ge (t := 36) (n := 17) X (dg dc_H_prepareCandidate 7 rfl) (by decide) rfl ?_ ?_
  · refine js_iload_n (n := 37) X (dg dc_H_prepareCandidate 19 rfl) rfl rfl rfl ?_
    refine js_bipush (n := 39) 16 X (dg dc_H_prepareCandidate 20 rfl) rfl (by decide) ?_
    refine js_icmp_ge (t := 56) (n := 42) X (dg dc_H_prepareCandidate 21 rfl) (by decide) rfl ?_ ?_
    · refine js_iload_n (n := 57) X (dg dc_H_prepareCandidate 31 rfl) rfl rfl rfl ?_
      refine js_bipush (n := 59) 14 X (dg dc_H_prepareCandidate 32 rfl) rfl (by decide) ?_
      refine js_isub (n := 60) X (dg dc_H_prepareCandidate 33 rfl) rfl ?_
      refine js_iconst (n := 61) 2 X (dg dc_H_prepareCandidate 34 rfl) rfl (by decide) ?_
      refine js_isub (n := 62) X (dg dc_H_prepareCandidate 35 rfl) rfl ?_
      refine js_istore_n (lo' := [some (.ref 0), some (.int a1), some (.int ((a1 - 14) - 2))]) (n := 63) X (dg dc_H_prepareCandidate 36 rfl) rfl rfl (Nat.le_of_ble_eq_true rfl) rfl ?_
      refine js_aload_n (n := 64) X (dg dc_H_prepareCandidate 37 rfl) rfl rfl rfl ?_
      refine js_getf (j := 1) (v := .ref 6) (n := 67) X (dg dc_H_prepareCandidate 38 rfl) rfl hC_H (Nat.le_of_ble_eq_true rfl) hw_12 rfl rfl ?_
      refine js_iload_n (n := 68) X (dg dc_H_prepareCandidate 39 rfl) rfl rfl rfl ?_
      refine js_iconst (n := 69) 2 X (dg dc_H_prepareCandidate 40 rfl) rfl (by decide) ?_
      refine js_idiv (n := 70) X (dg dc_H_prepareCandidate 41 rfl) rfl ?_
      refine js_iload_n (n := 71) X (dg dc_H_prepareCandidate 42 rfl) rfl rfl rfl ?_
      refine js_iconst (n := 72) 2 X (dg dc_H_prepareCandidate 43 rfl) rfl (by decide) ?_
      refine js_irem (n := 73) X (dg dc_H_prepareCandidate 44 rfl) rfl ?_
      refine js_iconst (n := 74) 1 X (dg dc_H_prepareCandidate 45 rfl) rfl (by decide) ?_
      refine js_icmp_ne (t := 81) (n := 77) X (dg dc_H_prepareCandidate 46 rfl) (by decide) rfl ?_ ?_
      · refine js_iconst (n := 82) 0 X (dg dc_H_prepareCandidate 49 rfl) rfl (by decide) ?_
        refine js_callV (na := 2) (ci := 1) (n := 85) X (dg dc_H_prepareCandidate 50 rfl) rfl (c_P_lower_6 l Dv fu (H.1, P_8, H.2.2) r out P_8 (((a1 - 14) - 2) / 2) 0) gV_H_234 rfl rfl hy_P_lower ⟨(Nat.le_of_ble_eq_true rfl), (Nat.le_of_ble_eq_true rfl)⟩ rfl ⟨(Nat.le_of_ble_eq_true rfl), (Nat.le_of_ble_eq_true rfl)⟩ rfl rfl rfl rfl rfl ?_
        rintro ⟨r82, P_82⟩
        exact js_retZ X (dg dc_H_prepareCandidate 51 rfl) rfl (Nat.le_of_ble_eq_true rfl) (Nat.le_of_ble_eq_true rfl) rfl
      refine js_iconst (n := 78) 1 X (dg dc_H_prepareCandidate 47 rfl) rfl (by decide) ?_
      refine js_goto (t := 82) X (dg dc_H_prepareCandidate 48 rfl) (by decide) ?_
      refine js_callV (na := 2) (ci := 1) (n := 85) X (dg dc_H_prepareCandidate 50 rfl) rfl (c_P_lower_6 l Dv fu (H.1, P_8, H.2.2) r out P_8 (((a1 - 14) - 2) / 2) 1) gV_H_234 rfl rfl hy_P_lower ⟨(Nat.le_of_ble_eq_true rfl), (Nat.le_of_ble_eq_true rfl)⟩ rfl ⟨(Nat.le_of_ble_eq_true rfl), (Nat.le_of_ble_eq_true rfl)⟩ rfl rfl rfl rfl rfl ?_
      rintro ⟨r82, P_82⟩
      exact js_retZ X (dg dc_H_prepareCandidate 51 rfl) rfl (Nat.le_of_ble_eq_true rfl) (Nat.le_of_ble_eq_true rfl) rfl
    refine js_aload_n (n := 43) X (dg dc_H_prepareCandidate 22 rfl) rfl rfl rfl ?_
    refine js_getf (j := 1) (v := .ref 6) (n := 46) X (dg dc_H_prepareCandidate 23 rfl) rfl hC_H (Nat.le_of_ble_eq_true rfl) hw_12 rfl rfl ?_
    refine js_iload_n (n := 47) X (dg dc_H_prepareCandidate 24 rfl) rfl rfl rfl ?_
    refine js_bipush (n := 49) 14 X (dg dc_H_prepareCandidate 25 rfl) rfl (by decide) ?_
    refine js_isub (n := 50) X (dg dc_H_prepareCandidate 26 rfl) rfl ?_
    refine js_iconst (n := 51) 1 X (dg dc_H_prepareCandidate 27 rfl) rfl (by decide) ?_
    refine js_iadd (n := 52) X (dg dc_H_prepareCandidate 28 rfl) rfl ?_
    refine js_callV (na := 1) (ci := 1) (n := 55) X (dg dc_H_prepareCandidate 29 rfl) rfl (c_P_promote_6 l Dv fu (H.1, P_8, H.2.2) r out P_8 ((a1 - 14) + 1)) gV_H_231 rfl rfl hy_P_promote ⟨(Nat.le_of_ble_eq_true rfl), (Nat.le_of_ble_eq_true rfl)⟩ rfl ⟨(Nat.le_of_ble_eq_true rfl), (Nat.le_of_ble_eq_true rfl)⟩ rfl rfl rfl rfl rfl ?_
    rintro ⟨r52, P_52⟩
    exact js_retZ X (dg dc_H_prepareCandidate 30 rfl) rfl (Nat.le_of_ble_eq_true rfl) (Nat.le_of_ble_eq_true rfl) rfl
  refine js_aload_n (n := 18) X (dg dc_H_prepareCandidate 8 rfl) rfl rfl rfl ?_
  refine js_getf (j := 1) (v := .ref 6) (n := 21) X (dg dc_H_prepareCandidate 9 rfl) rfl hC_H (Nat.le_of_ble_eq_true rfl) hw_12 rfl rfl ?_
  refine js_aload_n (n := 22) X (dg dc_H_prepareCandidate 10 rfl) rfl rfl rfl ?_
  refine js_getf (j := 0) (v := .ref 1) (n := 25) X (dg dc_H_prepareCandidate 11 rfl) rfl hC_H (Nat.le_of_ble_eq_true rfl) hw_0 rfl rfl ?_
  refine js_callV (na := 0) (ci := 1) (n := 28) X (dg dc_H_prepareCandidate 12 rfl) rfl (c_P_size_1 l Dv fu (H.1, P_8, H.2.2) r out H.1) gV_H_79 rfl rfl hy_P_size ⟨(Nat.le_of_ble_eq_true rfl), (Nat.le_of_ble_eq_true rfl)⟩ rfl ⟨(Nat.le_of_ble_eq_true rfl), (Nat.le_of_ble_eq_true rfl)⟩ rfl rfl rfl rfl rfl ?_
  intro r25
  refine js_iconst (n := 29) 1 X (dg dc_H_prepareCandidate 13 rfl) rfl (by decide) ?_
  refine js_isub (n := 30) X (dg dc_H_prepareCandidate 14 rfl) rfl ?_
  refine js_iload_n (n := 31) X (dg dc_H_prepareCandidate 15 rfl) rfl rfl rfl ?_
  refine js_isub (n := 32) X (dg dc_H_prepareCandidate 16 rfl) rfl ?_
  refine js_callV (na := 1) (ci := 1) (n := 35) X (dg dc_H_prepareCandidate 17 rfl) rfl (c_P_remove_6 l Dv fu (H.1, P_8, H.2.2) r out P_8 ((r25 - 1) - a1)) gV_H_228 rfl rfl hy_P_remove ⟨(Nat.le_of_ble_eq_true rfl), (Nat.le_of_ble_eq_true rfl)⟩ rfl ⟨(Nat.le_of_ble_eq_true rfl), (Nat.le_of_ble_eq_true rfl)⟩ rfl rfl rfl rfl rfl ?_
  rintro ⟨r32, P_32⟩
  exact js_retZ X (dg dc_H_prepareCandidate 18 rfl) rfl (Nat.le_of_ble_eq_true rfl) (Nat.le_of_ble_eq_true rfl) rfl
