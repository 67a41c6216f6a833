set_option maxRecDepth 100000 in
set_option maxHeartbeats 4000000 in
theorem c_H_command_0 (l : Launch) (hst : l.stackTraces = false) (Dv : va_G) (fu : Nat) (r : S_R) (out : Nat → Int64) (H : S_H) (a1 : Int32) (a2 : Int32) : ev_MX l Dv gaX deX mu_H_command [.ref 0, .int a1, .int a2] (hpW H r out) (f_H_command fu H a1 a2) (fun q => (ev_sv q, hpW H r out)) := by
  refine ev_metX (lo0 := [some (.ref 0), some (.int a1), some (.int a2)]) hst rfl rfl rfl (fun κ X T => ?_)
  unfold f_H_command
  refine js_iload_n (n := 1) X (dg dc_H_command 0 rfl) rfl rfl rfl ?_
  refine js_aload_n (n := 2) X (dg dc_H_command 1 rfl) rfl rfl rfl ?_
  refine js_getf (j := 0) (v := .ref 1) (n := 5) X (dg dc_H_command 2 rfl) rfl hC_H (Nat.le_of_ble_eq_true rfl) hw_0 rfl rfl ?_
  refine js_callV (na := 0) (ci := 1) (n := 8) X (dg dc_H_command 3 rfl) rfl (c_P_size_1 l Dv fu H r out H.1) gV_H_79 rfl rfl hy_P_size ⟨(Nat.le_of_ble_eq_true rfl), (Nat.le_of_ble_eq_true rfl)⟩ rfl ⟨(Nat.le_of_ble_eq_true rfl), (Nat.le_of_ble_eq_true rfl)⟩ rfl rfl rfl rfl rfl ?_
  intro r5
  refine js_callS (na := 2) (n := 11) X (dg dc_H_command 4 rfl) rfl (c_H_isBelow l Dv fu _ a1 r5) gS_H_41 rfl rfl hy_H_isBelow.2 ⟨(Nat.le_of_ble_eq_true rfl), (Nat.le_of_ble_eq_true rfl)⟩ ⟨(Nat.le_of_ble_eq_true rfl), (Nat.le_of_ble_eq_true rfl)⟩ rfl rfl rfl rfl ?_
  intro r8
  refine js_if_eq (t := 22) (n := 14) X (dg dc_H_command 5 rfl) (by decide) rfl ?_ ?_
  · exact js_throwS (n9 := 4) X T rfl (by decide +kernel) hnmX hw_431 hw_432 (hstr_131) hat_133 hgood_129_133 (dg dc_H_command 10 rfl) (dg dc_H_command 11 rfl) (dg dc_H_command 12 rfl) (dg dc_H_command 13 rfl) (dg dc_H_command 14 rfl) (Nat.le_of_ble_eq_true rfl) (Nat.le_of_ble_eq_true rfl) (Nat.le_of_ble_eq_true rfl) (Nat.le_of_ble_eq_true rfl) (Nat.le_of_ble_eq_true rfl) (Nat.le_of_ble_eq_true rfl) rfl
  refine js_iload_n (n := 15) X (dg dc_H_command 6 rfl) rfl rfl rfl ?_
  refine js_iconst (n := 16) 4 X (dg dc_H_command 7 rfl) rfl (by decide) ?_
  refine js_callS (na := 2) (n := 19) X (dg dc_H_command 8 rfl) rfl (c_H_isBelow l Dv fu _ a2 4) gS_H_41 rfl rfl hy_H_isBelow.2 ⟨(Nat.le_of_ble_eq_true rfl), (Nat.le_of_ble_eq_true rfl)⟩ ⟨(Nat.le_of_ble_eq_true rfl), (Nat.le_of_ble_eq_true rfl)⟩ rfl rfl rfl rfl ?_
  intro r16
  refine js_if_ne (t := 32) (n := 22) X (dg dc_H_command 9 rfl) (by decide) rfl ?_ ?_
  · refine js_iload_n (n := 33) X (dg dc_H_command 15 rfl) rfl rfl rfl ?_
    refine js_tsw X (dg dc_H_command 16 rfl) (by decide) ?_
    refine js_sw1 60 (by decide) (by decide) ?_ ?_
    · refine js_aload_n (n := 61) X (dg dc_H_command 17 rfl) rfl rfl rfl ?_
      refine js_getf (j := 0) (v := .ref 1) (n := 64) X (dg dc_H_command 18 rfl) rfl hC_H (Nat.le_of_ble_eq_true rfl) hw_0 rfl rfl ?_
      refine js_iload_n (n := 65) X (dg dc_H_command 19 rfl) rfl rfl rfl ?_
      refine js_callV (na := 1) (ci := 1) (n := 68) X (dg dc_H_command 20 rfl) rfl (c_P_branchOf_1 l Dv fu H r out H.1 a1) gV_H_134 rfl rfl hy_P_branchOf ⟨(Nat.le_of_ble_eq_true rfl), (Nat.le_of_ble_eq_true rfl)⟩ rfl ⟨(Nat.le_of_ble_eq_true rfl), (Nat.le_of_ble_eq_true rfl)⟩ rfl rfl rfl rfl rfl ?_
      intro r65
      exact js_retI X (dg dc_H_command 21 rfl) rfl (Nat.le_of_ble_eq_true rfl) (Nat.le_of_ble_eq_true rfl) rfl
    refine js_sw1 69 (by decide) (by decide) ?_ ?_
    · refine js_aload_n (n := 70) X (dg dc_H_command 22 rfl) rfl rfl rfl ?_
      refine js_getf (j := 0) (v := .ref 1) (n := 73) X (dg dc_H_command 23 rfl) rfl hC_H (Nat.le_of_ble_eq_true rfl) hw_0 rfl rfl ?_
      refine js_getf (j := 1) (v := .ref 3) (n := 76) X (dg dc_H_command 24 rfl) rfl hC_P (Nat.le_of_ble_eq_true rfl) hw_434 rfl rfl ?_
      refine js_iload_n (n := 77) X (dg dc_H_command 25 rfl) rfl rfl rfl ?_
      refine js_iaload (f := H.1.2.1) (n := 78) X (dg dc_H_command 26 rfl) rfl rfl ?_
      exact js_retI X (dg dc_H_command 27 rfl) rfl (Nat.le_of_ble_eq_true rfl) (Nat.le_of_ble_eq_true rfl) rfl
    refine js_sw1 79 (by decide) (by decide) ?_ ?_
    · refine js_aload_n (n := 80) X (dg dc_H_command 28 rfl) rfl rfl rfl ?_
      refine js_getf (j := 0) (v := .ref 1) (n := 83) X (dg dc_H_command 29 rfl) rfl hC_H (Nat.le_of_ble_eq_true rfl) hw_0 rfl rfl ?_
      refine js_getf (j := 2) (v := .ref 4) (n := 86) X (dg dc_H_command 30 rfl) rfl hC_P (Nat.le_of_ble_eq_true rfl) hw_435 rfl rfl ?_
      refine js_iload_n (n := 87) X (dg dc_H_command 31 rfl) rfl rfl rfl ?_
      refine js_iaload (f := H.1.2.2.1) (n := 88) X (dg dc_H_command 32 rfl) rfl rfl ?_
      exact js_retI X (dg dc_H_command 33 rfl) rfl (Nat.le_of_ble_eq_true rfl) (Nat.le_of_ble_eq_true rfl) rfl
    refine js_sw0 89 (by decide) ?_
    refine js_aload_n (n := 90) X (dg dc_H_command 34 rfl) rfl rfl rfl ?_
    refine js_getf (j := 0) (v := .ref 1) (n := 93) X (dg dc_H_command 35 rfl) rfl hC_H (Nat.le_of_ble_eq_true rfl) hw_0 rfl rfl ?_
    refine js_getf (j := 3) (v := .ref 5) (n := 96) X (dg dc_H_command 36 rfl) rfl hC_P (Nat.le_of_ble_eq_true rfl) hw_436 rfl rfl ?_
    refine js_iload_n (n := 97) X (dg dc_H_command 37 rfl) rfl rfl rfl ?_
    refine js_iaload (f := H.1.2.2.2) (n := 98) X (dg dc_H_command 38 rfl) rfl rfl ?_
    exact js_retI X (dg dc_H_command 39 rfl) rfl (Nat.le_of_ble_eq_true rfl) (Nat.le_of_ble_eq_true rfl) rfl
  exact js_throwS (n9 := 4) X T rfl (by decide +kernel) hnmX hw_431 hw_432 (hstr_131) hat_133 hgood_129_133 (dg dc_H_command 10 rfl) (dg dc_H_command 11 rfl) (dg dc_H_command 12 rfl) (dg dc_H_command 13 rfl) (dg dc_H_command 14 rfl) (Nat.le_of_ble_eq_true rfl) (Nat.le_of_ble_eq_true rfl) (Nat.le_of_ble_eq_true rfl) (Nat.le_of_ble_eq_true rfl) (Nat.le_of_ble_eq_true rfl) (Nat.le_of_ble_eq_true rfl) rfl
set_option maxRecDepth 100000 in
set_option maxHeartbeats 4000000 in
theorem c_H_event_0 (l : Launch) (hst : l.stackTraces = false) (Dv : va_G) (fu : Nat) (r : S_R) (out : Nat → Int64) (H : S_H) (a1 : Int32) (a2 : Int32) : ev_MX l Dv gaX deX mu_H_event [.ref 0, .int a1, .int a2] (hpW H r out) (f_H_event fu H a1 a2) (fun q => (ev_sv q, hpW H r out)) := by
  refine ev_metX (lo0 := [some (.ref 0), some (.int a1), some (.int a2), none]) hst rfl rfl rfl (fun κ X T => ?_)
  unfold f_H_event
  refine js_iload_n (n := 1) X (dg dc_H_event 0 rfl) rfl rfl rfl ?_
  refine js_aload_n (n := 2) X (dg dc_H_event 1 rfl) rfl rfl rfl ?_
  refine js_getf (j := 0) (v := .ref 1) (n := 5) X (dg dc_H_event 2 rfl) rfl hC_H (Nat.le_of_ble_eq_true rfl) hw_0 rfl rfl ?_
  refine js_callV (na := 0) (ci := 1) (n := 8) X (dg dc_H_event 3 rfl) rfl (c_P_size_1 l Dv fu H r out H.1) gV_H_79 rfl rfl hy_P_size ⟨(Nat.le_of_ble_eq_true rfl), (Nat.le_of_ble_eq_true rfl)⟩ rfl ⟨(Nat.le_of_ble_eq_true rfl), (Nat.le_of_ble_eq_true rfl)⟩ rfl rfl rfl rfl rfl ?_
  intro r5
  refine js_callS (na := 2) (n := 11) X (dg dc_H_event 4 rfl) rfl (c_H_isBelow l Dv fu _ a1 r5) gS_H_41 rfl rfl hy_H_isBelow.2 ⟨(Nat.le_of_ble_eq_true rfl), (Nat.le_of_ble_eq_true rfl)⟩ ⟨(Nat.le_of_ble_eq_true rfl), (Nat.le_of_ble_eq_true rfl)⟩ rfl rfl rfl rfl ?_
  intro r8
  refine js_if_eq (t := 22) (n := 14) X (dg dc_H_event 5 rfl) (by decide) rfl ?_ ?_
  · exact js_throwS (n9 := 4) X T rfl (by decide +kernel) hnmX hw_431 hw_432 (hstr_147) hat_133 hgood_129_133 (dg dc_H_event 10 rfl) (dg dc_H_event 11 rfl) (dg dc_H_event 12 rfl) (dg dc_H_event 13 rfl) (dg dc_H_event 14 rfl) (Nat.le_of_ble_eq_true rfl) (Nat.le_of_ble_eq_true rfl) (Nat.le_of_ble_eq_true rfl) (Nat.le_of_ble_eq_true rfl) (Nat.le_of_ble_eq_true rfl) (Nat.le_of_ble_eq_true rfl) rfl
  refine js_iload_n (n := 15) X (dg dc_H_event 6 rfl) rfl rfl rfl ?_
  refine js_iconst (n := 16) 4 X (dg dc_H_event 7 rfl) rfl (by decide) ?_
  refine js_callS (na := 2) (n := 19) X (dg dc_H_event 8 rfl) rfl (c_H_isBelow l Dv fu _ a2 4) gS_H_41 rfl rfl hy_H_isBelow.2 ⟨(Nat.le_of_ble_eq_true rfl), (Nat.le_of_ble_eq_true rfl)⟩ ⟨(Nat.le_of_ble_eq_true rfl), (Nat.le_of_ble_eq_true rfl)⟩ rfl rfl rfl rfl ?_
  intro r16
  refine js_if_ne (t := 32) (n := 22) X (dg dc_H_event 9 rfl) (by decide) rfl ?_ ?_
  · refine js_aload_n (n := 33) X (dg dc_H_event 15 rfl) rfl rfl rfl ?_
    refine js_getf (j := 5) (v := .int H.2.2.2.2.2) (n := 36) X (dg dc_H_event 16 rfl) rfl hC_H (Nat.le_of_ble_eq_true rfl) hw_11 rfl rfl ?_
    refine js_if_ne (t := 49) (n := 39) X (dg dc_H_event 17 rfl) (by decide) rfl ?_ ?_
    · refine js_aload_n (n := 50) X (dg dc_H_event 23 rfl) rfl rfl rfl ?_
      refine js_getf (j := 2) (v := .ref 11) (n := 53) X (dg dc_H_event 24 rfl) rfl hC_H (Nat.le_of_ble_eq_true rfl) hw_418 rfl rfl ?_
      refine js_getf (j := 0) (v := .ref 12) (n := 56) X (dg dc_H_event 25 rfl) rfl hC_T (Nat.le_of_ble_eq_true rfl) hw_437 rfl rfl ?_
      refine js_astore_n (lo' := [some (.ref 0), some (.int a1), some (.int a2), some (.ref 12)]) (n := 57) X (dg dc_H_event 26 rfl) rfl rfl (Nat.le_of_ble_eq_true rfl) rfl ?_
      refine js_iload_n (n := 58) X (dg dc_H_event 27 rfl) rfl rfl rfl ?_
      refine js_tsw X (dg dc_H_event 28 rfl) (by decide) ?_
      refine js_sw1 84 (by decide) (by decide) ?_ ?_
      · refine js_aload_n (n := 85) X (dg dc_H_event 29 rfl) rfl rfl rfl ?_
        refine js_getf (j := 0) (v := .ref 13) (n := 88) X (dg dc_H_event 30 rfl) rfl hC_M (Nat.le_of_ble_eq_true rfl) hw_438 rfl rfl ?_
        refine js_iload_n (n := 89) X (dg dc_H_event 31 rfl) rfl rfl rfl ?_
        refine js_iaload (f := H.2.2.1.1.1) (n := 90) X (dg dc_H_event 32 rfl) rfl rfl ?_
        exact js_retI X (dg dc_H_event 33 rfl) rfl (Nat.le_of_ble_eq_true rfl) (Nat.le_of_ble_eq_true rfl) rfl
      refine js_sw1 91 (by decide) (by decide) ?_ ?_
      · refine js_aload_n (n := 92) X (dg dc_H_event 34 rfl) rfl rfl rfl ?_
        refine js_getf (j := 1) (v := .ref 14) (n := 95) X (dg dc_H_event 35 rfl) rfl hC_M (Nat.le_of_ble_eq_true rfl) hw_439 rfl rfl ?_
        refine js_iload_n (n := 96) X (dg dc_H_event 36 rfl) rfl rfl rfl ?_
        refine js_iaload (f := H.2.2.1.1.2.1) (n := 97) X (dg dc_H_event 37 rfl) rfl rfl ?_
        exact js_retI X (dg dc_H_event 38 rfl) rfl (Nat.le_of_ble_eq_true rfl) (Nat.le_of_ble_eq_true rfl) rfl
      refine js_sw1 98 (by decide) (by decide) ?_ ?_
      · refine js_aload_n (n := 99) X (dg dc_H_event 39 rfl) rfl rfl rfl ?_
        refine js_getf (j := 2) (v := .ref 15) (n := 102) X (dg dc_H_event 40 rfl) rfl hC_M (Nat.le_of_ble_eq_true rfl) hw_440 rfl rfl ?_
        refine js_iload_n (n := 103) X (dg dc_H_event 41 rfl) rfl rfl rfl ?_
        refine js_iaload (f := H.2.2.1.1.2.2.1) (n := 104) X (dg dc_H_event 42 rfl) rfl rfl ?_
        exact js_retI X (dg dc_H_event 43 rfl) rfl (Nat.le_of_ble_eq_true rfl) (Nat.le_of_ble_eq_true rfl) rfl
      refine js_sw0 105 (by decide) ?_
      refine js_aload_n (n := 106) X (dg dc_H_event 44 rfl) rfl rfl rfl ?_
      refine js_getf (j := 3) (v := .ref 16) (n := 109) X (dg dc_H_event 45 rfl) rfl hC_M (Nat.le_of_ble_eq_true rfl) hw_441 rfl rfl ?_
      refine js_iload_n (n := 110) X (dg dc_H_event 46 rfl) rfl rfl rfl ?_
      refine js_iaload (f := H.2.2.1.1.2.2.2.1) (n := 111) X (dg dc_H_event 47 rfl) rfl rfl ?_
      exact js_retI X (dg dc_H_event 48 rfl) rfl (Nat.le_of_ble_eq_true rfl) (Nat.le_of_ble_eq_true rfl) rfl
    exact js_throwS (n9 := 2) X T rfl (by decide +kernel) hnmX hw_411 hw_412 (hstr_149) hat_65 hgood_61_65 (dg dc_H_event 18 rfl) (dg dc_H_event 19 rfl) (dg dc_H_event 20 rfl) (dg dc_H_event 21 rfl) (dg dc_H_event 22 rfl) (Nat.le_of_ble_eq_true rfl) (Nat.le_of_ble_eq_true rfl) (Nat.le_of_ble_eq_true rfl) (Nat.le_of_ble_eq_true rfl) (Nat.le_of_ble_eq_true rfl) (Nat.le_of_ble_eq_true rfl) rfl
  exact js_throwS (n9 := 4) X T rfl (by decide +kernel) hnmX hw_431 hw_432 (hstr_147) hat_133 hgood_129_133 (dg dc_H_event 10 rfl) (dg dc_H_event 11 rfl) (dg dc_H_event 12 rfl) (dg dc_H_event 13 rfl) (dg dc_H_event 14 rfl) (Nat.le_of_ble_eq_true rfl) (Nat.le_of_ble_eq_true rfl) (Nat.le_of_ble_eq_true rfl) (Nat.le_of_ble_eq_true rfl) (Nat.le_of_ble_eq_true rfl) (Nat.le_of_ble_eq_true rfl) rfl
set_option maxRecDepth 100000 in
set_option maxHeartbeats 4000000 in
theorem c_H_order_0 (l : Launch) (hst : l.stackTraces = false) (Dv : va_G) (fu : Nat) (r : S_R) (out : Nat → Int64) (H : S_H) (a1 : Int32) : ev_MX l Dv gaX deX mu_H_order [.ref 0, .int a1] (hpW H r out) (f_H_order fu H a1) (fun q => (ev_sv q, hpW H r out)) := by
  refine ev_metX (lo0 := [some (.ref 0), some (.int a1)]) hst rfl rfl rfl (fun κ X T => ?_)
  unfold f_H_order
  refine js_aload_n (n := 1) X (dg dc_H_order 0 rfl) rfl rfl rfl ?_
  refine js_getf (j := 5) (v := .int H.2.2.2.2.2) (n := 4) X (dg dc_H_order 1 rfl) rfl hC_H (Nat.le_of_ble_eq_true rfl) hw_11 rfl rfl ?_
  refine js_if_ne (t := 17) (n := 7) X (dg dc_H_order 2 rfl) (by decide) rfl ?_ ?_
  · refine js_aload_n (n := 18) X (dg dc_H_order 8 rfl) rfl rfl rfl ?_
    refine js_getf (j := 2) (v := .ref 11) (n := 21) X (dg dc_H_order 9 rfl) rfl hC_H (Nat.le_of_ble_eq_true rfl) hw_418 rfl rfl ?_
    refine js_getf (j := 7) (v := .int H.2.2.1.2.2.2.2.2.2.2.1) (n := 24) X (dg dc_H_order 10 rfl) rfl hC_T (Nat.le_of_ble_eq_true rfl) hw_442 rfl rfl ?_
    refine js_if_eq (t := 51) (n := 27) X (dg dc_H_order 11 rfl) (by decide) rfl ?_ ?_
    · exact js_throwN X T hw_443 hw_444 (hstr_177) hat_179 hgood_175_179 (dg dc_H_order 24 rfl) (dg dc_H_order 25 rfl) (dg dc_H_order 26 rfl) (dg dc_H_order 27 rfl) (dg dc_H_order 28 rfl) (Nat.le_of_ble_eq_true rfl) (Nat.le_of_ble_eq_true rfl) (Nat.le_of_ble_eq_true rfl) (Nat.le_of_ble_eq_true rfl) (Nat.le_of_ble_eq_true rfl) (Nat.le_of_ble_eq_true rfl) rfl
    refine js_iload_n (n := 28) X (dg dc_H_order 12 rfl) rfl rfl rfl ?_
    refine js_aload_n (n := 29) X (dg dc_H_order 13 rfl) rfl rfl rfl ?_
    refine js_getf (j := 0) (v := .ref 1) (n := 32) X (dg dc_H_order 14 rfl) rfl hC_H (Nat.le_of_ble_eq_true rfl) hw_0 rfl rfl ?_
    refine js_callV (na := 0) (ci := 1) (n := 35) X (dg dc_H_order 15 rfl) rfl (c_P_size_1 l Dv fu H r out H.1) gV_H_79 rfl rfl hy_P_size ⟨(Nat.le_of_ble_eq_true rfl), (Nat.le_of_ble_eq_true rfl)⟩ rfl ⟨(Nat.le_of_ble_eq_true rfl), (Nat.le_of_ble_eq_true rfl)⟩ rfl rfl rfl rfl rfl ?_
    intro r32
    refine js_aload_n (n := 36) X (dg dc_H_order 16 rfl) rfl rfl rfl ?_
    refine js_getf (j := 0) (v := .ref 1) (n := 39) X (dg dc_H_order 17 rfl) rfl hC_H (Nat.le_of_ble_eq_true rfl) hw_0 rfl rfl ?_
    refine js_getf (j := 0) (v := .ref 2) (n := 42) X (dg dc_H_order 18 rfl) rfl hC_P (Nat.le_of_ble_eq_true rfl) hw_445 rfl rfl ?_
    refine js_iconst (n := 43) 0 X (dg dc_H_order 19 rfl) rfl (by decide) ?_
    refine js_iaload (f := H.1.1) (n := 44) X (dg dc_H_order 20 rfl) rfl rfl ?_
    refine js_isub (n := 45) X (dg dc_H_order 21 rfl) rfl ?_
    refine js_callS (na := 2) (n := 48) X (dg dc_H_order 22 rfl) rfl (c_H_isBelow l Dv fu _ a1 (r32 - (H.1.1 (ix 0)))) gS_H_41 rfl rfl hy_H_isBelow.2 ⟨(Nat.le_of_ble_eq_true rfl), (Nat.le_of_ble_eq_true rfl)⟩ ⟨(Nat.le_of_ble_eq_true rfl), (Nat.le_of_ble_eq_true rfl)⟩ rfl rfl rfl rfl ?_
    intro r45
    refine js_if_ne (t := 61) (n := 51) X (dg dc_H_order 23 rfl) (by decide) rfl ?_ ?_
    · refine js_aload_n (n := 62) X (dg dc_H_order 29 rfl) rfl rfl rfl ?_
      refine js_getf (j := 2) (v := .ref 11) (n := 65) X (dg dc_H_order 30 rfl) rfl hC_H (Nat.le_of_ble_eq_true rfl) hw_418 rfl rfl ?_
      refine js_getf (j := 1) (v := .ref 20) (n := 68) X (dg dc_H_order 31 rfl) rfl hC_T (Nat.le_of_ble_eq_true rfl) hw_446 rfl rfl ?_
      refine js_getf (j := 0) (v := .ref 21) (n := 71) X (dg dc_H_order 32 rfl) rfl hC_J (Nat.le_of_ble_eq_true rfl) hw_447 rfl rfl ?_
      refine js_iload_n (n := 72) X (dg dc_H_order 33 rfl) rfl rfl rfl ?_
      refine js_iaload (f := H.2.2.1.2.1) (n := 73) X (dg dc_H_order 34 rfl) rfl rfl ?_
      exact js_retI X (dg dc_H_order 35 rfl) rfl (Nat.le_of_ble_eq_true rfl) (Nat.le_of_ble_eq_true rfl) rfl
    exact js_throwN X T hw_443 hw_444 (hstr_177) hat_179 hgood_175_179 (dg dc_H_order 24 rfl) (dg dc_H_order 25 rfl) (dg dc_H_order 26 rfl) (dg dc_H_order 27 rfl) (dg dc_H_order 28 rfl) (Nat.le_of_ble_eq_true rfl) (Nat.le_of_ble_eq_true rfl) (Nat.le_of_ble_eq_true rfl) (Nat.le_of_ble_eq_true rfl) (Nat.le_of_ble_eq_true rfl) (Nat.le_of_ble_eq_true rfl) rfl
  exact js_throwS (n9 := 2) X T rfl (by decide +kernel) hnmX hw_411 hw_412 (hstr_149) hat_65 hgood_61_65 (dg dc_H_order 3 rfl) (dg dc_H_order 4 rfl) (dg dc_H_order 5 rfl) (dg dc_H_order 6 rfl) (dg dc_H_order 7 rfl) (Nat.le_of_ble_eq_true rfl) (Nat.le_of_ble_eq_true rfl) (Nat.le_of_ble_eq_true rfl) (Nat.le_of_ble_eq_true rfl) (Nat.le_of_ble_eq_true rfl) (Nat.le_of_ble_eq_true rfl) rfl
set_option maxRecDepth 100000 in
set_option maxHeartbeats 4000000 in
theorem c_H_cell_0 (l : Launch) (hst : l.stackTraces = false) (Dv : va_G) (fu : Nat) (r : S_R) (out : Nat → Int64) (H : S_H) (a1 : Int32) : ev_MX l Dv gaX deX mu_H_cell [.ref 0, .int a1] (hpW H r out) (f_H_cell fu H a1) (fun q => (ev_sv q, hpW H r out)) := by
  refine ev_metX (lo0 := [some (.ref 0), some (.int a1)]) hst rfl rfl rfl (fun κ X T => ?_)
  unfold f_H_cell
  refine js_iload_n (n := 1) X (dg dc_H_cell 0 rfl) rfl rfl rfl ?_
  refine js_iconst (n := 2) 3 X (dg dc_H_cell 1 rfl) rfl (by decide) ?_
  refine js_callS (na := 2) (n := 5) X (dg dc_H_cell 2 rfl) rfl (c_H_isBelow l Dv fu _ a1 3) gS_H_41 rfl rfl hy_H_isBelow.2 ⟨(Nat.le_of_ble_eq_true rfl), (Nat.le_of_ble_eq_true rfl)⟩ ⟨(Nat.le_of_ble_eq_true rfl), (Nat.le_of_ble_eq_true rfl)⟩ rfl rfl rfl rfl ?_
  intro r2
  refine js_if_ne (t := 18) (n := 8) X (dg dc_H_cell 3 rfl) (by decide) rfl ?_ ?_
  · refine js_aload_n (n := 19) X (dg dc_H_cell 9 rfl) rfl rfl rfl ?_
    refine js_getf (j := 5) (v := .int H.2.2.2.2.2) (n := 22) X (dg dc_H_cell 10 rfl) rfl hC_H (Nat.le_of_ble_eq_true rfl) hw_11 rfl rfl ?_
    refine js_if_ne (t := 35) (n := 25) X (dg dc_H_cell 11 rfl) (by decide) rfl ?_ ?_
    · refine js_aload_n (n := 36) X (dg dc_H_cell 17 rfl) rfl rfl rfl ?_
      refine js_getf (j := 2) (v := .ref 11) (n := 39) X (dg dc_H_cell 18 rfl) rfl hC_H (Nat.le_of_ble_eq_true rfl) hw_418 rfl rfl ?_
      refine js_getf (j := 0) (v := .ref 12) (n := 42) X (dg dc_H_cell 19 rfl) rfl hC_T (Nat.le_of_ble_eq_true rfl) hw_437 rfl rfl ?_
      refine js_getf (j := 4) (v := .int H.2.2.1.1.2.2.2.2.1) (n := 45) X (dg dc_H_cell 20 rfl) rfl hC_M (Nat.le_of_ble_eq_true rfl) hw_448 rfl rfl ?_
      refine js_iload_n (n := 46) X (dg dc_H_cell 21 rfl) rfl rfl rfl ?_
      refine js_callS (na := 2) (n := 49) X (dg dc_H_cell 22 rfl) rfl (c_O_content l Dv fu _ H.2.2.1.1.2.2.2.2.1 a1) gS_H_193 rfl rfl hy_O_content.2 ⟨(Nat.le_of_ble_eq_true rfl), (Nat.le_of_ble_eq_true rfl)⟩ ⟨(Nat.le_of_ble_eq_true rfl), (Nat.le_of_ble_eq_true rfl)⟩ rfl rfl rfl rfl ?_
      intro r46
      exact js_retI X (dg dc_H_cell 23 rfl) rfl (Nat.le_of_ble_eq_true rfl) (Nat.le_of_ble_eq_true rfl) rfl
    exact js_throwS (n9 := 2) X T rfl (by decide +kernel) hnmX hw_411 hw_412 (hstr_149) hat_65 hgood_61_65 (dg dc_H_cell 12 rfl) (dg dc_H_cell 13 rfl) (dg dc_H_cell 14 rfl) (dg dc_H_cell 15 rfl) (dg dc_H_cell 16 rfl) (Nat.le_of_ble_eq_true rfl) (Nat.le_of_ble_eq_true rfl) (Nat.le_of_ble_eq_true rfl) (Nat.le_of_ble_eq_true rfl) (Nat.le_of_ble_eq_true rfl) (Nat.le_of_ble_eq_true rfl) rfl
  exact js_throwS (n9 := 4) X T rfl (by decide +kernel) hnmX hw_431 hw_432 (hstr_189) hat_133 hgood_129_133 (dg dc_H_cell 4 rfl) (dg dc_H_cell 5 rfl) (dg dc_H_cell 6 rfl) (dg dc_H_cell 7 rfl) (dg dc_H_cell 8 rfl) (Nat.le_of_ble_eq_true rfl) (Nat.le_of_ble_eq_true rfl) (Nat.le_of_ble_eq_true rfl) (Nat.le_of_ble_eq_true rfl) (Nat.le_of_ble_eq_true rfl) (Nat.le_of_ble_eq_true rfl) rfl
set_option maxRecDepth 100000 in
set_option maxHeartbeats 4000000 in
theorem c_H_count_0 (l : Launch) (hst : l.stackTraces = false) (Dv : va_G) (fu : Nat) (r : S_R) (out : Nat → Int64) (H : S_H) (a1 : Int32) : ev_MX l Dv gaX deX mu_H_count [.ref 0, .int a1] (hpW H r out) (f_H_count fu H a1) (fun q => (ev_sv q, hpW H r out)) := by
  refine ev_metX (lo0 := [some (.ref 0), some (.int a1)]) hst rfl rfl rfl (fun κ X T => ?_)
  unfold f_H_count
  refine js_iload_n (n := 1) X (dg dc_H_count 0 rfl) rfl rfl rfl ?_
  refine js_tsw X (dg dc_H_count 1 rfl) (by decide) ?_
  refine js_sw1 32 (by decide) (by decide) ?_ ?_
  · refine js_aload_n (n := 33) X (dg dc_H_count 2 rfl) rfl rfl rfl ?_
    refine js_getf (j := 0) (v := .ref 1) (n := 36) X (dg dc_H_count 3 rfl) rfl hC_H (Nat.le_of_ble_eq_true rfl) hw_0 rfl rfl ?_
    refine js_callV (na := 0) (ci := 1) (n := 39) X (dg dc_H_count 4 rfl) rfl (c_P_size_1 l Dv fu H r out H.1) gV_H_79 rfl rfl hy_P_size ⟨(Nat.le_of_ble_eq_true rfl), (Nat.le_of_ble_eq_true rfl)⟩ rfl ⟨(Nat.le_of_ble_eq_true rfl), (Nat.le_of_ble_eq_true rfl)⟩ rfl rfl rfl rfl rfl ?_
    intro r36
    exact js_retI X (dg dc_H_count 5 rfl) rfl (Nat.le_of_ble_eq_true rfl) (Nat.le_of_ble_eq_true rfl) rfl
  refine js_sw1 40 (by decide) (by decide) ?_ ?_
  · refine js_aload_n (n := 41) X (dg dc_H_count 6 rfl) rfl rfl rfl ?_
    refine js_getf (j := 2) (v := .ref 11) (n := 44) X (dg dc_H_count 7 rfl) rfl hC_H (Nat.le_of_ble_eq_true rfl) hw_418 rfl rfl ?_
    refine js_getf (j := 4) (v := .int H.2.2.1.2.2.2.2.1) (n := 47) X (dg dc_H_count 8 rfl) rfl hC_T (Nat.le_of_ble_eq_true rfl) hw_450 rfl rfl ?_
    exact js_retI X (dg dc_H_count 9 rfl) rfl (Nat.le_of_ble_eq_true rfl) (Nat.le_of_ble_eq_true rfl) rfl
  refine js_sw1 48 (by decide) (by decide) ?_ ?_
  · refine js_aload_n (n := 49) X (dg dc_H_count 10 rfl) rfl rfl rfl ?_
    refine js_getf (j := 2) (v := .ref 11) (n := 52) X (dg dc_H_count 11 rfl) rfl hC_H (Nat.le_of_ble_eq_true rfl) hw_418 rfl rfl ?_
    refine js_getf (j := 5) (v := .int H.2.2.1.2.2.2.2.2.1) (n := 55) X (dg dc_H_count 12 rfl) rfl hC_T (Nat.le_of_ble_eq_true rfl) hw_451 rfl rfl ?_
    exact js_retI X (dg dc_H_count 13 rfl) rfl (Nat.le_of_ble_eq_true rfl) (Nat.le_of_ble_eq_true rfl) rfl
  refine js_sw1 56 (by decide) (by decide) ?_ ?_
  · refine js_aload_n (n := 57) X (dg dc_H_count 14 rfl) rfl rfl rfl ?_
    refine js_getf (j := 4) (v := .int H.2.2.2.2.1) (n := 60) X (dg dc_H_count 15 rfl) rfl hC_H (Nat.le_of_ble_eq_true rfl) hw_426 rfl rfl ?_
    exact js_retI X (dg dc_H_count 16 rfl) rfl (Nat.le_of_ble_eq_true rfl) (Nat.le_of_ble_eq_true rfl) rfl
  refine js_sw0 61 (by decide) ?_
  exact js_throwS (n9 := 4) X T rfl (by decide +kernel) hnmX hw_431 hw_432 (hstr_205) hat_133 hgood_129_133 (dg dc_H_count 17 rfl) (dg dc_H_count 18 rfl) (dg dc_H_count 19 rfl) (dg dc_H_count 20 rfl) (dg dc_H_count 21 rfl) (Nat.le_of_ble_eq_true rfl) (Nat.le_of_ble_eq_true rfl) (Nat.le_of_ble_eq_true rfl) (Nat.le_of_ble_eq_true rfl) (Nat.le_of_ble_eq_true rfl) (Nat.le_of_ble_eq_true rfl) rfl
set_option maxRecDepth 100000 in
set_option maxHeartbeats 4000000 in
theorem c_H_tally_0 (l : Launch) (hst : l.stackTraces = false) (Dv : va_G) (fu : Nat) (r : S_R) (out : Nat → Int64) (H : S_H) (a1 : Int32) : ev_MX l Dv gaX deX mu_H_tally [.ref 0, .int a1] (hpW H r out) (f_H_tally fu H a1) (fun q => (ev_sv q, hpW H r out)) := by
  refine ev_metX (lo0 := [some (.ref 0), some (.int a1)]) hst rfl rfl rfl (fun κ X T => ?_)
  unfold f_H_tally
  refine js_iload_n (n := 1) X (dg dc_H_tally 0 rfl) rfl rfl rfl ?_
  refine js_bipush (n := 3) 7 X (dg dc_H_tally 1 rfl) rfl (by decide) ?_
  refine js_callS (na := 2) (n := 6) X (dg dc_H_tally 2 rfl) rfl (c_H_isBelow l Dv fu _ a1 7) gS_H_41 rfl rfl hy_H_isBelow.2 ⟨(Nat.le_of_ble_eq_true rfl), (Nat.le_of_ble_eq_true rfl)⟩ ⟨(Nat.le_of_ble_eq_true rfl), (Nat.le_of_ble_eq_true rfl)⟩ rfl rfl rfl rfl ?_
  intro r3
  refine js_if_ne (t := 19) (n := 9) X (dg dc_H_tally 3 rfl) (by decide) rfl ?_ ?_
  · refine js_aload_n (n := 20) X (dg dc_H_tally 9 rfl) rfl rfl rfl ?_
    refine js_getf (j := 2) (v := .ref 11) (n := 23) X (dg dc_H_tally 10 rfl) rfl hC_H (Nat.le_of_ble_eq_true rfl) hw_418 rfl rfl ?_
    refine js_getf (j := 2) (v := .ref 22) (n := 26) X (dg dc_H_tally 11 rfl) rfl hC_T (Nat.le_of_ble_eq_true rfl) hw_452 rfl rfl ?_
    refine js_iload_n (n := 27) X (dg dc_H_tally 12 rfl) rfl rfl rfl ?_
    refine js_iaload (f := H.2.2.1.2.2.1) (n := 28) X (dg dc_H_tally 13 rfl) rfl rfl ?_
    exact js_retI X (dg dc_H_tally 14 rfl) rfl (Nat.le_of_ble_eq_true rfl) (Nat.le_of_ble_eq_true rfl) rfl
  exact js_throwS (n9 := 4) X T rfl (by decide +kernel) hnmX hw_431 hw_432 (hstr_207) hat_133 hgood_129_133 (dg dc_H_tally 4 rfl) (dg dc_H_tally 5 rfl) (dg dc_H_tally 6 rfl) (dg dc_H_tally 7 rfl) (dg dc_H_tally 8 rfl) (Nat.le_of_ble_eq_true rfl) (Nat.le_of_ble_eq_true rfl) (Nat.le_of_ble_eq_true rfl) (Nat.le_of_ble_eq_true rfl) (Nat.le_of_ble_eq_true rfl) (Nat.le_of_ble_eq_true rfl) rfl
