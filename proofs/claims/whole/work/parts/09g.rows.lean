set_option maxRecDepth 100000 in
set_option maxHeartbeats 4000000 in
theorem jl_R_right_25_L126 (l : Launch) (Dv : va_G) (fu : Nat) (h : S_H) (out : Nat → Int64) (κ : ev_ka) (X : ev_X l Dv gaX mu_R_right κ) (R : S_R) (v1 : Int32) (v2 : Int32) (v3 : Int32) : ev_J l Dv gaX mu_R_right κ 126 0 0 [some (.ref 25), some (.int v1), some (.int v2), some (.int v3), none] [] (hpW h R out) (f_R_right_L126 fu R v1 v2 v3) (fun q => (some (.int q.1), hpW h q.2 out)) := by
  unfold f_R_right_L126
  refine js_aload_n (n := 127) X (dg dc_R_right 81 rfl) rfl rfl rfl ?_
  refine js_getf (j := 2) (v := .ref 27) (n := 130) X (dg dc_R_right 82 rfl) rfl hC_R (Nat.le_of_ble_eq_true rfl) hw_138 rfl rfl ?_
  refine js_iload_n (n := 131) X (dg dc_R_right 83 rfl) rfl rfl rfl ?_
  refine js_iaload (f := R.2.2.1) (n := 132) X (dg dc_R_right 84 rfl) rfl rfl ?_
  refine js_if_eq (t := 145) (n := 135) X (dg dc_R_right 85 rfl) (by decide) rfl ?_ ?_
  · refine js_iconst (n := 146) 0 X (dg dc_R_right 92 rfl) rfl (by decide) ?_
    refine js_goto (t := 169) X (dg dc_R_right 93 rfl) (by decide) ?_
    exact js_retI X (dg dc_R_right 106 rfl) rfl (Nat.le_of_ble_eq_true rfl) (Nat.le_of_ble_eq_true rfl) rfl
  refine js_aload_n (n := 136) X (dg dc_R_right 86 rfl) rfl rfl rfl ?_
  refine js_getf (j := 2) (v := .ref 27) (n := 139) X (dg dc_R_right 87 rfl) rfl hC_R (Nat.le_of_ble_eq_true rfl) hw_138 rfl rfl ?_
  refine js_iload_n (n := 140) X (dg dc_R_right 88 rfl) rfl rfl rfl ?_
  refine js_iaload (f := R.2.2.1) (n := 141) X (dg dc_R_right 89 rfl) rfl rfl ?_
  refine js_iconst (n := 142) 3 X (dg dc_R_right 90 rfl) rfl (by decide) ?_
  refine js_icmp_ne (t := 149) (n := 145) X (dg dc_R_right 91 rfl) (by decide) rfl ?_ ?_
  · refine js_aload_n (n := 150) X (dg dc_R_right 94 rfl) rfl rfl rfl ?_
    refine js_getf (j := 2) (v := .ref 27) (n := 153) X (dg dc_R_right 95 rfl) rfl hC_R (Nat.le_of_ble_eq_true rfl) hw_138 rfl rfl ?_
    refine js_iload_n (n := 154) X (dg dc_R_right 96 rfl) rfl rfl rfl ?_
    refine js_iaload (f := R.2.2.1) (n := 155) X (dg dc_R_right 97 rfl) rfl rfl ?_
    refine js_iconst (n := 156) 4 X (dg dc_R_right 98 rfl) rfl (by decide) ?_
    refine js_icmp_ne (t := 168) (n := 159) X (dg dc_R_right 99 rfl) (by decide) rfl ?_ ?_
    · refine js_iload_n (n := 169) X (dg dc_R_right 105 rfl) rfl rfl rfl ?_
      exact js_retI X (dg dc_R_right 106 rfl) rfl (Nat.le_of_ble_eq_true rfl) (Nat.le_of_ble_eq_true rfl) rfl
    refine js_aload_n (n := 160) X (dg dc_R_right 100 rfl) rfl rfl rfl ?_
    refine js_getf (j := 9) (v := .ref 32) (n := 163) X (dg dc_R_right 101 rfl) rfl hC_R (Nat.le_of_ble_eq_true rfl) hw_256 rfl rfl ?_
    refine js_iload_n (n := 164) X (dg dc_R_right 102 rfl) rfl rfl rfl ?_
    refine js_iaload (f := R.2.2.2.2.2.2.2.2.2.1) (n := 165) X (dg dc_R_right 103 rfl) rfl rfl ?_
    refine js_goto (t := 169) X (dg dc_R_right 104 rfl) (by decide) ?_
    exact js_retI X (dg dc_R_right 106 rfl) rfl (Nat.le_of_ble_eq_true rfl) (Nat.le_of_ble_eq_true rfl) rfl
  refine js_iconst (n := 146) 0 X (dg dc_R_right 92 rfl) rfl (by decide) ?_
  refine js_goto (t := 169) X (dg dc_R_right 93 rfl) (by decide) ?_
  exact js_retI X (dg dc_R_right 106 rfl) rfl (Nat.le_of_ble_eq_true rfl) (Nat.le_of_ble_eq_true rfl) rfl
set_option maxRecDepth 100000 in
set_option maxHeartbeats 4000000 in
theorem jl_R_right_25_L99 (l : Launch) (Dv : va_G) (fu : Nat) (h : S_H) (out : Nat → Int64) (κ : ev_ka) (X : ev_X l Dv gaX mu_R_right κ) (R : S_R) (v1 : Int32) (v2 : Int32) (v3 : Int32) : ev_J l Dv gaX mu_R_right κ 99 0 0 [some (.ref 25), some (.int v1), some (.int v2), some (.int v3), none] [] (hpW h R out) (f_R_right_L99 fu R v1 v2 v3) (fun q => (some (.int q.1), hpW h q.2 out)) := by
  unfold f_R_right_L99
  refine js_aload_n (n := 100) X (dg dc_R_right 63 rfl) rfl rfl rfl ?_
  refine js_getf (j := 2) (v := .ref 27) (n := 103) X (dg dc_R_right 64 rfl) rfl hC_R (Nat.le_of_ble_eq_true rfl) hw_138 rfl rfl ?_
  refine js_iload_n (n := 104) X (dg dc_R_right 65 rfl) rfl rfl rfl ?_
  refine js_iaload (f := R.2.2.1) (n := 105) X (dg dc_R_right 66 rfl) rfl rfl ?_
  refine js_bipush (n := 107) 6 X (dg dc_R_right 67 rfl) rfl (by decide) ?_
  refine js_icmp_ne (t := 126) (n := 110) X (dg dc_R_right 68 rfl) (by decide) rfl ?_ ?_
  · exact js_keep [true, true, true, true, false] (jl_R_right_25_L126 l Dv fu h out κ X R v1 v2 v3)
  refine js_aload_n (n := 111) X (dg dc_R_right 69 rfl) rfl rfl rfl ?_
  refine js_getf (j := 9) (v := .ref 32) (n := 114) X (dg dc_R_right 70 rfl) rfl hC_R (Nat.le_of_ble_eq_true rfl) hw_256 rfl rfl ?_
  refine js_iload_n (n := 115) X (dg dc_R_right 71 rfl) rfl rfl rfl ?_
  refine js_aload_n (n := 116) X (dg dc_R_right 72 rfl) rfl rfl rfl ?_
  refine js_getf (j := 9) (v := .ref 32) (n := 119) X (dg dc_R_right 73 rfl) rfl hC_R (Nat.le_of_ble_eq_true rfl) hw_256 rfl rfl ?_
  refine js_iload_n (n := 120) X (dg dc_R_right 74 rfl) rfl rfl rfl ?_
  refine js_iconst (n := 121) 1 X (dg dc_R_right 75 rfl) rfl (by decide) ?_
  refine js_iadd (n := 122) X (dg dc_R_right 76 rfl) rfl ?_
  refine js_iconst (n := 123) 3 X (dg dc_R_right 77 rfl) rfl (by decide) ?_
  refine js_irem (n := 124) X (dg dc_R_right 78 rfl) rfl ?_
  refine js_iaload (f := R.2.2.2.2.2.2.2.2.2.1) (n := 125) X (dg dc_R_right 79 rfl) rfl rfl ?_
  refine js_iastore (f := R.2.2.2.2.2.2.2.2.2.1) (n := 126) X (dg dc_R_right 80 rfl) rfl rfl ?_
  exact js_keep [true, true, true, true, false] (jl_R_right_25_L126 l Dv fu h out κ X (R.1, R.2.1, R.2.2.1, R.2.2.2.1, R.2.2.2.2.1, R.2.2.2.2.2.1, R.2.2.2.2.2.2.1, R.2.2.2.2.2.2.2.1, R.2.2.2.2.2.2.2.2.1, (upd R.2.2.2.2.2.2.2.2.2.1 (ix v2) (R.2.2.2.2.2.2.2.2.2.1 (ix ((v2 + 1) - (v2 + 1) / 3 * 3)))), R.2.2.2.2.2.2.2.2.2.2) v1 v2 v3)
set_option maxRecDepth 100000 in
set_option maxHeartbeats 4000000 in
theorem jl_R_right_25_L76 (l : Launch) (Dv : va_G) (fu : Nat) (h : S_H) (out : Nat → Int64) (κ : ev_ka) (X : ev_X l Dv gaX mu_R_right κ) (R : S_R) (v1 : Int32) (v2 : Int32) (v3 : Int32) (v4 : Int32) : ev_J l Dv gaX mu_R_right κ 76 0 0 [some (.ref 25), some (.int v1), some (.int v2), some (.int v3), some (.int v4)] [] (hpW h R out) (f_R_right_L76 fu R v1 v2 v3 v4) (fun q => (some (.int q.1), hpW h q.2 out)) := by
  unfold f_R_right_L76
  refine js_aload_n (n := 77) X (dg dc_R_right 48 rfl) rfl rfl rfl ?_
  refine js_getf (j := 2) (v := .ref 27) (n := 80) X (dg dc_R_right 49 rfl) rfl hC_R (Nat.le_of_ble_eq_true rfl) hw_138 rfl rfl ?_
  refine js_iload_n (n := 81) X (dg dc_R_right 50 rfl) rfl rfl rfl ?_
  refine js_iaload (f := R.2.2.1) (n := 82) X (dg dc_R_right 51 rfl) rfl rfl ?_
  refine js_iconst (n := 83) 4 X (dg dc_R_right 52 rfl) rfl (by decide) ?_
  refine js_icmp_ne (t := 99) (n := 86) X (dg dc_R_right 53 rfl) (by decide) rfl ?_ ?_
  · exact js_keep [true, true, true, true, false] (jl_R_right_25_L99 l Dv fu h out κ X R v1 v2 v3)
  refine js_aload_n (n := 87) X (dg dc_R_right 54 rfl) rfl rfl rfl ?_
  refine js_getf (j := 9) (v := .ref 32) (n := 90) X (dg dc_R_right 55 rfl) rfl hC_R (Nat.le_of_ble_eq_true rfl) hw_256 rfl rfl ?_
  refine js_iload_n (n := 91) X (dg dc_R_right 56 rfl) rfl rfl rfl ?_
  refine js_iload_n (n := 92) X (dg dc_R_right 57 rfl) rfl rfl rfl ?_
  refine js_iload (n := 94) X (dg dc_R_right 58 rfl) rfl rfl ?_
  refine js_iadd (n := 95) X (dg dc_R_right 59 rfl) rfl ?_
  refine js_bipush (n := 97) 8 X (dg dc_R_right 60 rfl) rfl (by decide) ?_
  refine js_irem (n := 98) X (dg dc_R_right 61 rfl) rfl ?_
  refine js_iastore (f := R.2.2.2.2.2.2.2.2.2.1) (n := 99) X (dg dc_R_right 62 rfl) rfl rfl ?_
  exact js_keep [true, true, true, true, false] (jl_R_right_25_L99 l Dv fu h out κ X (R.1, R.2.1, R.2.2.1, R.2.2.2.1, R.2.2.2.2.1, R.2.2.2.2.2.1, R.2.2.2.2.2.2.1, R.2.2.2.2.2.2.2.1, R.2.2.2.2.2.2.2.2.1, (upd R.2.2.2.2.2.2.2.2.2.1 (ix v2) ((v3 + v4) - (v3 + v4) / 8 * 8)), R.2.2.2.2.2.2.2.2.2.2) v1 v2 v3)
set_option maxRecDepth 100000 in
set_option maxHeartbeats 4000000 in
theorem jl_R_right_25_L39 (l : Launch) (Dv : va_G) (fu : Nat) (h : S_H) (out : Nat → Int64) (κ : ev_ka) (X : ev_X l Dv gaX mu_R_right κ) (R : S_R) (v1 : Int32) (v2 : Int32) (v3 : Int32) (v4 : Int32) : ev_J l Dv gaX mu_R_right κ 39 0 0 [some (.ref 25), some (.int v1), some (.int v2), some (.int v3), some (.int v4)] [] (hpW h R out) (f_R_right_L39 fu R v1 v2 v3 v4) (fun q => (some (.int q.1), hpW h q.2 out)) := by
  unfold f_R_right_L39
  refine js_aload_n (n := 40) X (dg dc_R_right 26 rfl) rfl rfl rfl ?_
  refine js_getf (j := 2) (v := .ref 27) (n := 43) X (dg dc_R_right 27 rfl) rfl hC_R (Nat.le_of_ble_eq_true rfl) hw_138 rfl rfl ?_
  refine js_iload_n (n := 44) X (dg dc_R_right 28 rfl) rfl rfl rfl ?_
  refine js_iaload (f := R.2.2.1) (n := 45) X (dg dc_R_right 29 rfl) rfl rfl ?_
  refine js_if_eq (t := 68) (n := 48) X (dg dc_R_right 30 rfl) (by decide) rfl ?_ ?_
  · refine js_aload_n (n := 69) X (dg dc_R_right 43 rfl) rfl rfl rfl ?_
    refine js_getf (j := 9) (v := .ref 32) (n := 72) X (dg dc_R_right 44 rfl) rfl hC_R (Nat.le_of_ble_eq_true rfl) hw_256 rfl rfl ?_
    refine js_iload_n (n := 73) X (dg dc_R_right 45 rfl) rfl rfl rfl ?_
    refine js_iload (n := 75) X (dg dc_R_right 46 rfl) rfl rfl ?_
    refine js_iastore (f := R.2.2.2.2.2.2.2.2.2.1) (n := 76) X (dg dc_R_right 47 rfl) rfl rfl ?_
    exact js_keep [true, true, true, true, true] (jl_R_right_25_L76 l Dv fu h out κ X (R.1, R.2.1, R.2.2.1, R.2.2.2.1, R.2.2.2.2.1, R.2.2.2.2.2.1, R.2.2.2.2.2.2.1, R.2.2.2.2.2.2.2.1, R.2.2.2.2.2.2.2.2.1, (upd R.2.2.2.2.2.2.2.2.2.1 (ix v2) v4), R.2.2.2.2.2.2.2.2.2.2) v1 v2 v3 v4)
  refine js_aload_n (n := 49) X (dg dc_R_right 31 rfl) rfl rfl rfl ?_
  refine js_getf (j := 2) (v := .ref 27) (n := 52) X (dg dc_R_right 32 rfl) rfl hC_R (Nat.le_of_ble_eq_true rfl) hw_138 rfl rfl ?_
  refine js_iload_n (n := 53) X (dg dc_R_right 33 rfl) rfl rfl rfl ?_
  refine js_iaload (f := R.2.2.1) (n := 54) X (dg dc_R_right 34 rfl) rfl rfl ?_
  refine js_iconst (n := 55) 3 X (dg dc_R_right 35 rfl) rfl (by decide) ?_
  refine js_icmp_eq (t := 68) (n := 58) X (dg dc_R_right 36 rfl) (by decide) rfl ?_ ?_
  · refine js_aload_n (n := 69) X (dg dc_R_right 43 rfl) rfl rfl rfl ?_
    refine js_getf (j := 9) (v := .ref 32) (n := 72) X (dg dc_R_right 44 rfl) rfl hC_R (Nat.le_of_ble_eq_true rfl) hw_256 rfl rfl ?_
    refine js_iload_n (n := 73) X (dg dc_R_right 45 rfl) rfl rfl rfl ?_
    refine js_iload (n := 75) X (dg dc_R_right 46 rfl) rfl rfl ?_
    refine js_iastore (f := R.2.2.2.2.2.2.2.2.2.1) (n := 76) X (dg dc_R_right 47 rfl) rfl rfl ?_
    exact js_keep [true, true, true, true, true] (jl_R_right_25_L76 l Dv fu h out κ X (R.1, R.2.1, R.2.2.1, R.2.2.2.1, R.2.2.2.2.1, R.2.2.2.2.2.1, R.2.2.2.2.2.2.1, R.2.2.2.2.2.2.2.1, R.2.2.2.2.2.2.2.2.1, (upd R.2.2.2.2.2.2.2.2.2.1 (ix v2) v4), R.2.2.2.2.2.2.2.2.2.2) v1 v2 v3 v4)
  refine js_aload_n (n := 59) X (dg dc_R_right 37 rfl) rfl rfl rfl ?_
  refine js_getf (j := 2) (v := .ref 27) (n := 62) X (dg dc_R_right 38 rfl) rfl hC_R (Nat.le_of_ble_eq_true rfl) hw_138 rfl rfl ?_
  refine js_iload_n (n := 63) X (dg dc_R_right 39 rfl) rfl rfl rfl ?_
  refine js_iaload (f := R.2.2.1) (n := 64) X (dg dc_R_right 40 rfl) rfl rfl ?_
  refine js_iconst (n := 65) 5 X (dg dc_R_right 41 rfl) rfl (by decide) ?_
  refine js_icmp_ne (t := 76) (n := 68) X (dg dc_R_right 42 rfl) (by decide) rfl ?_ ?_
  · exact js_keep [true, true, true, true, true] (jl_R_right_25_L76 l Dv fu h out κ X R v1 v2 v3 v4)
  refine js_aload_n (n := 69) X (dg dc_R_right 43 rfl) rfl rfl rfl ?_
  refine js_getf (j := 9) (v := .ref 32) (n := 72) X (dg dc_R_right 44 rfl) rfl hC_R (Nat.le_of_ble_eq_true rfl) hw_256 rfl rfl ?_
  refine js_iload_n (n := 73) X (dg dc_R_right 45 rfl) rfl rfl rfl ?_
  refine js_iload (n := 75) X (dg dc_R_right 46 rfl) rfl rfl ?_
  refine js_iastore (f := R.2.2.2.2.2.2.2.2.2.1) (n := 76) X (dg dc_R_right 47 rfl) rfl rfl ?_
  exact js_keep [true, true, true, true, true] (jl_R_right_25_L76 l Dv fu h out κ X (R.1, R.2.1, R.2.2.1, R.2.2.2.1, R.2.2.2.2.1, R.2.2.2.2.2.1, R.2.2.2.2.2.2.1, R.2.2.2.2.2.2.2.1, R.2.2.2.2.2.2.2.2.1, (upd R.2.2.2.2.2.2.2.2.2.1 (ix v2) v4), R.2.2.2.2.2.2.2.2.2.2) v1 v2 v3 v4)
set_option maxRecDepth 100000 in
set_option maxHeartbeats 4000000 in
theorem c_R_right_25 (l : Launch) (Dv : va_G) (fu : Nat) (h : S_H) (out : Nat → Int64) (R : S_R) (a1 : Int32) : ev_M l Dv gaX mu_R_right [.ref 25, .int a1] (hpW h R out) (f_R_right fu R a1) (fun q => (some (.int q.1), hpW h q.2 out)) := by
  refine ev_met (lo0 := [some (.ref 25), some (.int a1), none, none, none]) rfl rfl rfl (fun κ X => ?_)
  unfold f_R_right
  refine js_aload_n (n := 1) X (dg dc_R_right 0 rfl) rfl rfl rfl ?_
  refine js_getf (j := 3) (v := .ref 28) (n := 4) X (dg dc_R_right 1 rfl) rfl hC_R (Nat.le_of_ble_eq_true rfl) hw_137 rfl rfl ?_
  refine js_iload_n (n := 5) X (dg dc_R_right 2 rfl) rfl rfl rfl ?_
  refine js_iaload (f := R.2.2.2.1) (n := 6) X (dg dc_R_right 3 rfl) rfl rfl ?_
  refine js_istore_n (lo' := [some (.ref 25), some (.int a1), some (.int (R.2.2.2.1 (ix a1))), none, none]) (n := 7) X (dg dc_R_right 4 rfl) rfl rfl (Nat.le_of_ble_eq_true rfl) rfl ?_
  refine js_aload_n (n := 8) X (dg dc_R_right 5 rfl) rfl rfl rfl ?_
  refine js_getf (j := 9) (v := .ref 32) (n := 11) X (dg dc_R_right 6 rfl) rfl hC_R (Nat.le_of_ble_eq_true rfl) hw_256 rfl rfl ?_
  refine js_iload_n (n := 12) X (dg dc_R_right 7 rfl) rfl rfl rfl ?_
  refine js_iaload (f := R.2.2.2.2.2.2.2.2.2.1) (n := 13) X (dg dc_R_right 8 rfl) rfl rfl ?_
  refine js_istore_n (lo' := [some (.ref 25), some (.int a1), some (.int (R.2.2.2.1 (ix a1))), some (.int (R.2.2.2.2.2.2.2.2.2.1 (ix (R.2.2.2.1 (ix a1))))), none]) (n := 14) X (dg dc_R_right 9 rfl) rfl rfl (Nat.le_of_ble_eq_true rfl) rfl ?_
  refine js_aload_n (n := 15) X (dg dc_R_right 10 rfl) rfl rfl rfl ?_
  refine js_getf (j := 16) (v := .ref 37) (n := 18) X (dg dc_R_right 11 rfl) rfl hC_R (Nat.le_of_ble_eq_true rfl) hw_215 rfl rfl ?_
  refine js_iload_n (n := 19) X (dg dc_R_right 12 rfl) rfl rfl rfl ?_
  refine js_iaload (f := R.2.2.2.2.2.2.2.2.2.2.2.2.2.2.2.2.1) (n := 20) X (dg dc_R_right 13 rfl) rfl rfl ?_
  refine js_istore (lo' := [some (.ref 25), some (.int a1), some (.int (R.2.2.2.1 (ix a1))), some (.int (R.2.2.2.2.2.2.2.2.2.1 (ix (R.2.2.2.1 (ix a1))))), some (.int (R.2.2.2.2.2.2.2.2.2.2.2.2.2.2.2.2.1 (ix a1)))]) (n := 22) X (dg dc_R_right 14 rfl) rfl (Nat.le_of_ble_eq_true rfl) rfl ?_
  refine js_aload_n (n := 23) X (dg dc_R_right 15 rfl) rfl rfl rfl ?_
  refine js_getf (j := 2) (v := .ref 27) (n := 26) X (dg dc_R_right 16 rfl) rfl hC_R (Nat.le_of_ble_eq_true rfl) hw_138 rfl rfl ?_
  refine js_iload_n (n := 27) X (dg dc_R_right 17 rfl) rfl rfl rfl ?_
  refine js_iaload (f := R.2.2.1) (n := 28) X (dg dc_R_right 18 rfl) rfl rfl ?_
  refine js_iconst (n := 29) 1 X (dg dc_R_right 19 rfl) rfl (by decide) ?_
  refine js_icmp_ne (t := 39) (n := 32) X (dg dc_R_right 20 rfl) (by decide) rfl ?_ ?_
  · exact js_keep [true, true, true, true, true] (jl_R_right_25_L39 l Dv fu h out κ X R a1 (R.2.2.2.1 (ix a1)) (R.2.2.2.2.2.2.2.2.2.1 (ix (R.2.2.2.1 (ix a1)))) (R.2.2.2.2.2.2.2.2.2.2.2.2.2.2.2.2.1 (ix a1)))
  refine js_aload_n (n := 33) X (dg dc_R_right 21 rfl) rfl rfl rfl ?_
  refine js_getf (j := 9) (v := .ref 32) (n := 36) X (dg dc_R_right 22 rfl) rfl hC_R (Nat.le_of_ble_eq_true rfl) hw_256 rfl rfl ?_
  refine js_iload_n (n := 37) X (dg dc_R_right 23 rfl) rfl rfl rfl ?_
  refine js_iconst (n := 38) 0 X (dg dc_R_right 24 rfl) rfl (by decide) ?_
  refine js_iastore (f := R.2.2.2.2.2.2.2.2.2.1) (n := 39) X (dg dc_R_right 25 rfl) rfl rfl ?_
  exact js_keep [true, true, true, true, true] (jl_R_right_25_L39 l Dv fu h out κ X (R.1, R.2.1, R.2.2.1, R.2.2.2.1, R.2.2.2.2.1, R.2.2.2.2.2.1, R.2.2.2.2.2.2.1, R.2.2.2.2.2.2.2.1, R.2.2.2.2.2.2.2.2.1, (upd R.2.2.2.2.2.2.2.2.2.1 (ix (R.2.2.2.1 (ix a1))) 0), R.2.2.2.2.2.2.2.2.2.2) a1 (R.2.2.2.1 (ix a1)) (R.2.2.2.2.2.2.2.2.2.1 (ix (R.2.2.2.1 (ix a1)))) (R.2.2.2.2.2.2.2.2.2.2.2.2.2.2.2.2.1 (ix a1)))
set_option maxRecDepth 100000 in
set_option maxHeartbeats 4000000 in
theorem jl_R_explains_25_L128 (l : Launch) (Dv : va_G) (fu : Nat) (h : S_H) (out : Nat → Int64) (κ : ev_ka) (X : ev_X l Dv gaX mu_R_explains κ) (k81 : S_R → Int32 → Int32 → Int32 → Int32 → Option (Int32 × S_R)) (hk81 : ∀ (R : S_R) (v1 : Int32) (v2 : Int32) (v3 : Int32) (v4 : Int32), ev_J l Dv gaX mu_R_explains κ 81 0 0 [some (.ref 25), some (.int v1), some (.int v2), some (.int v3), some (.int v4), none, none] [] (hpW h R out) (k81 R v1 v2 v3 v4) (fun q => (some (.int q.1), hpW h q.2 out))) : ∀ (n : Nat) (R : S_R) (v1 : Int32) (v2 : Int32) (v3 : Int32) (v4 : Int32) (v5 : Int32) (v6 : Int32), ev_J l Dv gaX mu_R_explains κ 128 0 0 [some (.ref 25), some (.int v1), some (.int v2), some (.int v3), some (.int v4), some (.int v5), some (.int v6)] [] (hpW h R out) (f_R_explains_L128 fu k81 n R v1 v2 v3 v4 v5 v6) (fun q => (some (.int q.1), hpW h q.2 out)) := by
  intro n
  induction n with
  | zero => exact fun _ _ _ _ _ _ _ => js_none
  | succ n ih =>
    intro R v1 v2 v3 v4 v5 v6
    unfold f_R_explains_L128
    refine js_iload (n := 130) X (dg dc_R_explains 76 rfl) rfl rfl ?_
    refine js_iload_n (n := 131) X (dg dc_R_explains 77 rfl) rfl rfl rfl ?_
    refine js_icmp_ge (t := 172) (n := 134) X (dg dc_R_explains 78 rfl) (by decide) rfl ?_ ?_
    · refine js_iinc (lo' := [some (.ref 25), some (.int v1), some (.int v2), some (.int v3), some (.int (v4 + 1)), some (.int v5), some (.int v6)]) (n := 175) 1 X (dg dc_R_explains 99 rfl) rfl (by decide) (Nat.le_of_ble_eq_true rfl) rfl rfl ?_
      refine js_goto (t := 81) X (dg dc_R_explains 100 rfl) (by decide) ?_
      exact js_keep [true, true, true, true, true, false, false] (hk81 R v1 v2 v3 (v4 + 1))
    refine js_iload_n (n := 135) X (dg dc_R_explains 79 rfl) rfl rfl rfl ?_
    refine js_if_eq (t := 164) (n := 138) X (dg dc_R_explains 80 rfl) (by decide) rfl ?_ ?_
    · refine js_iconst (n := 165) 0 X (dg dc_R_explains 95 rfl) rfl (by decide) ?_
      refine js_istore_n (lo' := [some (.ref 25), some (.int v1), some (.int 0), some (.int v3), some (.int v4), some (.int v5), some (.int v6)]) (n := 166) X (dg dc_R_explains 96 rfl) rfl rfl (Nat.le_of_ble_eq_true rfl) rfl ?_
      refine js_iinc (lo' := [some (.ref 25), some (.int v1), some (.int 0), some (.int v3), some (.int v4), some (.int v5), some (.int (v6 + 1))]) (n := 169) 1 X (dg dc_R_explains 97 rfl) rfl (by decide) (Nat.le_of_ble_eq_true rfl) rfl rfl ?_
      refine js_goto (t := 128) X (dg dc_R_explains 98 rfl) (by decide) ?_
      exact js_keep [true, true, true, true, true, true, true] (ih R v1 0 v3 v4 v5 (v6 + 1))
    refine js_aload_n (n := 139) X (dg dc_R_explains 81 rfl) rfl rfl rfl ?_
    refine js_getf (j := 18) (v := .ref 39) (n := 142) X (dg dc_R_explains 82 rfl) rfl hC_R (Nat.le_of_ble_eq_true rfl) hw_228 rfl rfl ?_
    refine js_aload_n (n := 143) X (dg dc_R_explains 83 rfl) rfl rfl rfl ?_
    refine js_iload_n (n := 144) X (dg dc_R_explains 84 rfl) rfl rfl rfl ?_
    refine js_iload (n := 146) X (dg dc_R_explains 85 rfl) rfl rfl ?_
    refine js_callV (na := 2) (ci := 6) (n := 149) X (dg dc_R_explains 86 rfl) rfl (c_R_placed_25 l Dv fu h out R v1 v6) gV_R_80 rfl rfl hy_R_placed ⟨(Nat.le_of_ble_eq_true rfl), (Nat.le_of_ble_eq_true rfl)⟩ rfl ⟨(Nat.le_of_ble_eq_true rfl), (Nat.le_of_ble_eq_true rfl)⟩ rfl rfl rfl rfl rfl ?_
    intro r146
    refine js_iaload (f := R.2.2.2.2.2.2.2.2.2.2.2.2.2.2.2.2.2.2.1) (n := 150) X (dg dc_R_explains 87 rfl) rfl rfl ?_
    refine js_aload_n (n := 151) X (dg dc_R_explains 88 rfl) rfl rfl rfl ?_
    refine js_getf (j := 17) (v := .ref 38) (n := 154) X (dg dc_R_explains 89 rfl) rfl hC_R (Nat.le_of_ble_eq_true rfl) hw_241 rfl rfl ?_
    refine js_iload (n := 156) X (dg dc_R_explains 90 rfl) rfl rfl ?_
    refine js_iaload (f := R.2.2.2.2.2.2.2.2.2.2.2.2.2.2.2.2.2.1) (n := 157) X (dg dc_R_explains 91 rfl) rfl rfl ?_
    refine js_icmp_le (t := 164) (n := 160) X (dg dc_R_explains 92 rfl) (by decide) rfl ?_ ?_
    · refine js_iconst (n := 165) 0 X (dg dc_R_explains 95 rfl) rfl (by decide) ?_
      refine js_istore_n (lo' := [some (.ref 25), some (.int v1), some (.int 0), some (.int v3), some (.int v4), some (.int v5), some (.int v6)]) (n := 166) X (dg dc_R_explains 96 rfl) rfl rfl (Nat.le_of_ble_eq_true rfl) rfl ?_
      refine js_iinc (lo' := [some (.ref 25), some (.int v1), some (.int 0), some (.int v3), some (.int v4), some (.int v5), some (.int (v6 + 1))]) (n := 169) 1 X (dg dc_R_explains 97 rfl) rfl (by decide) (Nat.le_of_ble_eq_true rfl) rfl rfl ?_
      refine js_goto (t := 128) X (dg dc_R_explains 98 rfl) (by decide) ?_
      exact js_keep [true, true, true, true, true, true, true] (ih R v1 0 v3 v4 v5 (v6 + 1))
    refine js_iconst (n := 161) 1 X (dg dc_R_explains 93 rfl) rfl (by decide) ?_
    refine js_goto (t := 165) X (dg dc_R_explains 94 rfl) (by decide) ?_
    refine js_istore_n (lo' := [some (.ref 25), some (.int v1), some (.int 1), some (.int v3), some (.int v4), some (.int v5), some (.int v6)]) (n := 166) X (dg dc_R_explains 96 rfl) rfl rfl (Nat.le_of_ble_eq_true rfl) rfl ?_
    refine js_iinc (lo' := [some (.ref 25), some (.int v1), some (.int 1), some (.int v3), some (.int v4), some (.int v5), some (.int (v6 + 1))]) (n := 169) 1 X (dg dc_R_explains 97 rfl) rfl (by decide) (Nat.le_of_ble_eq_true rfl) rfl rfl ?_
    refine js_goto (t := 128) X (dg dc_R_explains 98 rfl) (by decide) ?_
    exact js_keep [true, true, true, true, true, true, true] (ih R v1 1 v3 v4 v5 (v6 + 1))
set_option maxRecDepth 100000 in
set_option maxHeartbeats 4000000 in
theorem jl_R_explains_25_L81 (l : Launch) (Dv : va_G) (fu : Nat) (h : S_H) (out : Nat → Int64) (κ : ev_ka) (X : ev_X l Dv gaX mu_R_explains κ) : ∀ (n : Nat) (R : S_R) (v1 : Int32) (v2 : Int32) (v3 : Int32) (v4 : Int32), ev_J l Dv gaX mu_R_explains κ 81 0 0 [some (.ref 25), some (.int v1), some (.int v2), some (.int v3), some (.int v4), none, none] [] (hpW h R out) (f_R_explains_L81 fu n R v1 v2 v3 v4) (fun q => (some (.int q.1), hpW h q.2 out)) := by
  intro n
  induction n with
  | zero => exact fun _ _ _ _ _ => js_none
  | succ n ih =>
    intro R v1 v2 v3 v4
    unfold f_R_explains_L81
    refine js_iload (n := 83) X (dg dc_R_explains 50 rfl) rfl rfl ?_
    refine js_iload_n (n := 84) X (dg dc_R_explains 51 rfl) rfl rfl rfl ?_
    refine js_icmp_ge (t := 178) (n := 87) X (dg dc_R_explains 52 rfl) (by decide) rfl ?_ ?_
    · refine js_iload_n (n := 179) X (dg dc_R_explains 101 rfl) rfl rfl rfl ?_
      exact js_retZ X (dg dc_R_explains 102 rfl) rfl (Nat.le_of_ble_eq_true rfl) (Nat.le_of_ble_eq_true rfl) rfl
    refine js_iload_n (n := 88) X (dg dc_R_explains 53 rfl) rfl rfl rfl ?_
    refine js_if_eq (t := 178) (n := 91) X (dg dc_R_explains 54 rfl) (by decide) rfl ?_ ?_
    · refine js_iload_n (n := 179) X (dg dc_R_explains 101 rfl) rfl rfl rfl ?_
      exact js_retZ X (dg dc_R_explains 102 rfl) rfl (Nat.le_of_ble_eq_true rfl) (Nat.le_of_ble_eq_true rfl) rfl
    refine js_aload_n (n := 92) X (dg dc_R_explains 55 rfl) rfl rfl rfl ?_
    refine js_iload_n (n := 93) X (dg dc_R_explains 56 rfl) rfl rfl rfl ?_
    refine js_iload (n := 95) X (dg dc_R_explains 57 rfl) rfl rfl ?_
    refine js_callV (na := 2) (ci := 6) (n := 98) X (dg dc_R_explains 58 rfl) rfl (c_R_placed_25 l Dv fu h out R v1 v4) gV_R_80 rfl rfl hy_R_placed ⟨(Nat.le_of_ble_eq_true rfl), (Nat.le_of_ble_eq_true rfl)⟩ rfl ⟨(Nat.le_of_ble_eq_true rfl), (Nat.le_of_ble_eq_true rfl)⟩ rfl rfl rfl rfl rfl ?_
    intro r95
    refine js_istore (lo' := [some (.ref 25), some (.int v1), some (.int v2), some (.int v3), some (.int v4), some (.int r95), none]) (n := 100) X (dg dc_R_explains 59 rfl) rfl (Nat.le_of_ble_eq_true rfl) rfl ?_
    refine js_aload_n (n := 101) X (dg dc_R_explains 60 rfl) rfl rfl rfl ?_
    refine js_iload (n := 103) X (dg dc_R_explains 61 rfl) rfl rfl ?_
    refine js_callV (na := 1) (ci := 6) (n := 106) X (dg dc_R_explains 62 rfl) rfl (c_R_right_25 l Dv fu h out R r95) gV_R_176 rfl rfl hy_R_right ⟨(Nat.le_of_ble_eq_true rfl), (Nat.le_of_ble_eq_true rfl)⟩ rfl ⟨(Nat.le_of_ble_eq_true rfl), (Nat.le_of_ble_eq_true rfl)⟩ rfl rfl rfl rfl rfl ?_
    rintro ⟨r103, R_103⟩
    refine js_aload_n (n := 107) X (dg dc_R_explains 63 rfl) rfl rfl rfl ?_
    refine js_getf (j := 15) (v := .ref 36) (n := 110) X (dg dc_R_explains 64 rfl) rfl hC_R (Nat.le_of_ble_eq_true rfl) hw_217 rfl rfl ?_
    refine js_iload (n := 112) X (dg dc_R_explains 65 rfl) rfl rfl ?_
    refine js_iaload (f := R_103.2.2.2.2.2.2.2.2.2.2.2.2.2.2.2.1) (n := 113) X (dg dc_R_explains 66 rfl) rfl rfl ?_
    refine js_icmp_ne (t := 120) (n := 116) X (dg dc_R_explains 67 rfl) (by decide) rfl ?_ ?_
    · refine js_iconst (n := 121) 0 X (dg dc_R_explains 70 rfl) rfl (by decide) ?_
      refine js_istore_n (lo' := [some (.ref 25), some (.int v1), some (.int 0), some (.int v3), some (.int v4), some (.int r95), none]) (n := 122) X (dg dc_R_explains 71 rfl) rfl rfl (Nat.le_of_ble_eq_true rfl) rfl ?_
      refine js_iload (n := 124) X (dg dc_R_explains 72 rfl) rfl rfl ?_
      refine js_iconst (n := 125) 1 X (dg dc_R_explains 73 rfl) rfl (by decide) ?_
      refine js_iadd (n := 126) X (dg dc_R_explains 74 rfl) rfl ?_
      refine js_istore (lo' := [some (.ref 25), some (.int v1), some (.int 0), some (.int v3), some (.int v4), some (.int r95), some (.int (v4 + 1))]) (n := 128) X (dg dc_R_explains 75 rfl) rfl (Nat.le_of_ble_eq_true rfl) rfl ?_
      exact js_keep [true, true, true, true, true, true, true] (jl_R_explains_25_L128 l Dv fu h out κ X (f_R_explains_L81 fu n) (fun z0 z1 z2 z3 z4 => ih z0 z1 z2 z3 z4) fu R_103 v1 0 v3 v4 r95 (v4 + 1))
    refine js_iconst (n := 117) 1 X (dg dc_R_explains 68 rfl) rfl (by decide) ?_
    refine js_goto (t := 121) X (dg dc_R_explains 69 rfl) (by decide) ?_
    refine js_istore_n (lo' := [some (.ref 25), some (.int v1), some (.int 1), some (.int v3), some (.int v4), some (.int r95), none]) (n := 122) X (dg dc_R_explains 71 rfl) rfl rfl (Nat.le_of_ble_eq_true rfl) rfl ?_
    refine js_iload (n := 124) X (dg dc_R_explains 72 rfl) rfl rfl ?_
    refine js_iconst (n := 125) 1 X (dg dc_R_explains 73 rfl) rfl (by decide) ?_
    refine js_iadd (n := 126) X (dg dc_R_explains 74 rfl) rfl ?_
    refine js_istore (lo' := [some (.ref 25), some (.int v1), some (.int 1), some (.int v3), some (.int v4), some (.int r95), some (.int (v4 + 1))]) (n := 128) X (dg dc_R_explains 75 rfl) rfl (Nat.le_of_ble_eq_true rfl) rfl ?_
    exact js_keep [true, true, true, true, true, true, true] (jl_R_explains_25_L128 l Dv fu h out κ X (f_R_explains_L81 fu n) (fun z0 z1 z2 z3 z4 => ih z0 z1 z2 z3 z4) fu R_103 v1 1 v3 v4 r95 (v4 + 1))
set_option maxRecDepth 100000 in
set_option maxHeartbeats 4000000 in
theorem jl_R_explains_25_L64 (l : Launch) (Dv : va_G) (fu : Nat) (h : S_H) (out : Nat → Int64) (κ : ev_ka) (X : ev_X l Dv gaX mu_R_explains κ) (R : S_R) (v1 : Int32) (v2 : Int32) : ev_J l Dv gaX mu_R_explains κ 64 0 0 [some (.ref 25), some (.int v1), some (.int v2), none, none, none, none] [] (hpW h R out) (f_R_explains_L64 fu R v1 v2) (fun q => (some (.int q.1), hpW h q.2 out)) := by
  unfold f_R_explains_L64
  refine js_aload_n (n := 65) X (dg dc_R_explains 38 rfl) rfl rfl rfl ?_
  refine js_getf (j := 1) (v := .ref 26) (n := 68) X (dg dc_R_explains 39 rfl) rfl hC_R (Nat.le_of_ble_eq_true rfl) hw_127 rfl rfl ?_
  refine js_iconst (n := 69) 1 X (dg dc_R_explains 40 rfl) rfl (by decide) ?_
  refine js_iaload (f := R.2.1) (n := 70) X (dg dc_R_explains 41 rfl) rfl rfl ?_
  refine js_aload_n (n := 71) X (dg dc_R_explains 42 rfl) rfl rfl rfl ?_
  refine js_getf (j := 1) (v := .ref 26) (n := 74) X (dg dc_R_explains 43 rfl) rfl hC_R (Nat.le_of_ble_eq_true rfl) hw_127 rfl rfl ?_
  refine js_iconst (n := 75) 2 X (dg dc_R_explains 44 rfl) rfl (by decide) ?_
  refine js_iaload (f := R.2.1) (n := 76) X (dg dc_R_explains 45 rfl) rfl rfl ?_
  refine js_iadd (n := 77) X (dg dc_R_explains 46 rfl) rfl ?_
  refine js_istore_n (lo' := [some (.ref 25), some (.int v1), some (.int v2), some (.int ((R.2.1 (ix 1)) + (R.2.1 (ix 2)))), none, none, none]) (n := 78) X (dg dc_R_explains 47 rfl) rfl rfl (Nat.le_of_ble_eq_true rfl) rfl ?_
  refine js_iconst (n := 79) 0 X (dg dc_R_explains 48 rfl) rfl (by decide) ?_
  refine js_istore (lo' := [some (.ref 25), some (.int v1), some (.int v2), some (.int ((R.2.1 (ix 1)) + (R.2.1 (ix 2)))), some (.int 0), none, none]) (n := 81) X (dg dc_R_explains 49 rfl) rfl (Nat.le_of_ble_eq_true rfl) rfl ?_
  exact js_keep [true, true, true, true, true, false, false] (jl_R_explains_25_L81 l Dv fu h out κ X fu R v1 v2 ((R.2.1 (ix 1)) + (R.2.1 (ix 2))) 0)
set_option maxRecDepth 100000 in
set_option maxHeartbeats 4000000 in
theorem jl_R_explains_25_L24 (l : Launch) (Dv : va_G) (fu : Nat) (h : S_H) (out : Nat → Int64) (κ : ev_ka) (X : ev_X l Dv gaX mu_R_explains κ) : ∀ (n : Nat) (R : S_R) (v1 : Int32) (v2 : Int32) (v3 : Int32), ev_J l Dv gaX mu_R_explains κ 24 0 0 [some (.ref 25), some (.int v1), some (.int v2), some (.int v3), none, none, none] [] (hpW h R out) (f_R_explains_L24 fu n R v1 v2 v3) (fun q => (some (.int q.1), hpW h q.2 out)) := by
  intro n
  induction n with
  | zero => exact fun _ _ _ _ => js_none
  | succ n ih =>
    intro R v1 v2 v3
    unfold f_R_explains_L24
    refine js_iload_n (n := 25) X (dg dc_R_explains 16 rfl) rfl rfl rfl ?_
    refine js_aload_n (n := 26) X (dg dc_R_explains 17 rfl) rfl rfl rfl ?_
    refine js_getf (j := 1) (v := .ref 26) (n := 29) X (dg dc_R_explains 18 rfl) rfl hC_R (Nat.le_of_ble_eq_true rfl) hw_127 rfl rfl ?_
    refine js_iconst (n := 30) 0 X (dg dc_R_explains 19 rfl) rfl (by decide) ?_
    refine js_iaload (f := R.2.1) (n := 31) X (dg dc_R_explains 20 rfl) rfl rfl ?_
    refine js_icmp_ge (t := 64) (n := 34) X (dg dc_R_explains 21 rfl) (by decide) rfl ?_ ?_
    · exact js_keep [true, true, true, false, false, false, false] (jl_R_explains_25_L64 l Dv fu h out κ X R v1 v2)
    refine js_aload_n (n := 35) X (dg dc_R_explains 22 rfl) rfl rfl rfl ?_
    refine js_iload_n (n := 36) X (dg dc_R_explains 23 rfl) rfl rfl rfl ?_
    refine js_callV (na := 1) (ci := 6) (n := 39) X (dg dc_R_explains 24 rfl) rfl (c_R_right_25 l Dv fu h out R v3) gV_R_176 rfl rfl hy_R_right ⟨(Nat.le_of_ble_eq_true rfl), (Nat.le_of_ble_eq_true rfl)⟩ rfl ⟨(Nat.le_of_ble_eq_true rfl), (Nat.le_of_ble_eq_true rfl)⟩ rfl rfl rfl rfl rfl ?_
    rintro ⟨r36, R_36⟩
    refine js_aload_n (n := 40) X (dg dc_R_explains 25 rfl) rfl rfl rfl ?_
    refine js_getf (j := 15) (v := .ref 36) (n := 43) X (dg dc_R_explains 26 rfl) rfl hC_R (Nat.le_of_ble_eq_true rfl) hw_217 rfl rfl ?_
    refine js_iload_n (n := 44) X (dg dc_R_explains 27 rfl) rfl rfl rfl ?_
    refine js_iaload (f := R_36.2.2.2.2.2.2.2.2.2.2.2.2.2.2.2.1) (n := 45) X (dg dc_R_explains 28 rfl) rfl rfl ?_
    refine js_icmp_ne (t := 56) (n := 48) X (dg dc_R_explains 29 rfl) (by decide) rfl ?_ ?_
    · refine js_iconst (n := 57) 0 X (dg dc_R_explains 34 rfl) rfl (by decide) ?_
      refine js_istore_n (lo' := [some (.ref 25), some (.int v1), some (.int 0), some (.int v3), none, none, none]) (n := 58) X (dg dc_R_explains 35 rfl) rfl rfl (Nat.le_of_ble_eq_true rfl) rfl ?_
      refine js_iinc (lo' := [some (.ref 25), some (.int v1), some (.int 0), some (.int (v3 + 1)), none, none, none]) (n := 61) 1 X (dg dc_R_explains 36 rfl) rfl (by decide) (Nat.le_of_ble_eq_true rfl) rfl rfl ?_
      refine js_goto (t := 24) X (dg dc_R_explains 37 rfl) (by decide) ?_
      exact js_keep [true, true, true, true, false, false, false] (ih R_36 v1 0 (v3 + 1))
    refine js_iload_n (n := 49) X (dg dc_R_explains 30 rfl) rfl rfl rfl ?_
    refine js_if_eq (t := 56) (n := 52) X (dg dc_R_explains 31 rfl) (by decide) rfl ?_ ?_
    · refine js_iconst (n := 57) 0 X (dg dc_R_explains 34 rfl) rfl (by decide) ?_
      refine js_istore_n (lo' := [some (.ref 25), some (.int v1), some (.int 0), some (.int v3), none, none, none]) (n := 58) X (dg dc_R_explains 35 rfl) rfl rfl (Nat.le_of_ble_eq_true rfl) rfl ?_
      refine js_iinc (lo' := [some (.ref 25), some (.int v1), some (.int 0), some (.int (v3 + 1)), none, none, none]) (n := 61) 1 X (dg dc_R_explains 36 rfl) rfl (by decide) (Nat.le_of_ble_eq_true rfl) rfl rfl ?_
      refine js_goto (t := 24) X (dg dc_R_explains 37 rfl) (by decide) ?_
      exact js_keep [true, true, true, true, false, false, false] (ih R_36 v1 0 (v3 + 1))
    refine js_iconst (n := 53) 1 X (dg dc_R_explains 32 rfl) rfl (by decide) ?_
    refine js_goto (t := 57) X (dg dc_R_explains 33 rfl) (by decide) ?_
    refine js_istore_n (lo' := [some (.ref 25), some (.int v1), some (.int 1), some (.int v3), none, none, none]) (n := 58) X (dg dc_R_explains 35 rfl) rfl rfl (Nat.le_of_ble_eq_true rfl) rfl ?_
    refine js_iinc (lo' := [some (.ref 25), some (.int v1), some (.int 1), some (.int (v3 + 1)), none, none, none]) (n := 61) 1 X (dg dc_R_explains 36 rfl) rfl (by decide) (Nat.le_of_ble_eq_true rfl) rfl rfl ?_
    refine js_goto (t := 24) X (dg dc_R_explains 37 rfl) (by decide) ?_
    exact js_keep [true, true, true, true, false, false, false] (ih R_36 v1 1 (v3 + 1))
set_option maxRecDepth 100000 in
set_option maxHeartbeats 4000000 in
theorem jl_R_explains_25_L2 (l : Launch) (Dv : va_G) (fu : Nat) (h : S_H) (out : Nat → Int64) (κ : ev_ka) (X : ev_X l Dv gaX mu_R_explains κ) : ∀ (n : Nat) (R : S_R) (v1 : Int32) (v2 : Int32), ev_J l Dv gaX mu_R_explains κ 2 0 0 [some (.ref 25), some (.int v1), some (.int v2), none, none, none, none] [] (hpW h R out) (f_R_explains_L2 fu n R v1 v2) (fun q => (some (.int q.1), hpW h q.2 out)) := by
  intro n
  induction n with
  | zero => exact fun _ _ _ => js_none
  | succ n ih =>
    intro R v1 v2
    unfold f_R_explains_L2
    refine js_iload_n (n := 3) X (dg dc_R_explains 2 rfl) rfl rfl rfl ?_
    refine js_iconst (n := 4) 3 X (dg dc_R_explains 3 rfl) rfl (by decide) ?_
    refine js_icmp_ge (t := 20) (n := 7) X (dg dc_R_explains 4 rfl) (by decide) rfl ?_ ?_
    · refine js_iconst (n := 21) 1 X (dg dc_R_explains 12 rfl) rfl (by decide) ?_
      refine js_istore_n (lo' := [some (.ref 25), some (.int v1), some (.int 1), none, none, none, none]) (n := 22) X (dg dc_R_explains 13 rfl) rfl rfl (Nat.le_of_ble_eq_true rfl) rfl ?_
      refine js_iconst (n := 23) 0 X (dg dc_R_explains 14 rfl) rfl (by decide) ?_
      refine js_istore_n (lo' := [some (.ref 25), some (.int v1), some (.int 1), some (.int 0), none, none, none]) (n := 24) X (dg dc_R_explains 15 rfl) rfl rfl (Nat.le_of_ble_eq_true rfl) rfl ?_
      exact js_keep [true, true, true, true, false, false, false] (jl_R_explains_25_L24 l Dv fu h out κ X fu R v1 1 0)
    refine js_aload_n (n := 8) X (dg dc_R_explains 5 rfl) rfl rfl rfl ?_
    refine js_getf (j := 9) (v := .ref 32) (n := 11) X (dg dc_R_explains 6 rfl) rfl hC_R (Nat.le_of_ble_eq_true rfl) hw_256 rfl rfl ?_
    refine js_iload_n (n := 12) X (dg dc_R_explains 7 rfl) rfl rfl rfl ?_
    refine js_iconst (n := 13) 0 X (dg dc_R_explains 8 rfl) rfl (by decide) ?_
    refine js_iastore (f := R.2.2.2.2.2.2.2.2.2.1) (n := 14) X (dg dc_R_explains 9 rfl) rfl rfl ?_
    refine js_iinc (lo' := [some (.ref 25), some (.int v1), some (.int (v2 + 1)), none, none, none, none]) (n := 17) 1 X (dg dc_R_explains 10 rfl) rfl (by decide) (Nat.le_of_ble_eq_true rfl) rfl rfl ?_
    refine js_goto (t := 2) X (dg dc_R_explains 11 rfl) (by decide) ?_
    exact js_keep [true, true, true, false, false, false, false] (ih (R.1, R.2.1, R.2.2.1, R.2.2.2.1, R.2.2.2.2.1, R.2.2.2.2.2.1, R.2.2.2.2.2.2.1, R.2.2.2.2.2.2.2.1, R.2.2.2.2.2.2.2.2.1, (upd R.2.2.2.2.2.2.2.2.2.1 (ix v2) 0), R.2.2.2.2.2.2.2.2.2.2) v1 (v2 + 1))
set_option maxRecDepth 100000 in
set_option maxHeartbeats 4000000 in
theorem c_R_explains_25 (l : Launch) (Dv : va_G) (fu : Nat) (h : S_H) (out : Nat → Int64) (R : S_R) (a1 : Int32) : ev_M l Dv gaX mu_R_explains [.ref 25, .int a1] (hpW h R out) (f_R_explains fu R a1) (fun q => (some (.int q.1), hpW h q.2 out)) := by
  refine ev_met (lo0 := [some (.ref 25), some (.int a1), none, none, none, none, none]) rfl rfl rfl (fun κ X => ?_)
  unfold f_R_explains
  refine js_iconst (n := 1) 0 X (dg dc_R_explains 0 rfl) rfl (by decide) ?_
  refine js_istore_n (lo' := [some (.ref 25), some (.int a1), some (.int 0), none, none, none, none]) (n := 2) X (dg dc_R_explains 1 rfl) rfl rfl (Nat.le_of_ble_eq_true rfl) rfl ?_
  exact js_keep [true, true, true, false, false, false, false] (jl_R_explains_25_L2 l Dv fu h out κ X fu R a1 0)
set_option maxRecDepth 100000 in
set_option maxHeartbeats 4000000 in
theorem jl_R_judged_25_L122 (l : Launch) (Dv : va_G) (fu : Nat) (h : S_H) (out : Nat → Int64) (κ : ev_ka) (X : ev_X l Dv gaX mu_R_judged κ) (R : S_R) : ev_J l Dv gaX mu_R_judged κ 122 0 0 [some (.ref 25), none, none, none] [] (hpW h R out) (f_R_judged_L122 fu R) (fun q => (some (.int q.1), hpW h q.2 out)) := by
  unfold f_R_judged_L122
  refine js_aload_n (n := 123) X (dg dc_R_judged 72 rfl) rfl rfl rfl ?_
  refine js_dup (n := 124) X (dg dc_R_judged 73 rfl) rfl rfl ?_
  refine js_getf (j := 24) (v := .int R.2.2.2.2.2.2.2.2.2.2.2.2.2.2.2.2.2.2.2.2.2.2.2.2.1) (n := 127) X (dg dc_R_judged 74 rfl) rfl hC_R (Nat.le_of_ble_eq_true rfl) hw_267 rfl rfl ?_
  refine js_aload_n (n := 128) X (dg dc_R_judged 75 rfl) rfl rfl rfl ?_
  refine js_getf (j := 14) (v := .int R.2.2.2.2.2.2.2.2.2.2.2.2.2.2.1) (n := 131) X (dg dc_R_judged 76 rfl) rfl hC_R (Nat.le_of_ble_eq_true rfl) hw_266 rfl rfl ?_
  refine js_if_eq (t := 138) (n := 134) X (dg dc_R_judged 77 rfl) (by decide) rfl ?_ ?_
  · refine js_iconst (n := 139) 1 X (dg dc_R_judged 80 rfl) rfl (by decide) ?_
    refine js_iadd (n := 140) X (dg dc_R_judged 81 rfl) rfl ?_
    refine js_puti (j := 24) (n := 143) X (dg dc_R_judged 82 rfl) rfl hC_R (Nat.le_of_ble_eq_true rfl) hw_267 rfl rfl (Or.inl rfl) (Nat.le_of_ble_eq_true rfl) ?_
    refine js_aload_n (n := 144) X (dg dc_R_judged 83 rfl) rfl rfl rfl ?_
    refine js_getf (j := 14) (v := .int R.2.2.2.2.2.2.2.2.2.2.2.2.2.2.1) (n := 147) X (dg dc_R_judged 84 rfl) rfl hC_R (Nat.le_of_ble_eq_true rfl) hw_266 rfl rfl ?_
    exact js_retZ X (dg dc_R_judged 85 rfl) rfl (Nat.le_of_ble_eq_true rfl) (Nat.le_of_ble_eq_true rfl) rfl
  refine js_iconst (n := 135) 0 X (dg dc_R_judged 78 rfl) rfl (by decide) ?_
  refine js_goto (t := 139) X (dg dc_R_judged 79 rfl) (by decide) ?_
  refine js_iadd (n := 140) X (dg dc_R_judged 81 rfl) rfl ?_
  refine js_puti (j := 24) (n := 143) X (dg dc_R_judged 82 rfl) rfl hC_R (Nat.le_of_ble_eq_true rfl) hw_267 rfl rfl (Or.inl rfl) (Nat.le_of_ble_eq_true rfl) ?_
  refine js_aload_n (n := 144) X (dg dc_R_judged 83 rfl) rfl rfl rfl ?_
  refine js_getf (j := 14) (v := .int R.2.2.2.2.2.2.2.2.2.2.2.2.2.2.1) (n := 147) X (dg dc_R_judged 84 rfl) rfl hC_R (Nat.le_of_ble_eq_true rfl) hw_266 rfl rfl ?_
  exact js_retZ X (dg dc_R_judged 85 rfl) rfl (Nat.le_of_ble_eq_true rfl) (Nat.le_of_ble_eq_true rfl) rfl
set_option maxRecDepth 100000 in
set_option maxHeartbeats 4000000 in
theorem jl_R_judged_25_L74 (l : Launch) (Dv : va_G) (fu : Nat) (h : S_H) (out : Nat → Int64) (κ : ev_ka) (X : ev_X l Dv gaX mu_R_judged κ) : ∀ (n : Nat) (R : S_R) (v2 : Int32) (v3 : Int32), ev_J l Dv gaX mu_R_judged κ 74 0 0 [some (.ref 25), none, some (.int v2), some (.int v3)] [] (hpW h R out) (f_R_judged_L74 fu n R v2 v3) (fun q => (some (.int q.1), hpW h q.2 out)) := by
  intro n
  induction n with
  | zero => exact fun _ _ _ => js_none
  | succ n ih =>
    intro R v2 v3
    unfold f_R_judged_L74
    refine js_iload_n (n := 75) X (dg dc_R_judged 48 rfl) rfl rfl rfl ?_
    refine js_iload_n (n := 76) X (dg dc_R_judged 49 rfl) rfl rfl rfl ?_
    refine js_icmp_ge (t := 122) (n := 79) X (dg dc_R_judged 50 rfl) (by decide) rfl ?_ ?_
    · exact js_keep [true, false, false, false] (jl_R_judged_25_L122 l Dv fu h out κ X R)
    refine js_aload_n (n := 80) X (dg dc_R_judged 51 rfl) rfl rfl rfl ?_
    refine js_getf (j := 14) (v := .int R.2.2.2.2.2.2.2.2.2.2.2.2.2.2.1) (n := 83) X (dg dc_R_judged 52 rfl) rfl hC_R (Nat.le_of_ble_eq_true rfl) hw_266 rfl rfl ?_
    refine js_if_ne (t := 122) (n := 86) X (dg dc_R_judged 53 rfl) (by decide) rfl ?_ ?_
    · exact js_keep [true, false, false, false] (jl_R_judged_25_L122 l Dv fu h out κ X R)
    refine js_aload_n (n := 87) X (dg dc_R_judged 54 rfl) rfl rfl rfl ?_
    refine js_aload_n (n := 88) X (dg dc_R_judged 55 rfl) rfl rfl rfl ?_
    refine js_iload_n (n := 89) X (dg dc_R_judged 56 rfl) rfl rfl rfl ?_
    refine js_callV (na := 1) (ci := 6) (n := 92) X (dg dc_R_judged 57 rfl) rfl (c_R_isOrder_25 l Dv fu h out R v3) gV_R_92 rfl rfl hy_R_isOrder ⟨(Nat.le_of_ble_eq_true rfl), (Nat.le_of_ble_eq_true rfl)⟩ rfl ⟨(Nat.le_of_ble_eq_true rfl), (Nat.le_of_ble_eq_true rfl)⟩ rfl rfl rfl rfl rfl ?_
    intro r89
    refine js_if_eq (t := 107) (n := 95) X (dg dc_R_judged 58 rfl) (by decide) rfl ?_ ?_
    · refine js_iconst (n := 108) 0 X (dg dc_R_judged 65 rfl) rfl (by decide) ?_
      refine js_putz (j := 14) (n := 111) X (dg dc_R_judged 66 rfl) rfl hC_R (Nat.le_of_ble_eq_true rfl) hw_266 rfl rfl (Or.inl rfl) (Nat.le_of_ble_eq_true rfl) ?_
      refine js_aload_n (n := 112) X (dg dc_R_judged 67 rfl) rfl rfl rfl ?_
      refine js_iload_n (n := 113) X (dg dc_R_judged 68 rfl) rfl rfl rfl ?_
      refine js_puti (j := 22) (n := 116) X (dg dc_R_judged 69 rfl) rfl hC_R (Nat.le_of_ble_eq_true rfl) hw_268 rfl rfl (Or.inl rfl) (Nat.le_of_ble_eq_true rfl) ?_
      refine js_iinc (lo' := [some (.ref 25), none, some (.int v2), some (.int (v3 + 1))]) (n := 119) 1 X (dg dc_R_judged 70 rfl) rfl (by decide) (Nat.le_of_ble_eq_true rfl) rfl rfl ?_
      refine js_goto (t := 74) X (dg dc_R_judged 71 rfl) (by decide) ?_
      exact js_keep [true, false, true, true] (ih (R.1, R.2.1, R.2.2.1, R.2.2.2.1, R.2.2.2.2.1, R.2.2.2.2.2.1, R.2.2.2.2.2.2.1, R.2.2.2.2.2.2.2.1, R.2.2.2.2.2.2.2.2.1, R.2.2.2.2.2.2.2.2.2.1, R.2.2.2.2.2.2.2.2.2.2.1, R.2.2.2.2.2.2.2.2.2.2.2.1, R.2.2.2.2.2.2.2.2.2.2.2.2.1, R.2.2.2.2.2.2.2.2.2.2.2.2.2.1, 0, R.2.2.2.2.2.2.2.2.2.2.2.2.2.2.2.1, R.2.2.2.2.2.2.2.2.2.2.2.2.2.2.2.2.1, R.2.2.2.2.2.2.2.2.2.2.2.2.2.2.2.2.2.1, R.2.2.2.2.2.2.2.2.2.2.2.2.2.2.2.2.2.2.1, R.2.2.2.2.2.2.2.2.2.2.2.2.2.2.2.2.2.2.2.1, R.2.2.2.2.2.2.2.2.2.2.2.2.2.2.2.2.2.2.2.2.1, R.2.2.2.2.2.2.2.2.2.2.2.2.2.2.2.2.2.2.2.2.2.1, v3, R.2.2.2.2.2.2.2.2.2.2.2.2.2.2.2.2.2.2.2.2.2.2.2) v2 (v3 + 1))
    refine js_aload_n (n := 96) X (dg dc_R_judged 59 rfl) rfl rfl rfl ?_
    refine js_iload_n (n := 97) X (dg dc_R_judged 60 rfl) rfl rfl rfl ?_
    refine js_callV (na := 1) (ci := 6) (n := 100) X (dg dc_R_judged 61 rfl) rfl (c_R_explains_25 l Dv fu h out R v3) gV_R_188 rfl rfl hy_R_explains ⟨(Nat.le_of_ble_eq_true rfl), (Nat.le_of_ble_eq_true rfl)⟩ rfl ⟨(Nat.le_of_ble_eq_true rfl), (Nat.le_of_ble_eq_true rfl)⟩ rfl rfl rfl rfl rfl ?_
    rintro ⟨r97, R_97⟩
    refine js_if_eq (t := 107) (n := 103) X (dg dc_R_judged 62 rfl) (by decide) rfl ?_ ?_
    · refine js_iconst (n := 108) 0 X (dg dc_R_judged 65 rfl) rfl (by decide) ?_
      refine js_putz (j := 14) (n := 111) X (dg dc_R_judged 66 rfl) rfl hC_R (Nat.le_of_ble_eq_true rfl) hw_266 rfl rfl (Or.inl rfl) (Nat.le_of_ble_eq_true rfl) ?_
      refine js_aload_n (n := 112) X (dg dc_R_judged 67 rfl) rfl rfl rfl ?_
      refine js_iload_n (n := 113) X (dg dc_R_judged 68 rfl) rfl rfl rfl ?_
      refine js_puti (j := 22) (n := 116) X (dg dc_R_judged 69 rfl) rfl hC_R (Nat.le_of_ble_eq_true rfl) hw_268 rfl rfl (Or.inl rfl) (Nat.le_of_ble_eq_true rfl) ?_
      refine js_iinc (lo' := [some (.ref 25), none, some (.int v2), some (.int (v3 + 1))]) (n := 119) 1 X (dg dc_R_judged 70 rfl) rfl (by decide) (Nat.le_of_ble_eq_true rfl) rfl rfl ?_
      refine js_goto (t := 74) X (dg dc_R_judged 71 rfl) (by decide) ?_
      exact js_keep [true, false, true, true] (ih (R_97.1, R_97.2.1, R_97.2.2.1, R_97.2.2.2.1, R_97.2.2.2.2.1, R_97.2.2.2.2.2.1, R_97.2.2.2.2.2.2.1, R_97.2.2.2.2.2.2.2.1, R_97.2.2.2.2.2.2.2.2.1, R_97.2.2.2.2.2.2.2.2.2.1, R_97.2.2.2.2.2.2.2.2.2.2.1, R_97.2.2.2.2.2.2.2.2.2.2.2.1, R_97.2.2.2.2.2.2.2.2.2.2.2.2.1, R_97.2.2.2.2.2.2.2.2.2.2.2.2.2.1, 0, R_97.2.2.2.2.2.2.2.2.2.2.2.2.2.2.2.1, R_97.2.2.2.2.2.2.2.2.2.2.2.2.2.2.2.2.1, R_97.2.2.2.2.2.2.2.2.2.2.2.2.2.2.2.2.2.1, R_97.2.2.2.2.2.2.2.2.2.2.2.2.2.2.2.2.2.2.1, R_97.2.2.2.2.2.2.2.2.2.2.2.2.2.2.2.2.2.2.2.1, R_97.2.2.2.2.2.2.2.2.2.2.2.2.2.2.2.2.2.2.2.2.1, R_97.2.2.2.2.2.2.2.2.2.2.2.2.2.2.2.2.2.2.2.2.2.1, v3, R_97.2.2.2.2.2.2.2.2.2.2.2.2.2.2.2.2.2.2.2.2.2.2.2) v2 (v3 + 1))
    refine js_iconst (n := 104) 1 X (dg dc_R_judged 63 rfl) rfl (by decide) ?_
    refine js_goto (t := 108) X (dg dc_R_judged 64 rfl) (by decide) ?_
    refine js_putz (j := 14) (n := 111) X (dg dc_R_judged 66 rfl) rfl hC_R (Nat.le_of_ble_eq_true rfl) hw_266 rfl rfl (Or.inl rfl) (Nat.le_of_ble_eq_true rfl) ?_
    refine js_aload_n (n := 112) X (dg dc_R_judged 67 rfl) rfl rfl rfl ?_
    refine js_iload_n (n := 113) X (dg dc_R_judged 68 rfl) rfl rfl rfl ?_
    refine js_puti (j := 22) (n := 116) X (dg dc_R_judged 69 rfl) rfl hC_R (Nat.le_of_ble_eq_true rfl) hw_268 rfl rfl (Or.inl rfl) (Nat.le_of_ble_eq_true rfl) ?_
    refine js_iinc (lo' := [some (.ref 25), none, some (.int v2), some (.int (v3 + 1))]) (n := 119) 1 X (dg dc_R_judged 70 rfl) rfl (by decide) (Nat.le_of_ble_eq_true rfl) rfl rfl ?_
    refine js_goto (t := 74) X (dg dc_R_judged 71 rfl) (by decide) ?_
    exact js_keep [true, false, true, true] (ih (R_97.1, R_97.2.1, R_97.2.2.1, R_97.2.2.2.1, R_97.2.2.2.2.1, R_97.2.2.2.2.2.1, R_97.2.2.2.2.2.2.1, R_97.2.2.2.2.2.2.2.1, R_97.2.2.2.2.2.2.2.2.1, R_97.2.2.2.2.2.2.2.2.2.1, R_97.2.2.2.2.2.2.2.2.2.2.1, R_97.2.2.2.2.2.2.2.2.2.2.2.1, R_97.2.2.2.2.2.2.2.2.2.2.2.2.1, R_97.2.2.2.2.2.2.2.2.2.2.2.2.2.1, 1, R_97.2.2.2.2.2.2.2.2.2.2.2.2.2.2.2.1, R_97.2.2.2.2.2.2.2.2.2.2.2.2.2.2.2.2.1, R_97.2.2.2.2.2.2.2.2.2.2.2.2.2.2.2.2.2.1, R_97.2.2.2.2.2.2.2.2.2.2.2.2.2.2.2.2.2.2.1, R_97.2.2.2.2.2.2.2.2.2.2.2.2.2.2.2.2.2.2.2.1, R_97.2.2.2.2.2.2.2.2.2.2.2.2.2.2.2.2.2.2.2.2.1, R_97.2.2.2.2.2.2.2.2.2.2.2.2.2.2.2.2.2.2.2.2.2.1, v3, R_97.2.2.2.2.2.2.2.2.2.2.2.2.2.2.2.2.2.2.2.2.2.2.2) v2 (v3 + 1))
set_option maxRecDepth 100000 in
set_option maxHeartbeats 4000000 in
theorem jl_R_judged_25_L51 (l : Launch) (Dv : va_G) (fu : Nat) (h : S_H) (out : Nat → Int64) (κ : ev_ka) (X : ev_X l Dv gaX mu_R_judged κ) (R : S_R) : ev_J l Dv gaX mu_R_judged κ 51 0 0 [some (.ref 25), none, none, none] [] (hpW h R out) (f_R_judged_L51 fu R) (fun q => (some (.int q.1), hpW h q.2 out)) := by
  unfold f_R_judged_L51
  refine js_aload_n (n := 52) X (dg dc_R_judged 31 rfl) rfl rfl rfl ?_
  refine js_iconst (n := 53) 0 X (dg dc_R_judged 32 rfl) rfl (by decide) ?_
  refine js_putz (j := 14) (n := 56) X (dg dc_R_judged 33 rfl) rfl hC_R (Nat.le_of_ble_eq_true rfl) hw_266 rfl rfl (Or.inl rfl) (Nat.le_of_ble_eq_true rfl) ?_
  refine js_iconst (n := 57) 1 X (dg dc_R_judged 34 rfl) rfl (by decide) ?_
  refine js_aload_n (n := 58) X (dg dc_R_judged 35 rfl) rfl rfl rfl ?_
  refine js_getf (j := 1) (v := .ref 26) (n := 61) X (dg dc_R_judged 36 rfl) rfl hC_R (Nat.le_of_ble_eq_true rfl) hw_127 rfl rfl ?_
  refine js_iconst (n := 62) 1 X (dg dc_R_judged 37 rfl) rfl (by decide) ?_
  refine js_iaload (f := R.2.1) (n := 63) X (dg dc_R_judged 38 rfl) rfl rfl ?_
  refine js_aload_n (n := 64) X (dg dc_R_judged 39 rfl) rfl rfl rfl ?_
  refine js_getf (j := 1) (v := .ref 26) (n := 67) X (dg dc_R_judged 40 rfl) rfl hC_R (Nat.le_of_ble_eq_true rfl) hw_127 rfl rfl ?_
  refine js_iconst (n := 68) 2 X (dg dc_R_judged 41 rfl) rfl (by decide) ?_
  refine js_iaload (f := R.2.1) (n := 69) X (dg dc_R_judged 42 rfl) rfl rfl ?_
  refine js_iadd (n := 70) X (dg dc_R_judged 43 rfl) rfl ?_
  refine js_ishl (n := 71) X (dg dc_R_judged 44 rfl) rfl ?_
  refine js_istore_n (lo' := [some (.ref 25), none, some (.int (1 <<< (((R.2.1 (ix 1)) + (R.2.1 (ix 2))) &&& 31))), none]) (n := 72) X (dg dc_R_judged 45 rfl) rfl rfl (Nat.le_of_ble_eq_true rfl) rfl ?_
  refine js_iconst (n := 73) 0 X (dg dc_R_judged 46 rfl) rfl (by decide) ?_
  refine js_istore_n (lo' := [some (.ref 25), none, some (.int (1 <<< (((R.2.1 (ix 1)) + (R.2.1 (ix 2))) &&& 31))), some (.int 0)]) (n := 74) X (dg dc_R_judged 47 rfl) rfl rfl (Nat.le_of_ble_eq_true rfl) rfl ?_
  exact js_keep [true, false, true, true] (jl_R_judged_25_L74 l Dv fu h out κ X fu (R.1, R.2.1, R.2.2.1, R.2.2.2.1, R.2.2.2.2.1, R.2.2.2.2.2.1, R.2.2.2.2.2.2.1, R.2.2.2.2.2.2.2.1, R.2.2.2.2.2.2.2.2.1, R.2.2.2.2.2.2.2.2.2.1, R.2.2.2.2.2.2.2.2.2.2.1, R.2.2.2.2.2.2.2.2.2.2.2.1, R.2.2.2.2.2.2.2.2.2.2.2.2.1, R.2.2.2.2.2.2.2.2.2.2.2.2.2.1, 0, R.2.2.2.2.2.2.2.2.2.2.2.2.2.2.2) (1 <<< (((R.2.1 (ix 1)) + (R.2.1 (ix 2))) &&& 31)) 0)
set_option maxRecDepth 100000 in
set_option maxHeartbeats 4000000 in
theorem jl_R_judged_25_L22 (l : Launch) (Dv : va_G) (fu : Nat) (h : S_H) (out : Nat → Int64) (κ : ev_ka) (X : ev_X l Dv gaX mu_R_judged κ) : ∀ (n : Nat) (R : S_R) (v2 : Int32), ev_J l Dv gaX mu_R_judged κ 22 0 0 [some (.ref 25), none, some (.int v2), none] [] (hpW h R out) (f_R_judged_L22 fu n R v2) (fun q => (some (.int q.1), hpW h q.2 out)) := by
  intro n
  induction n with
  | zero => exact fun _ _ => js_none
  | succ n ih =>
    intro R v2
    unfold f_R_judged_L22
    refine js_iload_n (n := 23) X (dg dc_R_judged 14 rfl) rfl rfl rfl ?_
    refine js_aload_n (n := 24) X (dg dc_R_judged 15 rfl) rfl rfl rfl ?_
    refine js_callV (na := 0) (ci := 6) (n := 27) X (dg dc_R_judged 16 rfl) rfl (c_R_many_25 l Dv fu h out R) gV_R_84 rfl rfl hy_R_many ⟨(Nat.le_of_ble_eq_true rfl), (Nat.le_of_ble_eq_true rfl)⟩ rfl ⟨(Nat.le_of_ble_eq_true rfl), (Nat.le_of_ble_eq_true rfl)⟩ rfl rfl rfl rfl rfl ?_
    intro r24
    refine js_icmp_ge (t := 51) (n := 30) X (dg dc_R_judged 17 rfl) (by decide) rfl ?_ ?_
    · exact js_keep [true, false, false, false] (jl_R_judged_25_L51 l Dv fu h out κ X R)
    refine js_aload_n (n := 31) X (dg dc_R_judged 18 rfl) rfl rfl rfl ?_
    refine js_getf (j := 27) (v := .ref 43) (n := 34) X (dg dc_R_judged 19 rfl) rfl hC_R (Nat.le_of_ble_eq_true rfl) hw_273 rfl rfl ?_
    refine js_aload_n (n := 35) X (dg dc_R_judged 20 rfl) rfl rfl rfl ?_
    refine js_getf (j := 2) (v := .ref 27) (n := 38) X (dg dc_R_judged 21 rfl) rfl hC_R (Nat.le_of_ble_eq_true rfl) hw_138 rfl rfl ?_
    refine js_iload_n (n := 39) X (dg dc_R_judged 22 rfl) rfl rfl rfl ?_
    refine js_iaload (f := R.2.2.1) (n := 40) X (dg dc_R_judged 23 rfl) rfl rfl ?_
    refine js_dup2 (n := 41) X (dg dc_R_judged 24 rfl) rfl rfl rfl ?_
    refine js_iaload (f := R.2.2.2.2.2.2.2.2.2.2.2.2.2.2.2.2.2.2.2.2.2.2.2.2.2.2.2) (n := 42) X (dg dc_R_judged 25 rfl) rfl rfl ?_
    refine js_iconst (n := 43) 1 X (dg dc_R_judged 26 rfl) rfl (by decide) ?_
    refine js_iadd (n := 44) X (dg dc_R_judged 27 rfl) rfl ?_
    refine js_iastore (f := R.2.2.2.2.2.2.2.2.2.2.2.2.2.2.2.2.2.2.2.2.2.2.2.2.2.2.2) (n := 45) X (dg dc_R_judged 28 rfl) rfl rfl ?_
    refine js_iinc (lo' := [some (.ref 25), none, some (.int (v2 + 1)), none]) (n := 48) 1 X (dg dc_R_judged 29 rfl) rfl (by decide) (Nat.le_of_ble_eq_true rfl) rfl rfl ?_
    refine js_goto (t := 22) X (dg dc_R_judged 30 rfl) (by decide) ?_
    exact js_keep [true, false, true, false] (ih (R.1, R.2.1, R.2.2.1, R.2.2.2.1, R.2.2.2.2.1, R.2.2.2.2.2.1, R.2.2.2.2.2.2.1, R.2.2.2.2.2.2.2.1, R.2.2.2.2.2.2.2.2.1, R.2.2.2.2.2.2.2.2.2.1, R.2.2.2.2.2.2.2.2.2.2.1, R.2.2.2.2.2.2.2.2.2.2.2.1, R.2.2.2.2.2.2.2.2.2.2.2.2.1, R.2.2.2.2.2.2.2.2.2.2.2.2.2.1, R.2.2.2.2.2.2.2.2.2.2.2.2.2.2.1, R.2.2.2.2.2.2.2.2.2.2.2.2.2.2.2.1, R.2.2.2.2.2.2.2.2.2.2.2.2.2.2.2.2.1, R.2.2.2.2.2.2.2.2.2.2.2.2.2.2.2.2.2.1, R.2.2.2.2.2.2.2.2.2.2.2.2.2.2.2.2.2.2.1, R.2.2.2.2.2.2.2.2.2.2.2.2.2.2.2.2.2.2.2.1, R.2.2.2.2.2.2.2.2.2.2.2.2.2.2.2.2.2.2.2.2.1, R.2.2.2.2.2.2.2.2.2.2.2.2.2.2.2.2.2.2.2.2.2.1, R.2.2.2.2.2.2.2.2.2.2.2.2.2.2.2.2.2.2.2.2.2.2.1, R.2.2.2.2.2.2.2.2.2.2.2.2.2.2.2.2.2.2.2.2.2.2.2.1, R.2.2.2.2.2.2.2.2.2.2.2.2.2.2.2.2.2.2.2.2.2.2.2.2.1, R.2.2.2.2.2.2.2.2.2.2.2.2.2.2.2.2.2.2.2.2.2.2.2.2.2.1, R.2.2.2.2.2.2.2.2.2.2.2.2.2.2.2.2.2.2.2.2.2.2.2.2.2.2.1, (upd R.2.2.2.2.2.2.2.2.2.2.2.2.2.2.2.2.2.2.2.2.2.2.2.2.2.2.2 (ix (R.2.2.1 (ix v2))) ((R.2.2.2.2.2.2.2.2.2.2.2.2.2.2.2.2.2.2.2.2.2.2.2.2.2.2.2 (ix (R.2.2.1 (ix v2)))) + 1))) (v2 + 1))
set_option maxRecDepth 100000 in
set_option maxHeartbeats 4000000 in
theorem c_R_judged_25 (l : Launch) (Dv : va_G) (fu : Nat) (h : S_H) (out : Nat → Int64) (R : S_R) (a1 : Int32) : ev_M l Dv gaX mu_R_judged [.ref 25, .int a1] (hpW h R out) (f_R_judged fu R a1) (fun q => (some (.int q.1), hpW h q.2 out)) := by
  refine ev_met (lo0 := [some (.ref 25), some (.int a1), none, none]) rfl rfl rfl (fun κ X => ?_)
  unfold f_R_judged
  refine js_aload_n (n := 1) X (dg dc_R_judged 0 rfl) rfl rfl rfl ?_
  refine js_iload_n (n := 2) X (dg dc_R_judged 1 rfl) rfl rfl rfl ?_
  refine js_callV (na := 1) (ci := 6) (n := 5) X (dg dc_R_judged 2 rfl) rfl (c_R_go_25 l Dv fu h out R a1) gV_R_179 rfl rfl hy_R_go ⟨(Nat.le_of_ble_eq_true rfl), (Nat.le_of_ble_eq_true rfl)⟩ rfl ⟨(Nat.le_of_ble_eq_true rfl), (Nat.le_of_ble_eq_true rfl)⟩ rfl rfl rfl rfl rfl ?_
  intro R_2
  refine js_aload_n (n := 6) X (dg dc_R_judged 3 rfl) rfl rfl rfl ?_
  refine js_iconst (n := 7) 1 X (dg dc_R_judged 4 rfl) rfl (by decide) ?_
  refine js_putz (j := 13) (n := 10) X (dg dc_R_judged 5 rfl) rfl hC_R (Nat.le_of_ble_eq_true rfl) hw_190 rfl rfl (Or.inl rfl) (Nat.le_of_ble_eq_true rfl) ?_
  refine js_aload_n (n := 11) X (dg dc_R_judged 6 rfl) rfl rfl rfl ?_
  refine js_dup (n := 12) X (dg dc_R_judged 7 rfl) rfl rfl ?_
  refine js_getf (j := 23) (v := .int R_2.2.2.2.2.2.2.2.2.2.2.2.2.2.2.2.2.2.2.2.2.2.2.2.1) (n := 15) X (dg dc_R_judged 8 rfl) rfl hC_R (Nat.le_of_ble_eq_true rfl) hw_265 rfl rfl ?_
  refine js_iconst (n := 16) 1 X (dg dc_R_judged 9 rfl) rfl (by decide) ?_
  refine js_iadd (n := 17) X (dg dc_R_judged 10 rfl) rfl ?_
  refine js_puti (j := 23) (n := 20) X (dg dc_R_judged 11 rfl) rfl hC_R (Nat.le_of_ble_eq_true rfl) hw_265 rfl rfl (Or.inl rfl) (Nat.le_of_ble_eq_true rfl) ?_
  refine js_iconst (n := 21) 0 X (dg dc_R_judged 12 rfl) rfl (by decide) ?_
  refine js_istore_n (lo' := [some (.ref 25), some (.int a1), some (.int 0), none]) (n := 22) X (dg dc_R_judged 13 rfl) rfl rfl (Nat.le_of_ble_eq_true rfl) rfl ?_
  exact js_keep [true, false, true, false] (jl_R_judged_25_L22 l Dv fu h out κ X fu (R_2.1, R_2.2.1, R_2.2.2.1, R_2.2.2.2.1, R_2.2.2.2.2.1, R_2.2.2.2.2.2.1, R_2.2.2.2.2.2.2.1, R_2.2.2.2.2.2.2.2.1, R_2.2.2.2.2.2.2.2.2.1, R_2.2.2.2.2.2.2.2.2.2.1, R_2.2.2.2.2.2.2.2.2.2.2.1, R_2.2.2.2.2.2.2.2.2.2.2.2.1, R_2.2.2.2.2.2.2.2.2.2.2.2.2.1, 1, R_2.2.2.2.2.2.2.2.2.2.2.2.2.2.2.1, R_2.2.2.2.2.2.2.2.2.2.2.2.2.2.2.2.1, R_2.2.2.2.2.2.2.2.2.2.2.2.2.2.2.2.2.1, R_2.2.2.2.2.2.2.2.2.2.2.2.2.2.2.2.2.2.1, R_2.2.2.2.2.2.2.2.2.2.2.2.2.2.2.2.2.2.2.1, R_2.2.2.2.2.2.2.2.2.2.2.2.2.2.2.2.2.2.2.2.1, R_2.2.2.2.2.2.2.2.2.2.2.2.2.2.2.2.2.2.2.2.2.1, R_2.2.2.2.2.2.2.2.2.2.2.2.2.2.2.2.2.2.2.2.2.2.1, R_2.2.2.2.2.2.2.2.2.2.2.2.2.2.2.2.2.2.2.2.2.2.2.1, R_2.2.2.2.2.2.2.2.2.2.2.2.2.2.2.2.2.2.2.2.2.2.2.2.1 + 1, R_2.2.2.2.2.2.2.2.2.2.2.2.2.2.2.2.2.2.2.2.2.2.2.2.2) 0)
set_option maxRecDepth 100000 in
set_option maxHeartbeats 4000000 in
theorem c_R_run_25 (l : Launch) (Dv : va_G) (fu : Nat) (h : S_H) (out : Nat → Int64) (R : S_R) (a1 : Int32) : ev_M l Dv gaX mu_R_run [.ref 25, .int a1] (hpW h R out) (f_R_run fu R a1) (fun q => (some (.int q.1), hpW h q.2 out)) := by
  refine ev_met (lo0 := [some (.ref 25), some (.int a1)]) rfl rfl rfl (fun κ X => ?_)
  unfold f_R_run
  refine js_aload_n (n := 1) X (dg dc_R_run 0 rfl) rfl rfl rfl ?_
  refine js_iconst (n := 2) 0 X (dg dc_R_run 1 rfl) rfl (by decide) ?_
  refine js_puti (j := 0) (n := 5) X (dg dc_R_run 2 rfl) rfl hC_R (Nat.le_of_ble_eq_true rfl) hw_126 rfl rfl (Or.inl rfl) (Nat.le_of_ble_eq_true rfl) ?_
  refine js_iload_n (n := 6) X (dg dc_R_run 3 rfl) rfl rfl rfl ?_
  refine js_if_ge (t := 23) (n := 9) X (dg dc_R_run 4 rfl) (by decide) rfl ?_ ?_
  · refine js_aload_n (n := 24) X (dg dc_R_run 13 rfl) rfl rfl rfl ?_
    refine js_iload_n (n := 25) X (dg dc_R_run 14 rfl) rfl rfl rfl ?_
    refine js_callV (na := 1) (ci := 6) (n := 28) X (dg dc_R_run 15 rfl) rfl (c_R_judged_25 l Dv fu h out (0, R.2) a1) gV_R_197 rfl rfl hy_R_judged ⟨(Nat.le_of_ble_eq_true rfl), (Nat.le_of_ble_eq_true rfl)⟩ rfl ⟨(Nat.le_of_ble_eq_true rfl), (Nat.le_of_ble_eq_true rfl)⟩ rfl rfl rfl rfl rfl ?_
    rintro ⟨r25, R_25⟩
    exact js_retZ X (dg dc_R_run 16 rfl) rfl (Nat.le_of_ble_eq_true rfl) (Nat.le_of_ble_eq_true rfl) rfl
  refine js_aload_n (n := 10) X (dg dc_R_run 5 rfl) rfl rfl rfl ?_
  refine js_iconst (n := 11) 1 X (dg dc_R_run 6 rfl) rfl (by decide) ?_
  refine js_callV (na := 1) (ci := 6) (n := 14) X (dg dc_R_run 7 rfl) rfl (c_R_fail_25 l Dv fu h out (0, R.2) 1) gV_R_105 rfl rfl hy_R_fail ⟨(Nat.le_of_ble_eq_true rfl), (Nat.le_of_ble_eq_true rfl)⟩ rfl ⟨(Nat.le_of_ble_eq_true rfl), (Nat.le_of_ble_eq_true rfl)⟩ rfl rfl rfl rfl rfl ?_
  rintro ⟨r11, R_11⟩
  refine js_if_le (t := 21) (n := 17) X (dg dc_R_run 8 rfl) (by decide) rfl ?_ ?_
  · refine js_iconst (n := 22) 0 X (dg dc_R_run 11 rfl) rfl (by decide) ?_
    exact js_retZ X (dg dc_R_run 12 rfl) rfl (Nat.le_of_ble_eq_true rfl) (Nat.le_of_ble_eq_true rfl) rfl
  refine js_iconst (n := 18) 1 X (dg dc_R_run 9 rfl) rfl (by decide) ?_
  refine js_goto (t := 22) X (dg dc_R_run 10 rfl) (by decide) ?_
  exact js_retZ X (dg dc_R_run 12 rfl) rfl (Nat.le_of_ble_eq_true rfl) (Nat.le_of_ble_eq_true rfl) rfl
set_option maxRecDepth 100000 in
set_option maxHeartbeats 4000000 in
theorem jl_R_failed_25_L8 (l : Launch) (Dv : va_G) (fu : Nat) (h : S_H) (out : Nat → Int64) (κ : ev_ka) (X : ev_X l Dv gaX mu_R_failed κ) : ∀ (n : Nat) (R : S_R) (v3 : Int32) (v4 : Int32), ev_J l Dv gaX mu_R_failed κ 8 0 0 [some (.ref 25), none, none, some (.int v3), some (.int v4), none] [] (hpW h R out) (f_R_failed_L8 fu n R v3 v4) (fun q => (some (.int q.1), hpW h q.2 out)) := by
  intro n
  induction n with
  | zero => exact fun _ _ _ => js_none
  | succ n ih =>
    intro R v3 v4
    unfold f_R_failed_L8
    refine js_iload (n := 10) X (dg dc_R_failed 5 rfl) rfl rfl ?_
    refine js_iload_n (n := 11) X (dg dc_R_failed 6 rfl) rfl rfl rfl ?_
    refine js_icmp_ge (t := 46) (n := 14) X (dg dc_R_failed 7 rfl) (by decide) rfl ?_ ?_
    · refine js_iconst (n := 47) (-1) X (dg dc_R_failed 23 rfl) rfl (by decide) ?_
      exact js_retI X (dg dc_R_failed 24 rfl) rfl (Nat.le_of_ble_eq_true rfl) (Nat.le_of_ble_eq_true rfl) rfl
    refine js_aload_n (n := 15) X (dg dc_R_failed 8 rfl) rfl rfl rfl ?_
    refine js_ldc (n := 17) (v := 2147483647) X (dg dc_R_failed 9 rfl) rfl hw_278 ?_
    refine js_callV (na := 1) (ci := 6) (n := 20) X (dg dc_R_failed 10 rfl) rfl (c_R_drawn_25 l Dv fu h out R 2147483647) gV_R_134 rfl rfl hy_R_drawn ⟨(Nat.le_of_ble_eq_true rfl), (Nat.le_of_ble_eq_true rfl)⟩ rfl ⟨(Nat.le_of_ble_eq_true rfl), (Nat.le_of_ble_eq_true rfl)⟩ rfl rfl rfl rfl rfl ?_
    rintro ⟨r17, R_17⟩
    refine js_istore (lo' := [some (.ref 25), none, none, some (.int v3), some (.int v4), some (.int r17)]) (n := 22) X (dg dc_R_failed 11 rfl) rfl (Nat.le_of_ble_eq_true rfl) rfl ?_
    refine js_aload_n (n := 23) X (dg dc_R_failed 12 rfl) rfl rfl rfl ?_
    refine js_iload (n := 25) X (dg dc_R_failed 13 rfl) rfl rfl ?_
    refine js_callV (na := 1) (ci := 6) (n := 28) X (dg dc_R_failed 14 rfl) rfl (c_R_judged_25 l Dv fu h out R_17 r17) gV_R_197 rfl rfl hy_R_judged ⟨(Nat.le_of_ble_eq_true rfl), (Nat.le_of_ble_eq_true rfl)⟩ rfl ⟨(Nat.le_of_ble_eq_true rfl), (Nat.le_of_ble_eq_true rfl)⟩ rfl rfl rfl rfl rfl ?_
    rintro ⟨r25, R_25⟩
    refine js_if_ne (t := 40) (n := 31) X (dg dc_R_failed 15 rfl) (by decide) rfl ?_ ?_
    · refine js_iinc (lo' := [some (.ref 25), none, none, some (.int v3), some (.int (v4 + 1)), some (.int r17)]) (n := 43) 1 X (dg dc_R_failed 21 rfl) rfl (by decide) (Nat.le_of_ble_eq_true rfl) rfl rfl ?_
      refine js_goto (t := 8) X (dg dc_R_failed 22 rfl) (by decide) ?_
      exact js_keep [true, false, false, true, true, false] (ih R_25 v3 (v4 + 1))
    refine js_aload_n (n := 32) X (dg dc_R_failed 16 rfl) rfl rfl rfl ?_
    refine js_iload (n := 34) X (dg dc_R_failed 17 rfl) rfl rfl ?_
    refine js_puti (j := 26) (n := 37) X (dg dc_R_failed 18 rfl) rfl hC_R (Nat.le_of_ble_eq_true rfl) hw_279 rfl rfl (Or.inl rfl) (Nat.le_of_ble_eq_true rfl) ?_
    refine js_iload (n := 39) X (dg dc_R_failed 19 rfl) rfl rfl ?_
    exact js_retI X (dg dc_R_failed 20 rfl) rfl (Nat.le_of_ble_eq_true rfl) (Nat.le_of_ble_eq_true rfl) rfl
set_option maxRecDepth 100000 in
set_option maxHeartbeats 4000000 in
theorem c_R_failed_25 (l : Launch) (Dv : va_G) (fu : Nat) (h : S_H) (out : Nat → Int64) (R : S_R) (a1 : Int64) (a3 : Int32) : ev_M l Dv gaX mu_R_failed [.ref 25, .long a1, .int a3] (hpW h R out) (f_R_failed fu R a1 a3) (fun q => (some (.int q.1), hpW h q.2 out)) := by
  refine ev_met (lo0 := [some (.ref 25), some (.long a1), none, some (.int a3), none, none]) rfl rfl rfl (fun κ X => ?_)
  unfold f_R_failed
  refine js_aload_n (n := 1) X (dg dc_R_failed 0 rfl) rfl rfl rfl ?_
  refine js_lload_n (n := 2) X (dg dc_R_failed 1 rfl) rfl rfl rfl ?_
  refine js_putj (j := 8) (n := 5) X (dg dc_R_failed 2 rfl) rfl hC_R (Nat.le_of_ble_eq_true rfl) hw_195 rfl rfl (Or.inl rfl) (Nat.le_of_ble_eq_true rfl) ?_
  refine js_iconst (n := 6) 0 X (dg dc_R_failed 3 rfl) rfl (by decide) ?_
  refine js_istore (lo' := [some (.ref 25), some (.long a1), none, some (.int a3), some (.int 0), none]) (n := 8) X (dg dc_R_failed 4 rfl) rfl (Nat.le_of_ble_eq_true rfl) rfl ?_
  exact js_keep [true, false, false, true, true, false] (jl_R_failed_25_L8 l Dv fu h out κ X fu (R.1, R.2.1, R.2.2.1, R.2.2.2.1, R.2.2.2.2.1, R.2.2.2.2.2.1, R.2.2.2.2.2.2.1, R.2.2.2.2.2.2.2.1, a1, R.2.2.2.2.2.2.2.2.2) a3 0)
set_option maxRecDepth 100000 in
set_option maxHeartbeats 4000000 in
theorem c_R_fails_25 (l : Launch) (Dv : va_G) (fu : Nat) (h : S_H) (out : Nat → Int64) (R : S_R) (a1 : Int64) (a3 : Int32) : ev_M l Dv gaX mu_R_fails [.ref 25, .long a1, .int a3] (hpW h R out) (f_R_fails fu R a1 a3) (fun q => (some (.int q.1), hpW h q.2 out)) := by
  refine ev_met (lo0 := [some (.ref 25), some (.long a1), none, some (.int a3)]) rfl rfl rfl (fun κ X => ?_)
  unfold f_R_fails
  refine js_aload_n (n := 1) X (dg dc_R_fails 0 rfl) rfl rfl rfl ?_
  refine js_iconst (n := 2) 0 X (dg dc_R_fails 1 rfl) rfl (by decide) ?_
  refine js_puti (j := 0) (n := 5) X (dg dc_R_fails 2 rfl) rfl hC_R (Nat.le_of_ble_eq_true rfl) hw_126 rfl rfl (Or.inl rfl) (Nat.le_of_ble_eq_true rfl) ?_
  refine js_iload_n (n := 6) X (dg dc_R_fails 3 rfl) rfl rfl rfl ?_
  refine js_iconst (n := 7) 1 X (dg dc_R_fails 4 rfl) rfl (by decide) ?_
  refine js_bipush (n := 9) 50 X (dg dc_R_fails 5 rfl) rfl (by decide) ?_
  refine js_callS (na := 3) (n := 12) X (dg dc_R_fails 6 rfl) rfl (c_R_within l Dv fu _ a3 1 50) gS_R_102 rfl rfl hy_R_within.2 ⟨(Nat.le_of_ble_eq_true rfl), (Nat.le_of_ble_eq_true rfl)⟩ ⟨(Nat.le_of_ble_eq_true rfl), (Nat.le_of_ble_eq_true rfl)⟩ rfl rfl rfl rfl ?_
  intro r9
  refine js_if_eq (t := 24) (n := 15) X (dg dc_R_fails 7 rfl) (by decide) rfl ?_ ?_
  · refine js_aload_n (n := 25) X (dg dc_R_fails 13 rfl) rfl rfl rfl ?_
    refine js_iconst (n := 26) 1 X (dg dc_R_fails 14 rfl) rfl (by decide) ?_
    refine js_callV (na := 1) (ci := 6) (n := 29) X (dg dc_R_fails 15 rfl) rfl (c_R_fail_25 l Dv fu h out (0, R.2) 1) gV_R_105 rfl rfl hy_R_fail ⟨(Nat.le_of_ble_eq_true rfl), (Nat.le_of_ble_eq_true rfl)⟩ rfl ⟨(Nat.le_of_ble_eq_true rfl), (Nat.le_of_ble_eq_true rfl)⟩ rfl rfl rfl rfl rfl ?_
    rintro ⟨r26, R_26⟩
    exact js_retI X (dg dc_R_fails 16 rfl) rfl (Nat.le_of_ble_eq_true rfl) (Nat.le_of_ble_eq_true rfl) rfl
  refine js_aload_n (n := 16) X (dg dc_R_fails 8 rfl) rfl rfl rfl ?_
  refine js_lload_n (n := 17) X (dg dc_R_fails 9 rfl) rfl rfl rfl ?_
  refine js_iload_n (n := 18) X (dg dc_R_fails 10 rfl) rfl rfl rfl ?_
  refine js_callV (na := 2) (ci := 6) (n := 21) X (dg dc_R_fails 11 rfl) rfl (c_R_failed_25 l Dv fu h out (0, R.2) a1 a3) gV_R_204 rfl rfl hy_R_failed ⟨(Nat.le_of_ble_eq_true rfl), (Nat.le_of_ble_eq_true rfl)⟩ rfl ⟨(Nat.le_of_ble_eq_true rfl), (Nat.le_of_ble_eq_true rfl)⟩ rfl rfl rfl rfl rfl ?_
  rintro ⟨r18, R_18⟩
  refine js_goto (t := 29) X (dg dc_R_fails 12 rfl) (by decide) ?_
  exact js_retI X (dg dc_R_fails 16 rfl) rfl (Nat.le_of_ble_eq_true rfl) (Nat.le_of_ble_eq_true rfl) rfl
set_option maxRecDepth 100000 in
set_option maxHeartbeats 4000000 in
theorem c_R_takes_25 (l : Launch) (Dv : va_G) (fu : Nat) (h : S_H) (out : Nat → Int64) (R : S_R) (a1 : Int32) (a2 : Int64) (a4 : Int32) : ev_M l Dv gaX mu_R_takes [.ref 25, .int a1, .long a2, .int a4] (hpW h R out) (f_R_takes fu R a1 a2 a4) (fun q => (some (.int q.1), hpW h q.2 out)) := by
  refine ev_met (lo0 := [some (.ref 25), some (.int a1), some (.long a2), none, some (.int a4)]) rfl rfl rfl (fun κ X => ?_)
  unfold f_R_takes
  refine js_iload_n (n := 1) X (dg dc_R_takes 0 rfl) rfl rfl rfl ?_
  refine js_if_eq (t := 23) (n := 4) X (dg dc_R_takes 1 rfl) (by decide) rfl ?_ ?_
  · refine js_aload_n (n := 24) X (dg dc_R_takes 12 rfl) rfl rfl rfl ?_
    refine js_callV (na := 0) (ci := 6) (n := 27) X (dg dc_R_takes 13 rfl) rfl (c_R_putBack_25 l Dv fu h out R) gV_R_119 rfl rfl hy_R_putBack ⟨(Nat.le_of_ble_eq_true rfl), (Nat.le_of_ble_eq_true rfl)⟩ rfl ⟨(Nat.le_of_ble_eq_true rfl), (Nat.le_of_ble_eq_true rfl)⟩ rfl rfl rfl rfl rfl ?_
    intro R_24
    refine js_iconst (n := 28) 0 X (dg dc_R_takes 14 rfl) rfl (by decide) ?_
    exact js_retZ X (dg dc_R_takes 15 rfl) rfl (Nat.le_of_ble_eq_true rfl) (Nat.le_of_ble_eq_true rfl) rfl
  refine js_aload_n (n := 5) X (dg dc_R_takes 2 rfl) rfl rfl rfl ?_
  refine js_callV (na := 0) (ci := 6) (n := 8) X (dg dc_R_takes 3 rfl) rfl (c_R_valid_25 l Dv fu h out R) gV_R_115 rfl rfl hy_R_valid ⟨(Nat.le_of_ble_eq_true rfl), (Nat.le_of_ble_eq_true rfl)⟩ rfl ⟨(Nat.le_of_ble_eq_true rfl), (Nat.le_of_ble_eq_true rfl)⟩ rfl rfl rfl rfl rfl ?_
  rintro ⟨r5, R_5⟩
  refine js_if_eq (t := 23) (n := 11) X (dg dc_R_takes 4 rfl) (by decide) rfl ?_ ?_
  · refine js_aload_n (n := 24) X (dg dc_R_takes 12 rfl) rfl rfl rfl ?_
    refine js_callV (na := 0) (ci := 6) (n := 27) X (dg dc_R_takes 13 rfl) rfl (c_R_putBack_25 l Dv fu h out R_5) gV_R_119 rfl rfl hy_R_putBack ⟨(Nat.le_of_ble_eq_true rfl), (Nat.le_of_ble_eq_true rfl)⟩ rfl ⟨(Nat.le_of_ble_eq_true rfl), (Nat.le_of_ble_eq_true rfl)⟩ rfl rfl rfl rfl rfl ?_
    intro R_24
    refine js_iconst (n := 28) 0 X (dg dc_R_takes 14 rfl) rfl (by decide) ?_
    exact js_retZ X (dg dc_R_takes 15 rfl) rfl (Nat.le_of_ble_eq_true rfl) (Nat.le_of_ble_eq_true rfl) rfl
  refine js_aload_n (n := 12) X (dg dc_R_takes 5 rfl) rfl rfl rfl ?_
  refine js_lload_n (n := 13) X (dg dc_R_takes 6 rfl) rfl rfl rfl ?_
  refine js_iload (n := 15) X (dg dc_R_takes 7 rfl) rfl rfl ?_
  refine js_callV (na := 2) (ci := 6) (n := 18) X (dg dc_R_takes 8 rfl) rfl (c_R_failed_25 l Dv fu h out R_5 a2 a4) gV_R_204 rfl rfl hy_R_failed ⟨(Nat.le_of_ble_eq_true rfl), (Nat.le_of_ble_eq_true rfl)⟩ rfl ⟨(Nat.le_of_ble_eq_true rfl), (Nat.le_of_ble_eq_true rfl)⟩ rfl rfl rfl rfl rfl ?_
  rintro ⟨r15, R_15⟩
  refine js_if_lt (t := 23) (n := 21) X (dg dc_R_takes 9 rfl) (by decide) rfl ?_ ?_
  · refine js_aload_n (n := 24) X (dg dc_R_takes 12 rfl) rfl rfl rfl ?_
    refine js_callV (na := 0) (ci := 6) (n := 27) X (dg dc_R_takes 13 rfl) rfl (c_R_putBack_25 l Dv fu h out R_15) gV_R_119 rfl rfl hy_R_putBack ⟨(Nat.le_of_ble_eq_true rfl), (Nat.le_of_ble_eq_true rfl)⟩ rfl ⟨(Nat.le_of_ble_eq_true rfl), (Nat.le_of_ble_eq_true rfl)⟩ rfl rfl rfl rfl rfl ?_
    intro R_24
    refine js_iconst (n := 28) 0 X (dg dc_R_takes 14 rfl) rfl (by decide) ?_
    exact js_retZ X (dg dc_R_takes 15 rfl) rfl (Nat.le_of_ble_eq_true rfl) (Nat.le_of_ble_eq_true rfl) rfl
  refine js_iconst (n := 22) 1 X (dg dc_R_takes 10 rfl) rfl (by decide) ?_
  exact js_retZ X (dg dc_R_takes 11 rfl) rfl (Nat.le_of_ble_eq_true rfl) (Nat.le_of_ble_eq_true rfl) rfl
set_option maxRecDepth 100000 in
set_option maxHeartbeats 4000000 in
theorem jl_R_smaller_25_L122 (l : Launch) (Dv : va_G) (fu : Nat) (h : S_H) (out : Nat → Int64) (κ : ev_ka) (X : ev_X l Dv gaX mu_R_smaller κ) (k101 : S_R → Int64 → Int32 → Int32 → Option (Int32 × S_R)) (hk101 : ∀ (R : S_R) (v1 : Int64) (v3 : Int32) (v4 : Int32), ev_J l Dv gaX mu_R_smaller κ 101 0 0 [some (.ref 25), some (.long v1), none, some (.int v3), some (.int v4), none, none] [] (hpW h R out) (k101 R v1 v3 v4) (fun q => (some (.int q.1), hpW h q.2 out))) : ∀ (n : Nat) (R : S_R) (v1 : Int64) (v3 : Int32) (v4 : Int32) (v5 : Int32) (v6 : Int32), ev_J l Dv gaX mu_R_smaller κ 122 0 0 [some (.ref 25), some (.long v1), none, some (.int v3), some (.int v4), some (.int v5), some (.int v6)] [] (hpW h R out) (f_R_smaller_L122 fu k101 n R v1 v3 v4 v5 v6) (fun q => (some (.int q.1), hpW h q.2 out)) := by
  intro n
  induction n with
  | zero => exact fun _ _ _ _ _ _ => js_none
  | succ n ih =>
    intro R v1 v3 v4 v5 v6
    unfold f_R_smaller_L122
    refine js_iload (n := 124) X (dg dc_R_smaller 65 rfl) rfl rfl ?_
    refine js_iconst (n := 125) 2 X (dg dc_R_smaller 66 rfl) rfl (by decide) ?_
    refine js_icmp_ge (t := 174) (n := 128) X (dg dc_R_smaller 67 rfl) (by decide) rfl ?_ ?_
    · refine js_iinc (lo' := [some (.ref 25), some (.long v1), none, some (.int v3), some (.int (v4 + 1)), some (.int v5), some (.int v6)]) (n := 177) 1 X (dg dc_R_smaller 93 rfl) rfl (by decide) (Nat.le_of_ble_eq_true rfl) rfl rfl ?_
      refine js_goto (t := 101) X (dg dc_R_smaller 94 rfl) (by decide) ?_
      exact js_keep [true, true, false, true, true, false, false] (hk101 R v1 v3 (v4 + 1))
    refine js_iload (n := 130) X (dg dc_R_smaller 68 rfl) rfl rfl ?_
    refine js_bipush (n := 132) 8 X (dg dc_R_smaller 69 rfl) rfl (by decide) ?_
    refine js_icmp_ge (t := 168) (n := 135) X (dg dc_R_smaller 70 rfl) (by decide) rfl ?_ ?_
    · refine js_iinc (lo' := [some (.ref 25), some (.long v1), none, some (.int v3), some (.int v4), some (.int v5), some (.int (v6 + 1))]) (n := 171) 1 X (dg dc_R_smaller 91 rfl) rfl (by decide) (Nat.le_of_ble_eq_true rfl) rfl rfl ?_
      refine js_goto (t := 122) X (dg dc_R_smaller 92 rfl) (by decide) ?_
      exact js_keep [true, true, false, true, true, true, true] (ih R v1 v3 v4 v5 (v6 + 1))
    refine js_iload (n := 137) X (dg dc_R_smaller 71 rfl) rfl rfl ?_
    refine js_iload (n := 139) X (dg dc_R_smaller 72 rfl) rfl rfl ?_
    refine js_icmp_le (t := 168) (n := 142) X (dg dc_R_smaller 73 rfl) (by decide) rfl ?_ ?_
    · refine js_iinc (lo' := [some (.ref 25), some (.long v1), none, some (.int v3), some (.int v4), some (.int v5), some (.int (v6 + 1))]) (n := 171) 1 X (dg dc_R_smaller 91 rfl) rfl (by decide) (Nat.le_of_ble_eq_true rfl) rfl rfl ?_
      refine js_goto (t := 122) X (dg dc_R_smaller 92 rfl) (by decide) ?_
      exact js_keep [true, true, false, true, true, true, true] (ih R v1 v3 v4 v5 (v6 + 1))
    refine js_aload_n (n := 143) X (dg dc_R_smaller 74 rfl) rfl rfl rfl ?_
    refine js_getf (j := 4) (v := .ref 29) (n := 146) X (dg dc_R_smaller 75 rfl) rfl hC_R (Nat.le_of_ble_eq_true rfl) hw_160 rfl rfl ?_
    refine js_iload (n := 148) X (dg dc_R_smaller 76 rfl) rfl rfl ?_
    refine js_iload (n := 150) X (dg dc_R_smaller 77 rfl) rfl rfl ?_
    refine js_iload (n := 152) X (dg dc_R_smaller 78 rfl) rfl rfl ?_
    refine js_imul (n := 153) X (dg dc_R_smaller 79 rfl) rfl ?_
    refine js_iconst (n := 154) 2 X (dg dc_R_smaller 80 rfl) rfl (by decide) ?_
    refine js_idiv (n := 155) X (dg dc_R_smaller 81 rfl) rfl ?_
    refine js_iastore (f := R.2.2.2.2.1) (n := 156) X (dg dc_R_smaller 82 rfl) rfl rfl ?_
    refine js_aload_n (n := 157) X (dg dc_R_smaller 83 rfl) rfl rfl rfl ?_
    refine js_iconst (n := 158) 1 X (dg dc_R_smaller 84 rfl) rfl (by decide) ?_
    refine js_lload_n (n := 159) X (dg dc_R_smaller 85 rfl) rfl rfl rfl ?_
    refine js_iload_n (n := 160) X (dg dc_R_smaller 86 rfl) rfl rfl rfl ?_
    refine js_callV (na := 3) (ci := 6) (n := 163) X (dg dc_R_smaller 87 rfl) rfl (c_R_takes_25 l Dv fu h out (R.1, R.2.1, R.2.2.1, R.2.2.2.1, (upd R.2.2.2.2.1 (ix v4) ((v6 * v5) / 2)), R.2.2.2.2.2) 1 v1 v3) gV_R_211 rfl rfl hy_R_takes ⟨(Nat.le_of_ble_eq_true rfl), (Nat.le_of_ble_eq_true rfl)⟩ rfl ⟨(Nat.le_of_ble_eq_true rfl), (Nat.le_of_ble_eq_true rfl)⟩ rfl rfl rfl rfl rfl ?_
    rintro ⟨r160, R_160⟩
    refine js_if_eq (t := 168) (n := 166) X (dg dc_R_smaller 88 rfl) (by decide) rfl ?_ ?_
    · refine js_iinc (lo' := [some (.ref 25), some (.long v1), none, some (.int v3), some (.int v4), some (.int v5), some (.int (v6 + 1))]) (n := 171) 1 X (dg dc_R_smaller 91 rfl) rfl (by decide) (Nat.le_of_ble_eq_true rfl) rfl rfl ?_
      refine js_goto (t := 122) X (dg dc_R_smaller 92 rfl) (by decide) ?_
      exact js_keep [true, true, false, true, true, true, true] (ih R_160 v1 v3 v4 v5 (v6 + 1))
    refine js_iconst (n := 167) 1 X (dg dc_R_smaller 89 rfl) rfl (by decide) ?_
    exact js_retZ X (dg dc_R_smaller 90 rfl) rfl (Nat.le_of_ble_eq_true rfl) (Nat.le_of_ble_eq_true rfl) rfl
set_option maxRecDepth 100000 in
set_option maxHeartbeats 4000000 in
theorem jl_R_smaller_25_L101 (l : Launch) (Dv : va_G) (fu : Nat) (h : S_H) (out : Nat → Int64) (κ : ev_ka) (X : ev_X l Dv gaX mu_R_smaller κ) : ∀ (n : Nat) (R : S_R) (v1 : Int64) (v3 : Int32) (v4 : Int32), ev_J l Dv gaX mu_R_smaller κ 101 0 0 [some (.ref 25), some (.long v1), none, some (.int v3), some (.int v4), none, none] [] (hpW h R out) (f_R_smaller_L101 fu n R v1 v3 v4) (fun q => (some (.int q.1), hpW h q.2 out)) := by
  intro n
  induction n with
  | zero => exact fun _ _ _ _ => js_none
  | succ n ih =>
    intro R v1 v3 v4
    unfold f_R_smaller_L101
    refine js_iload (n := 103) X (dg dc_R_smaller 54 rfl) rfl rfl ?_
    refine js_aload_n (n := 104) X (dg dc_R_smaller 55 rfl) rfl rfl rfl ?_
    refine js_callV (na := 0) (ci := 6) (n := 107) X (dg dc_R_smaller 56 rfl) rfl (c_R_many_25 l Dv fu h out R) gV_R_84 rfl rfl hy_R_many ⟨(Nat.le_of_ble_eq_true rfl), (Nat.le_of_ble_eq_true rfl)⟩ rfl ⟨(Nat.le_of_ble_eq_true rfl), (Nat.le_of_ble_eq_true rfl)⟩ rfl rfl rfl rfl rfl ?_
    intro r104
    refine js_icmp_ge (t := 180) (n := 110) X (dg dc_R_smaller 57 rfl) (by decide) rfl ?_ ?_
    · refine js_iconst (n := 181) 0 X (dg dc_R_smaller 95 rfl) rfl (by decide) ?_
      exact js_retZ X (dg dc_R_smaller 96 rfl) rfl (Nat.le_of_ble_eq_true rfl) (Nat.le_of_ble_eq_true rfl) rfl
    refine js_aload_n (n := 111) X (dg dc_R_smaller 58 rfl) rfl rfl rfl ?_
    refine js_getf (j := 4) (v := .ref 29) (n := 114) X (dg dc_R_smaller 59 rfl) rfl hC_R (Nat.le_of_ble_eq_true rfl) hw_160 rfl rfl ?_
    refine js_iload (n := 116) X (dg dc_R_smaller 60 rfl) rfl rfl ?_
    refine js_iaload (f := R.2.2.2.2.1) (n := 117) X (dg dc_R_smaller 61 rfl) rfl rfl ?_
    refine js_istore (lo' := [some (.ref 25), some (.long v1), none, some (.int v3), some (.int v4), some (.int (R.2.2.2.2.1 (ix v4))), none]) (n := 119) X (dg dc_R_smaller 62 rfl) rfl (Nat.le_of_ble_eq_true rfl) rfl ?_
    refine js_iconst (n := 120) 0 X (dg dc_R_smaller 63 rfl) rfl (by decide) ?_
    refine js_istore (lo' := [some (.ref 25), some (.long v1), none, some (.int v3), some (.int v4), some (.int (R.2.2.2.2.1 (ix v4))), some (.int 0)]) (n := 122) X (dg dc_R_smaller 64 rfl) rfl (Nat.le_of_ble_eq_true rfl) rfl ?_
    exact js_keep [true, true, false, true, true, true, true] (jl_R_smaller_25_L122 l Dv fu h out κ X (f_R_smaller_L101 fu n) (fun z0 z1 z2 z3 => ih z0 z1 z2 z3) fu R v1 v3 v4 (R.2.2.2.2.1 (ix v4)) 0)
set_option maxRecDepth 100000 in
set_option maxHeartbeats 4000000 in
theorem jl_R_smaller_25_L47 (l : Launch) (Dv : va_G) (fu : Nat) (h : S_H) (out : Nat → Int64) (κ : ev_ka) (X : ev_X l Dv gaX mu_R_smaller κ) : ∀ (n : Nat) (R : S_R) (v1 : Int64) (v3 : Int32) (v4 : Int32), ev_J l Dv gaX mu_R_smaller κ 47 0 0 [some (.ref 25), some (.long v1), none, some (.int v3), some (.int v4), none, none] [] (hpW h R out) (f_R_smaller_L47 fu n R v1 v3 v4) (fun q => (some (.int q.1), hpW h q.2 out)) := by
  intro n
  induction n with
  | zero => exact fun _ _ _ _ => js_none
  | succ n ih =>
    intro R v1 v3 v4
    unfold f_R_smaller_L47
    refine js_iload (n := 49) X (dg dc_R_smaller 25 rfl) rfl rfl ?_
    refine js_iconst (n := 50) 3 X (dg dc_R_smaller 26 rfl) rfl (by decide) ?_
    refine js_icmp_ge (t := 98) (n := 53) X (dg dc_R_smaller 27 rfl) (by decide) rfl ?_ ?_
    · refine js_iconst (n := 99) 0 X (dg dc_R_smaller 52 rfl) rfl (by decide) ?_
      refine js_istore (lo' := [some (.ref 25), some (.long v1), none, some (.int v3), some (.int 0), none, none]) (n := 101) X (dg dc_R_smaller 53 rfl) rfl (Nat.le_of_ble_eq_true rfl) rfl ?_
      exact js_keep [true, true, false, true, true, false, false] (jl_R_smaller_25_L101 l Dv fu h out κ X fu R v1 v3 0)
    refine js_aload_n (n := 54) X (dg dc_R_smaller 28 rfl) rfl rfl rfl ?_
    refine js_getf (j := 1) (v := .ref 26) (n := 57) X (dg dc_R_smaller 29 rfl) rfl hC_R (Nat.le_of_ble_eq_true rfl) hw_127 rfl rfl ?_
    refine js_iload (n := 59) X (dg dc_R_smaller 30 rfl) rfl rfl ?_
    refine js_iaload (f := R.2.1) (n := 60) X (dg dc_R_smaller 31 rfl) rfl rfl ?_
    refine js_if_le (t := 92) (n := 63) X (dg dc_R_smaller 32 rfl) (by decide) rfl ?_ ?_
    · refine js_iinc (lo' := [some (.ref 25), some (.long v1), none, some (.int v3), some (.int (v4 + 1)), none, none]) (n := 95) 1 X (dg dc_R_smaller 50 rfl) rfl (by decide) (Nat.le_of_ble_eq_true rfl) rfl rfl ?_
      refine js_goto (t := 47) X (dg dc_R_smaller 51 rfl) (by decide) ?_
      exact js_keep [true, true, false, true, true, false, false] (ih R v1 v3 (v4 + 1))
    refine js_aload_n (n := 64) X (dg dc_R_smaller 33 rfl) rfl rfl rfl ?_
    refine js_getf (j := 1) (v := .ref 26) (n := 67) X (dg dc_R_smaller 34 rfl) rfl hC_R (Nat.le_of_ble_eq_true rfl) hw_127 rfl rfl ?_
    refine js_iconst (n := 68) 0 X (dg dc_R_smaller 35 rfl) rfl (by decide) ?_
    refine js_iaload (f := R.2.1) (n := 69) X (dg dc_R_smaller 36 rfl) rfl rfl ?_
    refine js_bipush (n := 71) 6 X (dg dc_R_smaller 37 rfl) rfl (by decide) ?_
    refine js_icmp_ge (t := 92) (n := 74) X (dg dc_R_smaller 38 rfl) (by decide) rfl ?_ ?_
    · refine js_iinc (lo' := [some (.ref 25), some (.long v1), none, some (.int v3), some (.int (v4 + 1)), none, none]) (n := 95) 1 X (dg dc_R_smaller 50 rfl) rfl (by decide) (Nat.le_of_ble_eq_true rfl) rfl rfl ?_
      refine js_goto (t := 47) X (dg dc_R_smaller 51 rfl) (by decide) ?_
      exact js_keep [true, true, false, true, true, false, false] (ih R v1 v3 (v4 + 1))
    refine js_aload_n (n := 75) X (dg dc_R_smaller 39 rfl) rfl rfl rfl ?_
    refine js_iload (n := 77) X (dg dc_R_smaller 40 rfl) rfl rfl ?_
    refine js_callV (na := 1) (ci := 6) (n := 80) X (dg dc_R_smaller 41 rfl) rfl (c_R_raise_25 l Dv fu h out R v4) gV_R_215 rfl rfl hy_R_raise ⟨(Nat.le_of_ble_eq_true rfl), (Nat.le_of_ble_eq_true rfl)⟩ rfl ⟨(Nat.le_of_ble_eq_true rfl), (Nat.le_of_ble_eq_true rfl)⟩ rfl rfl rfl rfl rfl ?_
    intro R_77
    refine js_aload_n (n := 81) X (dg dc_R_smaller 42 rfl) rfl rfl rfl ?_
    refine js_iconst (n := 82) 1 X (dg dc_R_smaller 43 rfl) rfl (by decide) ?_
    refine js_lload_n (n := 83) X (dg dc_R_smaller 44 rfl) rfl rfl rfl ?_
    refine js_iload_n (n := 84) X (dg dc_R_smaller 45 rfl) rfl rfl rfl ?_
    refine js_callV (na := 3) (ci := 6) (n := 87) X (dg dc_R_smaller 46 rfl) rfl (c_R_takes_25 l Dv fu h out R_77 1 v1 v3) gV_R_211 rfl rfl hy_R_takes ⟨(Nat.le_of_ble_eq_true rfl), (Nat.le_of_ble_eq_true rfl)⟩ rfl ⟨(Nat.le_of_ble_eq_true rfl), (Nat.le_of_ble_eq_true rfl)⟩ rfl rfl rfl rfl rfl ?_
    rintro ⟨r84, R_84⟩
    refine js_if_eq (t := 92) (n := 90) X (dg dc_R_smaller 47 rfl) (by decide) rfl ?_ ?_
    · refine js_iinc (lo' := [some (.ref 25), some (.long v1), none, some (.int v3), some (.int (v4 + 1)), none, none]) (n := 95) 1 X (dg dc_R_smaller 50 rfl) rfl (by decide) (Nat.le_of_ble_eq_true rfl) rfl rfl ?_
      refine js_goto (t := 47) X (dg dc_R_smaller 51 rfl) (by decide) ?_
      exact js_keep [true, true, false, true, true, false, false] (ih R_84 v1 v3 (v4 + 1))
    refine js_iconst (n := 91) 1 X (dg dc_R_smaller 48 rfl) rfl (by decide) ?_
    exact js_retZ X (dg dc_R_smaller 49 rfl) rfl (Nat.le_of_ble_eq_true rfl) (Nat.le_of_ble_eq_true rfl) rfl
set_option maxRecDepth 100000 in
set_option maxHeartbeats 4000000 in
theorem jl_R_smaller_25_L12 (l : Launch) (Dv : va_G) (fu : Nat) (h : S_H) (out : Nat → Int64) (κ : ev_ka) (X : ev_X l Dv gaX mu_R_smaller κ) : ∀ (n : Nat) (R : S_R) (v1 : Int64) (v3 : Int32) (v4 : Int32), ev_J l Dv gaX mu_R_smaller κ 12 0 0 [some (.ref 25), some (.long v1), none, some (.int v3), some (.int v4), none, none] [] (hpW h R out) (f_R_smaller_L12 fu n R v1 v3 v4) (fun q => (some (.int q.1), hpW h q.2 out)) := by
  intro n
  induction n with
  | zero => exact fun _ _ _ _ => js_none
  | succ n ih =>
    intro R v1 v3 v4
    unfold f_R_smaller_L12
    refine js_iload (n := 14) X (dg dc_R_smaller 7 rfl) rfl rfl ?_
    refine js_if_lt (t := 44) (n := 17) X (dg dc_R_smaller 8 rfl) (by decide) rfl ?_ ?_
    · refine js_iconst (n := 45) 1 X (dg dc_R_smaller 23 rfl) rfl (by decide) ?_
      refine js_istore (lo' := [some (.ref 25), some (.long v1), none, some (.int v3), some (.int 1), none, none]) (n := 47) X (dg dc_R_smaller 24 rfl) rfl (Nat.le_of_ble_eq_true rfl) rfl ?_
      exact js_keep [true, true, false, true, true, false, false] (jl_R_smaller_25_L47 l Dv fu h out κ X fu R v1 v3 1)
    refine js_aload_n (n := 18) X (dg dc_R_smaller 9 rfl) rfl rfl rfl ?_
    refine js_iload (n := 20) X (dg dc_R_smaller 10 rfl) rfl rfl ?_
    refine js_callV (na := 1) (ci := 6) (n := 23) X (dg dc_R_smaller 11 rfl) rfl (c_R_leaveOut_25 l Dv fu h out R v4) gV_R_208 rfl rfl hy_R_leaveOut ⟨(Nat.le_of_ble_eq_true rfl), (Nat.le_of_ble_eq_true rfl)⟩ rfl ⟨(Nat.le_of_ble_eq_true rfl), (Nat.le_of_ble_eq_true rfl)⟩ rfl rfl rfl rfl rfl ?_
    rintro ⟨r20, R_20⟩
    refine js_istore (lo' := [some (.ref 25), some (.long v1), none, some (.int v3), some (.int v4), some (.int r20), none]) (n := 25) X (dg dc_R_smaller 12 rfl) rfl (Nat.le_of_ble_eq_true rfl) rfl ?_
    refine js_aload_n (n := 26) X (dg dc_R_smaller 13 rfl) rfl rfl rfl ?_
    refine js_iload (n := 28) X (dg dc_R_smaller 14 rfl) rfl rfl ?_
    refine js_lload_n (n := 29) X (dg dc_R_smaller 15 rfl) rfl rfl rfl ?_
    refine js_iload_n (n := 30) X (dg dc_R_smaller 16 rfl) rfl rfl rfl ?_
    refine js_callV (na := 3) (ci := 6) (n := 33) X (dg dc_R_smaller 17 rfl) rfl (c_R_takes_25 l Dv fu h out R_20 r20 v1 v3) gV_R_211 rfl rfl hy_R_takes ⟨(Nat.le_of_ble_eq_true rfl), (Nat.le_of_ble_eq_true rfl)⟩ rfl ⟨(Nat.le_of_ble_eq_true rfl), (Nat.le_of_ble_eq_true rfl)⟩ rfl rfl rfl rfl rfl ?_
    rintro ⟨r30, R_30⟩
    refine js_if_eq (t := 38) (n := 36) X (dg dc_R_smaller 18 rfl) (by decide) rfl ?_ ?_
    · refine js_iinc (lo' := [some (.ref 25), some (.long v1), none, some (.int v3), some (.int (v4 + (-1))), some (.int r20), none]) (n := 41) (-1) X (dg dc_R_smaller 21 rfl) rfl (by decide) (Nat.le_of_ble_eq_true rfl) rfl rfl ?_
      refine js_goto (t := 12) X (dg dc_R_smaller 22 rfl) (by decide) ?_
      exact js_keep [true, true, false, true, true, false, false] (ih R_30 v1 v3 (v4 + (-1)))
    refine js_iconst (n := 37) 1 X (dg dc_R_smaller 19 rfl) rfl (by decide) ?_
    exact js_retZ X (dg dc_R_smaller 20 rfl) rfl (Nat.le_of_ble_eq_true rfl) (Nat.le_of_ble_eq_true rfl) rfl
set_option maxRecDepth 100000 in
set_option maxHeartbeats 4000000 in
theorem c_R_smaller_25 (l : Launch) (Dv : va_G) (fu : Nat) (h : S_H) (out : Nat → Int64) (R : S_R) (a1 : Int64) (a3 : Int32) : ev_M l Dv gaX mu_R_smaller [.ref 25, .long a1, .int a3] (hpW h R out) (f_R_smaller fu R a1 a3) (fun q => (some (.int q.1), hpW h q.2 out)) := by
  refine ev_met (lo0 := [some (.ref 25), some (.long a1), none, some (.int a3), none, none, none]) rfl rfl rfl (fun κ X => ?_)
  unfold f_R_smaller
  refine js_aload_n (n := 1) X (dg dc_R_smaller 0 rfl) rfl rfl rfl ?_
  refine js_callV (na := 0) (ci := 6) (n := 4) X (dg dc_R_smaller 1 rfl) rfl (c_R_keep_25 l Dv fu h out R) gV_R_108 rfl rfl hy_R_keep ⟨(Nat.le_of_ble_eq_true rfl), (Nat.le_of_ble_eq_true rfl)⟩ rfl ⟨(Nat.le_of_ble_eq_true rfl), (Nat.le_of_ble_eq_true rfl)⟩ rfl rfl rfl rfl rfl ?_
  intro R_1
  refine js_aload_n (n := 5) X (dg dc_R_smaller 2 rfl) rfl rfl rfl ?_
  refine js_callV (na := 0) (ci := 6) (n := 8) X (dg dc_R_smaller 3 rfl) rfl (c_R_many_25 l Dv fu h out R_1) gV_R_84 rfl rfl hy_R_many ⟨(Nat.le_of_ble_eq_true rfl), (Nat.le_of_ble_eq_true rfl)⟩ rfl ⟨(Nat.le_of_ble_eq_true rfl), (Nat.le_of_ble_eq_true rfl)⟩ rfl rfl rfl rfl rfl ?_
  intro r5
  refine js_iconst (n := 9) 1 X (dg dc_R_smaller 4 rfl) rfl (by decide) ?_
  refine js_isub (n := 10) X (dg dc_R_smaller 5 rfl) rfl ?_
  refine js_istore (lo' := [some (.ref 25), some (.long a1), none, some (.int a3), some (.int (r5 - 1)), none, none]) (n := 12) X (dg dc_R_smaller 6 rfl) rfl (Nat.le_of_ble_eq_true rfl) rfl ?_
  exact js_keep [true, true, false, true, true, false, false] (jl_R_smaller_25_L12 l Dv fu h out κ X fu R_1 a1 a3 (r5 - 1))
set_option maxRecDepth 100000 in
set_option maxHeartbeats 4000000 in
theorem jl_R_shrink_25_L54 (l : Launch) (Dv : va_G) (fu : Nat) (h : S_H) (out : Nat → Int64) (κ : ev_ka) (X : ev_X l Dv gaX mu_R_shrink κ) (R : S_R) (v4 : Int32) : ev_J l Dv gaX mu_R_shrink κ 54 0 0 [some (.ref 25), none, none, none, some (.int v4)] [] (hpW h R out) (f_R_shrink_L54 fu R v4) (fun q => (some (.int q.1), hpW h q.2 out)) := by
  unfold f_R_shrink_L54
  refine js_aload_n (n := 55) X (dg dc_R_shrink 30 rfl) rfl rfl rfl ?_
  refine js_dup (n := 56) X (dg dc_R_shrink 31 rfl) rfl rfl ?_
  refine js_getf (j := 25) (v := .int R.2.2.2.2.2.2.2.2.2.2.2.2.2.2.2.2.2.2.2.2.2.2.2.2.2.1) (n := 59) X (dg dc_R_shrink 32 rfl) rfl hC_R (Nat.le_of_ble_eq_true rfl) hw_300 rfl rfl ?_
  refine js_iload (n := 61) X (dg dc_R_shrink 33 rfl) rfl rfl ?_
  refine js_iadd (n := 62) X (dg dc_R_shrink 34 rfl) rfl ?_
  refine js_puti (j := 25) (n := 65) X (dg dc_R_shrink 35 rfl) rfl hC_R (Nat.le_of_ble_eq_true rfl) hw_300 rfl rfl (Or.inl rfl) (Nat.le_of_ble_eq_true rfl) ?_
  refine js_aload_n (n := 66) X (dg dc_R_shrink 36 rfl) rfl rfl rfl ?_
  refine js_aload_n (n := 67) X (dg dc_R_shrink 37 rfl) rfl rfl rfl ?_
  refine js_getf (j := 26) (v := .int R.2.2.2.2.2.2.2.2.2.2.2.2.2.2.2.2.2.2.2.2.2.2.2.2.2.2.1) (n := 70) X (dg dc_R_shrink 38 rfl) rfl hC_R (Nat.le_of_ble_eq_true rfl) hw_279 rfl rfl ?_
  refine js_callV (na := 1) (ci := 6) (n := 73) X (dg dc_R_shrink 39 rfl) rfl (c_R_judged_25 l Dv fu h out (R.1, R.2.1, R.2.2.1, R.2.2.2.1, R.2.2.2.2.1, R.2.2.2.2.2.1, R.2.2.2.2.2.2.1, R.2.2.2.2.2.2.2.1, R.2.2.2.2.2.2.2.2.1, R.2.2.2.2.2.2.2.2.2.1, R.2.2.2.2.2.2.2.2.2.2.1, R.2.2.2.2.2.2.2.2.2.2.2.1, R.2.2.2.2.2.2.2.2.2.2.2.2.1, R.2.2.2.2.2.2.2.2.2.2.2.2.2.1, R.2.2.2.2.2.2.2.2.2.2.2.2.2.2.1, R.2.2.2.2.2.2.2.2.2.2.2.2.2.2.2.1, R.2.2.2.2.2.2.2.2.2.2.2.2.2.2.2.2.1, R.2.2.2.2.2.2.2.2.2.2.2.2.2.2.2.2.2.1, R.2.2.2.2.2.2.2.2.2.2.2.2.2.2.2.2.2.2.1, R.2.2.2.2.2.2.2.2.2.2.2.2.2.2.2.2.2.2.2.1, R.2.2.2.2.2.2.2.2.2.2.2.2.2.2.2.2.2.2.2.2.1, R.2.2.2.2.2.2.2.2.2.2.2.2.2.2.2.2.2.2.2.2.2.1, R.2.2.2.2.2.2.2.2.2.2.2.2.2.2.2.2.2.2.2.2.2.2.1, R.2.2.2.2.2.2.2.2.2.2.2.2.2.2.2.2.2.2.2.2.2.2.2.1, R.2.2.2.2.2.2.2.2.2.2.2.2.2.2.2.2.2.2.2.2.2.2.2.2.1, R.2.2.2.2.2.2.2.2.2.2.2.2.2.2.2.2.2.2.2.2.2.2.2.2.2.1 + v4, R.2.2.2.2.2.2.2.2.2.2.2.2.2.2.2.2.2.2.2.2.2.2.2.2.2.2) R.2.2.2.2.2.2.2.2.2.2.2.2.2.2.2.2.2.2.2.2.2.2.2.2.2.2.1) gV_R_197 rfl rfl hy_R_judged ⟨(Nat.le_of_ble_eq_true rfl), (Nat.le_of_ble_eq_true rfl)⟩ rfl ⟨(Nat.le_of_ble_eq_true rfl), (Nat.le_of_ble_eq_true rfl)⟩ rfl rfl rfl rfl rfl ?_
  rintro ⟨r70, R_70⟩
  refine js_pop (n := 74) X (dg dc_R_shrink 40 rfl) rfl rfl ?_
  refine js_iload (n := 76) X (dg dc_R_shrink 41 rfl) rfl rfl ?_
  exact js_retI X (dg dc_R_shrink 42 rfl) rfl (Nat.le_of_ble_eq_true rfl) (Nat.le_of_ble_eq_true rfl) rfl
set_option maxRecDepth 100000 in
set_option maxHeartbeats 4000000 in
theorem jl_R_shrink_25_L39 (l : Launch) (Dv : va_G) (fu : Nat) (h : S_H) (out : Nat → Int64) (κ : ev_ka) (X : ev_X l Dv gaX mu_R_shrink κ) : ∀ (n : Nat) (R : S_R) (v1 : Int64) (v3 : Int32) (v4 : Int32), ev_J l Dv gaX mu_R_shrink κ 39 0 0 [some (.ref 25), some (.long v1), none, some (.int v3), some (.int v4)] [] (hpW h R out) (f_R_shrink_L39 fu n R v1 v3 v4) (fun q => (some (.int q.1), hpW h q.2 out)) := by
  intro n
  induction n with
  | zero => exact fun _ _ _ _ => js_none
  | succ n ih =>
    intro R v1 v3 v4
    unfold f_R_shrink_L39
    refine js_aload_n (n := 40) X (dg dc_R_shrink 23 rfl) rfl rfl rfl ?_
    refine js_lload_n (n := 41) X (dg dc_R_shrink 24 rfl) rfl rfl rfl ?_
    refine js_iload_n (n := 42) X (dg dc_R_shrink 25 rfl) rfl rfl rfl ?_
    refine js_callV (na := 2) (ci := 6) (n := 45) X (dg dc_R_shrink 26 rfl) rfl (c_R_smaller_25 l Dv fu h out R v1 v3) gV_R_218 rfl rfl hy_R_smaller ⟨(Nat.le_of_ble_eq_true rfl), (Nat.le_of_ble_eq_true rfl)⟩ rfl ⟨(Nat.le_of_ble_eq_true rfl), (Nat.le_of_ble_eq_true rfl)⟩ rfl rfl rfl rfl rfl ?_
    rintro ⟨r42, R_42⟩
    refine js_if_eq (t := 54) (n := 48) X (dg dc_R_shrink 27 rfl) (by decide) rfl ?_ ?_
    · exact js_keep [true, false, false, false, true] (jl_R_shrink_25_L54 l Dv fu h out κ X R_42 v4)
    refine js_iinc (lo' := [some (.ref 25), some (.long v1), none, some (.int v3), some (.int (v4 + 1))]) (n := 51) 1 X (dg dc_R_shrink 28 rfl) rfl (by decide) (Nat.le_of_ble_eq_true rfl) rfl rfl ?_
    refine js_goto (t := 39) X (dg dc_R_shrink 29 rfl) (by decide) ?_
    exact js_keep [true, true, false, true, true] (ih R_42 v1 v3 (v4 + 1))
set_option maxRecDepth 100000 in
set_option maxHeartbeats 4000000 in
theorem c_R_shrink_25 (l : Launch) (Dv : va_G) (fu : Nat) (h : S_H) (out : Nat → Int64) (R : S_R) (a1 : Int64) (a3 : Int32) : ev_M l Dv gaX mu_R_shrink [.ref 25, .long a1, .int a3] (hpW h R out) (f_R_shrink fu R a1 a3) (fun q => (some (.int q.1), hpW h q.2 out)) := by
  refine ev_met (lo0 := [some (.ref 25), some (.long a1), none, some (.int a3), none]) rfl rfl rfl (fun κ X => ?_)
  unfold f_R_shrink
  refine js_aload_n (n := 1) X (dg dc_R_shrink 0 rfl) rfl rfl rfl ?_
  refine js_iconst (n := 2) 0 X (dg dc_R_shrink 1 rfl) rfl (by decide) ?_
  refine js_puti (j := 0) (n := 5) X (dg dc_R_shrink 2 rfl) rfl hC_R (Nat.le_of_ble_eq_true rfl) hw_126 rfl rfl (Or.inl rfl) (Nat.le_of_ble_eq_true rfl) ?_
  refine js_iload_n (n := 6) X (dg dc_R_shrink 3 rfl) rfl rfl rfl ?_
  refine js_iconst (n := 7) 1 X (dg dc_R_shrink 4 rfl) rfl (by decide) ?_
  refine js_bipush (n := 9) 50 X (dg dc_R_shrink 5 rfl) rfl (by decide) ?_
  refine js_callS (na := 3) (n := 12) X (dg dc_R_shrink 6 rfl) rfl (c_R_within l Dv fu _ a3 1 50) gS_R_102 rfl rfl hy_R_within.2 ⟨(Nat.le_of_ble_eq_true rfl), (Nat.le_of_ble_eq_true rfl)⟩ ⟨(Nat.le_of_ble_eq_true rfl), (Nat.le_of_ble_eq_true rfl)⟩ rfl rfl rfl rfl ?_
  intro r9
  refine js_if_ne (t := 21) (n := 15) X (dg dc_R_shrink 7 rfl) (by decide) rfl ?_ ?_
  · refine js_aload_n (n := 22) X (dg dc_R_shrink 12 rfl) rfl rfl rfl ?_
    refine js_lload_n (n := 23) X (dg dc_R_shrink 13 rfl) rfl rfl rfl ?_
    refine js_iload_n (n := 24) X (dg dc_R_shrink 14 rfl) rfl rfl rfl ?_
    refine js_callV (na := 2) (ci := 6) (n := 27) X (dg dc_R_shrink 15 rfl) rfl (c_R_failed_25 l Dv fu h out (0, R.2) a1 a3) gV_R_204 rfl rfl hy_R_failed ⟨(Nat.le_of_ble_eq_true rfl), (Nat.le_of_ble_eq_true rfl)⟩ rfl ⟨(Nat.le_of_ble_eq_true rfl), (Nat.le_of_ble_eq_true rfl)⟩ rfl rfl rfl rfl rfl ?_
    rintro ⟨r24, R_24⟩
    refine js_if_ge (t := 36) (n := 30) X (dg dc_R_shrink 16 rfl) (by decide) rfl ?_ ?_
    · refine js_iconst (n := 37) 0 X (dg dc_R_shrink 21 rfl) rfl (by decide) ?_
      refine js_istore (lo' := [some (.ref 25), some (.long a1), none, some (.int a3), some (.int 0)]) (n := 39) X (dg dc_R_shrink 22 rfl) rfl (Nat.le_of_ble_eq_true rfl) rfl ?_
      exact js_keep [true, true, false, true, true] (jl_R_shrink_25_L39 l Dv fu h out κ X fu R_24 a1 a3 0)
    refine js_aload_n (n := 31) X (dg dc_R_shrink 17 rfl) rfl rfl rfl ?_
    refine js_iconst (n := 32) 2 X (dg dc_R_shrink 18 rfl) rfl (by decide) ?_
    refine js_callV (na := 1) (ci := 6) (n := 35) X (dg dc_R_shrink 19 rfl) rfl (c_R_fail_25 l Dv fu h out R_24 2) gV_R_105 rfl rfl hy_R_fail ⟨(Nat.le_of_ble_eq_true rfl), (Nat.le_of_ble_eq_true rfl)⟩ rfl ⟨(Nat.le_of_ble_eq_true rfl), (Nat.le_of_ble_eq_true rfl)⟩ rfl rfl rfl rfl rfl ?_
    rintro ⟨r32, R_32⟩
    exact js_retI X (dg dc_R_shrink 20 rfl) rfl (Nat.le_of_ble_eq_true rfl) (Nat.le_of_ble_eq_true rfl) rfl
  refine js_aload_n (n := 16) X (dg dc_R_shrink 8 rfl) rfl rfl rfl ?_
  refine js_iconst (n := 17) 1 X (dg dc_R_shrink 9 rfl) rfl (by decide) ?_
  refine js_callV (na := 1) (ci := 6) (n := 20) X (dg dc_R_shrink 10 rfl) rfl (c_R_fail_25 l Dv fu h out (0, R.2) 1) gV_R_105 rfl rfl hy_R_fail ⟨(Nat.le_of_ble_eq_true rfl), (Nat.le_of_ble_eq_true rfl)⟩ rfl ⟨(Nat.le_of_ble_eq_true rfl), (Nat.le_of_ble_eq_true rfl)⟩ rfl rfl rfl rfl rfl ?_
  rintro ⟨r17, R_17⟩
  exact js_retI X (dg dc_R_shrink 11 rfl) rfl (Nat.le_of_ble_eq_true rfl) (Nat.le_of_ble_eq_true rfl) rfl
