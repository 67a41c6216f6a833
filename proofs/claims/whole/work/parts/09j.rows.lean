set_option maxRecDepth 100000 in
set_option maxHeartbeats 4000000 in
theorem c_J_answersSo_6_12 (l : Launch) (Dv : va_G) (fu : Nat) (h : S_H) (r : S_R) (out : Nat → Int64) (P : S_P) (M1 : S_M) (a2 : Int32) (a3 : Int32) : ev_M l Dv gaX mu_J_answersSo [.ref 6, .ref 12, .int a2, .int a3] (hpW (h.1, P, (M1, h.2.2.1.2), h.2.2.2) r out) (f_J_answersSo fu P M1 a2 a3) (fun q => (some (.int q), hpW (h.1, P, (M1, h.2.2.1.2), h.2.2.2) r out)) := by
  refine ev_met (lo0 := [some (.ref 6), some (.ref 12), some (.int a2), some (.int a3), none]) rfl rfl rfl (fun κ X => ?_)
  unfold f_J_answersSo
  refine js_iload_n (n := 1) X (dg dc_J_answersSo 0 rfl) rfl rfl rfl ?_
  refine js_aload_n (n := 2) X (dg dc_J_answersSo 1 rfl) rfl rfl rfl ?_
  refine js_getf (j := 1) (v := .ref 8) (n := 5) X (dg dc_J_answersSo 2 rfl) rfl hC_P (Nat.le_of_ble_eq_true rfl) hw_357 rfl rfl ?_
  refine js_iload_n (n := 6) X (dg dc_J_answersSo 3 rfl) rfl rfl rfl ?_
  refine js_iaload (f := P.2.1) (n := 7) X (dg dc_J_answersSo 4 rfl) rfl rfl ?_
  refine js_aload_n (n := 8) X (dg dc_J_answersSo 5 rfl) rfl rfl rfl ?_
  refine js_getf (j := 2) (v := .ref 9) (n := 11) X (dg dc_J_answersSo 6 rfl) rfl hC_P (Nat.le_of_ble_eq_true rfl) hw_358 rfl rfl ?_
  refine js_iload_n (n := 12) X (dg dc_J_answersSo 7 rfl) rfl rfl rfl ?_
  refine js_iaload (f := P.2.2.1) (n := 13) X (dg dc_J_answersSo 8 rfl) rfl rfl ?_
  refine js_aload_n (n := 14) X (dg dc_J_answersSo 9 rfl) rfl rfl rfl ?_
  refine js_getf (j := 1) (v := .ref 14) (n := 17) X (dg dc_J_answersSo 10 rfl) rfl hC_M (Nat.le_of_ble_eq_true rfl) hw_359 rfl rfl ?_
  refine js_iload_n (n := 18) X (dg dc_J_answersSo 11 rfl) rfl rfl rfl ?_
  refine js_iaload (f := M1.2.1) (n := 19) X (dg dc_J_answersSo 12 rfl) rfl rfl ?_
  refine js_callS (na := 4) (n := 22) X (dg dc_J_answersSo 13 rfl) rfl (c_O_answer l Dv fu _ a2 (P.2.1 (ix a3)) (P.2.2.1 (ix a3)) (M1.2.1 (ix a3))) gS_J_55 rfl rfl hy_O_answer.2 ⟨(Nat.le_of_ble_eq_true rfl), (Nat.le_of_ble_eq_true rfl)⟩ ⟨(Nat.le_of_ble_eq_true rfl), (Nat.le_of_ble_eq_true rfl)⟩ rfl rfl rfl rfl ?_
  intro r19
  refine js_istore (lo' := [some (.ref 6), some (.ref 12), some (.int a2), some (.int a3), some (.int r19)]) (n := 24) X (dg dc_J_answersSo 14 rfl) rfl (Nat.le_of_ble_eq_true rfl) rfl ?_
  refine js_iload (n := 26) X (dg dc_J_answersSo 15 rfl) rfl rfl ?_
  refine js_aload_n (n := 27) X (dg dc_J_answersSo 16 rfl) rfl rfl rfl ?_
  refine js_getf (j := 0) (v := .ref 13) (n := 30) X (dg dc_J_answersSo 17 rfl) rfl hC_M (Nat.le_of_ble_eq_true rfl) hw_361 rfl rfl ?_
  refine js_iload_n (n := 31) X (dg dc_J_answersSo 18 rfl) rfl rfl rfl ?_
  refine js_iaload (f := M1.1) (n := 32) X (dg dc_J_answersSo 19 rfl) rfl rfl ?_
  refine js_icmp_ne (t := 39) (n := 35) X (dg dc_J_answersSo 20 rfl) (by decide) rfl ?_ ?_
  · refine js_iconst (n := 40) 0 X (dg dc_J_answersSo 23 rfl) rfl (by decide) ?_
    exact js_retZ X (dg dc_J_answersSo 24 rfl) rfl (Nat.le_of_ble_eq_true rfl) (Nat.le_of_ble_eq_true rfl) rfl
  refine js_iconst (n := 36) 1 X (dg dc_J_answersSo 21 rfl) rfl (by decide) ?_
  refine js_goto (t := 40) X (dg dc_J_answersSo 22 rfl) (by decide) ?_
  exact js_retZ X (dg dc_J_answersSo 24 rfl) rfl (Nat.le_of_ble_eq_true rfl) (Nat.le_of_ble_eq_true rfl) rfl
set_option maxRecDepth 100000 in
set_option maxHeartbeats 4000000 in
theorem c_J_after_6_12 (l : Launch) (Dv : va_G) (fu : Nat) (h : S_H) (r : S_R) (out : Nat → Int64) (P : S_P) (M1 : S_M) (a2 : Int32) (a3 : Int32) : ev_M l Dv gaX mu_J_after [.ref 6, .ref 12, .int a2, .int a3] (hpW (h.1, P, (M1, h.2.2.1.2), h.2.2.2) r out) (f_J_after fu P M1 a2 a3) (fun q => (some (.int q), hpW (h.1, P, (M1, h.2.2.1.2), h.2.2.2) r out)) := by
  refine ev_met (lo0 := [some (.ref 6), some (.ref 12), some (.int a2), some (.int a3)]) rfl rfl rfl (fun κ X => ?_)
  unfold f_J_after
  refine js_iload_n (n := 1) X (dg dc_J_after 0 rfl) rfl rfl rfl ?_
  refine js_aload_n (n := 2) X (dg dc_J_after 1 rfl) rfl rfl rfl ?_
  refine js_getf (j := 1) (v := .ref 8) (n := 5) X (dg dc_J_after 2 rfl) rfl hC_P (Nat.le_of_ble_eq_true rfl) hw_357 rfl rfl ?_
  refine js_iload_n (n := 6) X (dg dc_J_after 3 rfl) rfl rfl rfl ?_
  refine js_iaload (f := P.2.1) (n := 7) X (dg dc_J_after 4 rfl) rfl rfl ?_
  refine js_aload_n (n := 8) X (dg dc_J_after 5 rfl) rfl rfl rfl ?_
  refine js_getf (j := 2) (v := .ref 9) (n := 11) X (dg dc_J_after 6 rfl) rfl hC_P (Nat.le_of_ble_eq_true rfl) hw_358 rfl rfl ?_
  refine js_iload_n (n := 12) X (dg dc_J_after 7 rfl) rfl rfl rfl ?_
  refine js_iaload (f := P.2.2.1) (n := 13) X (dg dc_J_after 8 rfl) rfl rfl ?_
  refine js_aload_n (n := 14) X (dg dc_J_after 9 rfl) rfl rfl rfl ?_
  refine js_getf (j := 1) (v := .ref 14) (n := 17) X (dg dc_J_after 10 rfl) rfl hC_M (Nat.le_of_ble_eq_true rfl) hw_359 rfl rfl ?_
  refine js_iload_n (n := 18) X (dg dc_J_after 11 rfl) rfl rfl rfl ?_
  refine js_iaload (f := M1.2.1) (n := 19) X (dg dc_J_after 12 rfl) rfl rfl ?_
  refine js_callS (na := 4) (n := 22) X (dg dc_J_after 13 rfl) rfl (c_O_after l Dv fu _ a2 (P.2.1 (ix a3)) (P.2.2.1 (ix a3)) (M1.2.1 (ix a3))) gS_J_62 rfl rfl hy_O_after.2 ⟨(Nat.le_of_ble_eq_true rfl), (Nat.le_of_ble_eq_true rfl)⟩ ⟨(Nat.le_of_ble_eq_true rfl), (Nat.le_of_ble_eq_true rfl)⟩ rfl rfl rfl rfl ?_
  intro r19
  exact js_retI X (dg dc_J_after 14 rfl) rfl (Nat.le_of_ble_eq_true rfl) (Nat.le_of_ble_eq_true rfl) rfl
set_option maxRecDepth 100000 in
set_option maxHeartbeats 4000000 in
theorem jl_J_search_20_6_12_L182 (l : Launch) (Dv : va_G) (fu : Nat) (h : S_H) (r : S_R) (out : Nat → Int64) (rc : S_J → S_P → S_M → Int32 → Int32 → Int32 → Int32 → Option (Int32 × S_J)) (d : Nat) (hrc : ∀ (J : S_J) (P1 : S_P) (M2 : S_M) (a3 : Int32) (a4 : Int32) (a5 : Int32) (a6 : Int32), ev_M l Dv gaX (mu_J_search d) [.ref 20, .ref 6, .ref 12, .int a3, .int a4, .int a5, .int a6] (hpW (h.1, P1, (M2, J, h.2.2.1.2.2), h.2.2.2) r out) (rc J P1 M2 a3 a4 a5 a6) (fun q => (some (.int q.1), hpW (h.1, P1, (M2, q.2, h.2.2.1.2.2), h.2.2.2) r out))) (κ : ev_ka) (X : ev_X l Dv gaX (mu_J_search (d + 1)) κ) (P1 : S_P) (M2 : S_M) (J : S_J) (v3 : Int32) (v4 : Int32) (v5 : Int32) (v6 : Int32) (s0 : Int32) : ev_J l Dv gaX (mu_J_search (d + 1)) κ 182 0 0 [some (.ref 20), some (.ref 6), some (.ref 12), some (.int v3), some (.int v4), some (.int v5), some (.int v6), none, none, none, none, none] [.int s0] (hpW (h.1, P1, (M2, J, h.2.2.1.2.2), h.2.2.2) r out) (f_J_search_L182 fu rc P1 M2 J v3 v4 v5 v6 s0) (fun q => (some (.int q.1), hpW (h.1, P1, (M2, q.2, h.2.2.1.2.2), h.2.2.2) r out)) := by
  unfold f_J_search_L182
  refine js_istore (lo' := [some (.ref 20), some (.ref 6), some (.ref 12), some (.int v3), some (.int v4), some (.int v5), some (.int v6), none, none, none, some (.int s0), none]) (n := 184) X (dg dc_J_search 98 rfl) rfl (Nat.le_of_ble_eq_true rfl) rfl ?_
  refine js_iload (n := 186) X (dg dc_J_search 99 rfl) rfl rfl ?_
  refine js_if_eq (t := 238) (n := 189) X (dg dc_J_search 100 rfl) (by decide) rfl ?_ ?_
  · refine js_iconst (n := 239) 0 X (dg dc_J_search 131 rfl) rfl (by decide) ?_
    exact js_retZ X (dg dc_J_search 132 rfl) rfl (Nat.le_of_ble_eq_true rfl) (Nat.le_of_ble_eq_true rfl) rfl
  refine js_aload_n (n := 190) X (dg dc_J_search 101 rfl) rfl rfl rfl ?_
  refine js_aload_n (n := 191) X (dg dc_J_search 102 rfl) rfl rfl rfl ?_
  refine js_iload_n (n := 192) X (dg dc_J_search 103 rfl) rfl rfl rfl ?_
  refine js_iload (n := 194) X (dg dc_J_search 104 rfl) rfl rfl ?_
  refine js_callS (na := 4) (n := 197) X (dg dc_J_search 105 rfl) rfl (c_J_answersSo_6_12 l Dv fu (h.1, P1, (M2, J, h.2.2.1.2.2), h.2.2.2) r out P1 M2 v3 v5) gS_J_23 rfl rfl hy_J_answersSo.2 ⟨by show 2 + 1 ≤ d + 1 + 3; omega, by show 8 + (5 + 11) + 44 ≤ (d + 1) * 31 + 70; omega⟩ ⟨(Nat.le_of_ble_eq_true rfl), (Nat.le_of_ble_eq_true rfl)⟩ rfl rfl rfl rfl ?_
  intro r194
  refine js_if_eq (t := 238) (n := 200) X (dg dc_J_search 106 rfl) (by decide) rfl ?_ ?_
  · refine js_iconst (n := 239) 0 X (dg dc_J_search 131 rfl) rfl (by decide) ?_
    exact js_retZ X (dg dc_J_search 132 rfl) rfl (Nat.le_of_ble_eq_true rfl) (Nat.le_of_ble_eq_true rfl) rfl
  refine js_aload_n (n := 201) X (dg dc_J_search 107 rfl) rfl rfl rfl ?_
  refine js_getf (j := 0) (v := .ref 21) (n := 204) X (dg dc_J_search 108 rfl) rfl hC_J (Nat.le_of_ble_eq_true rfl) hw_356 rfl rfl ?_
  refine js_iload (n := 206) X (dg dc_J_search 109 rfl) rfl rfl ?_
  refine js_iload (n := 208) X (dg dc_J_search 110 rfl) rfl rfl ?_
  refine js_iastore (f := J) (n := 209) X (dg dc_J_search 111 rfl) rfl rfl ?_
  refine js_aload_n (n := 210) X (dg dc_J_search 112 rfl) rfl rfl rfl ?_
  refine js_aload_n (n := 211) X (dg dc_J_search 113 rfl) rfl rfl rfl ?_
  refine js_iload_n (n := 212) X (dg dc_J_search 114 rfl) rfl rfl rfl ?_
  refine js_iload (n := 214) X (dg dc_J_search 115 rfl) rfl rfl ?_
  refine js_callS (na := 4) (n := 217) X (dg dc_J_search 116 rfl) rfl (c_J_after_6_12 l Dv fu (h.1, P1, (M2, (upd J (ix v6) v5), h.2.2.1.2.2), h.2.2.2) r out P1 M2 v3 v5) gS_J_27 rfl rfl hy_J_after.2 ⟨by show 2 + 1 ≤ d + 1 + 3; omega, by show 8 + (4 + 11) + 47 ≤ (d + 1) * 31 + 70; omega⟩ ⟨(Nat.le_of_ble_eq_true rfl), (Nat.le_of_ble_eq_true rfl)⟩ rfl rfl rfl rfl ?_
  intro r214
  refine js_istore (lo' := [some (.ref 20), some (.ref 6), some (.ref 12), some (.int v3), some (.int v4), some (.int v5), some (.int v6), none, none, none, some (.int s0), some (.int r214)]) (n := 219) X (dg dc_J_search 117 rfl) rfl (Nat.le_of_ble_eq_true rfl) rfl ?_
  refine js_aload_n (n := 220) X (dg dc_J_search 118 rfl) rfl rfl rfl ?_
  refine js_aload_n (n := 221) X (dg dc_J_search 119 rfl) rfl rfl rfl ?_
  refine js_aload_n (n := 222) X (dg dc_J_search 120 rfl) rfl rfl rfl ?_
  refine js_iload (n := 224) X (dg dc_J_search 121 rfl) rfl rfl ?_
  refine js_iload (n := 226) X (dg dc_J_search 122 rfl) rfl rfl ?_
  refine js_iload (n := 228) X (dg dc_J_search 123 rfl) rfl rfl ?_
  refine js_iconst (n := 229) 1 X (dg dc_J_search 124 rfl) rfl (by decide) ?_
  refine js_iadd (n := 230) X (dg dc_J_search 125 rfl) rfl ?_
  refine js_iload (n := 232) X (dg dc_J_search 126 rfl) rfl rfl ?_
  refine js_iconst (n := 233) 1 X (dg dc_J_search 127 rfl) rfl (by decide) ?_
  refine js_iadd (n := 234) X (dg dc_J_search 128 rfl) rfl ?_
  refine js_callV (na := 6) (ci := 4) (n := 237) X (dg dc_J_search 129 rfl) rfl (hrc (upd J (ix v6) v5) P1 M2 r214 v4 (v5 + 1) (v6 + 1)) gV_J_34 rfl rfl hy_J_search ⟨by show d + 3 + 1 ≤ d + 1 + 3; omega, by show 8 + (12 + 11) + (d * 31 + 70) ≤ (d + 1) * 31 + 70; omega⟩ rfl ⟨(Nat.le_of_ble_eq_true rfl), (Nat.le_of_ble_eq_true rfl)⟩ rfl rfl rfl rfl rfl ?_
  rintro ⟨r234, J_234⟩
  exact js_retZ X (dg dc_J_search 130 rfl) rfl (Nat.le_of_ble_eq_true rfl) (Nat.le_of_ble_eq_true rfl) rfl
set_option maxRecDepth 100000 in
set_option maxHeartbeats 4000000 in
theorem jl_J_search_20_6_12_L150 (l : Launch) (Dv : va_G) (fu : Nat) (h : S_H) (r : S_R) (out : Nat → Int64) (rc : S_J → S_P → S_M → Int32 → Int32 → Int32 → Int32 → Option (Int32 × S_J)) (d : Nat) (hrc : ∀ (J : S_J) (P1 : S_P) (M2 : S_M) (a3 : Int32) (a4 : Int32) (a5 : Int32) (a6 : Int32), ev_M l Dv gaX (mu_J_search d) [.ref 20, .ref 6, .ref 12, .int a3, .int a4, .int a5, .int a6] (hpW (h.1, P1, (M2, J, h.2.2.1.2.2), h.2.2.2) r out) (rc J P1 M2 a3 a4 a5 a6) (fun q => (some (.int q.1), hpW (h.1, P1, (M2, q.2, h.2.2.1.2.2), h.2.2.2) r out))) (κ : ev_ka) (X : ev_X l Dv gaX (mu_J_search (d + 1)) κ) (P1 : S_P) (M2 : S_M) (J : S_J) (v3 : Int32) (v4 : Int32) (v5 : Int32) (v6 : Int32) (v7 : Int32) (v8 : Int32) : ev_J l Dv gaX (mu_J_search (d + 1)) κ 150 0 0 [some (.ref 20), some (.ref 6), some (.ref 12), some (.int v3), some (.int v4), some (.int v5), some (.int v6), some (.int v7), some (.int v8), none, none, none] [] (hpW (h.1, P1, (M2, J, h.2.2.1.2.2), h.2.2.2) r out) (f_J_search_L150 fu rc P1 M2 J v3 v4 v5 v6 v7 v8) (fun q => (some (.int q.1), hpW (h.1, P1, (M2, q.2, h.2.2.1.2.2), h.2.2.2) r out)) := by
  unfold f_J_search_L150
  refine js_iload (n := 152) X (dg dc_J_search 82 rfl) rfl rfl ?_
  refine js_if_eq (t := 181) (n := 155) X (dg dc_J_search 83 rfl) (by decide) rfl ?_ ?_
  · refine js_iconst (n := 182) 0 X (dg dc_J_search 97 rfl) rfl (by decide) ?_
    exact js_keep [true, true, true, true, true, true, true, false, false, false, false, false] (jl_J_search_20_6_12_L182 l Dv fu h r out rc d hrc κ X P1 M2 J v3 v4 v5 v6 0)
  refine js_iload (n := 157) X (dg dc_J_search 84 rfl) rfl rfl ?_
  refine js_if_eq (t := 177) (n := 160) X (dg dc_J_search 85 rfl) (by decide) rfl ?_ ?_
  · refine js_iconst (n := 178) 1 X (dg dc_J_search 95 rfl) rfl (by decide) ?_
    refine js_goto (t := 182) X (dg dc_J_search 96 rfl) (by decide) ?_
    exact js_keep [true, true, true, true, true, true, true, false, false, false, false, false] (jl_J_search_20_6_12_L182 l Dv fu h r out rc d hrc κ X P1 M2 J v3 v4 v5 v6 1)
  refine js_aload_n (n := 161) X (dg dc_J_search 86 rfl) rfl rfl rfl ?_
  refine js_getf (j := 3) (v := .ref 16) (n := 164) X (dg dc_J_search 87 rfl) rfl hC_M (Nat.le_of_ble_eq_true rfl) hw_374 rfl rfl ?_
  refine js_iload (n := 166) X (dg dc_J_search 88 rfl) rfl rfl ?_
  refine js_iaload (f := M2.2.2.2.1) (n := 167) X (dg dc_J_search 89 rfl) rfl rfl ?_
  refine js_aload_n (n := 168) X (dg dc_J_search 90 rfl) rfl rfl rfl ?_
  refine js_getf (j := 2) (v := .ref 15) (n := 171) X (dg dc_J_search 91 rfl) rfl hC_M (Nat.le_of_ble_eq_true rfl) hw_375 rfl rfl ?_
  refine js_iload (n := 173) X (dg dc_J_search 92 rfl) rfl rfl ?_
  refine js_iaload (f := M2.2.2.1) (n := 174) X (dg dc_J_search 93 rfl) rfl rfl ?_
  refine js_icmp_lt (t := 181) (n := 177) X (dg dc_J_search 94 rfl) (by decide) rfl ?_ ?_
  · refine js_iconst (n := 182) 0 X (dg dc_J_search 97 rfl) rfl (by decide) ?_
    exact js_keep [true, true, true, true, true, true, true, false, false, false, false, false] (jl_J_search_20_6_12_L182 l Dv fu h r out rc d hrc κ X P1 M2 J v3 v4 v5 v6 0)
  refine js_iconst (n := 178) 1 X (dg dc_J_search 95 rfl) rfl (by decide) ?_
  refine js_goto (t := 182) X (dg dc_J_search 96 rfl) (by decide) ?_
  exact js_keep [true, true, true, true, true, true, true, false, false, false, false, false] (jl_J_search_20_6_12_L182 l Dv fu h r out rc d hrc κ X P1 M2 J v3 v4 v5 v6 1)
set_option maxRecDepth 100000 in
set_option maxHeartbeats 4000000 in
theorem jl_J_search_20_6_12_L90 (l : Launch) (Dv : va_G) (fu : Nat) (h : S_H) (r : S_R) (out : Nat → Int64) (rc : S_J → S_P → S_M → Int32 → Int32 → Int32 → Int32 → Option (Int32 × S_J)) (d : Nat) (hrc : ∀ (J : S_J) (P1 : S_P) (M2 : S_M) (a3 : Int32) (a4 : Int32) (a5 : Int32) (a6 : Int32), ev_M l Dv gaX (mu_J_search d) [.ref 20, .ref 6, .ref 12, .int a3, .int a4, .int a5, .int a6] (hpW (h.1, P1, (M2, J, h.2.2.1.2.2), h.2.2.2) r out) (rc J P1 M2 a3 a4 a5 a6) (fun q => (some (.int q.1), hpW (h.1, P1, (M2, q.2, h.2.2.1.2.2), h.2.2.2) r out))) (κ : ev_ka) (X : ev_X l Dv gaX (mu_J_search (d + 1)) κ) (P1 : S_P) (M2 : S_M) (J : S_J) (v3 : Int32) (v4 : Int32) (v5 : Int32) (v6 : Int32) (v7 : Int32) (v8 : Int32) (s0 : Int32) : ev_J l Dv gaX (mu_J_search (d + 1)) κ 90 0 0 [some (.ref 20), some (.ref 6), some (.ref 12), some (.int v3), some (.int v4), some (.int v5), some (.int v6), some (.int v7), some (.int v8), none, none, none] [.int s0] (hpW (h.1, P1, (M2, J, h.2.2.1.2.2), h.2.2.2) r out) (f_J_search_L90 fu rc P1 M2 J v3 v4 v5 v6 v7 v8 s0) (fun q => (some (.int q.1), hpW (h.1, P1, (M2, q.2, h.2.2.1.2.2), h.2.2.2) r out)) := by
  unfold f_J_search_L90
  refine js_istore (lo' := [some (.ref 20), some (.ref 6), some (.ref 12), some (.int v3), some (.int v4), some (.int v5), some (.int v6), some (.int v7), some (.int v8), some (.int s0), none, none]) (n := 92) X (dg dc_J_search 47 rfl) rfl (Nat.le_of_ble_eq_true rfl) rfl ?_
  refine js_iload (n := 94) X (dg dc_J_search 48 rfl) rfl rfl ?_
  refine js_if_eq (t := 150) (n := 97) X (dg dc_J_search 49 rfl) (by decide) rfl ?_ ?_
  · exact js_keep [true, true, true, true, true, true, true, true, true, false, false, false] (jl_J_search_20_6_12_L150 l Dv fu h r out rc d hrc κ X P1 M2 J v3 v4 v5 v6 v7 v8)
  refine js_aload_n (n := 98) X (dg dc_J_search 50 rfl) rfl rfl rfl ?_
  refine js_aload_n (n := 99) X (dg dc_J_search 51 rfl) rfl rfl rfl ?_
  refine js_iload_n (n := 100) X (dg dc_J_search 52 rfl) rfl rfl rfl ?_
  refine js_iload (n := 102) X (dg dc_J_search 53 rfl) rfl rfl ?_
  refine js_callS (na := 4) (n := 105) X (dg dc_J_search 54 rfl) rfl (c_J_answersSo_6_12 l Dv fu (h.1, P1, (M2, J, h.2.2.1.2.2), h.2.2.2) r out P1 M2 v3 v4) gS_J_23 rfl rfl hy_J_answersSo.2 ⟨by show 2 + 1 ≤ d + 1 + 3; omega, by show 8 + (5 + 11) + 44 ≤ (d + 1) * 31 + 70; omega⟩ ⟨(Nat.le_of_ble_eq_true rfl), (Nat.le_of_ble_eq_true rfl)⟩ rfl rfl rfl rfl ?_
  intro r102
  refine js_if_eq (t := 150) (n := 108) X (dg dc_J_search 55 rfl) (by decide) rfl ?_ ?_
  · exact js_keep [true, true, true, true, true, true, true, true, true, false, false, false] (jl_J_search_20_6_12_L150 l Dv fu h r out rc d hrc κ X P1 M2 J v3 v4 v5 v6 v7 v8)
  refine js_aload_n (n := 109) X (dg dc_J_search 56 rfl) rfl rfl rfl ?_
  refine js_getf (j := 0) (v := .ref 21) (n := 112) X (dg dc_J_search 57 rfl) rfl hC_J (Nat.le_of_ble_eq_true rfl) hw_356 rfl rfl ?_
  refine js_iload (n := 114) X (dg dc_J_search 58 rfl) rfl rfl ?_
  refine js_iload (n := 116) X (dg dc_J_search 59 rfl) rfl rfl ?_
  refine js_iastore (f := J) (n := 117) X (dg dc_J_search 60 rfl) rfl rfl ?_
  refine js_aload_n (n := 118) X (dg dc_J_search 61 rfl) rfl rfl rfl ?_
  refine js_aload_n (n := 119) X (dg dc_J_search 62 rfl) rfl rfl rfl ?_
  refine js_iload_n (n := 120) X (dg dc_J_search 63 rfl) rfl rfl rfl ?_
  refine js_iload (n := 122) X (dg dc_J_search 64 rfl) rfl rfl ?_
  refine js_callS (na := 4) (n := 125) X (dg dc_J_search 65 rfl) rfl (c_J_after_6_12 l Dv fu (h.1, P1, (M2, (upd J (ix v6) v4), h.2.2.1.2.2), h.2.2.2) r out P1 M2 v3 v4) gS_J_27 rfl rfl hy_J_after.2 ⟨by show 2 + 1 ≤ d + 1 + 3; omega, by show 8 + (4 + 11) + 47 ≤ (d + 1) * 31 + 70; omega⟩ ⟨(Nat.le_of_ble_eq_true rfl), (Nat.le_of_ble_eq_true rfl)⟩ rfl rfl rfl rfl ?_
  intro r122
  refine js_istore (lo' := [some (.ref 20), some (.ref 6), some (.ref 12), some (.int v3), some (.int v4), some (.int v5), some (.int v6), some (.int v7), some (.int v8), some (.int s0), some (.int r122), none]) (n := 127) X (dg dc_J_search 66 rfl) rfl (Nat.le_of_ble_eq_true rfl) rfl ?_
  refine js_aload_n (n := 128) X (dg dc_J_search 67 rfl) rfl rfl rfl ?_
  refine js_aload_n (n := 129) X (dg dc_J_search 68 rfl) rfl rfl rfl ?_
  refine js_aload_n (n := 130) X (dg dc_J_search 69 rfl) rfl rfl rfl ?_
  refine js_iload (n := 132) X (dg dc_J_search 70 rfl) rfl rfl ?_
  refine js_iload (n := 134) X (dg dc_J_search 71 rfl) rfl rfl ?_
  refine js_iconst (n := 135) 1 X (dg dc_J_search 72 rfl) rfl (by decide) ?_
  refine js_iadd (n := 136) X (dg dc_J_search 73 rfl) rfl ?_
  refine js_iload (n := 138) X (dg dc_J_search 74 rfl) rfl rfl ?_
  refine js_iload (n := 140) X (dg dc_J_search 75 rfl) rfl rfl ?_
  refine js_iconst (n := 141) 1 X (dg dc_J_search 76 rfl) rfl (by decide) ?_
  refine js_iadd (n := 142) X (dg dc_J_search 77 rfl) rfl ?_
  refine js_callV (na := 6) (ci := 4) (n := 145) X (dg dc_J_search 78 rfl) rfl (hrc (upd J (ix v6) v4) P1 M2 r122 (v4 + 1) v5 (v6 + 1)) gV_J_34 rfl rfl hy_J_search ⟨by show d + 3 + 1 ≤ d + 1 + 3; omega, by show 8 + (12 + 11) + (d * 31 + 70) ≤ (d + 1) * 31 + 70; omega⟩ rfl ⟨(Nat.le_of_ble_eq_true rfl), (Nat.le_of_ble_eq_true rfl)⟩ rfl rfl rfl rfl rfl ?_
  rintro ⟨r142, J_142⟩
  refine js_if_eq (t := 150) (n := 148) X (dg dc_J_search 79 rfl) (by decide) rfl ?_ ?_
  · exact js_keep [true, true, true, true, true, true, true, true, true, false, false, false] (jl_J_search_20_6_12_L150 l Dv fu h r out rc d hrc κ X P1 M2 J_142 v3 v4 v5 v6 v7 v8)
  refine js_iconst (n := 149) 1 X (dg dc_J_search 80 rfl) rfl (by decide) ?_
  exact js_retZ X (dg dc_J_search 81 rfl) rfl (Nat.le_of_ble_eq_true rfl) (Nat.le_of_ble_eq_true rfl) rfl
set_option maxRecDepth 100000 in
set_option maxHeartbeats 4000000 in
theorem jl_J_search_20_6_12_L46 (l : Launch) (Dv : va_G) (fu : Nat) (h : S_H) (r : S_R) (out : Nat → Int64) (rc : S_J → S_P → S_M → Int32 → Int32 → Int32 → Int32 → Option (Int32 × S_J)) (d : Nat) (hrc : ∀ (J : S_J) (P1 : S_P) (M2 : S_M) (a3 : Int32) (a4 : Int32) (a5 : Int32) (a6 : Int32), ev_M l Dv gaX (mu_J_search d) [.ref 20, .ref 6, .ref 12, .int a3, .int a4, .int a5, .int a6] (hpW (h.1, P1, (M2, J, h.2.2.1.2.2), h.2.2.2) r out) (rc J P1 M2 a3 a4 a5 a6) (fun q => (some (.int q.1), hpW (h.1, P1, (M2, q.2, h.2.2.1.2.2), h.2.2.2) r out))) (κ : ev_ka) (X : ev_X l Dv gaX (mu_J_search (d + 1)) κ) (P1 : S_P) (M2 : S_M) (J : S_J) (v3 : Int32) (v4 : Int32) (v5 : Int32) (v6 : Int32) (v7 : Int32) (v8 : Int32) : ev_J l Dv gaX (mu_J_search (d + 1)) κ 46 0 0 [some (.ref 20), some (.ref 6), some (.ref 12), some (.int v3), some (.int v4), some (.int v5), some (.int v6), some (.int v7), some (.int v8), none, none, none] [] (hpW (h.1, P1, (M2, J, h.2.2.1.2.2), h.2.2.2) r out) (f_J_search_L46 fu rc P1 M2 J v3 v4 v5 v6 v7 v8) (fun q => (some (.int q.1), hpW (h.1, P1, (M2, q.2, h.2.2.1.2.2), h.2.2.2) r out)) := by
  unfold f_J_search_L46
  refine js_iload (n := 48) X (dg dc_J_search 24 rfl) rfl rfl ?_
  refine js_aload_n (n := 49) X (dg dc_J_search 25 rfl) rfl rfl rfl ?_
  refine js_getf (j := 0) (v := .ref 21) (n := 52) X (dg dc_J_search 26 rfl) rfl hC_J (Nat.le_of_ble_eq_true rfl) hw_356 rfl rfl ?_
  refine js_alen (n := 53) X (dg dc_J_search 27 rfl) rfl rfl ?_
  refine js_icmp_lt (t := 58) (n := 56) X (dg dc_J_search 28 rfl) (by decide) rfl ?_ ?_
  · refine js_iload (n := 60) X (dg dc_J_search 31 rfl) rfl rfl ?_
    refine js_if_eq (t := 89) (n := 63) X (dg dc_J_search 32 rfl) (by decide) rfl ?_ ?_
    · refine js_iconst (n := 90) 0 X (dg dc_J_search 46 rfl) rfl (by decide) ?_
      exact js_keep [true, true, true, true, true, true, true, true, true, false, false, false] (jl_J_search_20_6_12_L90 l Dv fu h r out rc d hrc κ X P1 M2 J v3 v4 v5 v6 v7 v8 0)
    refine js_iload (n := 65) X (dg dc_J_search 33 rfl) rfl rfl ?_
    refine js_if_eq (t := 85) (n := 68) X (dg dc_J_search 34 rfl) (by decide) rfl ?_ ?_
    · refine js_iconst (n := 86) 1 X (dg dc_J_search 44 rfl) rfl (by decide) ?_
      refine js_goto (t := 90) X (dg dc_J_search 45 rfl) (by decide) ?_
      exact js_keep [true, true, true, true, true, true, true, true, true, false, false, false] (jl_J_search_20_6_12_L90 l Dv fu h r out rc d hrc κ X P1 M2 J v3 v4 v5 v6 v7 v8 1)
    refine js_aload_n (n := 69) X (dg dc_J_search 35 rfl) rfl rfl rfl ?_
    refine js_getf (j := 3) (v := .ref 16) (n := 72) X (dg dc_J_search 36 rfl) rfl hC_M (Nat.le_of_ble_eq_true rfl) hw_374 rfl rfl ?_
    refine js_iload (n := 74) X (dg dc_J_search 37 rfl) rfl rfl ?_
    refine js_iaload (f := M2.2.2.2.1) (n := 75) X (dg dc_J_search 38 rfl) rfl rfl ?_
    refine js_aload_n (n := 76) X (dg dc_J_search 39 rfl) rfl rfl rfl ?_
    refine js_getf (j := 2) (v := .ref 15) (n := 79) X (dg dc_J_search 40 rfl) rfl hC_M (Nat.le_of_ble_eq_true rfl) hw_375 rfl rfl ?_
    refine js_iload (n := 81) X (dg dc_J_search 41 rfl) rfl rfl ?_
    refine js_iaload (f := M2.2.2.1) (n := 82) X (dg dc_J_search 42 rfl) rfl rfl ?_
    refine js_icmp_lt (t := 89) (n := 85) X (dg dc_J_search 43 rfl) (by decide) rfl ?_ ?_
    · refine js_iconst (n := 90) 0 X (dg dc_J_search 46 rfl) rfl (by decide) ?_
      exact js_keep [true, true, true, true, true, true, true, true, true, false, false, false] (jl_J_search_20_6_12_L90 l Dv fu h r out rc d hrc κ X P1 M2 J v3 v4 v5 v6 v7 v8 0)
    refine js_iconst (n := 86) 1 X (dg dc_J_search 44 rfl) rfl (by decide) ?_
    refine js_goto (t := 90) X (dg dc_J_search 45 rfl) (by decide) ?_
    exact js_keep [true, true, true, true, true, true, true, true, true, false, false, false] (jl_J_search_20_6_12_L90 l Dv fu h r out rc d hrc κ X P1 M2 J v3 v4 v5 v6 v7 v8 1)
  refine js_iconst (n := 57) 0 X (dg dc_J_search 29 rfl) rfl (by decide) ?_
  exact js_retZ X (dg dc_J_search 30 rfl) rfl (Nat.le_of_ble_eq_true rfl) (Nat.le_of_ble_eq_true rfl) rfl
set_option maxRecDepth 100000 in
set_option maxHeartbeats 4000000 in
theorem jl_J_search_20_6_12_L15 (l : Launch) (Dv : va_G) (fu : Nat) (h : S_H) (r : S_R) (out : Nat → Int64) (rc : S_J → S_P → S_M → Int32 → Int32 → Int32 → Int32 → Option (Int32 × S_J)) (d : Nat) (hrc : ∀ (J : S_J) (P1 : S_P) (M2 : S_M) (a3 : Int32) (a4 : Int32) (a5 : Int32) (a6 : Int32), ev_M l Dv gaX (mu_J_search d) [.ref 20, .ref 6, .ref 12, .int a3, .int a4, .int a5, .int a6] (hpW (h.1, P1, (M2, J, h.2.2.1.2.2), h.2.2.2) r out) (rc J P1 M2 a3 a4 a5 a6) (fun q => (some (.int q.1), hpW (h.1, P1, (M2, q.2, h.2.2.1.2.2), h.2.2.2) r out))) (κ : ev_ka) (X : ev_X l Dv gaX (mu_J_search (d + 1)) κ) (P1 : S_P) (M2 : S_M) (J : S_J) (v3 : Int32) (v4 : Int32) (v5 : Int32) (v6 : Int32) (s0 : Int32) : ev_J l Dv gaX (mu_J_search (d + 1)) κ 15 0 0 [some (.ref 20), some (.ref 6), some (.ref 12), some (.int v3), some (.int v4), some (.int v5), some (.int v6), none, none, none, none, none] [.int s0] (hpW (h.1, P1, (M2, J, h.2.2.1.2.2), h.2.2.2) r out) (f_J_search_L15 fu rc P1 M2 J v3 v4 v5 v6 s0) (fun q => (some (.int q.1), hpW (h.1, P1, (M2, q.2, h.2.2.1.2.2), h.2.2.2) r out)) := by
  unfold f_J_search_L15
  refine js_istore (lo' := [some (.ref 20), some (.ref 6), some (.ref 12), some (.int v3), some (.int v4), some (.int v5), some (.int v6), some (.int s0), none, none, none, none]) (n := 17) X (dg dc_J_search 8 rfl) rfl (Nat.le_of_ble_eq_true rfl) rfl ?_
  refine js_iload (n := 19) X (dg dc_J_search 9 rfl) rfl rfl ?_
  refine js_aload_n (n := 20) X (dg dc_J_search 10 rfl) rfl rfl rfl ?_
  refine js_iconst (n := 21) 2 X (dg dc_J_search 11 rfl) rfl (by decide) ?_
  refine js_callV (na := 1) (ci := 1) (n := 24) X (dg dc_J_search 12 rfl) rfl (c_P_end_6 l Dv fu (h.1, P1, (M2, J, h.2.2.1.2.2), h.2.2.2) r out P1 2) gV_J_17 rfl rfl hy_P_end ⟨by show 1 + 1 ≤ d + 1 + 3; omega, by show 8 + (2 + 11) + 21 ≤ (d + 1) * 31 + 70; omega⟩ rfl ⟨(Nat.le_of_ble_eq_true rfl), (Nat.le_of_ble_eq_true rfl)⟩ rfl rfl rfl rfl rfl ?_
  intro r21
  refine js_icmp_ge (t := 31) (n := 27) X (dg dc_J_search 13 rfl) (by decide) rfl ?_ ?_
  · refine js_iconst (n := 32) 0 X (dg dc_J_search 16 rfl) rfl (by decide) ?_
    refine js_istore (lo' := [some (.ref 20), some (.ref 6), some (.ref 12), some (.int v3), some (.int v4), some (.int v5), some (.int v6), some (.int s0), some (.int 0), none, none, none]) (n := 34) X (dg dc_J_search 17 rfl) rfl (Nat.le_of_ble_eq_true rfl) rfl ?_
    refine js_iload (n := 36) X (dg dc_J_search 18 rfl) rfl rfl ?_
    refine js_if_ne (t := 46) (n := 39) X (dg dc_J_search 19 rfl) (by decide) rfl ?_ ?_
    · exact js_keep [true, true, true, true, true, true, true, true, true, false, false, false] (jl_J_search_20_6_12_L46 l Dv fu h r out rc d hrc κ X P1 M2 J v3 v4 v5 v6 s0 0)
    refine js_iload (n := 41) X (dg dc_J_search 20 rfl) rfl rfl ?_
    refine js_if_ne_f (t := 46) (n := 44) X (dg dc_J_search 21 rfl) (by decide) rfl (by decide) ?_
    refine js_iconst (n := 45) 1 X (dg dc_J_search 22 rfl) rfl (by decide) ?_
    exact js_retZ X (dg dc_J_search 23 rfl) rfl (Nat.le_of_ble_eq_true rfl) (Nat.le_of_ble_eq_true rfl) rfl
  refine js_iconst (n := 28) 1 X (dg dc_J_search 14 rfl) rfl (by decide) ?_
  refine js_goto (t := 32) X (dg dc_J_search 15 rfl) (by decide) ?_
  refine js_istore (lo' := [some (.ref 20), some (.ref 6), some (.ref 12), some (.int v3), some (.int v4), some (.int v5), some (.int v6), some (.int s0), some (.int 1), none, none, none]) (n := 34) X (dg dc_J_search 17 rfl) rfl (Nat.le_of_ble_eq_true rfl) rfl ?_
  refine js_iload (n := 36) X (dg dc_J_search 18 rfl) rfl rfl ?_
  refine js_if_ne (t := 46) (n := 39) X (dg dc_J_search 19 rfl) (by decide) rfl ?_ ?_
  · exact js_keep [true, true, true, true, true, true, true, true, true, false, false, false] (jl_J_search_20_6_12_L46 l Dv fu h r out rc d hrc κ X P1 M2 J v3 v4 v5 v6 s0 1)
  refine js_iload (n := 41) X (dg dc_J_search 20 rfl) rfl rfl ?_
  refine js_if_ne_t (t := 46) X (dg dc_J_search 21 rfl) (by decide) (by decide) ?_
  exact js_keep [true, true, true, true, true, true, true, true, true, false, false, false] (jl_J_search_20_6_12_L46 l Dv fu h r out rc d hrc κ X P1 M2 J v3 v4 v5 v6 s0 1)
set_option maxRecDepth 100000 in
set_option maxHeartbeats 4000000 in
theorem c_J_search_20_6_12 (l : Launch) (Dv : va_G) (fu : Nat) (h : S_H) (r : S_R) (out : Nat → Int64) : ∀ (d : Nat) (J : S_J) (P1 : S_P) (M2 : S_M) (a3 : Int32) (a4 : Int32) (a5 : Int32) (a6 : Int32), ev_M l Dv gaX (mu_J_search d) [.ref 20, .ref 6, .ref 12, .int a3, .int a4, .int a5, .int a6] (hpW (h.1, P1, (M2, J, h.2.2.1.2.2), h.2.2.2) r out) (f_J_search fu d J P1 M2 a3 a4 a5 a6) (fun q => (some (.int q.1), hpW (h.1, P1, (M2, q.2, h.2.2.1.2.2), h.2.2.2) r out)) := by
  intro d
  induction d with
  | zero => exact fun _ _ _ _ _ _ _ q h => nomatch h
  | succ d ih =>
    intro J P1 M2 a3 a4 a5 a6
    refine ev_met (lo0 := [some (.ref 20), some (.ref 6), some (.ref 12), some (.int a3), some (.int a4), some (.int a5), some (.int a6), none, none, none, none, none]) rfl rfl rfl (fun κ X => ?_)
    unfold f_J_search
    refine js_iload (n := 2) X (dg dc_J_search 0 rfl) rfl rfl ?_
    refine js_aload_n (n := 3) X (dg dc_J_search 1 rfl) rfl rfl rfl ?_
    refine js_iconst (n := 4) 1 X (dg dc_J_search 2 rfl) rfl (by decide) ?_
    refine js_callV (na := 1) (ci := 1) (n := 7) X (dg dc_J_search 3 rfl) rfl (c_P_end_6 l Dv fu (h.1, P1, (M2, J, h.2.2.1.2.2), h.2.2.2) r out P1 1) gV_J_17 rfl rfl hy_P_end ⟨by show 1 + 1 ≤ d + 1 + 3; omega, by show 8 + (2 + 11) + 21 ≤ (d + 1) * 31 + 70; omega⟩ rfl ⟨(Nat.le_of_ble_eq_true rfl), (Nat.le_of_ble_eq_true rfl)⟩ rfl rfl rfl rfl rfl ?_
    intro r4
    refine js_icmp_ge (t := 14) (n := 10) X (dg dc_J_search 4 rfl) (by decide) rfl ?_ ?_
    · refine js_iconst (n := 15) 0 X (dg dc_J_search 7 rfl) rfl (by decide) ?_
      exact js_keep [true, true, true, true, true, true, true, false, false, false, false, false] (jl_J_search_20_6_12_L15 l Dv fu h r out (f_J_search fu d) d ih κ X P1 M2 J a3 a4 a5 a6 0)
    refine js_iconst (n := 11) 1 X (dg dc_J_search 5 rfl) rfl (by decide) ?_
    refine js_goto (t := 15) X (dg dc_J_search 6 rfl) (by decide) ?_
    exact js_keep [true, true, true, true, true, true, true, false, false, false, false, false] (jl_J_search_20_6_12_L15 l Dv fu h r out (f_J_search fu d) d ih κ X P1 M2 J a3 a4 a5 a6 1)
set_option maxRecDepth 100000 in
set_option maxHeartbeats 4000000 in
theorem jl_J_explains_20_6_12_L47 (l : Launch) (Dv : va_G) (fu : Nat) (h : S_H) (r : S_R) (out : Nat → Int64) (κ : ev_ka) (X : ev_X l Dv gaX mu_J_explains κ) (P1 : S_P) (M2 : S_M) (J : S_J) (v3 : Int32) : ev_J l Dv gaX mu_J_explains κ 47 0 0 [some (.ref 20), some (.ref 6), some (.ref 12), some (.int v3), none, none] [] (hpW (h.1, P1, (M2, J, h.2.2.1.2.2), h.2.2.2) r out) (f_J_explains_L47 fu P1 M2 J v3) (fun q => (some (.int q.1), hpW (h.1, P1, (M2, q.2, h.2.2.1.2.2), h.2.2.2) r out)) := by
  unfold f_J_explains_L47
  refine js_aload_n (n := 48) X (dg dc_J_explains 27 rfl) rfl rfl rfl ?_
  refine js_aload_n (n := 49) X (dg dc_J_explains 28 rfl) rfl rfl rfl ?_
  refine js_aload_n (n := 50) X (dg dc_J_explains 29 rfl) rfl rfl rfl ?_
  refine js_iload_n (n := 51) X (dg dc_J_explains 30 rfl) rfl rfl rfl ?_
  refine js_aload_n (n := 52) X (dg dc_J_explains 31 rfl) rfl rfl rfl ?_
  refine js_iconst (n := 53) 1 X (dg dc_J_explains 32 rfl) rfl (by decide) ?_
  refine js_callV (na := 1) (ci := 1) (n := 56) X (dg dc_J_explains 33 rfl) rfl (c_P_start_6 l Dv fu (h.1, P1, (M2, J, h.2.2.1.2.2), h.2.2.2) r out P1 1) gV_J_31 rfl rfl hy_P_start ⟨(Nat.le_of_ble_eq_true rfl), (Nat.le_of_ble_eq_true rfl)⟩ rfl ⟨(Nat.le_of_ble_eq_true rfl), (Nat.le_of_ble_eq_true rfl)⟩ rfl rfl rfl rfl rfl ?_
  intro r53
  refine js_aload_n (n := 57) X (dg dc_J_explains 34 rfl) rfl rfl rfl ?_
  refine js_iconst (n := 58) 2 X (dg dc_J_explains 35 rfl) rfl (by decide) ?_
  refine js_callV (na := 1) (ci := 1) (n := 61) X (dg dc_J_explains 36 rfl) rfl (c_P_start_6 l Dv fu (h.1, P1, (M2, J, h.2.2.1.2.2), h.2.2.2) r out P1 2) gV_J_31 rfl rfl hy_P_start ⟨(Nat.le_of_ble_eq_true rfl), (Nat.le_of_ble_eq_true rfl)⟩ rfl ⟨(Nat.le_of_ble_eq_true rfl), (Nat.le_of_ble_eq_true rfl)⟩ rfl rfl rfl rfl rfl ?_
  intro r58
  refine js_iconst (n := 62) 0 X (dg dc_J_explains 37 rfl) rfl (by decide) ?_
  refine js_callV (na := 6) (ci := 4) (n := 65) X (dg dc_J_explains 38 rfl) rfl (c_J_search_20_6_12 l Dv fu (h.1, P1, (M2, J, h.2.2.1.2.2), h.2.2.2) r out 10 J P1 M2 v3 r53 r58 0) gV_J_34 rfl rfl hy_J_search ⟨(Nat.le_of_ble_eq_true rfl), (Nat.le_of_ble_eq_true rfl)⟩ rfl ⟨(Nat.le_of_ble_eq_true rfl), (Nat.le_of_ble_eq_true rfl)⟩ rfl rfl rfl rfl rfl ?_
  rintro ⟨r62, J_62⟩
  exact js_retZ X (dg dc_J_explains 39 rfl) rfl (Nat.le_of_ble_eq_true rfl) (Nat.le_of_ble_eq_true rfl) rfl
set_option maxRecDepth 100000 in
set_option maxHeartbeats 4000000 in
theorem jl_J_explains_20_6_12_L12 (l : Launch) (Dv : va_G) (fu : Nat) (h : S_H) (r : S_R) (out : Nat → Int64) (κ : ev_ka) (X : ev_X l Dv gaX mu_J_explains κ) (P1 : S_P) (M2 : S_M) : ∀ (n : Nat) (J : S_J) (v3 : Int32) (v4 : Int32) (v5 : Int32), ev_J l Dv gaX mu_J_explains κ 12 0 0 [some (.ref 20), some (.ref 6), some (.ref 12), some (.int v3), some (.int v4), some (.int v5)] [] (hpW (h.1, P1, (M2, J, h.2.2.1.2.2), h.2.2.2) r out) (f_J_explains_L12 fu P1 M2 n J v3 v4 v5) (fun q => (some (.int q.1), hpW (h.1, P1, (M2, q.2, h.2.2.1.2.2), h.2.2.2) r out)) := by
  intro n
  induction n with
  | zero => exact fun _ _ _ _ => js_none
  | succ n ih =>
    intro J v3 v4 v5
    unfold f_J_explains_L12
    refine js_iload (n := 14) X (dg dc_J_explains 8 rfl) rfl rfl ?_
    refine js_iload (n := 16) X (dg dc_J_explains 9 rfl) rfl rfl ?_
    refine js_icmp_ge (t := 47) (n := 19) X (dg dc_J_explains 10 rfl) (by decide) rfl ?_ ?_
    · exact js_keep [true, true, true, true, false, false] (jl_J_explains_20_6_12_L47 l Dv fu h r out κ X P1 M2 J v3)
    refine js_aload_n (n := 20) X (dg dc_J_explains 11 rfl) rfl rfl rfl ?_
    refine js_aload_n (n := 21) X (dg dc_J_explains 12 rfl) rfl rfl rfl ?_
    refine js_iload_n (n := 22) X (dg dc_J_explains 13 rfl) rfl rfl rfl ?_
    refine js_iload (n := 24) X (dg dc_J_explains 14 rfl) rfl rfl ?_
    refine js_callS (na := 4) (n := 27) X (dg dc_J_explains 15 rfl) rfl (c_J_answersSo_6_12 l Dv fu (h.1, P1, (M2, J, h.2.2.1.2.2), h.2.2.2) r out P1 M2 v3 v5) gS_J_23 rfl rfl hy_J_answersSo.2 ⟨(Nat.le_of_ble_eq_true rfl), (Nat.le_of_ble_eq_true rfl)⟩ ⟨(Nat.le_of_ble_eq_true rfl), (Nat.le_of_ble_eq_true rfl)⟩ rfl rfl rfl rfl ?_
    intro r24
    refine js_if_ne (t := 32) (n := 30) X (dg dc_J_explains 16 rfl) (by decide) rfl ?_ ?_
    · refine js_aload_n (n := 33) X (dg dc_J_explains 19 rfl) rfl rfl rfl ?_
      refine js_aload_n (n := 34) X (dg dc_J_explains 20 rfl) rfl rfl rfl ?_
      refine js_iload_n (n := 35) X (dg dc_J_explains 21 rfl) rfl rfl rfl ?_
      refine js_iload (n := 37) X (dg dc_J_explains 22 rfl) rfl rfl ?_
      refine js_callS (na := 4) (n := 40) X (dg dc_J_explains 23 rfl) rfl (c_J_after_6_12 l Dv fu (h.1, P1, (M2, J, h.2.2.1.2.2), h.2.2.2) r out P1 M2 v3 v5) gS_J_27 rfl rfl hy_J_after.2 ⟨(Nat.le_of_ble_eq_true rfl), (Nat.le_of_ble_eq_true rfl)⟩ ⟨(Nat.le_of_ble_eq_true rfl), (Nat.le_of_ble_eq_true rfl)⟩ rfl rfl rfl rfl ?_
      intro r37
      refine js_istore_n (lo' := [some (.ref 20), some (.ref 6), some (.ref 12), some (.int r37), some (.int v4), some (.int v5)]) (n := 41) X (dg dc_J_explains 24 rfl) rfl rfl (Nat.le_of_ble_eq_true rfl) rfl ?_
      refine js_iinc (lo' := [some (.ref 20), some (.ref 6), some (.ref 12), some (.int r37), some (.int v4), some (.int (v5 + 1))]) (n := 44) 1 X (dg dc_J_explains 25 rfl) rfl (by decide) (Nat.le_of_ble_eq_true rfl) rfl rfl ?_
      refine js_goto (t := 12) X (dg dc_J_explains 26 rfl) (by decide) ?_
      exact js_keep [true, true, true, true, true, true] (ih J r37 v4 (v5 + 1))
    refine js_iconst (n := 31) 0 X (dg dc_J_explains 17 rfl) rfl (by decide) ?_
    exact js_retZ X (dg dc_J_explains 18 rfl) rfl (Nat.le_of_ble_eq_true rfl) (Nat.le_of_ble_eq_true rfl) rfl
set_option maxRecDepth 100000 in
set_option maxHeartbeats 4000000 in
theorem c_J_explains_20_6_12 (l : Launch) (Dv : va_G) (fu : Nat) (h : S_H) (r : S_R) (out : Nat → Int64) (J : S_J) (P1 : S_P) (M2 : S_M) : ev_M l Dv gaX mu_J_explains [.ref 20, .ref 6, .ref 12] (hpW (h.1, P1, (M2, J, h.2.2.1.2.2), h.2.2.2) r out) (f_J_explains fu J P1 M2) (fun q => (some (.int q.1), hpW (h.1, P1, (M2, q.2, h.2.2.1.2.2), h.2.2.2) r out)) := by
  refine ev_met (lo0 := [some (.ref 20), some (.ref 6), some (.ref 12), none, none, none]) rfl rfl rfl (fun κ X => ?_)
  unfold f_J_explains
  refine js_iconst (n := 1) 0 X (dg dc_J_explains 0 rfl) rfl (by decide) ?_
  refine js_istore_n (lo' := [some (.ref 20), some (.ref 6), some (.ref 12), some (.int 0), none, none]) (n := 2) X (dg dc_J_explains 1 rfl) rfl rfl (Nat.le_of_ble_eq_true rfl) rfl ?_
  refine js_aload_n (n := 3) X (dg dc_J_explains 2 rfl) rfl rfl rfl ?_
  refine js_iconst (n := 4) 0 X (dg dc_J_explains 3 rfl) rfl (by decide) ?_
  refine js_callV (na := 1) (ci := 1) (n := 7) X (dg dc_J_explains 4 rfl) rfl (c_P_end_6 l Dv fu (h.1, P1, (M2, J, h.2.2.1.2.2), h.2.2.2) r out P1 0) gV_J_17 rfl rfl hy_P_end ⟨(Nat.le_of_ble_eq_true rfl), (Nat.le_of_ble_eq_true rfl)⟩ rfl ⟨(Nat.le_of_ble_eq_true rfl), (Nat.le_of_ble_eq_true rfl)⟩ rfl rfl rfl rfl rfl ?_
  intro r4
  refine js_istore (lo' := [some (.ref 20), some (.ref 6), some (.ref 12), some (.int 0), some (.int r4), none]) (n := 9) X (dg dc_J_explains 5 rfl) rfl (Nat.le_of_ble_eq_true rfl) rfl ?_
  refine js_iconst (n := 10) 0 X (dg dc_J_explains 6 rfl) rfl (by decide) ?_
  refine js_istore (lo' := [some (.ref 20), some (.ref 6), some (.ref 12), some (.int 0), some (.int r4), some (.int 0)]) (n := 12) X (dg dc_J_explains 7 rfl) rfl (Nat.le_of_ble_eq_true rfl) rfl ?_
  exact js_keep [true, true, true, true, true, true] (jl_J_explains_20_6_12_L12 l Dv fu h r out κ X P1 M2 fu J 0 r4 0)
set_option maxRecDepth 100000 in
set_option maxHeartbeats 4000000 in
theorem jl_T_test_11_6_L69 (l : Launch) (Dv : va_G) (fu : Nat) (h : S_H) (r : S_R) (out : Nat → Int64) (κ : ev_ka) (X : ev_X l Dv gaX mu_T_test κ) (P1 : S_P) : ∀ (n : Nat) (T : S_T) (v3 : Int32) (v4 : Int32), ev_J l Dv gaX mu_T_test κ 69 0 0 [some (.ref 11), some (.ref 6), none, some (.int v3), some (.int v4)] [] (hpW (h.1, P1, T, h.2.2.2) r out) (f_T_test_L69 fu P1 n T v3 v4) (fun q => (some (.int q.1), hpW (h.1, P1, q.2, h.2.2.2) r out)) := by
  intro n
  induction n with
  | zero => exact fun _ _ _ => js_none
  | succ n ih =>
    intro T v3 v4
    unfold f_T_test_L69
    refine js_iload (n := 71) X (dg dc_T_test 38 rfl) rfl rfl ?_
    refine js_iload_n (n := 72) X (dg dc_T_test 39 rfl) rfl rfl rfl ?_
    refine js_icmp_ge (t := 97) (n := 75) X (dg dc_T_test 40 rfl) (by decide) rfl ?_ ?_
    · refine js_aload_n (n := 98) X (dg dc_T_test 54 rfl) rfl rfl rfl ?_
      refine js_getf (j := 7) (v := .int T.2.2.2.2.2.2.2.1) (n := 101) X (dg dc_T_test 55 rfl) rfl hC_T (Nat.le_of_ble_eq_true rfl) hw_380 rfl rfl ?_
      exact js_retZ X (dg dc_T_test 56 rfl) rfl (Nat.le_of_ble_eq_true rfl) (Nat.le_of_ble_eq_true rfl) rfl
    refine js_aload_n (n := 76) X (dg dc_T_test 41 rfl) rfl rfl rfl ?_
    refine js_getf (j := 2) (v := .ref 22) (n := 79) X (dg dc_T_test 42 rfl) rfl hC_T (Nat.le_of_ble_eq_true rfl) hw_383 rfl rfl ?_
    refine js_aload_n (n := 80) X (dg dc_T_test 43 rfl) rfl rfl rfl ?_
    refine js_getf (j := 1) (v := .ref 8) (n := 83) X (dg dc_T_test 44 rfl) rfl hC_P (Nat.le_of_ble_eq_true rfl) hw_384 rfl rfl ?_
    refine js_iload (n := 85) X (dg dc_T_test 45 rfl) rfl rfl ?_
    refine js_iaload (f := P1.2.1) (n := 86) X (dg dc_T_test 46 rfl) rfl rfl ?_
    refine js_dup2 (n := 87) X (dg dc_T_test 47 rfl) rfl rfl rfl ?_
    refine js_iaload (f := T.2.2.1) (n := 88) X (dg dc_T_test 48 rfl) rfl rfl ?_
    refine js_iconst (n := 89) 1 X (dg dc_T_test 49 rfl) rfl (by decide) ?_
    refine js_iadd (n := 90) X (dg dc_T_test 50 rfl) rfl ?_
    refine js_iastore (f := T.2.2.1) (n := 91) X (dg dc_T_test 51 rfl) rfl rfl ?_
    refine js_iinc (lo' := [some (.ref 11), some (.ref 6), none, some (.int v3), some (.int (v4 + 1))]) (n := 94) 1 X (dg dc_T_test 52 rfl) rfl (by decide) (Nat.le_of_ble_eq_true rfl) rfl rfl ?_
    refine js_goto (t := 69) X (dg dc_T_test 53 rfl) (by decide) ?_
    exact js_keep [true, true, false, true, true] (ih (T.1, T.2.1, (upd T.2.2.1 (ix (P1.2.1 (ix v4))) ((T.2.2.1 (ix (P1.2.1 (ix v4)))) + 1)), T.2.2.2) v3 (v4 + 1))
set_option maxRecDepth 100000 in
set_option maxHeartbeats 4000000 in
theorem c_T_test_11_6 (l : Launch) (Dv : va_G) (fu : Nat) (h : S_H) (r : S_R) (out : Nat → Int64) (T : S_T) (P1 : S_P) (a2 : Int32) : ev_M l Dv gaX mu_T_test [.ref 11, .ref 6, .int a2] (hpW (h.1, P1, T, h.2.2.2) r out) (f_T_test fu T P1 a2) (fun q => (some (.int q.1), hpW (h.1, P1, q.2, h.2.2.2) r out)) := by
  refine ev_met (lo0 := [some (.ref 11), some (.ref 6), some (.int a2), none, none]) rfl rfl rfl (fun κ X => ?_)
  unfold f_T_test
  refine js_aload_n (n := 1) X (dg dc_T_test 0 rfl) rfl rfl rfl ?_
  refine js_iload_n (n := 2) X (dg dc_T_test 1 rfl) rfl rfl rfl ?_
  refine js_puti (j := 6) (n := 5) X (dg dc_T_test 2 rfl) rfl hC_T (Nat.le_of_ble_eq_true rfl) hw_301 rfl rfl (Or.inl rfl) (Nat.le_of_ble_eq_true rfl) ?_
  refine js_aload_n (n := 6) X (dg dc_T_test 3 rfl) rfl rfl rfl ?_
  refine js_getf (j := 0) (v := .ref 12) (n := 9) X (dg dc_T_test 4 rfl) rfl hC_T (Nat.le_of_ble_eq_true rfl) hw_302 rfl rfl ?_
  refine js_aload_n (n := 10) X (dg dc_T_test 5 rfl) rfl rfl rfl ?_
  refine js_aload_n (n := 11) X (dg dc_T_test 6 rfl) rfl rfl rfl ?_
  refine js_getf (j := 3) (v := .int T.2.2.2.1) (n := 14) X (dg dc_T_test 7 rfl) rfl hC_T (Nat.le_of_ble_eq_true rfl) hw_303 rfl rfl ?_
  refine js_iload_n (n := 15) X (dg dc_T_test 8 rfl) rfl rfl rfl ?_
  refine js_callV (na := 3) (ci := 3) (n := 18) X (dg dc_T_test 9 rfl) rfl (c_M_perform_12_6 l Dv fu (h.1, P1, (T.1, T.2.1, T.2.2.1, T.2.2.2.1, T.2.2.2.2.1, T.2.2.2.2.2.1, a2, T.2.2.2.2.2.2.2), h.2.2.2) r out T.1 P1 T.2.2.2.1 a2) gV_T_53 rfl rfl hy_M_perform ⟨(Nat.le_of_ble_eq_true rfl), (Nat.le_of_ble_eq_true rfl)⟩ rfl ⟨(Nat.le_of_ble_eq_true rfl), (Nat.le_of_ble_eq_true rfl)⟩ rfl rfl rfl rfl rfl ?_
  intro M_15
  refine js_aload_n (n := 19) X (dg dc_T_test 10 rfl) rfl rfl rfl ?_
  refine js_aload_n (n := 20) X (dg dc_T_test 11 rfl) rfl rfl rfl ?_
  refine js_getf (j := 1) (v := .ref 20) (n := 23) X (dg dc_T_test 12 rfl) rfl hC_T (Nat.le_of_ble_eq_true rfl) hw_353 rfl rfl ?_
  refine js_aload_n (n := 24) X (dg dc_T_test 13 rfl) rfl rfl rfl ?_
  refine js_aload_n (n := 25) X (dg dc_T_test 14 rfl) rfl rfl rfl ?_
  refine js_getf (j := 0) (v := .ref 12) (n := 28) X (dg dc_T_test 15 rfl) rfl hC_T (Nat.le_of_ble_eq_true rfl) hw_302 rfl rfl ?_
  refine js_callV (na := 2) (ci := 4) (n := 31) X (dg dc_T_test 16 rfl) rfl (c_J_explains_20_6_12 l Dv fu (h.1, P1, (M_15, T.2.1, T.2.2.1, T.2.2.2.1, T.2.2.2.2.1, T.2.2.2.2.2.1, a2, T.2.2.2.2.2.2.2), h.2.2.2) r out T.2.1 P1 M_15) gV_T_57 rfl rfl hy_J_explains ⟨(Nat.le_of_ble_eq_true rfl), (Nat.le_of_ble_eq_true rfl)⟩ rfl ⟨(Nat.le_of_ble_eq_true rfl), (Nat.le_of_ble_eq_true rfl)⟩ rfl rfl rfl rfl rfl ?_
  rintro ⟨r28, J_28⟩
  refine js_putz (j := 7) (n := 34) X (dg dc_T_test 17 rfl) rfl hC_T (Nat.le_of_ble_eq_true rfl) hw_380 rfl rfl (Or.inl rfl) (Nat.le_of_ble_eq_true rfl) ?_
  refine js_aload_n (n := 35) X (dg dc_T_test 18 rfl) rfl rfl rfl ?_
  refine js_dup (n := 36) X (dg dc_T_test 19 rfl) rfl rfl ?_
  refine js_getf (j := 4) (v := .int T.2.2.2.2.1) (n := 39) X (dg dc_T_test 20 rfl) rfl hC_T (Nat.le_of_ble_eq_true rfl) hw_381 rfl rfl ?_
  refine js_iconst (n := 40) 1 X (dg dc_T_test 21 rfl) rfl (by decide) ?_
  refine js_iadd (n := 41) X (dg dc_T_test 22 rfl) rfl ?_
  refine js_puti (j := 4) (n := 44) X (dg dc_T_test 23 rfl) rfl hC_T (Nat.le_of_ble_eq_true rfl) hw_381 rfl rfl (Or.inl rfl) (Nat.le_of_ble_eq_true rfl) ?_
  refine js_aload_n (n := 45) X (dg dc_T_test 24 rfl) rfl rfl rfl ?_
  refine js_getf (j := 7) (v := .int r28) (n := 48) X (dg dc_T_test 25 rfl) rfl hC_T (Nat.le_of_ble_eq_true rfl) hw_380 rfl rfl ?_
  refine js_if_ne (t := 61) (n := 51) X (dg dc_T_test 26 rfl) (by decide) rfl ?_ ?_
  · refine js_aload_n (n := 62) X (dg dc_T_test 33 rfl) rfl rfl rfl ?_
    refine js_callV (na := 0) (ci := 1) (n := 65) X (dg dc_T_test 34 rfl) rfl (c_P_size_6 l Dv fu (h.1, P1, (M_15, J_28, T.2.2.1, T.2.2.2.1, T.2.2.2.2.1 + 1, T.2.2.2.2.2.1, a2, r28, T.2.2.2.2.2.2.2.2), h.2.2.2) r out P1) gV_T_61 rfl rfl hy_P_size ⟨(Nat.le_of_ble_eq_true rfl), (Nat.le_of_ble_eq_true rfl)⟩ rfl ⟨(Nat.le_of_ble_eq_true rfl), (Nat.le_of_ble_eq_true rfl)⟩ rfl rfl rfl rfl rfl ?_
    intro r62
    refine js_istore_n (lo' := [some (.ref 11), some (.ref 6), some (.int a2), some (.int r62), none]) (n := 66) X (dg dc_T_test 35 rfl) rfl rfl (Nat.le_of_ble_eq_true rfl) rfl ?_
    refine js_iconst (n := 67) 0 X (dg dc_T_test 36 rfl) rfl (by decide) ?_
    refine js_istore (lo' := [some (.ref 11), some (.ref 6), some (.int a2), some (.int r62), some (.int 0)]) (n := 69) X (dg dc_T_test 37 rfl) rfl (Nat.le_of_ble_eq_true rfl) rfl ?_
    exact js_keep [true, true, false, true, true] (jl_T_test_11_6_L69 l Dv fu h r out κ X P1 fu (M_15, J_28, T.2.2.1, T.2.2.2.1, T.2.2.2.2.1 + 1, T.2.2.2.2.2.1, a2, r28, T.2.2.2.2.2.2.2.2) r62 0)
  refine js_aload_n (n := 52) X (dg dc_T_test 27 rfl) rfl rfl rfl ?_
  refine js_dup (n := 53) X (dg dc_T_test 28 rfl) rfl rfl ?_
  refine js_getf (j := 5) (v := .int T.2.2.2.2.2.1) (n := 56) X (dg dc_T_test 29 rfl) rfl hC_T (Nat.le_of_ble_eq_true rfl) hw_385 rfl rfl ?_
  refine js_iconst (n := 57) 1 X (dg dc_T_test 30 rfl) rfl (by decide) ?_
  refine js_iadd (n := 58) X (dg dc_T_test 31 rfl) rfl ?_
  refine js_puti (j := 5) (n := 61) X (dg dc_T_test 32 rfl) rfl hC_T (Nat.le_of_ble_eq_true rfl) hw_385 rfl rfl (Or.inl rfl) (Nat.le_of_ble_eq_true rfl) ?_
  refine js_aload_n (n := 62) X (dg dc_T_test 33 rfl) rfl rfl rfl ?_
  refine js_callV (na := 0) (ci := 1) (n := 65) X (dg dc_T_test 34 rfl) rfl (c_P_size_6 l Dv fu (h.1, P1, (M_15, J_28, T.2.2.1, T.2.2.2.1, T.2.2.2.2.1 + 1, T.2.2.2.2.2.1 + 1, a2, r28, T.2.2.2.2.2.2.2.2), h.2.2.2) r out P1) gV_T_61 rfl rfl hy_P_size ⟨(Nat.le_of_ble_eq_true rfl), (Nat.le_of_ble_eq_true rfl)⟩ rfl ⟨(Nat.le_of_ble_eq_true rfl), (Nat.le_of_ble_eq_true rfl)⟩ rfl rfl rfl rfl rfl ?_
  intro r62
  refine js_istore_n (lo' := [some (.ref 11), some (.ref 6), some (.int a2), some (.int r62), none]) (n := 66) X (dg dc_T_test 35 rfl) rfl rfl (Nat.le_of_ble_eq_true rfl) rfl ?_
  refine js_iconst (n := 67) 0 X (dg dc_T_test 36 rfl) rfl (by decide) ?_
  refine js_istore (lo' := [some (.ref 11), some (.ref 6), some (.int a2), some (.int r62), some (.int 0)]) (n := 69) X (dg dc_T_test 37 rfl) rfl (Nat.le_of_ble_eq_true rfl) rfl ?_
  exact js_keep [true, true, false, true, true] (jl_T_test_11_6_L69 l Dv fu h r out κ X P1 fu (M_15, J_28, T.2.2.1, T.2.2.2.1, T.2.2.2.2.1 + 1, T.2.2.2.2.2.1 + 1, a2, r28, T.2.2.2.2.2.2.2.2) r62 0)
set_option maxRecDepth 100000 in
set_option maxHeartbeats 4000000 in
theorem jl_T_firstFailure_11_6_L11 (l : Launch) (Dv : va_G) (fu : Nat) (h : S_H) (r : S_R) (out : Nat → Int64) (κ : ev_ka) (X : ev_X l Dv gaX mu_T_firstFailure κ) (P1 : S_P) : ∀ (n : Nat) (T : S_T) (v4 : Int32) (v5 : Int32), ev_J l Dv gaX mu_T_firstFailure κ 11 0 0 [some (.ref 11), some (.ref 6), none, none, some (.int v4), some (.int v5)] [] (hpW (h.1, P1, T, h.2.2.2) r out) (f_T_firstFailure_L11 fu P1 n T v4 v5) (fun q => (some (.int q.1), hpW (h.1, P1, q.2, h.2.2.2) r out)) := by
  intro n
  induction n with
  | zero => exact fun _ _ _ => js_none
  | succ n ih =>
    intro T v4 v5
    unfold f_T_firstFailure_L11
    refine js_iload (n := 13) X (dg dc_T_firstFailure 6 rfl) rfl rfl ?_
    refine js_iload (n := 15) X (dg dc_T_firstFailure 7 rfl) rfl rfl ?_
    refine js_icmp_ge (t := 44) (n := 18) X (dg dc_T_firstFailure 8 rfl) (by decide) rfl ?_ ?_
    · refine js_iconst (n := 45) (-1) X (dg dc_T_firstFailure 21 rfl) rfl (by decide) ?_
      exact js_retI X (dg dc_T_firstFailure 22 rfl) rfl (Nat.le_of_ble_eq_true rfl) (Nat.le_of_ble_eq_true rfl) rfl
    refine js_aload_n (n := 19) X (dg dc_T_firstFailure 9 rfl) rfl rfl rfl ?_
    refine js_aload_n (n := 20) X (dg dc_T_firstFailure 10 rfl) rfl rfl rfl ?_
    refine js_aload_n (n := 21) X (dg dc_T_firstFailure 11 rfl) rfl rfl rfl ?_
    refine js_getf (j := 8) (v := .ref 23) (n := 24) X (dg dc_T_firstFailure 12 rfl) rfl hC_T (Nat.le_of_ble_eq_true rfl) hw_386 rfl rfl ?_
    refine js_ldc (n := 26) (v := 2147483647) X (dg dc_T_firstFailure 13 rfl) rfl hw_391 ?_
    refine js_callV (na := 1) (ci := 5) (n := 29) X (dg dc_T_firstFailure 14 rfl) rfl (c_D_below_23 l Dv fu (h.1, P1, T, h.2.2.2) r out T.2.2.2.2.2.2.2.2 2147483647) gV_T_75 rfl rfl hy_D_below ⟨(Nat.le_of_ble_eq_true rfl), (Nat.le_of_ble_eq_true rfl)⟩ rfl ⟨(Nat.le_of_ble_eq_true rfl), (Nat.le_of_ble_eq_true rfl)⟩ rfl rfl rfl rfl rfl ?_
    rintro ⟨r26, D_26⟩
    refine js_callV (na := 2) (ci := 2) (n := 32) X (dg dc_T_firstFailure 15 rfl) rfl (c_T_test_11_6 l Dv fu (h.1, P1, (T.1, T.2.1, T.2.2.1, T.2.2.2.1, T.2.2.2.2.1, T.2.2.2.2.2.1, T.2.2.2.2.2.2.1, T.2.2.2.2.2.2.2.1, D_26), h.2.2.2) r out (T.1, T.2.1, T.2.2.1, T.2.2.2.1, T.2.2.2.2.1, T.2.2.2.2.2.1, T.2.2.2.2.2.2.1, T.2.2.2.2.2.2.2.1, D_26) P1 r26) gV_T_79 rfl rfl hy_T_test ⟨(Nat.le_of_ble_eq_true rfl), (Nat.le_of_ble_eq_true rfl)⟩ rfl ⟨(Nat.le_of_ble_eq_true rfl), (Nat.le_of_ble_eq_true rfl)⟩ rfl rfl rfl rfl rfl ?_
    rintro ⟨r29, T_29⟩
    refine js_if_ne (t := 38) (n := 35) X (dg dc_T_firstFailure 16 rfl) (by decide) rfl ?_ ?_
    · refine js_iinc (lo' := [some (.ref 11), some (.ref 6), none, none, some (.int v4), some (.int (v5 + 1))]) (n := 41) 1 X (dg dc_T_firstFailure 19 rfl) rfl (by decide) (Nat.le_of_ble_eq_true rfl) rfl rfl ?_
      refine js_goto (t := 11) X (dg dc_T_firstFailure 20 rfl) (by decide) ?_
      exact js_keep [true, true, false, false, true, true] (ih T_29 v4 (v5 + 1))
    refine js_iload (n := 37) X (dg dc_T_firstFailure 17 rfl) rfl rfl ?_
    exact js_retI X (dg dc_T_firstFailure 18 rfl) rfl (Nat.le_of_ble_eq_true rfl) (Nat.le_of_ble_eq_true rfl) rfl
set_option maxRecDepth 100000 in
set_option maxHeartbeats 4000000 in
theorem c_T_firstFailure_11_6 (l : Launch) (Dv : va_G) (fu : Nat) (h : S_H) (r : S_R) (out : Nat → Int64) (T : S_T) (P1 : S_P) (a2 : Int64) (a4 : Int32) : ev_M l Dv gaX mu_T_firstFailure [.ref 11, .ref 6, .long a2, .int a4] (hpW (h.1, P1, T, h.2.2.2) r out) (f_T_firstFailure fu T P1 a2 a4) (fun q => (some (.int q.1), hpW (h.1, P1, q.2, h.2.2.2) r out)) := by
  refine ev_met (lo0 := [some (.ref 11), some (.ref 6), some (.long a2), none, some (.int a4), none]) rfl rfl rfl (fun κ X => ?_)
  unfold f_T_firstFailure
  refine js_aload_n (n := 1) X (dg dc_T_firstFailure 0 rfl) rfl rfl rfl ?_
  refine js_getf (j := 8) (v := .ref 23) (n := 4) X (dg dc_T_firstFailure 1 rfl) rfl hC_T (Nat.le_of_ble_eq_true rfl) hw_386 rfl rfl ?_
  refine js_lload_n (n := 5) X (dg dc_T_firstFailure 2 rfl) rfl rfl rfl ?_
  refine js_callV (na := 1) (ci := 5) (n := 8) X (dg dc_T_firstFailure 3 rfl) rfl (c_D_restart_23 l Dv fu (h.1, P1, T, h.2.2.2) r out T.2.2.2.2.2.2.2.2 a2) gV_T_70 rfl rfl hy_D_restart ⟨(Nat.le_of_ble_eq_true rfl), (Nat.le_of_ble_eq_true rfl)⟩ rfl ⟨(Nat.le_of_ble_eq_true rfl), (Nat.le_of_ble_eq_true rfl)⟩ rfl rfl rfl rfl rfl ?_
  intro D_5
  refine js_iconst (n := 9) 0 X (dg dc_T_firstFailure 4 rfl) rfl (by decide) ?_
  refine js_istore (lo' := [some (.ref 11), some (.ref 6), some (.long a2), none, some (.int a4), some (.int 0)]) (n := 11) X (dg dc_T_firstFailure 5 rfl) rfl (Nat.le_of_ble_eq_true rfl) rfl ?_
  exact js_keep [true, true, false, false, true, true] (jl_T_firstFailure_11_6_L11 l Dv fu h r out κ X P1 fu (T.1, T.2.1, T.2.2.1, T.2.2.2.1, T.2.2.2.2.1, T.2.2.2.2.2.1, T.2.2.2.2.2.2.1, T.2.2.2.2.2.2.2.1, D_5) a4 0)
set_option maxRecDepth 100000 in
set_option maxHeartbeats 4000000 in
theorem c_D_restart_24 (l : Launch) (Dv : va_G) (fu : Nat) (h : S_H) (r : S_R) (out : Nat → Int64) (D : S_D) (a1 : Int64) : ev_M l Dv gaX mu_D_restart [.ref 24, .long a1] (hpW (h.1, h.2.1, h.2.2.1, D, h.2.2.2.2) r out) (f_D_restart fu D a1) (fun q => (none, hpW (h.1, h.2.1, h.2.2.1, q, h.2.2.2.2) r out)) := by
  refine ev_met (lo0 := [some (.ref 24), some (.long a1), none]) rfl rfl rfl (fun κ X => ?_)
  unfold f_D_restart
  refine js_aload_n (n := 1) X (dg dc_D_restart 0 rfl) rfl rfl rfl ?_
  refine js_lload_n (n := 2) X (dg dc_D_restart 1 rfl) rfl rfl rfl ?_
  refine js_putj (j := 0) (n := 5) X (dg dc_D_restart 2 rfl) rfl hC_D (Nat.le_of_ble_eq_true rfl) hw_77 rfl rfl (Or.inl rfl) (Nat.le_of_ble_eq_true rfl) ?_
  exact js_retV X (dg dc_D_restart 3 rfl) rfl (Nat.le_of_ble_eq_true rfl) (Nat.le_of_ble_eq_true rfl) rfl
set_option maxRecDepth 100000 in
set_option maxHeartbeats 4000000 in
theorem c_H_add_0 (l : Launch) (hst : l.stackTraces = false) (Dv : va_G) (fu : Nat) (r : S_R) (out : Nat → Int64) (H : S_H) (a1 : Int32) (a2 : Int32) (a3 : Int32) (a4 : Int32) : ev_MX l Dv gaX deX mu_H_add [.ref 0, .int a1, .int a2, .int a3, .int a4] (hpW H r out) (f_H_add fu H a1 a2 a3 a4) (fun q => (ev_sv q.1, hpW q.2 r out)) := by
  refine ev_metX (lo0 := [some (.ref 0), some (.int a1), some (.int a2), some (.int a3), some (.int a4), none]) hst rfl rfl rfl (fun κ X T => ?_)
  unfold f_H_add
  refine js_iload_n (n := 1) X (dg dc_H_add 0 rfl) rfl rfl rfl ?_
  refine js_iconst (n := 2) 3 X (dg dc_H_add 1 rfl) rfl (by decide) ?_
  refine js_callS (na := 2) (n := 5) X (dg dc_H_add 2 rfl) rfl (c_H_isBelow l Dv fu _ a1 3) gS_H_41 rfl rfl hy_H_isBelow.2 ⟨(Nat.le_of_ble_eq_true rfl), (Nat.le_of_ble_eq_true rfl)⟩ ⟨(Nat.le_of_ble_eq_true rfl), (Nat.le_of_ble_eq_true rfl)⟩ rfl rfl rfl rfl ?_
  intro r2
  refine js_if_eq (t := 25) (n := 8) X (dg dc_H_add 3 rfl) (by decide) rfl ?_ ?_
  · exact js_throwS (n9 := 1) X T rfl (by decide +kernel) hnmX hw_401 hw_402 (hstr_47) hat_49 hgood_45_49 (dg dc_H_add 12 rfl) (dg dc_H_add 13 rfl) (dg dc_H_add 14 rfl) (dg dc_H_add 15 rfl) (dg dc_H_add 16 rfl) (Nat.le_of_ble_eq_true rfl) (Nat.le_of_ble_eq_true rfl) (Nat.le_of_ble_eq_true rfl) (Nat.le_of_ble_eq_true rfl) (Nat.le_of_ble_eq_true rfl) (Nat.le_of_ble_eq_true rfl) rfl
  refine js_iload_n (n := 9) X (dg dc_H_add 4 rfl) rfl rfl rfl ?_
  refine js_bipush (n := 11) 7 X (dg dc_H_add 5 rfl) rfl (by decide) ?_
  refine js_callS (na := 2) (n := 14) X (dg dc_H_add 6 rfl) rfl (c_H_isBelow l Dv fu _ a2 7) gS_H_41 rfl rfl hy_H_isBelow.2 ⟨(Nat.le_of_ble_eq_true rfl), (Nat.le_of_ble_eq_true rfl)⟩ ⟨(Nat.le_of_ble_eq_true rfl), (Nat.le_of_ble_eq_true rfl)⟩ rfl rfl rfl rfl ?_
  intro r11
  refine js_if_eq (t := 25) (n := 17) X (dg dc_H_add 7 rfl) (by decide) rfl ?_ ?_
  · exact js_throwS (n9 := 1) X T rfl (by decide +kernel) hnmX hw_401 hw_402 (hstr_47) hat_49 hgood_45_49 (dg dc_H_add 12 rfl) (dg dc_H_add 13 rfl) (dg dc_H_add 14 rfl) (dg dc_H_add 15 rfl) (dg dc_H_add 16 rfl) (Nat.le_of_ble_eq_true rfl) (Nat.le_of_ble_eq_true rfl) (Nat.le_of_ble_eq_true rfl) (Nat.le_of_ble_eq_true rfl) (Nat.le_of_ble_eq_true rfl) (Nat.le_of_ble_eq_true rfl) rfl
  refine js_iload_n (n := 18) X (dg dc_H_add 8 rfl) rfl rfl rfl ?_
  refine js_iconst (n := 19) 3 X (dg dc_H_add 9 rfl) rfl (by decide) ?_
  refine js_callS (na := 2) (n := 22) X (dg dc_H_add 10 rfl) rfl (c_H_isBelow l Dv fu _ a3 3) gS_H_41 rfl rfl hy_H_isBelow.2 ⟨(Nat.le_of_ble_eq_true rfl), (Nat.le_of_ble_eq_true rfl)⟩ ⟨(Nat.le_of_ble_eq_true rfl), (Nat.le_of_ble_eq_true rfl)⟩ rfl rfl rfl rfl ?_
  intro r19
  refine js_if_ne (t := 35) (n := 25) X (dg dc_H_add 11 rfl) (by decide) rfl ?_ ?_
  · refine js_aload_n (n := 36) X (dg dc_H_add 17 rfl) rfl rfl rfl ?_
    refine js_getf (j := 0) (v := .ref 1) (n := 39) X (dg dc_H_add 18 rfl) rfl hC_H (Nat.le_of_ble_eq_true rfl) hw_0 rfl rfl ?_
    refine js_iload_n (n := 40) X (dg dc_H_add 19 rfl) rfl rfl rfl ?_
    refine js_iload (n := 42) X (dg dc_H_add 20 rfl) rfl rfl ?_
    refine js_callV (na := 2) (ci := 1) (n := 45) X (dg dc_H_add 21 rfl) rfl (c_P_mayTake_1 l Dv fu H r out H.1 a1 a4) gV_H_52 rfl rfl hy_P_mayTake ⟨(Nat.le_of_ble_eq_true rfl), (Nat.le_of_ble_eq_true rfl)⟩ rfl ⟨(Nat.le_of_ble_eq_true rfl), (Nat.le_of_ble_eq_true rfl)⟩ rfl rfl rfl rfl rfl ?_
    intro r42
    refine js_if_ne (t := 58) (n := 48) X (dg dc_H_add 22 rfl) (by decide) rfl ?_ ?_
    · refine js_aload_n (n := 59) X (dg dc_H_add 28 rfl) rfl rfl rfl ?_
      refine js_getf (j := 0) (v := .ref 1) (n := 62) X (dg dc_H_add 29 rfl) rfl hC_H (Nat.le_of_ble_eq_true rfl) hw_0 rfl rfl ?_
      refine js_iload_n (n := 63) X (dg dc_H_add 30 rfl) rfl rfl rfl ?_
      refine js_callV (na := 1) (ci := 1) (n := 66) X (dg dc_H_add 31 rfl) rfl (c_P_hasRoom_1 l Dv fu H r out H.1 a1) gV_H_57 rfl rfl hy_P_hasRoom ⟨(Nat.le_of_ble_eq_true rfl), (Nat.le_of_ble_eq_true rfl)⟩ rfl ⟨(Nat.le_of_ble_eq_true rfl), (Nat.le_of_ble_eq_true rfl)⟩ rfl rfl rfl rfl rfl ?_
      intro r63
      refine js_if_ne (t := 79) (n := 69) X (dg dc_H_add 32 rfl) (by decide) rfl ?_ ?_
      · refine js_aload_n (n := 80) X (dg dc_H_add 38 rfl) rfl rfl rfl ?_
        refine js_getf (j := 0) (v := .ref 1) (n := 83) X (dg dc_H_add 39 rfl) rfl hC_H (Nat.le_of_ble_eq_true rfl) hw_0 rfl rfl ?_
        refine js_iload_n (n := 84) X (dg dc_H_add 40 rfl) rfl rfl rfl ?_
        refine js_callV (na := 1) (ci := 1) (n := 87) X (dg dc_H_add 41 rfl) rfl (c_P_end_1 l Dv fu H r out H.1 a1) gV_H_66 rfl rfl hy_P_end ⟨(Nat.le_of_ble_eq_true rfl), (Nat.le_of_ble_eq_true rfl)⟩ rfl ⟨(Nat.le_of_ble_eq_true rfl), (Nat.le_of_ble_eq_true rfl)⟩ rfl rfl rfl rfl rfl ?_
        intro r84
        refine js_istore (lo' := [some (.ref 0), some (.int a1), some (.int a2), some (.int a3), some (.int a4), some (.int r84)]) (n := 89) X (dg dc_H_add 42 rfl) rfl (Nat.le_of_ble_eq_true rfl) rfl ?_
        refine js_aload_n (n := 90) X (dg dc_H_add 43 rfl) rfl rfl rfl ?_
        refine js_iload_n (n := 91) X (dg dc_H_add 44 rfl) rfl rfl rfl ?_
        refine js_iload_n (n := 92) X (dg dc_H_add 45 rfl) rfl rfl rfl ?_
        refine js_iload_n (n := 93) X (dg dc_H_add 46 rfl) rfl rfl rfl ?_
        refine js_iload (n := 95) X (dg dc_H_add 47 rfl) rfl rfl ?_
        refine js_callV (na := 4) (ci := 0) (n := 98) X (dg dc_H_add 48 rfl) rfl (c_H_appendIfValid_0 l Dv fu r out H a1 a2 a3 a4) gV_H_70 rfl rfl hy_H_appendIfValid ⟨(Nat.le_of_ble_eq_true rfl), (Nat.le_of_ble_eq_true rfl)⟩ rfl ⟨(Nat.le_of_ble_eq_true rfl), (Nat.le_of_ble_eq_true rfl)⟩ rfl rfl rfl rfl rfl ?_
        rintro ⟨r95, H_95⟩
        refine js_if_ne (t := 111) (n := 101) X (dg dc_H_add 49 rfl) (by decide) rfl ?_ ?_
        · refine js_aload_n (n := 112) X (dg dc_H_add 55 rfl) rfl rfl rfl ?_
          refine js_iconst (n := 113) 0 X (dg dc_H_add 56 rfl) rfl (by decide) ?_
          refine js_putz (j := 5) (n := 116) X (dg dc_H_add 57 rfl) rfl hC_H (Nat.le_of_ble_eq_true rfl) hw_11 rfl rfl (Or.inl rfl) (Nat.le_of_ble_eq_true rfl) ?_
          refine js_iload (n := 118) X (dg dc_H_add 58 rfl) rfl rfl ?_
          exact js_retI X (dg dc_H_add 59 rfl) rfl (Nat.le_of_ble_eq_true rfl) (Nat.le_of_ble_eq_true rfl) rfl
        exact js_throwS (n9 := 3) X T rfl (by decide +kernel) hnmX hw_409 hw_410 (hstr_76) hat_78 hgood_74_78 (dg dc_H_add 50 rfl) (dg dc_H_add 51 rfl) (dg dc_H_add 52 rfl) (dg dc_H_add 53 rfl) (dg dc_H_add 54 rfl) (Nat.le_of_ble_eq_true rfl) (Nat.le_of_ble_eq_true rfl) (Nat.le_of_ble_eq_true rfl) (Nat.le_of_ble_eq_true rfl) (Nat.le_of_ble_eq_true rfl) (Nat.le_of_ble_eq_true rfl) rfl
      exact js_throwS (n9 := 2) X T rfl (by decide +kernel) hnmX hw_411 hw_412 (hstr_63) hat_65 hgood_61_65 (dg dc_H_add 33 rfl) (dg dc_H_add 34 rfl) (dg dc_H_add 35 rfl) (dg dc_H_add 36 rfl) (dg dc_H_add 37 rfl) (Nat.le_of_ble_eq_true rfl) (Nat.le_of_ble_eq_true rfl) (Nat.le_of_ble_eq_true rfl) (Nat.le_of_ble_eq_true rfl) (Nat.le_of_ble_eq_true rfl) (Nat.le_of_ble_eq_true rfl) rfl
    exact js_throwS (n9 := 1) X T rfl (by decide +kernel) hnmX hw_401 hw_402 (hstr_55) hat_49 hgood_45_49 (dg dc_H_add 23 rfl) (dg dc_H_add 24 rfl) (dg dc_H_add 25 rfl) (dg dc_H_add 26 rfl) (dg dc_H_add 27 rfl) (Nat.le_of_ble_eq_true rfl) (Nat.le_of_ble_eq_true rfl) (Nat.le_of_ble_eq_true rfl) (Nat.le_of_ble_eq_true rfl) (Nat.le_of_ble_eq_true rfl) (Nat.le_of_ble_eq_true rfl) rfl
  exact js_throwS (n9 := 1) X T rfl (by decide +kernel) hnmX hw_401 hw_402 (hstr_47) hat_49 hgood_45_49 (dg dc_H_add 12 rfl) (dg dc_H_add 13 rfl) (dg dc_H_add 14 rfl) (dg dc_H_add 15 rfl) (dg dc_H_add 16 rfl) (Nat.le_of_ble_eq_true rfl) (Nat.le_of_ble_eq_true rfl) (Nat.le_of_ble_eq_true rfl) (Nat.le_of_ble_eq_true rfl) (Nat.le_of_ble_eq_true rfl) (Nat.le_of_ble_eq_true rfl) rfl
set_option maxRecDepth 100000 in
set_option maxHeartbeats 4000000 in
theorem c_H_make_0 (l : Launch) (hst : l.stackTraces = false) (Dv : va_G) (fu : Nat) (r : S_R) (out : Nat → Int64) (H : S_H) (a1 : Int64) (a3 : Int32) (a4 : Int32) (a5 : Int32) : ev_MX l Dv gaX deX mu_H_make [.ref 0, .long a1, .int a3, .int a4, .int a5] (hpW H r out) (f_H_make fu H a1 a3 a4 a5) (fun q => (ev_sv q.1, hpW q.2 r out)) := by
  refine ev_metX (lo0 := [some (.ref 0), some (.long a1), none, some (.int a3), some (.int a4), some (.int a5)]) hst rfl rfl rfl (fun κ X T => ?_)
  unfold f_H_make
  refine js_iload_n (n := 1) X (dg dc_H_make 0 rfl) rfl rfl rfl ?_
  refine js_bipush (n := 3) 7 X (dg dc_H_make 1 rfl) rfl (by decide) ?_
  refine js_callS (na := 2) (n := 6) X (dg dc_H_make 2 rfl) rfl (c_H_isBelow l Dv fu _ a3 7) gS_H_41 rfl rfl hy_H_isBelow.2 ⟨(Nat.le_of_ble_eq_true rfl), (Nat.le_of_ble_eq_true rfl)⟩ ⟨(Nat.le_of_ble_eq_true rfl), (Nat.le_of_ble_eq_true rfl)⟩ rfl rfl rfl rfl ?_
  intro r3
  refine js_if_eq (t := 27) (n := 9) X (dg dc_H_make 3 rfl) (by decide) rfl ?_ ?_
  · exact js_throwS (n9 := 1) X T rfl (by decide +kernel) hnmX hw_401 hw_402 (hstr_86) hat_49 hgood_45_49 (dg dc_H_make 12 rfl) (dg dc_H_make 13 rfl) (dg dc_H_make 14 rfl) (dg dc_H_make 15 rfl) (dg dc_H_make 16 rfl) (Nat.le_of_ble_eq_true rfl) (Nat.le_of_ble_eq_true rfl) (Nat.le_of_ble_eq_true rfl) (Nat.le_of_ble_eq_true rfl) (Nat.le_of_ble_eq_true rfl) (Nat.le_of_ble_eq_true rfl) rfl
  refine js_iload (n := 11) X (dg dc_H_make 4 rfl) rfl rfl ?_
  refine js_iconst (n := 12) 5 X (dg dc_H_make 5 rfl) rfl (by decide) ?_
  refine js_callS (na := 2) (n := 15) X (dg dc_H_make 6 rfl) rfl (c_H_isBelow l Dv fu _ a4 5) gS_H_41 rfl rfl hy_H_isBelow.2 ⟨(Nat.le_of_ble_eq_true rfl), (Nat.le_of_ble_eq_true rfl)⟩ ⟨(Nat.le_of_ble_eq_true rfl), (Nat.le_of_ble_eq_true rfl)⟩ rfl rfl rfl rfl ?_
  intro r12
  refine js_if_eq (t := 27) (n := 18) X (dg dc_H_make 7 rfl) (by decide) rfl ?_ ?_
  · exact js_throwS (n9 := 1) X T rfl (by decide +kernel) hnmX hw_401 hw_402 (hstr_86) hat_49 hgood_45_49 (dg dc_H_make 12 rfl) (dg dc_H_make 13 rfl) (dg dc_H_make 14 rfl) (dg dc_H_make 15 rfl) (dg dc_H_make 16 rfl) (Nat.le_of_ble_eq_true rfl) (Nat.le_of_ble_eq_true rfl) (Nat.le_of_ble_eq_true rfl) (Nat.le_of_ble_eq_true rfl) (Nat.le_of_ble_eq_true rfl) (Nat.le_of_ble_eq_true rfl) rfl
  refine js_iload (n := 20) X (dg dc_H_make 8 rfl) rfl rfl ?_
  refine js_iconst (n := 21) 5 X (dg dc_H_make 9 rfl) rfl (by decide) ?_
  refine js_callS (na := 2) (n := 24) X (dg dc_H_make 10 rfl) rfl (c_H_isBelow l Dv fu _ a5 5) gS_H_41 rfl rfl hy_H_isBelow.2 ⟨(Nat.le_of_ble_eq_true rfl), (Nat.le_of_ble_eq_true rfl)⟩ ⟨(Nat.le_of_ble_eq_true rfl), (Nat.le_of_ble_eq_true rfl)⟩ rfl rfl rfl rfl ?_
  intro r21
  refine js_if_ne (t := 37) (n := 27) X (dg dc_H_make 11 rfl) (by decide) rfl ?_ ?_
  · refine js_aload_n (n := 38) X (dg dc_H_make 17 rfl) rfl rfl rfl ?_
    refine js_getf (j := 3) (v := .ref 24) (n := 41) X (dg dc_H_make 18 rfl) rfl hC_H (Nat.le_of_ble_eq_true rfl) hw_76 rfl rfl ?_
    refine js_lload_n (n := 42) X (dg dc_H_make 19 rfl) rfl rfl rfl ?_
    refine js_callV (na := 1) (ci := 5) (n := 45) X (dg dc_H_make 20 rfl) rfl (c_D_restart_24 l Dv fu H r out H.2.2.2.1 a1) gV_H_88 rfl rfl hy_D_restart ⟨(Nat.le_of_ble_eq_true rfl), (Nat.le_of_ble_eq_true rfl)⟩ rfl ⟨(Nat.le_of_ble_eq_true rfl), (Nat.le_of_ble_eq_true rfl)⟩ rfl rfl rfl rfl rfl ?_
    intro D_42
    refine js_aload_n (n := 46) X (dg dc_H_make 21 rfl) rfl rfl rfl ?_
    refine js_getf (j := 0) (v := .ref 1) (n := 49) X (dg dc_H_make 22 rfl) rfl hC_H (Nat.le_of_ble_eq_true rfl) hw_0 rfl rfl ?_
    refine js_callV (na := 0) (ci := 1) (n := 52) X (dg dc_H_make 23 rfl) rfl (c_P_empty_1 l Dv fu (H.1, H.2.1, H.2.2.1, D_42, H.2.2.2.2) r out H.1) gV_H_83 rfl rfl hy_P_empty ⟨(Nat.le_of_ble_eq_true rfl), (Nat.le_of_ble_eq_true rfl)⟩ rfl ⟨(Nat.le_of_ble_eq_true rfl), (Nat.le_of_ble_eq_true rfl)⟩ rfl rfl rfl rfl rfl ?_
    intro P_49
    refine js_aload_n (n := 53) X (dg dc_H_make 24 rfl) rfl rfl rfl ?_
    refine js_iconst (n := 54) 0 X (dg dc_H_make 25 rfl) rfl (by decide) ?_
    refine js_iload_n (n := 55) X (dg dc_H_make 26 rfl) rfl rfl rfl ?_
    refine js_callV (na := 2) (ci := 0) (n := 58) X (dg dc_H_make 27 rfl) rfl (c_H_drawBranch_0 l Dv fu r out (P_49, H.2.1, H.2.2.1, D_42, H.2.2.2.2) 0 a3) gV_H_92 rfl rfl hy_H_drawBranch ⟨(Nat.le_of_ble_eq_true rfl), (Nat.le_of_ble_eq_true rfl)⟩ rfl ⟨(Nat.le_of_ble_eq_true rfl), (Nat.le_of_ble_eq_true rfl)⟩ rfl rfl rfl rfl rfl ?_
    intro H_55
    refine js_aload_n (n := 59) X (dg dc_H_make 28 rfl) rfl rfl rfl ?_
    refine js_iconst (n := 60) 1 X (dg dc_H_make 29 rfl) rfl (by decide) ?_
    refine js_iload (n := 62) X (dg dc_H_make 30 rfl) rfl rfl ?_
    refine js_callV (na := 2) (ci := 0) (n := 65) X (dg dc_H_make 31 rfl) rfl (c_H_drawBranch_0 l Dv fu r out H_55 1 a4) gV_H_92 rfl rfl hy_H_drawBranch ⟨(Nat.le_of_ble_eq_true rfl), (Nat.le_of_ble_eq_true rfl)⟩ rfl ⟨(Nat.le_of_ble_eq_true rfl), (Nat.le_of_ble_eq_true rfl)⟩ rfl rfl rfl rfl rfl ?_
    intro H_62
    refine js_aload_n (n := 66) X (dg dc_H_make 32 rfl) rfl rfl rfl ?_
    refine js_iconst (n := 67) 2 X (dg dc_H_make 33 rfl) rfl (by decide) ?_
    refine js_iload (n := 69) X (dg dc_H_make 34 rfl) rfl rfl ?_
    refine js_callV (na := 2) (ci := 0) (n := 72) X (dg dc_H_make 35 rfl) rfl (c_H_drawBranch_0 l Dv fu r out H_62 2 a5) gV_H_92 rfl rfl hy_H_drawBranch ⟨(Nat.le_of_ble_eq_true rfl), (Nat.le_of_ble_eq_true rfl)⟩ rfl ⟨(Nat.le_of_ble_eq_true rfl), (Nat.le_of_ble_eq_true rfl)⟩ rfl rfl rfl rfl rfl ?_
    intro H_69
    refine js_aload_n (n := 73) X (dg dc_H_make 36 rfl) rfl rfl rfl ?_
    refine js_iconst (n := 74) 0 X (dg dc_H_make 37 rfl) rfl (by decide) ?_
    refine js_putz (j := 5) (n := 77) X (dg dc_H_make 38 rfl) rfl hC_H (Nat.le_of_ble_eq_true rfl) hw_11 rfl rfl (Or.inl rfl) (Nat.le_of_ble_eq_true rfl) ?_
    refine js_aload_n (n := 78) X (dg dc_H_make 39 rfl) rfl rfl rfl ?_
    refine js_getf (j := 0) (v := .ref 1) (n := 81) X (dg dc_H_make 40 rfl) rfl hC_H (Nat.le_of_ble_eq_true rfl) hw_0 rfl rfl ?_
    refine js_callV (na := 0) (ci := 1) (n := 84) X (dg dc_H_make 41 rfl) rfl (c_P_size_1 l Dv fu (H_69.1, H_69.2.1, H_69.2.2.1, H_69.2.2.2.1, H_69.2.2.2.2.1, 0) r out H_69.1) gV_H_79 rfl rfl hy_P_size ⟨(Nat.le_of_ble_eq_true rfl), (Nat.le_of_ble_eq_true rfl)⟩ rfl ⟨(Nat.le_of_ble_eq_true rfl), (Nat.le_of_ble_eq_true rfl)⟩ rfl rfl rfl rfl rfl ?_
    intro r81
    exact js_retI X (dg dc_H_make 42 rfl) rfl (Nat.le_of_ble_eq_true rfl) (Nat.le_of_ble_eq_true rfl) rfl
  exact js_throwS (n9 := 1) X T rfl (by decide +kernel) hnmX hw_401 hw_402 (hstr_86) hat_49 hgood_45_49 (dg dc_H_make 12 rfl) (dg dc_H_make 13 rfl) (dg dc_H_make 14 rfl) (dg dc_H_make 15 rfl) (dg dc_H_make 16 rfl) (Nat.le_of_ble_eq_true rfl) (Nat.le_of_ble_eq_true rfl) (Nat.le_of_ble_eq_true rfl) (Nat.le_of_ble_eq_true rfl) (Nat.le_of_ble_eq_true rfl) (Nat.le_of_ble_eq_true rfl) rfl
set_option maxRecDepth 100000 in
set_option maxHeartbeats 4000000 in
theorem c_H_flaws_0 (l : Launch) (hst : l.stackTraces = false) (Dv : va_G) (fu : Nat) (r : S_R) (out : Nat → Int64) (H : S_H) (a1 : Int32) : ev_MX l Dv gaX deX mu_H_flaws [.ref 0, .int a1] (hpW H r out) (f_H_flaws fu H a1) (fun q => (ev_sv q.1, hpW q.2 r out)) := by
  refine ev_metX (lo0 := [some (.ref 0), some (.int a1), none]) hst rfl rfl rfl (fun κ X T => ?_)
  unfold f_H_flaws
  refine js_iload_n (n := 1) X (dg dc_H_flaws 0 rfl) rfl rfl rfl ?_
  refine js_bipush (n := 3) 16 X (dg dc_H_flaws 1 rfl) rfl (by decide) ?_
  refine js_callS (na := 2) (n := 6) X (dg dc_H_flaws 2 rfl) rfl (c_H_isBelow l Dv fu _ a1 16) gS_H_41 rfl rfl hy_H_isBelow.2 ⟨(Nat.le_of_ble_eq_true rfl), (Nat.le_of_ble_eq_true rfl)⟩ ⟨(Nat.le_of_ble_eq_true rfl), (Nat.le_of_ble_eq_true rfl)⟩ rfl rfl rfl rfl ?_
  intro r3
  refine js_if_ne (t := 19) (n := 9) X (dg dc_H_flaws 3 rfl) (by decide) rfl ?_ ?_
  · refine js_aload_n (n := 20) X (dg dc_H_flaws 9 rfl) rfl rfl rfl ?_
    refine js_getf (j := 2) (v := .ref 11) (n := 23) X (dg dc_H_flaws 10 rfl) rfl hC_H (Nat.le_of_ble_eq_true rfl) hw_418 rfl rfl ?_
    refine js_getf (j := 3) (v := .int H.2.2.1.2.2.2.1) (n := 26) X (dg dc_H_flaws 11 rfl) rfl hC_T (Nat.le_of_ble_eq_true rfl) hw_419 rfl rfl ?_
    refine js_istore_n (lo' := [some (.ref 0), some (.int a1), some (.int H.2.2.1.2.2.2.1)]) (n := 27) X (dg dc_H_flaws 12 rfl) rfl rfl (Nat.le_of_ble_eq_true rfl) rfl ?_
    refine js_aload_n (n := 28) X (dg dc_H_flaws 13 rfl) rfl rfl rfl ?_
    refine js_getf (j := 2) (v := .ref 11) (n := 31) X (dg dc_H_flaws 14 rfl) rfl hC_H (Nat.le_of_ble_eq_true rfl) hw_418 rfl rfl ?_
    refine js_iload_n (n := 32) X (dg dc_H_flaws 15 rfl) rfl rfl rfl ?_
    refine js_puti (j := 3) (n := 35) X (dg dc_H_flaws 16 rfl) rfl hC_T (Nat.le_of_ble_eq_true rfl) hw_419 rfl rfl (Or.inl rfl) (Nat.le_of_ble_eq_true rfl) ?_
    refine js_iload_n (n := 36) X (dg dc_H_flaws 17 rfl) rfl rfl rfl ?_
    exact js_retI X (dg dc_H_flaws 18 rfl) rfl (Nat.le_of_ble_eq_true rfl) (Nat.le_of_ble_eq_true rfl) rfl
  exact js_throwS (n9 := 1) X T rfl (by decide +kernel) hnmX hw_401 hw_402 (hstr_96) hat_49 hgood_45_49 (dg dc_H_flaws 4 rfl) (dg dc_H_flaws 5 rfl) (dg dc_H_flaws 6 rfl) (dg dc_H_flaws 7 rfl) (dg dc_H_flaws 8 rfl) (Nat.le_of_ble_eq_true rfl) (Nat.le_of_ble_eq_true rfl) (Nat.le_of_ble_eq_true rfl) (Nat.le_of_ble_eq_true rfl) (Nat.le_of_ble_eq_true rfl) (Nat.le_of_ble_eq_true rfl) rfl
set_option maxRecDepth 100000 in
set_option maxHeartbeats 4000000 in
theorem c_H_run_0 (l : Launch) (hst : l.stackTraces = false) (Dv : va_G) (fu : Nat) (r : S_R) (out : Nat → Int64) (H : S_H) (a1 : Int32) : ev_MX l Dv gaX deX mu_H_run [.ref 0, .int a1] (hpW H r out) (f_H_run fu H a1) (fun q => (ev_sv q.1, hpW q.2 r out)) := by
  refine ev_metX (lo0 := [some (.ref 0), some (.int a1)]) hst rfl rfl rfl (fun κ X T => ?_)
  unfold f_H_run
  refine js_iload_n (n := 1) X (dg dc_H_run 0 rfl) rfl rfl rfl ?_
  refine js_if_ge (t := 14) (n := 4) X (dg dc_H_run 1 rfl) (by decide) rfl ?_ ?_
  · refine js_aload_n (n := 15) X (dg dc_H_run 7 rfl) rfl rfl rfl ?_
    refine js_iconst (n := 16) 1 X (dg dc_H_run 8 rfl) rfl (by decide) ?_
    refine js_putz (j := 5) (n := 19) X (dg dc_H_run 9 rfl) rfl hC_H (Nat.le_of_ble_eq_true rfl) hw_11 rfl rfl (Or.inl rfl) (Nat.le_of_ble_eq_true rfl) ?_
    refine js_aload_n (n := 20) X (dg dc_H_run 10 rfl) rfl rfl rfl ?_
    refine js_getf (j := 2) (v := .ref 11) (n := 23) X (dg dc_H_run 11 rfl) rfl hC_H (Nat.le_of_ble_eq_true rfl) hw_418 rfl rfl ?_
    refine js_aload_n (n := 24) X (dg dc_H_run 12 rfl) rfl rfl rfl ?_
    refine js_getf (j := 0) (v := .ref 1) (n := 27) X (dg dc_H_run 13 rfl) rfl hC_H (Nat.le_of_ble_eq_true rfl) hw_0 rfl rfl ?_
    refine js_iload_n (n := 28) X (dg dc_H_run 14 rfl) rfl rfl rfl ?_
    refine js_callV (na := 2) (ci := 2) (n := 31) X (dg dc_H_run 15 rfl) rfl (c_T_test_11_1 l Dv fu (H.1, H.2.1, H.2.2.1, H.2.2.2.1, H.2.2.2.2.1, 1) r out H.2.2.1 H.1 a1) gV_H_103 rfl rfl hy_T_test ⟨(Nat.le_of_ble_eq_true rfl), (Nat.le_of_ble_eq_true rfl)⟩ rfl ⟨(Nat.le_of_ble_eq_true rfl), (Nat.le_of_ble_eq_true rfl)⟩ rfl rfl rfl rfl rfl ?_
    rintro ⟨r28, T_28⟩
    exact js_retZ X (dg dc_H_run 16 rfl) rfl (Nat.le_of_ble_eq_true rfl) (Nat.le_of_ble_eq_true rfl) rfl
  exact js_throwS (n9 := 1) X T rfl (by decide +kernel) hnmX hw_401 hw_402 (hstr_101) hat_49 hgood_45_49 (dg dc_H_run 2 rfl) (dg dc_H_run 3 rfl) (dg dc_H_run 4 rfl) (dg dc_H_run 5 rfl) (dg dc_H_run 6 rfl) (Nat.le_of_ble_eq_true rfl) (Nat.le_of_ble_eq_true rfl) (Nat.le_of_ble_eq_true rfl) (Nat.le_of_ble_eq_true rfl) (Nat.le_of_ble_eq_true rfl) (Nat.le_of_ble_eq_true rfl) rfl
set_option maxRecDepth 100000 in
set_option maxHeartbeats 4000000 in
theorem c_H_fails_0 (l : Launch) (hst : l.stackTraces = false) (Dv : va_G) (fu : Nat) (r : S_R) (out : Nat → Int64) (H : S_H) (a1 : Int64) (a3 : Int32) : ev_MX l Dv gaX deX mu_H_fails [.ref 0, .long a1, .int a3] (hpW H r out) (f_H_fails fu H a1 a3) (fun q => (ev_sv q.1, hpW q.2 r out)) := by
  refine ev_metX (lo0 := [some (.ref 0), some (.long a1), none, some (.int a3)]) hst rfl rfl rfl (fun κ X T => ?_)
  unfold f_H_fails
  refine js_iload_n (n := 1) X (dg dc_H_fails 0 rfl) rfl rfl rfl ?_
  refine js_iconst (n := 2) 1 X (dg dc_H_fails 1 rfl) rfl (by decide) ?_
  refine js_icmp_lt (t := 11) (n := 5) X (dg dc_H_fails 2 rfl) (by decide) rfl ?_ ?_
  · exact js_throwS (n9 := 1) X T rfl (by decide +kernel) hnmX hw_401 hw_402 (hstr_107) hat_49 hgood_45_49 (dg dc_H_fails 6 rfl) (dg dc_H_fails 7 rfl) (dg dc_H_fails 8 rfl) (dg dc_H_fails 9 rfl) (dg dc_H_fails 10 rfl) (Nat.le_of_ble_eq_true rfl) (Nat.le_of_ble_eq_true rfl) (Nat.le_of_ble_eq_true rfl) (Nat.le_of_ble_eq_true rfl) (Nat.le_of_ble_eq_true rfl) (Nat.le_of_ble_eq_true rfl) rfl
  refine js_iload_n (n := 6) X (dg dc_H_fails 3 rfl) rfl rfl rfl ?_
  refine js_bipush (n := 8) 50 X (dg dc_H_fails 4 rfl) rfl (by decide) ?_
  refine js_icmp_le (t := 21) (n := 11) X (dg dc_H_fails 5 rfl) (by decide) rfl ?_ ?_
  · refine js_aload_n (n := 22) X (dg dc_H_fails 11 rfl) rfl rfl rfl ?_
    refine js_iconst (n := 23) 1 X (dg dc_H_fails 12 rfl) rfl (by decide) ?_
    refine js_putz (j := 5) (n := 26) X (dg dc_H_fails 13 rfl) rfl hC_H (Nat.le_of_ble_eq_true rfl) hw_11 rfl rfl (Or.inl rfl) (Nat.le_of_ble_eq_true rfl) ?_
    refine js_aload_n (n := 27) X (dg dc_H_fails 14 rfl) rfl rfl rfl ?_
    refine js_getf (j := 2) (v := .ref 11) (n := 30) X (dg dc_H_fails 15 rfl) rfl hC_H (Nat.le_of_ble_eq_true rfl) hw_418 rfl rfl ?_
    refine js_aload_n (n := 31) X (dg dc_H_fails 16 rfl) rfl rfl rfl ?_
    refine js_getf (j := 0) (v := .ref 1) (n := 34) X (dg dc_H_fails 17 rfl) rfl hC_H (Nat.le_of_ble_eq_true rfl) hw_0 rfl rfl ?_
    refine js_lload_n (n := 35) X (dg dc_H_fails 18 rfl) rfl rfl rfl ?_
    refine js_iload_n (n := 36) X (dg dc_H_fails 19 rfl) rfl rfl rfl ?_
    refine js_callV (na := 3) (ci := 2) (n := 39) X (dg dc_H_fails 20 rfl) rfl (c_T_firstFailure_11_1 l Dv fu (H.1, H.2.1, H.2.2.1, H.2.2.2.1, H.2.2.2.2.1, 1) r out H.2.2.1 H.1 a1 a3) gV_H_109 rfl rfl hy_T_firstFailure ⟨(Nat.le_of_ble_eq_true rfl), (Nat.le_of_ble_eq_true rfl)⟩ rfl ⟨(Nat.le_of_ble_eq_true rfl), (Nat.le_of_ble_eq_true rfl)⟩ rfl rfl rfl rfl rfl ?_
    rintro ⟨r36, T_36⟩
    exact js_retI X (dg dc_H_fails 21 rfl) rfl (Nat.le_of_ble_eq_true rfl) (Nat.le_of_ble_eq_true rfl) rfl
  exact js_throwS (n9 := 1) X T rfl (by decide +kernel) hnmX hw_401 hw_402 (hstr_107) hat_49 hgood_45_49 (dg dc_H_fails 6 rfl) (dg dc_H_fails 7 rfl) (dg dc_H_fails 8 rfl) (dg dc_H_fails 9 rfl) (dg dc_H_fails 10 rfl) (Nat.le_of_ble_eq_true rfl) (Nat.le_of_ble_eq_true rfl) (Nat.le_of_ble_eq_true rfl) (Nat.le_of_ble_eq_true rfl) (Nat.le_of_ble_eq_true rfl) (Nat.le_of_ble_eq_true rfl) rfl
set_option maxRecDepth 100000 in
set_option maxHeartbeats 4000000 in
theorem jl_H_shrink_0_L154 (l : Launch) (Dv : va_G) (fu : Nat) (r : S_R) (out : Nat → Int64) (κ : ev_ka) (X : ev_X l Dv gaX mu_H_shrink κ) (T : ev_TX l Dv gaX deX mu_H_shrink κ) (H : S_H) (v4 : Int32) (v5 : Int32) : ev_J l Dv gaX mu_H_shrink κ 154 0 0 [some (.ref 0), none, none, none, some (.int v4), some (.int v5), none] [] (hpW H r out) (f_H_shrink_L154 fu H v4 v5) (fun q => (ev_sv q.1, hpW q.2 r out)) := by
  unfold f_H_shrink_L154
  refine js_aload_n (n := 155) X (dg dc_H_shrink 74 rfl) rfl rfl rfl ?_
  refine js_dup (n := 156) X (dg dc_H_shrink 75 rfl) rfl rfl ?_
  refine js_getf (j := 4) (v := .int H.2.2.2.2.1) (n := 159) X (dg dc_H_shrink 76 rfl) rfl hC_H (Nat.le_of_ble_eq_true rfl) hw_426 rfl rfl ?_
  refine js_iload (n := 161) X (dg dc_H_shrink 77 rfl) rfl rfl ?_
  refine js_iadd (n := 162) X (dg dc_H_shrink 78 rfl) rfl ?_
  refine js_puti (j := 4) (n := 165) X (dg dc_H_shrink 79 rfl) rfl hC_H (Nat.le_of_ble_eq_true rfl) hw_426 rfl rfl (Or.inl rfl) (Nat.le_of_ble_eq_true rfl) ?_
  refine js_aload_n (n := 166) X (dg dc_H_shrink 80 rfl) rfl rfl rfl ?_
  refine js_getf (j := 2) (v := .ref 11) (n := 169) X (dg dc_H_shrink 81 rfl) rfl hC_H (Nat.le_of_ble_eq_true rfl) hw_418 rfl rfl ?_
  refine js_aload_n (n := 170) X (dg dc_H_shrink 82 rfl) rfl rfl rfl ?_
  refine js_getf (j := 0) (v := .ref 1) (n := 173) X (dg dc_H_shrink 83 rfl) rfl hC_H (Nat.le_of_ble_eq_true rfl) hw_0 rfl rfl ?_
  refine js_iload (n := 175) X (dg dc_H_shrink 84 rfl) rfl rfl ?_
  refine js_callV (na := 2) (ci := 2) (n := 178) X (dg dc_H_shrink 85 rfl) rfl (c_T_test_11_1 l Dv fu (H.1, H.2.1, H.2.2.1, H.2.2.2.1, H.2.2.2.2.1 + v5, H.2.2.2.2.2) r out H.2.2.1 H.1 v4) gV_H_103 rfl rfl hy_T_test ⟨(Nat.le_of_ble_eq_true rfl), (Nat.le_of_ble_eq_true rfl)⟩ rfl ⟨(Nat.le_of_ble_eq_true rfl), (Nat.le_of_ble_eq_true rfl)⟩ rfl rfl rfl rfl rfl ?_
  rintro ⟨r175, T_175⟩
  refine js_pop (n := 179) X (dg dc_H_shrink 86 rfl) rfl rfl ?_
  refine js_iload (n := 181) X (dg dc_H_shrink 87 rfl) rfl rfl ?_
  exact js_retI X (dg dc_H_shrink 88 rfl) rfl (Nat.le_of_ble_eq_true rfl) (Nat.le_of_ble_eq_true rfl) rfl
set_option maxRecDepth 100000 in
set_option maxHeartbeats 4000000 in
theorem jl_H_shrink_0_L68 (l : Launch) (Dv : va_G) (fu : Nat) (r : S_R) (out : Nat → Int64) (κ : ev_ka) (X : ev_X l Dv gaX mu_H_shrink κ) (T : ev_TX l Dv gaX deX mu_H_shrink κ) : ∀ (n : Nat) (H : S_H) (v1 : Int64) (v3 : Int32) (v4 : Int32) (v5 : Int32) (v6 : Int32), ev_J l Dv gaX mu_H_shrink κ 68 0 0 [some (.ref 0), some (.long v1), none, some (.int v3), some (.int v4), some (.int v5), some (.int v6)] [] (hpW H r out) (f_H_shrink_L68 fu n H v1 v3 v4 v5 v6) (fun q => (ev_sv q.1, hpW q.2 r out)) := by
  intro n
  induction n with
  | zero => exact fun _ _ _ _ _ _ => js_none
  | succ n ih =>
    intro H v1 v3 v4 v5 v6
    unfold f_H_shrink_L68
    refine js_iload (n := 70) X (dg dc_H_shrink 36 rfl) rfl rfl ?_
    refine js_bipush (n := 72) 44 X (dg dc_H_shrink 37 rfl) rfl (by decide) ?_
    refine js_icmp_ge (t := 154) (n := 75) X (dg dc_H_shrink 38 rfl) (by decide) rfl ?_ ?_
    · exact js_keep [true, false, false, false, true, true, false] (jl_H_shrink_0_L154 l Dv fu r out κ X T H v4 v5)
    refine js_iload (n := 77) X (dg dc_H_shrink 39 rfl) rfl rfl ?_
    refine js_sipush (n := 80) 1000 X (dg dc_H_shrink 40 rfl) rfl (by decide) ?_
    refine js_icmp_ge (t := 154) (n := 83) X (dg dc_H_shrink 41 rfl) (by decide) rfl ?_ ?_
    · exact js_keep [true, false, false, false, true, true, false] (jl_H_shrink_0_L154 l Dv fu r out κ X T H v4 v5)
    refine js_aload_n (n := 84) X (dg dc_H_shrink 42 rfl) rfl rfl rfl ?_
    refine js_iload (n := 86) X (dg dc_H_shrink 43 rfl) rfl rfl ?_
    refine js_callV (na := 1) (ci := 0) (n := 89) X (dg dc_H_shrink 44 rfl) rfl (c_H_prepareCandidate_0 l Dv fu r out H v6) gV_H_118 rfl rfl hy_H_prepareCandidate ⟨(Nat.le_of_ble_eq_true rfl), (Nat.le_of_ble_eq_true rfl)⟩ rfl ⟨(Nat.le_of_ble_eq_true rfl), (Nat.le_of_ble_eq_true rfl)⟩ rfl rfl rfl rfl rfl ?_
    rintro ⟨r86, H_86⟩
    refine js_if_eq (t := 148) (n := 92) X (dg dc_H_shrink 45 rfl) (by decide) rfl ?_ ?_
    · refine js_iinc (lo' := [some (.ref 0), some (.long v1), none, some (.int v3), some (.int v4), some (.int v5), some (.int (v6 + 1))]) (n := 151) 1 X (dg dc_H_shrink 72 rfl) rfl (by decide) (Nat.le_of_ble_eq_true rfl) rfl rfl ?_
      refine js_goto (t := 68) X (dg dc_H_shrink 73 rfl) (by decide) ?_
      exact js_keep [true, true, false, true, true, true, true] (ih H_86 v1 v3 v4 v5 (v6 + 1))
    refine js_aload_n (n := 93) X (dg dc_H_shrink 46 rfl) rfl rfl rfl ?_
    refine js_getf (j := 1) (v := .ref 6) (n := 96) X (dg dc_H_shrink 47 rfl) rfl hC_H (Nat.le_of_ble_eq_true rfl) hw_12 rfl rfl ?_
    refine js_callV (na := 0) (ci := 1) (n := 99) X (dg dc_H_shrink 48 rfl) rfl (c_P_isValid_6 l Dv fu H_86 r out H_86.2.1) gV_H_121 rfl rfl hy_P_isValid ⟨(Nat.le_of_ble_eq_true rfl), (Nat.le_of_ble_eq_true rfl)⟩ rfl ⟨(Nat.le_of_ble_eq_true rfl), (Nat.le_of_ble_eq_true rfl)⟩ rfl rfl rfl rfl rfl ?_
    intro r96
    refine js_if_eq (t := 148) (n := 102) X (dg dc_H_shrink 49 rfl) (by decide) rfl ?_ ?_
    · refine js_iinc (lo' := [some (.ref 0), some (.long v1), none, some (.int v3), some (.int v4), some (.int v5), some (.int (v6 + 1))]) (n := 151) 1 X (dg dc_H_shrink 72 rfl) rfl (by decide) (Nat.le_of_ble_eq_true rfl) rfl rfl ?_
      refine js_goto (t := 68) X (dg dc_H_shrink 73 rfl) (by decide) ?_
      exact js_keep [true, true, false, true, true, true, true] (ih H_86 v1 v3 v4 v5 (v6 + 1))
    refine js_aload_n (n := 103) X (dg dc_H_shrink 50 rfl) rfl rfl rfl ?_
    refine js_getf (j := 2) (v := .ref 11) (n := 106) X (dg dc_H_shrink 51 rfl) rfl hC_H (Nat.le_of_ble_eq_true rfl) hw_418 rfl rfl ?_
    refine js_aload_n (n := 107) X (dg dc_H_shrink 52 rfl) rfl rfl rfl ?_
    refine js_getf (j := 1) (v := .ref 6) (n := 110) X (dg dc_H_shrink 53 rfl) rfl hC_H (Nat.le_of_ble_eq_true rfl) hw_12 rfl rfl ?_
    refine js_lload_n (n := 111) X (dg dc_H_shrink 54 rfl) rfl rfl rfl ?_
    refine js_iload_n (n := 112) X (dg dc_H_shrink 55 rfl) rfl rfl rfl ?_
    refine js_callV (na := 3) (ci := 2) (n := 115) X (dg dc_H_shrink 56 rfl) rfl (c_T_firstFailure_11_6 l Dv fu H_86 r out H_86.2.2.1 H_86.2.1 v1 v3) gV_H_109 rfl rfl hy_T_firstFailure ⟨(Nat.le_of_ble_eq_true rfl), (Nat.le_of_ble_eq_true rfl)⟩ rfl ⟨(Nat.le_of_ble_eq_true rfl), (Nat.le_of_ble_eq_true rfl)⟩ rfl rfl rfl rfl rfl ?_
    rintro ⟨r112, T_112⟩
    refine js_iconst (n := 116) (-1) X (dg dc_H_shrink 57 rfl) rfl (by decide) ?_
    refine js_icmp_eq (t := 148) (n := 119) X (dg dc_H_shrink 58 rfl) (by decide) rfl ?_ ?_
    · refine js_iinc (lo' := [some (.ref 0), some (.long v1), none, some (.int v3), some (.int v4), some (.int v5), some (.int (v6 + 1))]) (n := 151) 1 X (dg dc_H_shrink 72 rfl) rfl (by decide) (Nat.le_of_ble_eq_true rfl) rfl rfl ?_
      refine js_goto (t := 68) X (dg dc_H_shrink 73 rfl) (by decide) ?_
      exact js_keep [true, true, false, true, true, true, true] (ih (H_86.1, H_86.2.1, T_112, H_86.2.2.2) v1 v3 v4 v5 (v6 + 1))
    refine js_aload_n (n := 120) X (dg dc_H_shrink 59 rfl) rfl rfl rfl ?_
    refine js_getf (j := 0) (v := .ref 1) (n := 123) X (dg dc_H_shrink 60 rfl) rfl hC_H (Nat.le_of_ble_eq_true rfl) hw_0 rfl rfl ?_
    refine js_aload_n (n := 124) X (dg dc_H_shrink 61 rfl) rfl rfl rfl ?_
    refine js_getf (j := 1) (v := .ref 6) (n := 127) X (dg dc_H_shrink 62 rfl) rfl hC_H (Nat.le_of_ble_eq_true rfl) hw_12 rfl rfl ?_
    refine js_callV (na := 1) (ci := 1) (n := 130) X (dg dc_H_shrink 63 rfl) rfl (c_P_copyFrom_1_6 l Dv fu (H_86.1, H_86.2.1, T_112, H_86.2.2.2) r out H_86.1 H_86.2.1) gV_H_125 rfl rfl hy_P_copyFrom ⟨(Nat.le_of_ble_eq_true rfl), (Nat.le_of_ble_eq_true rfl)⟩ rfl ⟨(Nat.le_of_ble_eq_true rfl), (Nat.le_of_ble_eq_true rfl)⟩ rfl rfl rfl rfl rfl ?_
    intro P_127
    refine js_aload_n (n := 131) X (dg dc_H_shrink 64 rfl) rfl rfl rfl ?_
    refine js_getf (j := 2) (v := .ref 11) (n := 134) X (dg dc_H_shrink 65 rfl) rfl hC_H (Nat.le_of_ble_eq_true rfl) hw_418 rfl rfl ?_
    refine js_getf (j := 6) (v := .int T_112.2.2.2.2.2.2.1) (n := 137) X (dg dc_H_shrink 66 rfl) rfl hC_T (Nat.le_of_ble_eq_true rfl) hw_425 rfl rfl ?_
    refine js_istore (lo' := [some (.ref 0), some (.long v1), none, some (.int v3), some (.int T_112.2.2.2.2.2.2.1), some (.int v5), some (.int v6)]) (n := 139) X (dg dc_H_shrink 67 rfl) rfl (Nat.le_of_ble_eq_true rfl) rfl ?_
    refine js_iinc (lo' := [some (.ref 0), some (.long v1), none, some (.int v3), some (.int T_112.2.2.2.2.2.2.1), some (.int (v5 + 1)), some (.int v6)]) (n := 142) 1 X (dg dc_H_shrink 68 rfl) rfl (by decide) (Nat.le_of_ble_eq_true rfl) rfl rfl ?_
    refine js_iconst (n := 143) 0 X (dg dc_H_shrink 69 rfl) rfl (by decide) ?_
    refine js_istore (lo' := [some (.ref 0), some (.long v1), none, some (.int v3), some (.int T_112.2.2.2.2.2.2.1), some (.int (v5 + 1)), some (.int 0)]) (n := 145) X (dg dc_H_shrink 70 rfl) rfl (Nat.le_of_ble_eq_true rfl) rfl ?_
    refine js_goto (t := 68) X (dg dc_H_shrink 71 rfl) (by decide) ?_
    exact js_keep [true, true, false, true, true, true, true] (ih (P_127, H_86.2.1, T_112, H_86.2.2.2) v1 v3 T_112.2.2.2.2.2.2.1 (v5 + 1) 0)
set_option maxRecDepth 100000 in
set_option maxHeartbeats 4000000 in
theorem c_H_shrink_0 (l : Launch) (hst : l.stackTraces = false) (Dv : va_G) (fu : Nat) (r : S_R) (out : Nat → Int64) (H : S_H) (a1 : Int64) (a3 : Int32) : ev_MX l Dv gaX deX mu_H_shrink [.ref 0, .long a1, .int a3] (hpW H r out) (f_H_shrink fu H a1 a3) (fun q => (ev_sv q.1, hpW q.2 r out)) := by
  refine ev_metX (lo0 := [some (.ref 0), some (.long a1), none, some (.int a3), none, none, none]) hst rfl rfl rfl (fun κ X T => ?_)
  unfold f_H_shrink
  refine js_iload_n (n := 1) X (dg dc_H_shrink 0 rfl) rfl rfl rfl ?_
  refine js_iconst (n := 2) 1 X (dg dc_H_shrink 1 rfl) rfl (by decide) ?_
  refine js_icmp_lt (t := 11) (n := 5) X (dg dc_H_shrink 2 rfl) (by decide) rfl ?_ ?_
  · exact js_throwS (n9 := 1) X T rfl (by decide +kernel) hnmX hw_401 hw_402 (hstr_107) hat_49 hgood_45_49 (dg dc_H_shrink 6 rfl) (dg dc_H_shrink 7 rfl) (dg dc_H_shrink 8 rfl) (dg dc_H_shrink 9 rfl) (dg dc_H_shrink 10 rfl) (Nat.le_of_ble_eq_true rfl) (Nat.le_of_ble_eq_true rfl) (Nat.le_of_ble_eq_true rfl) (Nat.le_of_ble_eq_true rfl) (Nat.le_of_ble_eq_true rfl) (Nat.le_of_ble_eq_true rfl) rfl
  refine js_iload_n (n := 6) X (dg dc_H_shrink 3 rfl) rfl rfl rfl ?_
  refine js_bipush (n := 8) 50 X (dg dc_H_shrink 4 rfl) rfl (by decide) ?_
  refine js_icmp_le (t := 21) (n := 11) X (dg dc_H_shrink 5 rfl) (by decide) rfl ?_ ?_
  · refine js_aload_n (n := 22) X (dg dc_H_shrink 11 rfl) rfl rfl rfl ?_
    refine js_iconst (n := 23) 1 X (dg dc_H_shrink 12 rfl) rfl (by decide) ?_
    refine js_putz (j := 5) (n := 26) X (dg dc_H_shrink 13 rfl) rfl hC_H (Nat.le_of_ble_eq_true rfl) hw_11 rfl rfl (Or.inl rfl) (Nat.le_of_ble_eq_true rfl) ?_
    refine js_aload_n (n := 27) X (dg dc_H_shrink 14 rfl) rfl rfl rfl ?_
    refine js_getf (j := 2) (v := .ref 11) (n := 30) X (dg dc_H_shrink 15 rfl) rfl hC_H (Nat.le_of_ble_eq_true rfl) hw_418 rfl rfl ?_
    refine js_aload_n (n := 31) X (dg dc_H_shrink 16 rfl) rfl rfl rfl ?_
    refine js_getf (j := 0) (v := .ref 1) (n := 34) X (dg dc_H_shrink 17 rfl) rfl hC_H (Nat.le_of_ble_eq_true rfl) hw_0 rfl rfl ?_
    refine js_lload_n (n := 35) X (dg dc_H_shrink 18 rfl) rfl rfl rfl ?_
    refine js_iload_n (n := 36) X (dg dc_H_shrink 19 rfl) rfl rfl rfl ?_
    refine js_callV (na := 3) (ci := 2) (n := 39) X (dg dc_H_shrink 20 rfl) rfl (c_T_firstFailure_11_1 l Dv fu (H.1, H.2.1, H.2.2.1, H.2.2.2.1, H.2.2.2.2.1, 1) r out H.2.2.1 H.1 a1 a3) gV_H_109 rfl rfl hy_T_firstFailure ⟨(Nat.le_of_ble_eq_true rfl), (Nat.le_of_ble_eq_true rfl)⟩ rfl ⟨(Nat.le_of_ble_eq_true rfl), (Nat.le_of_ble_eq_true rfl)⟩ rfl rfl rfl rfl rfl ?_
    rintro ⟨r36, T_36⟩
    refine js_iconst (n := 40) (-1) X (dg dc_H_shrink 21 rfl) rfl (by decide) ?_
    refine js_icmp_ne (t := 53) (n := 43) X (dg dc_H_shrink 22 rfl) (by decide) rfl ?_ ?_
    · refine js_aload_n (n := 54) X (dg dc_H_shrink 28 rfl) rfl rfl rfl ?_
      refine js_getf (j := 2) (v := .ref 11) (n := 57) X (dg dc_H_shrink 29 rfl) rfl hC_H (Nat.le_of_ble_eq_true rfl) hw_418 rfl rfl ?_
      refine js_getf (j := 6) (v := .int T_36.2.2.2.2.2.2.1) (n := 60) X (dg dc_H_shrink 30 rfl) rfl hC_T (Nat.le_of_ble_eq_true rfl) hw_425 rfl rfl ?_
      refine js_istore (lo' := [some (.ref 0), some (.long a1), none, some (.int a3), some (.int T_36.2.2.2.2.2.2.1), none, none]) (n := 62) X (dg dc_H_shrink 31 rfl) rfl (Nat.le_of_ble_eq_true rfl) rfl ?_
      refine js_iconst (n := 63) 0 X (dg dc_H_shrink 32 rfl) rfl (by decide) ?_
      refine js_istore (lo' := [some (.ref 0), some (.long a1), none, some (.int a3), some (.int T_36.2.2.2.2.2.2.1), some (.int 0), none]) (n := 65) X (dg dc_H_shrink 33 rfl) rfl (Nat.le_of_ble_eq_true rfl) rfl ?_
      refine js_iconst (n := 66) 0 X (dg dc_H_shrink 34 rfl) rfl (by decide) ?_
      refine js_istore (lo' := [some (.ref 0), some (.long a1), none, some (.int a3), some (.int T_36.2.2.2.2.2.2.1), some (.int 0), some (.int 0)]) (n := 68) X (dg dc_H_shrink 35 rfl) rfl (Nat.le_of_ble_eq_true rfl) rfl ?_
      exact js_keep [true, true, false, true, true, true, true] (jl_H_shrink_0_L68 l Dv fu r out κ X T fu (H.1, H.2.1, T_36, H.2.2.2.1, H.2.2.2.2.1, 1) a1 a3 T_36.2.2.2.2.2.2.1 0 0)
    exact js_throwS (n9 := 2) X T rfl (by decide +kernel) hnmX hw_411 hw_412 (hstr_113) hat_65 hgood_61_65 (dg dc_H_shrink 23 rfl) (dg dc_H_shrink 24 rfl) (dg dc_H_shrink 25 rfl) (dg dc_H_shrink 26 rfl) (dg dc_H_shrink 27 rfl) (Nat.le_of_ble_eq_true rfl) (Nat.le_of_ble_eq_true rfl) (Nat.le_of_ble_eq_true rfl) (Nat.le_of_ble_eq_true rfl) (Nat.le_of_ble_eq_true rfl) (Nat.le_of_ble_eq_true rfl) rfl
  exact js_throwS (n9 := 1) X T rfl (by decide +kernel) hnmX hw_401 hw_402 (hstr_107) hat_49 hgood_45_49 (dg dc_H_shrink 6 rfl) (dg dc_H_shrink 7 rfl) (dg dc_H_shrink 8 rfl) (dg dc_H_shrink 9 rfl) (dg dc_H_shrink 10 rfl) (Nat.le_of_ble_eq_true rfl) (Nat.le_of_ble_eq_true rfl) (Nat.le_of_ble_eq_true rfl) (Nat.le_of_ble_eq_true rfl) (Nat.le_of_ble_eq_true rfl) (Nat.le_of_ble_eq_true rfl) rfl
