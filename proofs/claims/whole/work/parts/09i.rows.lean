set_option maxRecDepth 100000 in
set_option maxHeartbeats 4000000 in
theorem c_J_answersSo_1_12 (l : Launch) (Dv : va_G) (fu : Nat) (h : S_H) (r : S_R) (out : Nat → Int64) (P : S_P) (M1 : S_M) (a2 : Int32) (a3 : Int32) : ev_M l Dv gaX mu_J_answersSo [.ref 1, .ref 12, .int a2, .int a3] (hpW (P, h.2.1, (M1, h.2.2.1.2), h.2.2.2) r out) (f_J_answersSo fu P M1 a2 a3) (fun q => (some (.int q), hpW (P, h.2.1, (M1, h.2.2.1.2), h.2.2.2) r out)) := by
  refine ev_met (lo0 := [some (.ref 1), some (.ref 12), some (.int a2), some (.int a3), none]) rfl rfl rfl (fun κ X => ?_)
  unfold f_J_answersSo
  refine js_iload_n (n := 1) X (dg dc_J_answersSo 0 rfl) rfl rfl rfl ?_
  refine js_aload_n (n := 2) X (dg dc_J_answersSo 1 rfl) rfl rfl rfl ?_
  refine js_getf (j := 1) (v := .ref 3) (n := 5) X (dg dc_J_answersSo 2 rfl) rfl hC_P (Nat.le_of_ble_eq_true rfl) hw_357 rfl rfl ?_
  refine js_iload_n (n := 6) X (dg dc_J_answersSo 3 rfl) rfl rfl rfl ?_
  refine js_iaload (f := P.2.1) (n := 7) X (dg dc_J_answersSo 4 rfl) rfl rfl ?_
  refine js_aload_n (n := 8) X (dg dc_J_answersSo 5 rfl) rfl rfl rfl ?_
  refine js_getf (j := 2) (v := .ref 4) (n := 11) X (dg dc_J_answersSo 6 rfl) rfl hC_P (Nat.le_of_ble_eq_true rfl) hw_358 rfl rfl ?_
  refine js_iload_n (n := 12) X (dg dc_J_answersSo 7 rfl) rfl rfl rfl ?_
  refine js_iaload (f := P.2.2.1) (n := 13) X (dg dc_J_answersSo 8 rfl) rfl rfl ?_
  refine js_aload_n (n := 14) X (dg dc_J_answersSo 9 rfl) rfl rfl rfl ?_
  refine js_getf (j := 1) (v := .ref 14) (n := 17) X (dg dc_J_answersSo 10 rfl) rfl hC_M (Nat.le_of_ble_eq_true rfl) hw_359 rfl rfl ?_
  refine js_iload_n (n := 18) X (dg dc_J_answersSo 11 rfl) rfl rfl rfl ?_
  refine js_iaload (f := M1.2.1) (n := 19) X (dg dc_J_answersSo 12 rfl) rfl rfl ?_
  refine js_callS (na := 4) (n := 22) X (dg dc_J_answersSo 13 rfl) rfl (c_O_answer l Dv fu _ a2 (P.2.1 (ix a3)) (P.2.2.1 (ix a3)) (M1.2.1 (ix a3))) gS_J_55 rfl rfl hy_O_answer.2 ⟨(Nat.le_of_ble_eq_true rfl), (Nat.le_of_ble_eq_true rfl)⟩ ⟨(Nat.le_of_ble_eq_true rfl), (Nat.le_of_ble_eq_true rfl)⟩ rfl rfl rfl rfl ?_
  intro r19
  refine js_istore (lo' := [some (.ref 1), some (.ref 12), some (.int a2), some (.int a3), some (.int r19)]) (n := 24) X (dg dc_J_answersSo 14 rfl) rfl (Nat.le_of_ble_eq_true rfl) rfl ?_
  refine js_iload (n := 26) X (dg dc_J_answersSo 15 rfl) rfl rfl ?_
  refine js_aload_n (n := 27) X (dg dc_J_answersSo 16 rfl) rfl rfl rfl ?_
  refine js_getf (j := 0) (v := .ref 13) (n := 30) X (dg dc_J_answersSo 17 rfl) rfl hC_M (Nat.le_of_ble_eq_true rfl) hw_361 rfl rfl ?_
  refine js_iload_n (n := 31) X (dg dc_J_answersSo 18 rfl) rfl rfl rfl ?_
  refine js_iaload (f := M1.1) (n := 32) X (dg dc_J_answersSo 19 rfl) rfl rfl ?_
  refine js_icmp_ne (t := 39) (n := 35) X (dg dc_J_answersSo 20 rfl) (by decide) rfl ?_ ?_
  · refine js_iconst (n := 40) 0 X (dg dc_J_answersSo 23 rfl) rfl (by decide) ?_
    exact js_retZ X (dg dc_J_answersSo 24 rfl) rfl (Nat.le_of_ble_eq_true rfl) (Nat.le_of_ble_eq_true rfl) rfl
  refine js_iconst (n := 36) 1 X (dg dc_J_answersSo 21 rfl) rfl (by decide) ?_
  refine js_goto (t := 40) X (dg dc_J_answersSo 22 rfl) (by decide) ?_
  exact js_retZ X (dg dc_J_answersSo 24 rfl) rfl (Nat.le_of_ble_eq_true rfl) (Nat.le_of_ble_eq_true rfl) rfl
set_option maxRecDepth 100000 in
set_option maxHeartbeats 4000000 in
theorem c_J_after_1_12 (l : Launch) (Dv : va_G) (fu : Nat) (h : S_H) (r : S_R) (out : Nat → Int64) (P : S_P) (M1 : S_M) (a2 : Int32) (a3 : Int32) : ev_M l Dv gaX mu_J_after [.ref 1, .ref 12, .int a2, .int a3] (hpW (P, h.2.1, (M1, h.2.2.1.2), h.2.2.2) r out) (f_J_after fu P M1 a2 a3) (fun q => (some (.int q), hpW (P, h.2.1, (M1, h.2.2.1.2), h.2.2.2) r out)) := by
  refine ev_met (lo0 := [some (.ref 1), some (.ref 12), some (.int a2), some (.int a3)]) rfl rfl rfl (fun κ X => ?_)
  unfold f_J_after
  refine js_iload_n (n := 1) X (dg dc_J_after 0 rfl) rfl rfl rfl ?_
  refine js_aload_n (n := 2) X (dg dc_J_after 1 rfl) rfl rfl rfl ?_
  refine js_getf (j := 1) (v := .ref 3) (n := 5) X (dg dc_J_after 2 rfl) rfl hC_P (Nat.le_of_ble_eq_true rfl) hw_357 rfl rfl ?_
  refine js_iload_n (n := 6) X (dg dc_J_after 3 rfl) rfl rfl rfl ?_
  refine js_iaload (f := P.2.1) (n := 7) X (dg dc_J_after 4 rfl) rfl rfl ?_
  refine js_aload_n (n := 8) X (dg dc_J_after 5 rfl) rfl rfl rfl ?_
  refine js_getf (j := 2) (v := .ref 4) (n := 11) X (dg dc_J_after 6 rfl) rfl hC_P (Nat.le_of_ble_eq_true rfl) hw_358 rfl rfl ?_
  refine js_iload_n (n := 12) X (dg dc_J_after 7 rfl) rfl rfl rfl ?_
  refine js_iaload (f := P.2.2.1) (n := 13) X (dg dc_J_after 8 rfl) rfl rfl ?_
  refine js_aload_n (n := 14) X (dg dc_J_after 9 rfl) rfl rfl rfl ?_
  refine js_getf (j := 1) (v := .ref 14) (n := 17) X (dg dc_J_after 10 rfl) rfl hC_M (Nat.le_of_ble_eq_true rfl) hw_359 rfl rfl ?_
  refine js_iload_n (n := 18) X (dg dc_J_after 11 rfl) rfl rfl rfl ?_
  refine js_iaload (f := M1.2.1) (n := 19) X (dg dc_J_after 12 rfl) rfl rfl ?_
  refine js_callS (na := 4) (n := 22) X (dg dc_J_after 13 rfl) rfl (c_O_after l Dv fu _ a2 (P.2.1 (ix a3)) (P.2.2.1 (ix a3)) (M1.2.1 (ix a3))) gS_J_62 rfl rfl hy_O_after.2 ⟨(Nat.le_of_ble_eq_true rfl), (Nat.le_of_ble_eq_true rfl)⟩ ⟨(Nat.le_of_ble_eq_true rfl), (Nat.le_of_ble_eq_true rfl)⟩ rfl rfl rfl rfl ?_
  intro r19
  exact js_retI X (dg dc_J_after 14 rfl) rfl (Nat.le_of_ble_eq_true rfl) (Nat.le_of_ble_eq_true rfl) rfl
set_option maxRecDepth 100000 in
set_option maxHeartbeats 4000000 in
theorem jl_J_search_20_1_12_L182 (l : Launch) (Dv : va_G) (fu : Nat) (h : S_H) (r : S_R) (out : Nat → Int64) (rc : S_J → S_P → S_M → Int32 → Int32 → Int32 → Int32 → Option (Int32 × S_J)) (d : Nat) (hrc : ∀ (J : S_J) (P1 : S_P) (M2 : S_M) (a3 : Int32) (a4 : Int32) (a5 : Int32) (a6 : Int32), ev_M l Dv gaX (mu_J_search d) [.ref 20, .ref 1, .ref 12, .int a3, .int a4, .int a5, .int a6] (hpW (P1, h.2.1, (M2, J, h.2.2.1.2.2), h.2.2.2) r out) (rc J P1 M2 a3 a4 a5 a6) (fun q => (some (.int q.1), hpW (P1, h.2.1, (M2, q.2, h.2.2.1.2.2), h.2.2.2) r out))) (κ : ev_ka) (X : ev_X l Dv gaX (mu_J_search (d + 1)) κ) (P1 : S_P) (M2 : S_M) (J : S_J) (v3 : Int32) (v4 : Int32) (v5 : Int32) (v6 : Int32) (s0 : Int32) : ev_J l Dv gaX (mu_J_search (d + 1)) κ 182 0 0 [some (.ref 20), some (.ref 1), some (.ref 12), some (.int v3), some (.int v4), some (.int v5), some (.int v6), none, none, none, none, none] [.int s0] (hpW (P1, h.2.1, (M2, J, h.2.2.1.2.2), h.2.2.2) r out) (f_J_search_L182 fu rc P1 M2 J v3 v4 v5 v6 s0) (fun q => (some (.int q.1), hpW (P1, h.2.1, (M2, q.2, h.2.2.1.2.2), h.2.2.2) r out)) := by
  unfold f_J_search_L182
  refine js_istore (lo' := [some (.ref 20), some (.ref 1), some (.ref 12), some (.int v3), some (.int v4), some (.int v5), some (.int v6), none, none, none, some (.int s0), none]) (n := 184) X (dg dc_J_search 98 rfl) rfl (Nat.le_of_ble_eq_true rfl) rfl ?_
  refine js_iload (n := 186) X (dg dc_J_search 99 rfl) rfl rfl ?_
  refine js_if_eq (t := 238) (n := 189) X (dg dc_J_search 100 rfl) (by decide) rfl ?_ ?_
  · refine js_iconst (n := 239) 0 X (dg dc_J_search 131 rfl) rfl (by decide) ?_
    exact js_retZ X (dg dc_J_search 132 rfl) rfl (Nat.le_of_ble_eq_true rfl) (Nat.le_of_ble_eq_true rfl) rfl
  refine js_aload_n (n := 190) X (dg dc_J_search 101 rfl) rfl rfl rfl ?_
  refine js_aload_n (n := 191) X (dg dc_J_search 102 rfl) rfl rfl rfl ?_
  refine js_iload_n (n := 192) X (dg dc_J_search 103 rfl) rfl rfl rfl ?_
  refine js_iload (n := 194) X (dg dc_J_search 104 rfl) rfl rfl ?_
  refine js_callS (na := 4) (n := 197) X (dg dc_J_search 105 rfl) rfl (c_J_answersSo_1_12 l Dv fu (P1, h.2.1, (M2, J, h.2.2.1.2.2), h.2.2.2) r out P1 M2 v3 v5) gS_J_23 rfl rfl hy_J_answersSo.2 ⟨by show 2 + 1 ≤ d + 1 + 3; omega, by show 8 + (5 + 11) + 44 ≤ (d + 1) * 31 + 70; omega⟩ ⟨(Nat.le_of_ble_eq_true rfl), (Nat.le_of_ble_eq_true rfl)⟩ rfl rfl rfl rfl ?_
  intro r194
  refine js_if_eq (t := 238) (n := 200) X (dg dc_J_search 106 rfl) (by decide) rfl ?_ ?_
  · refine js_iconst (n := 239) 0 X (dg dc_J_search 131 rfl) rfl (by decide) ?_
    exact js_retZ X (dg dc_J_search 132 rfl) rfl (Nat.le_of_ble_eq_true rfl) (Nat.le_of_ble_eq_true rfl) rfl
  refine js_aload_n (n := 201) X (dg dc_J_search 107 rfl) rfl rfl rfl ?_
  refine js_getf (j := 0) (v := .ref 21) (n := 204) X (dg dc_J_search 108 rfl) rfl hC_J (Nat.le_of_ble_eq_true rfl) hw_356 rfl rfl ?_
  refine js_iload (n := 206) X (dg dc_J_search 109 rfl) rfl rfl ?_
  refine js_iload (n := 208) X (dg dc_J_search 110 rfl) rfl rfl ?_
  refine js_iastore (f := J) (n := 209) X (dg dc_J_search 111 rfl) rfl rfl ?_
  refine js_aload_n (n := 210) X (dg dc_J_search 112 rfl) rfl rfl rfl ?_
  refine js_aload_n (n := 211) X (dg dc_J_search 113 rfl) rfl rfl rfl ?_
  refine js_iload_n (n := 212) X (dg dc_J_search 114 rfl) rfl rfl rfl ?_
  refine js_iload (n := 214) X (dg dc_J_search 115 rfl) rfl rfl ?_
  refine js_callS (na := 4) (n := 217) X (dg dc_J_search 116 rfl) rfl (c_J_after_1_12 l Dv fu (P1, h.2.1, (M2, (upd J (ix v6) v5), h.2.2.1.2.2), h.2.2.2) r out P1 M2 v3 v5) gS_J_27 rfl rfl hy_J_after.2 ⟨by show 2 + 1 ≤ d + 1 + 3; omega, by show 8 + (4 + 11) + 47 ≤ (d + 1) * 31 + 70; omega⟩ ⟨(Nat.le_of_ble_eq_true rfl), (Nat.le_of_ble_eq_true rfl)⟩ rfl rfl rfl rfl ?_
  intro r214
  refine js_istore (lo' := [some (.ref 20), some (.ref 1), some (.ref 12), some (.int v3), some (.int v4), some (.int v5), some (.int v6), none, none, none, some (.int s0), some (.int r214)]) (n := 219) X (dg dc_J_search 117 rfl) rfl (Nat.le_of_ble_eq_true rfl) rfl ?_
  refine js_aload_n (n := 220) X (dg dc_J_search 118 rfl) rfl rfl rfl ?_
  refine js_aload_n (n := 221) X (dg dc_J_search 119 rfl) rfl rfl rfl ?_
  refine js_aload_n (n := 222) X (dg dc_J_search 120 rfl) rfl rfl rfl ?_
  refine js_iload (n := 224) X (dg dc_J_search 121 rfl) rfl rfl ?_
  refine js_iload (n := 226) X (dg dc_J_search 122 rfl) rfl rfl ?_
  refine js_iload (n := 228) X (dg dc_J_search 123 rfl) rfl rfl ?_
  refine js_iconst (n := 229) 1 X (dg dc_J_search 124 rfl) rfl (by decide) ?_
  refine js_iadd (n := 230) X (dg dc_J_search 125 rfl) rfl ?_
  refine js_iload (n := 232) X (dg dc_J_search 126 rfl) rfl rfl ?_
  refine js_iconst (n := 233) 1 X (dg dc_J_search 127 rfl) rfl (by decide) ?_
  refine js_iadd (n := 234) X (dg dc_J_search 128 rfl) rfl ?_
  refine js_callV (na := 6) (ci := 4) (n := 237) X (dg dc_J_search 129 rfl) rfl (hrc (upd J (ix v6) v5) P1 M2 r214 v4 (v5 + 1) (v6 + 1)) gV_J_34 rfl rfl hy_J_search ⟨by show d + 3 + 1 ≤ d + 1 + 3; omega, by show 8 + (12 + 11) + (d * 31 + 70) ≤ (d + 1) * 31 + 70; omega⟩ rfl ⟨(Nat.le_of_ble_eq_true rfl), (Nat.le_of_ble_eq_true rfl)⟩ rfl rfl rfl rfl rfl ?_
  rintro ⟨r234, J_234⟩
  exact js_retZ X (dg dc_J_search 130 rfl) rfl (Nat.le_of_ble_eq_true rfl) (Nat.le_of_ble_eq_true rfl) rfl
set_option maxRecDepth 100000 in
set_option maxHeartbeats 4000000 in
theorem jl_J_search_20_1_12_L150 (l : Launch) (Dv : va_G) (fu : Nat) (h : S_H) (r : S_R) (out : Nat → Int64) (rc : S_J → S_P → S_M → Int32 → Int32 → Int32 → Int32 → Option (Int32 × S_J)) (d : Nat) (hrc : ∀ (J : S_J) (P1 : S_P) (M2 : S_M) (a3 : Int32) (a4 : Int32) (a5 : Int32) (a6 : Int32), ev_M l Dv gaX (mu_J_search d) [.ref 20, .ref 1, .ref 12, .int a3, .int a4, .int a5, .int a6] (hpW (P1, h.2.1, (M2, J, h.2.2.1.2.2), h.2.2.2) r out) (rc J P1 M2 a3 a4 a5 a6) (fun q => (some (.int q.1), hpW (P1, h.2.1, (M2, q.2, h.2.2.1.2.2), h.2.2.2) r out))) (κ : ev_ka) (X : ev_X l Dv gaX (mu_J_search (d + 1)) κ) (P1 : S_P) (M2 : S_M) (J : S_J) (v3 : Int32) (v4 : Int32) (v5 : Int32) (v6 : Int32) (v7 : Int32) (v8 : Int32) : ev_J l Dv gaX (mu_J_search (d + 1)) κ 150 0 0 [some (.ref 20), some (.ref 1), some (.ref 12), some (.int v3), some (.int v4), some (.int v5), some (.int v6), some (.int v7), some (.int v8), none, none, none] [] (hpW (P1, h.2.1, (M2, J, h.2.2.1.2.2), h.2.2.2) r out) (f_J_search_L150 fu rc P1 M2 J v3 v4 v5 v6 v7 v8) (fun q => (some (.int q.1), hpW (P1, h.2.1, (M2, q.2, h.2.2.1.2.2), h.2.2.2) r out)) := by
  unfold f_J_search_L150
  refine js_iload (n := 152) X (dg dc_J_search 82 rfl) rfl rfl ?_
  refine js_if_eq (t := 181) (n := 155) X (dg dc_J_search 83 rfl) (by decide) rfl ?_ ?_
  · refine js_iconst (n := 182) 0 X (dg dc_J_search 97 rfl) rfl (by decide) ?_
    exact js_keep [true, true, true, true, true, true, true, false, false, false, false, false] (jl_J_search_20_1_12_L182 l Dv fu h r out rc d hrc κ X P1 M2 J v3 v4 v5 v6 0)
  refine js_iload (n := 157) X (dg dc_J_search 84 rfl) rfl rfl ?_
  refine js_if_eq (t := 177) (n := 160) X (dg dc_J_search 85 rfl) (by decide) rfl ?_ ?_
  · refine js_iconst (n := 178) 1 X (dg dc_J_search 95 rfl) rfl (by decide) ?_
    refine js_goto (t := 182) X (dg dc_J_search 96 rfl) (by decide) ?_
    exact js_keep [true, true, true, true, true, true, true, false, false, false, false, false] (jl_J_search_20_1_12_L182 l Dv fu h r out rc d hrc κ X P1 M2 J v3 v4 v5 v6 1)
  refine js_aload_n (n := 161) X (dg dc_J_search 86 rfl) rfl rfl rfl ?_
  refine js_getf (j := 3) (v := .ref 16) (n := 164) X (dg dc_J_search 87 rfl) rfl hC_M (Nat.le_of_ble_eq_true rfl) hw_374 rfl rfl ?_
  refine js_iload (n := 166) X (dg dc_J_search 88 rfl) rfl rfl ?_
  refine js_iaload (f := M2.2.2.2.1) (n := 167) X (dg dc_J_search 89 rfl) rfl rfl ?_
  refine js_aload_n (n := 168) X (dg dc_J_search 90 rfl) rfl rfl rfl ?_
  refine js_getf (j := 2) (v := .ref 15) (n := 171) X (dg dc_J_search 91 rfl) rfl hC_M (Nat.le_of_ble_eq_true rfl) hw_375 rfl rfl ?_
  refine js_iload (n := 173) X (dg dc_J_search 92 rfl) rfl rfl ?_
  refine js_iaload (f := M2.2.2.1) (n := 174) X (dg dc_J_search 93 rfl) rfl rfl ?_
  refine js_icmp_lt (t := 181) (n := 177) X (dg dc_J_search 94 rfl) (by decide) rfl ?_ ?_
  · refine js_iconst (n := 182) 0 X (dg dc_J_search 97 rfl) rfl (by decide) ?_
    exact js_keep [true, true, true, true, true, true, true, false, false, false, false, false] (jl_J_search_20_1_12_L182 l Dv fu h r out rc d hrc κ X P1 M2 J v3 v4 v5 v6 0)
  refine js_iconst (n := 178) 1 X (dg dc_J_search 95 rfl) rfl (by decide) ?_
  refine js_goto (t := 182) X (dg dc_J_search 96 rfl) (by decide) ?_
  exact js_keep [true, true, true, true, true, true, true, false, false, false, false, false] (jl_J_search_20_1_12_L182 l Dv fu h r out rc d hrc κ X P1 M2 J v3 v4 v5 v6 1)
set_option maxRecDepth 100000 in
set_option maxHeartbeats 4000000 in
theorem jl_J_search_20_1_12_L90 (l : Launch) (Dv : va_G) (fu : Nat) (h : S_H) (r : S_R) (out : Nat → Int64) (rc : S_J → S_P → S_M → Int32 → Int32 → Int32 → Int32 → Option (Int32 × S_J)) (d : Nat) (hrc : ∀ (J : S_J) (P1 : S_P) (M2 : S_M) (a3 : Int32) (a4 : Int32) (a5 : Int32) (a6 : Int32), ev_M l Dv gaX (mu_J_search d) [.ref 20, .ref 1, .ref 12, .int a3, .int a4, .int a5, .int a6] (hpW (P1, h.2.1, (M2, J, h.2.2.1.2.2), h.2.2.2) r out) (rc J P1 M2 a3 a4 a5 a6) (fun q => (some (.int q.1), hpW (P1, h.2.1, (M2, q.2, h.2.2.1.2.2), h.2.2.2) r out))) (κ : ev_ka) (X : ev_X l Dv gaX (mu_J_search (d + 1)) κ) (P1 : S_P) (M2 : S_M) (J : S_J) (v3 : Int32) (v4 : Int32) (v5 : Int32) (v6 : Int32) (v7 : Int32) (v8 : Int32) (s0 : Int32) : ev_J l Dv gaX (mu_J_search (d + 1)) κ 90 0 0 [some (.ref 20), some (.ref 1), some (.ref 12), some (.int v3), some (.int v4), some (.int v5), some (.int v6), some (.int v7), some (.int v8), none, none, none] [.int s0] (hpW (P1, h.2.1, (M2, J, h.2.2.1.2.2), h.2.2.2) r out) (f_J_search_L90 fu rc P1 M2 J v3 v4 v5 v6 v7 v8 s0) (fun q => (some (.int q.1), hpW (P1, h.2.1, (M2, q.2, h.2.2.1.2.2), h.2.2.2) r out)) := by
  unfold f_J_search_L90
  refine js_istore (lo' := [some (.ref 20), some (.ref 1), some (.ref 12), some (.int v3), some (.int v4), some (.int v5), some (.int v6), some (.int v7), some (.int v8), some (.int s0), none, none]) (n := 92) X (dg dc_J_search 47 rfl) rfl (Nat.le_of_ble_eq_true rfl) rfl ?_
  refine js_iload (n := 94) X (dg dc_J_search 48 rfl) rfl rfl ?_
  refine js_if_eq (t := 150) (n := 97) X (dg dc_J_search 49 rfl) (by decide) rfl ?_ ?_
  · exact js_keep [true, true, true, true, true, true, true, true, true, false, false, false] (jl_J_search_20_1_12_L150 l Dv fu h r out rc d hrc κ X P1 M2 J v3 v4 v5 v6 v7 v8)
  refine js_aload_n (n := 98) X (dg dc_J_search 50 rfl) rfl rfl rfl ?_
  refine js_aload_n (n := 99) X (dg dc_J_search 51 rfl) rfl rfl rfl ?_
  refine js_iload_n (n := 100) X (dg dc_J_search 52 rfl) rfl rfl rfl ?_
  refine js_iload (n := 102) X (dg dc_J_search 53 rfl) rfl rfl ?_
  refine js_callS (na := 4) (n := 105) X (dg dc_J_search 54 rfl) rfl (c_J_answersSo_1_12 l Dv fu (P1, h.2.1, (M2, J, h.2.2.1.2.2), h.2.2.2) r out P1 M2 v3 v4) gS_J_23 rfl rfl hy_J_answersSo.2 ⟨by show 2 + 1 ≤ d + 1 + 3; omega, by show 8 + (5 + 11) + 44 ≤ (d + 1) * 31 + 70; omega⟩ ⟨(Nat.le_of_ble_eq_true rfl), (Nat.le_of_ble_eq_true rfl)⟩ rfl rfl rfl rfl ?_
  intro r102
  refine js_if_eq (t := 150) (n := 108) X (dg dc_J_search 55 rfl) (by decide) rfl ?_ ?_
  · exact js_keep [true, true, true, true, true, true, true, true, true, false, false, false] (jl_J_search_20_1_12_L150 l Dv fu h r out rc d hrc κ X P1 M2 J v3 v4 v5 v6 v7 v8)
  refine js_aload_n (n := 109) X (dg dc_J_search 56 rfl) rfl rfl rfl ?_
  refine js_getf (j := 0) (v := .ref 21) (n := 112) X (dg dc_J_search 57 rfl) rfl hC_J (Nat.le_of_ble_eq_true rfl) hw_356 rfl rfl ?_
  refine js_iload (n := 114) X (dg dc_J_search 58 rfl) rfl rfl ?_
  refine js_iload (n := 116) X (dg dc_J_search 59 rfl) rfl rfl ?_
  refine js_iastore (f := J) (n := 117) X (dg dc_J_search 60 rfl) rfl rfl ?_
  refine js_aload_n (n := 118) X (dg dc_J_search 61 rfl) rfl rfl rfl ?_
  refine js_aload_n (n := 119) X (dg dc_J_search 62 rfl) rfl rfl rfl ?_
  refine js_iload_n (n := 120) X (dg dc_J_search 63 rfl) rfl rfl rfl ?_
  refine js_iload (n := 122) X (dg dc_J_search 64 rfl) rfl rfl ?_
  refine js_callS (na := 4) (n := 125) X (dg dc_J_search 65 rfl) rfl (c_J_after_1_12 l Dv fu (P1, h.2.1, (M2, (upd J (ix v6) v4), h.2.2.1.2.2), h.2.2.2) r out P1 M2 v3 v4) gS_J_27 rfl rfl hy_J_after.2 ⟨by show 2 + 1 ≤ d + 1 + 3; omega, by show 8 + (4 + 11) + 47 ≤ (d + 1) * 31 + 70; omega⟩ ⟨(Nat.le_of_ble_eq_true rfl), (Nat.le_of_ble_eq_true rfl)⟩ rfl rfl rfl rfl ?_
  intro r122
  refine js_istore (lo' := [some (.ref 20), some (.ref 1), some (.ref 12), some (.int v3), some (.int v4), some (.int v5), some (.int v6), some (.int v7), some (.int v8), some (.int s0), some (.int r122), none]) (n := 127) X (dg dc_J_search 66 rfl) rfl (Nat.le_of_ble_eq_true rfl) rfl ?_
  refine js_aload_n (n := 128) X (dg dc_J_search 67 rfl) rfl rfl rfl ?_
  refine js_aload_n (n := 129) X (dg dc_J_search 68 rfl) rfl rfl rfl ?_
  refine js_aload_n (n := 130) X (dg dc_J_search 69 rfl) rfl rfl rfl ?_
  refine js_iload (n := 132) X (dg dc_J_search 70 rfl) rfl rfl ?_
  refine js_iload (n := 134) X (dg dc_J_search 71 rfl) rfl rfl ?_
  refine js_iconst (n := 135) 1 X (dg dc_J_search 72 rfl) rfl (by decide) ?_
  refine js_iadd (n := 136) X (dg dc_J_search 73 rfl) rfl ?_
  refine js_iload (n := 138) X (dg dc_J_search 74 rfl) rfl rfl ?_
  refine js_iload (n := 140) X (dg dc_J_search 75 rfl) rfl rfl ?_
  refine js_iconst (n := 141) 1 X (dg dc_J_search 76 rfl) rfl (by decide) ?_
  refine js_iadd (n := 142) X (dg dc_J_search 77 rfl) rfl ?_
  refine js_callV (na := 6) (ci := 4) (n := 145) X (dg dc_J_search 78 rfl) rfl (hrc (upd J (ix v6) v4) P1 M2 r122 (v4 + 1) v5 (v6 + 1)) gV_J_34 rfl rfl hy_J_search ⟨by show d + 3 + 1 ≤ d + 1 + 3; omega, by show 8 + (12 + 11) + (d * 31 + 70) ≤ (d + 1) * 31 + 70; omega⟩ rfl ⟨(Nat.le_of_ble_eq_true rfl), (Nat.le_of_ble_eq_true rfl)⟩ rfl rfl rfl rfl rfl ?_
  rintro ⟨r142, J_142⟩
  refine js_if_eq (t := 150) (n := 148) X (dg dc_J_search 79 rfl) (by decide) rfl ?_ ?_
  · exact js_keep [true, true, true, true, true, true, true, true, true, false, false, false] (jl_J_search_20_1_12_L150 l Dv fu h r out rc d hrc κ X P1 M2 J_142 v3 v4 v5 v6 v7 v8)
  refine js_iconst (n := 149) 1 X (dg dc_J_search 80 rfl) rfl (by decide) ?_
  exact js_retZ X (dg dc_J_search 81 rfl) rfl (Nat.le_of_ble_eq_true rfl) (Nat.le_of_ble_eq_true rfl) rfl
set_option maxRecDepth 100000 in
set_option maxHeartbeats 4000000 in
theorem jl_J_search_20_1_12_L46 (l : Launch) (Dv : va_G) (fu : Nat) (h : S_H) (r : S_R) (out : Nat → Int64) (rc : S_J → S_P → S_M → Int32 → Int32 → Int32 → Int32 → Option (Int32 × S_J)) (d : Nat) (hrc : ∀ (J : S_J) (P1 : S_P) (M2 : S_M) (a3 : Int32) (a4 : Int32) (a5 : Int32) (a6 : Int32), ev_M l Dv gaX (mu_J_search d) [.ref 20, .ref 1, .ref 12, .int a3, .int a4, .int a5, .int a6] (hpW (P1, h.2.1, (M2, J, h.2.2.1.2.2), h.2.2.2) r out) (rc J P1 M2 a3 a4 a5 a6) (fun q => (some (.int q.1), hpW (P1, h.2.1, (M2, q.2, h.2.2.1.2.2), h.2.2.2) r out))) (κ : ev_ka) (X : ev_X l Dv gaX (mu_J_search (d + 1)) κ) (P1 : S_P) (M2 : S_M) (J : S_J) (v3 : Int32) (v4 : Int32) (v5 : Int32) (v6 : Int32) (v7 : Int32) (v8 : Int32) : ev_J l Dv gaX (mu_J_search (d + 1)) κ 46 0 0 [some (.ref 20), some (.ref 1), some (.ref 12), some (.int v3), some (.int v4), some (.int v5), some (.int v6), some (.int v7), some (.int v8), none, none, none] [] (hpW (P1, h.2.1, (M2, J, h.2.2.1.2.2), h.2.2.2) r out) (f_J_search_L46 fu rc P1 M2 J v3 v4 v5 v6 v7 v8) (fun q => (some (.int q.1), hpW (P1, h.2.1, (M2, q.2, h.2.2.1.2.2), h.2.2.2) r out)) := by
  unfold f_J_search_L46
  refine js_iload (n := 48) X (dg dc_J_search 24 rfl) rfl rfl ?_
  refine js_aload_n (n := 49) X (dg dc_J_search 25 rfl) rfl rfl rfl ?_
  refine js_getf (j := 0) (v := .ref 21) (n := 52) X (dg dc_J_search 26 rfl) rfl hC_J (Nat.le_of_ble_eq_true rfl) hw_356 rfl rfl ?_
  refine js_alen (n := 53) X (dg dc_J_search 27 rfl) rfl rfl ?_
  refine js_icmp_lt (t := 58) (n := 56) X (dg dc_J_search 28 rfl) (by decide) rfl ?_ ?_
  · refine js_iload (n := 60) X (dg dc_J_search 31 rfl) rfl rfl ?_
    refine js_if_eq (t := 89) (n := 63) X (dg dc_J_search 32 rfl) (by decide) rfl ?_ ?_
    · refine js_iconst (n := 90) 0 X (dg dc_J_search 46 rfl) rfl (by decide) ?_
      exact js_keep [true, true, true, true, true, true, true, true, true, false, false, false] (jl_J_search_20_1_12_L90 l Dv fu h r out rc d hrc κ X P1 M2 J v3 v4 v5 v6 v7 v8 0)
    refine js_iload (n := 65) X (dg dc_J_search 33 rfl) rfl rfl ?_
    refine js_if_eq (t := 85) (n := 68) X (dg dc_J_search 34 rfl) (by decide) rfl ?_ ?_
    · refine js_iconst (n := 86) 1 X (dg dc_J_search 44 rfl) rfl (by decide) ?_
      refine js_goto (t := 90) X (dg dc_J_search 45 rfl) (by decide) ?_
      exact js_keep [true, true, true, true, true, true, true, true, true, false, false, false] (jl_J_search_20_1_12_L90 l Dv fu h r out rc d hrc κ X P1 M2 J v3 v4 v5 v6 v7 v8 1)
    refine js_aload_n (n := 69) X (dg dc_J_search 35 rfl) rfl rfl rfl ?_
    refine js_getf (j := 3) (v := .ref 16) (n := 72) X (dg dc_J_search 36 rfl) rfl hC_M (Nat.le_of_ble_eq_true rfl) hw_374 rfl rfl ?_
    refine js_iload (n := 74) X (dg dc_J_search 37 rfl) rfl rfl ?_
    refine js_iaload (f := M2.2.2.2.1) (n := 75) X (dg dc_J_search 38 rfl) rfl rfl ?_
    refine js_aload_n (n := 76) X (dg dc_J_search 39 rfl) rfl rfl rfl ?_
    refine js_getf (j := 2) (v := .ref 15) (n := 79) X (dg dc_J_search 40 rfl) rfl hC_M (Nat.le_of_ble_eq_true rfl) hw_375 rfl rfl ?_
    refine js_iload (n := 81) X (dg dc_J_search 41 rfl) rfl rfl ?_
    refine js_iaload (f := M2.2.2.1) (n := 82) X (dg dc_J_search 42 rfl) rfl rfl ?_
    refine js_icmp_lt (t := 89) (n := 85) X (dg dc_J_search 43 rfl) (by decide) rfl ?_ ?_
    · refine js_iconst (n := 90) 0 X (dg dc_J_search 46 rfl) rfl (by decide) ?_
      exact js_keep [true, true, true, true, true, true, true, true, true, false, false, false] (jl_J_search_20_1_12_L90 l Dv fu h r out rc d hrc κ X P1 M2 J v3 v4 v5 v6 v7 v8 0)
    refine js_iconst (n := 86) 1 X (dg dc_J_search 44 rfl) rfl (by decide) ?_
    refine js_goto (t := 90) X (dg dc_J_search 45 rfl) (by decide) ?_
    exact js_keep [true, true, true, true, true, true, true, true, true, false, false, false] (jl_J_search_20_1_12_L90 l Dv fu h r out rc d hrc κ X P1 M2 J v3 v4 v5 v6 v7 v8 1)
  refine js_iconst (n := 57) 0 X (dg dc_J_search 29 rfl) rfl (by decide) ?_
  exact js_retZ X (dg dc_J_search 30 rfl) rfl (Nat.le_of_ble_eq_true rfl) (Nat.le_of_ble_eq_true rfl) rfl
set_option maxRecDepth 100000 in
set_option maxHeartbeats 4000000 in
theorem jl_J_search_20_1_12_L15 (l : Launch) (Dv : va_G) (fu : Nat) (h : S_H) (r : S_R) (out : Nat → Int64) (rc : S_J → S_P → S_M → Int32 → Int32 → Int32 → Int32 → Option (Int32 × S_J)) (d : Nat) (hrc : ∀ (J : S_J) (P1 : S_P) (M2 : S_M) (a3 : Int32) (a4 : Int32) (a5 : Int32) (a6 : Int32), ev_M l Dv gaX (mu_J_search d) [.ref 20, .ref 1, .ref 12, .int a3, .int a4, .int a5, .int a6] (hpW (P1, h.2.1, (M2, J, h.2.2.1.2.2), h.2.2.2) r out) (rc J P1 M2 a3 a4 a5 a6) (fun q => (some (.int q.1), hpW (P1, h.2.1, (M2, q.2, h.2.2.1.2.2), h.2.2.2) r out))) (κ : ev_ka) (X : ev_X l Dv gaX (mu_J_search (d + 1)) κ) (P1 : S_P) (M2 : S_M) (J : S_J) (v3 : Int32) (v4 : Int32) (v5 : Int32) (v6 : Int32) (s0 : Int32) : ev_J l Dv gaX (mu_J_search (d + 1)) κ 15 0 0 [some (.ref 20), some (.ref 1), some (.ref 12), some (.int v3), some (.int v4), some (.int v5), some (.int v6), none, none, none, none, none] [.int s0] (hpW (P1, h.2.1, (M2, J, h.2.2.1.2.2), h.2.2.2) r out) (f_J_search_L15 fu rc P1 M2 J v3 v4 v5 v6 s0) (fun q => (some (.int q.1), hpW (P1, h.2.1, (M2, q.2, h.2.2.1.2.2), h.2.2.2) r out)) := by
  unfold f_J_search_L15
  refine js_istore (lo' := [some (.ref 20), some (.ref 1), some (.ref 12), some (.int v3), some (.int v4), some (.int v5), some (.int v6), some (.int s0), none, none, none, none]) (n := 17) X (dg dc_J_search 8 rfl) rfl (Nat.le_of_ble_eq_true rfl) rfl ?_
  refine js_iload (n := 19) X (dg dc_J_search 9 rfl) rfl rfl ?_
  refine js_aload_n (n := 20) X (dg dc_J_search 10 rfl) rfl rfl rfl ?_
  refine js_iconst (n := 21) 2 X (dg dc_J_search 11 rfl) rfl (by decide) ?_
  refine js_callV (na := 1) (ci := 1) (n := 24) X (dg dc_J_search 12 rfl) rfl (c_P_end_1 l Dv fu (P1, h.2.1, (M2, J, h.2.2.1.2.2), h.2.2.2) r out P1 2) gV_J_17 rfl rfl hy_P_end ⟨by show 1 + 1 ≤ d + 1 + 3; omega, by show 8 + (2 + 11) + 21 ≤ (d + 1) * 31 + 70; omega⟩ rfl ⟨(Nat.le_of_ble_eq_true rfl), (Nat.le_of_ble_eq_true rfl)⟩ rfl rfl rfl rfl rfl ?_
  intro r21
  refine js_icmp_ge (t := 31) (n := 27) X (dg dc_J_search 13 rfl) (by decide) rfl ?_ ?_
  · refine js_iconst (n := 32) 0 X (dg dc_J_search 16 rfl) rfl (by decide) ?_
    refine js_istore (lo' := [some (.ref 20), some (.ref 1), some (.ref 12), some (.int v3), some (.int v4), some (.int v5), some (.int v6), some (.int s0), some (.int 0), none, none, none]) (n := 34) X (dg dc_J_search 17 rfl) rfl (Nat.le_of_ble_eq_true rfl) rfl ?_
    refine js_iload (n := 36) X (dg dc_J_search 18 rfl) rfl rfl ?_
    refine js_if_ne (t := 46) (n := 39) X (dg dc_J_search 19 rfl) (by decide) rfl ?_ ?_
    · exact js_keep [true, true, true, true, true, true, true, true, true, false, false, false] (jl_J_search_20_1_12_L46 l Dv fu h r out rc d hrc κ X P1 M2 J v3 v4 v5 v6 s0 0)
    refine js_iload (n := 41) X (dg dc_J_search 20 rfl) rfl rfl ?_
    refine js_if_ne_f (t := 46) (n := 44) X (dg dc_J_search 21 rfl) (by decide) rfl (by decide) ?_
    refine js_iconst (n := 45) 1 X (dg dc_J_search 22 rfl) rfl (by decide) ?_
    exact js_retZ X (dg dc_J_search 23 rfl) rfl (Nat.le_of_ble_eq_true rfl) (Nat.le_of_ble_eq_true rfl) rfl
  refine js_iconst (n := 28) 1 X (dg dc_J_search 14 rfl) rfl (by decide) ?_
  refine js_goto (t := 32) X (dg dc_J_search 15 rfl) (by decide) ?_
  refine js_istore (lo' := [some (.ref 20), some (.ref 1), some (.ref 12), some (.int v3), some (.int v4), some (.int v5), some (.int v6), some (.int s0), some (.int 1), none, none, none]) (n := 34) X (dg dc_J_search 17 rfl) rfl (Nat.le_of_ble_eq_true rfl) rfl ?_
  refine js_iload (n := 36) X (dg dc_J_search 18 rfl) rfl rfl ?_
  refine js_if_ne (t := 46) (n := 39) X (dg dc_J_search 19 rfl) (by decide) rfl ?_ ?_
  · exact js_keep [true, true, true, true, true, true, true, true, true, false, false, false] (jl_J_search_20_1_12_L46 l Dv fu h r out rc d hrc κ X P1 M2 J v3 v4 v5 v6 s0 1)
  refine js_iload (n := 41) X (dg dc_J_search 20 rfl) rfl rfl ?_
  refine js_if_ne_t (t := 46) X (dg dc_J_search 21 rfl) (by decide) (by decide) ?_
  exact js_keep [true, true, true, true, true, true, true, true, true, false, false, false] (jl_J_search_20_1_12_L46 l Dv fu h r out rc d hrc κ X P1 M2 J v3 v4 v5 v6 s0 1)
set_option maxRecDepth 100000 in
set_option maxHeartbeats 4000000 in
theorem c_J_search_20_1_12 (l : Launch) (Dv : va_G) (fu : Nat) (h : S_H) (r : S_R) (out : Nat → Int64) : ∀ (d : Nat) (J : S_J) (P1 : S_P) (M2 : S_M) (a3 : Int32) (a4 : Int32) (a5 : Int32) (a6 : Int32), ev_M l Dv gaX (mu_J_search d) [.ref 20, .ref 1, .ref 12, .int a3, .int a4, .int a5, .int a6] (hpW (P1, h.2.1, (M2, J, h.2.2.1.2.2), h.2.2.2) r out) (f_J_search fu d J P1 M2 a3 a4 a5 a6) (fun q => (some (.int q.1), hpW (P1, h.2.1, (M2, q.2, h.2.2.1.2.2), h.2.2.2) r out)) := by
  intro d
  induction d with
  | zero => exact fun _ _ _ _ _ _ _ q h => nomatch h
  | succ d ih =>
    intro J P1 M2 a3 a4 a5 a6
    refine ev_met (lo0 := [some (.ref 20), some (.ref 1), some (.ref 12), some (.int a3), some (.int a4), some (.int a5), some (.int a6), none, none, none, none, none]) rfl rfl rfl (fun κ X => ?_)
    unfold f_J_search
    refine js_iload (n := 2) X (dg dc_J_search 0 rfl) rfl rfl ?_
    refine js_aload_n (n := 3) X (dg dc_J_search 1 rfl) rfl rfl rfl ?_
    refine js_iconst (n := 4) 1 X (dg dc_J_search 2 rfl) rfl (by decide) ?_
    refine js_callV (na := 1) (ci := 1) (n := 7) X (dg dc_J_search 3 rfl) rfl (c_P_end_1 l Dv fu (P1, h.2.1, (M2, J, h.2.2.1.2.2), h.2.2.2) r out P1 1) gV_J_17 rfl rfl hy_P_end ⟨by show 1 + 1 ≤ d + 1 + 3; omega, by show 8 + (2 + 11) + 21 ≤ (d + 1) * 31 + 70; omega⟩ rfl ⟨(Nat.le_of_ble_eq_true rfl), (Nat.le_of_ble_eq_true rfl)⟩ rfl rfl rfl rfl rfl ?_
    intro r4
    refine js_icmp_ge (t := 14) (n := 10) X (dg dc_J_search 4 rfl) (by decide) rfl ?_ ?_
    · refine js_iconst (n := 15) 0 X (dg dc_J_search 7 rfl) rfl (by decide) ?_
      exact js_keep [true, true, true, true, true, true, true, false, false, false, false, false] (jl_J_search_20_1_12_L15 l Dv fu h r out (f_J_search fu d) d ih κ X P1 M2 J a3 a4 a5 a6 0)
    refine js_iconst (n := 11) 1 X (dg dc_J_search 5 rfl) rfl (by decide) ?_
    refine js_goto (t := 15) X (dg dc_J_search 6 rfl) (by decide) ?_
    exact js_keep [true, true, true, true, true, true, true, false, false, false, false, false] (jl_J_search_20_1_12_L15 l Dv fu h r out (f_J_search fu d) d ih κ X P1 M2 J a3 a4 a5 a6 1)
set_option maxRecDepth 100000 in
set_option maxHeartbeats 4000000 in
theorem jl_J_explains_20_1_12_L47 (l : Launch) (Dv : va_G) (fu : Nat) (h : S_H) (r : S_R) (out : Nat → Int64) (κ : ev_ka) (X : ev_X l Dv gaX mu_J_explains κ) (P1 : S_P) (M2 : S_M) (J : S_J) (v3 : Int32) : ev_J l Dv gaX mu_J_explains κ 47 0 0 [some (.ref 20), some (.ref 1), some (.ref 12), some (.int v3), none, none] [] (hpW (P1, h.2.1, (M2, J, h.2.2.1.2.2), h.2.2.2) r out) (f_J_explains_L47 fu P1 M2 J v3) (fun q => (some (.int q.1), hpW (P1, h.2.1, (M2, q.2, h.2.2.1.2.2), h.2.2.2) r out)) := by
  unfold f_J_explains_L47
  refine js_aload_n (n := 48) X (dg dc_J_explains 27 rfl) rfl rfl rfl ?_
  refine js_aload_n (n := 49) X (dg dc_J_explains 28 rfl) rfl rfl rfl ?_
  refine js_aload_n (n := 50) X (dg dc_J_explains 29 rfl) rfl rfl rfl ?_
  refine js_iload_n (n := 51) X (dg dc_J_explains 30 rfl) rfl rfl rfl ?_
  refine js_aload_n (n := 52) X (dg dc_J_explains 31 rfl) rfl rfl rfl ?_
  refine js_iconst (n := 53) 1 X (dg dc_J_explains 32 rfl) rfl (by decide) ?_
  refine js_callV (na := 1) (ci := 1) (n := 56) X (dg dc_J_explains 33 rfl) rfl (c_P_start_1 l Dv fu (P1, h.2.1, (M2, J, h.2.2.1.2.2), h.2.2.2) r out P1 1) gV_J_31 rfl rfl hy_P_start ⟨(Nat.le_of_ble_eq_true rfl), (Nat.le_of_ble_eq_true rfl)⟩ rfl ⟨(Nat.le_of_ble_eq_true rfl), (Nat.le_of_ble_eq_true rfl)⟩ rfl rfl rfl rfl rfl ?_
  intro r53
  refine js_aload_n (n := 57) X (dg dc_J_explains 34 rfl) rfl rfl rfl ?_
  refine js_iconst (n := 58) 2 X (dg dc_J_explains 35 rfl) rfl (by decide) ?_
  refine js_callV (na := 1) (ci := 1) (n := 61) X (dg dc_J_explains 36 rfl) rfl (c_P_start_1 l Dv fu (P1, h.2.1, (M2, J, h.2.2.1.2.2), h.2.2.2) r out P1 2) gV_J_31 rfl rfl hy_P_start ⟨(Nat.le_of_ble_eq_true rfl), (Nat.le_of_ble_eq_true rfl)⟩ rfl ⟨(Nat.le_of_ble_eq_true rfl), (Nat.le_of_ble_eq_true rfl)⟩ rfl rfl rfl rfl rfl ?_
  intro r58
  refine js_iconst (n := 62) 0 X (dg dc_J_explains 37 rfl) rfl (by decide) ?_
  refine js_callV (na := 6) (ci := 4) (n := 65) X (dg dc_J_explains 38 rfl) rfl (c_J_search_20_1_12 l Dv fu (P1, h.2.1, (M2, J, h.2.2.1.2.2), h.2.2.2) r out 10 J P1 M2 v3 r53 r58 0) gV_J_34 rfl rfl hy_J_search ⟨(Nat.le_of_ble_eq_true rfl), (Nat.le_of_ble_eq_true rfl)⟩ rfl ⟨(Nat.le_of_ble_eq_true rfl), (Nat.le_of_ble_eq_true rfl)⟩ rfl rfl rfl rfl rfl ?_
  rintro ⟨r62, J_62⟩
  exact js_retZ X (dg dc_J_explains 39 rfl) rfl (Nat.le_of_ble_eq_true rfl) (Nat.le_of_ble_eq_true rfl) rfl
set_option maxRecDepth 100000 in
set_option maxHeartbeats 4000000 in
theorem jl_J_explains_20_1_12_L12 (l : Launch) (Dv : va_G) (fu : Nat) (h : S_H) (r : S_R) (out : Nat → Int64) (κ : ev_ka) (X : ev_X l Dv gaX mu_J_explains κ) (P1 : S_P) (M2 : S_M) : ∀ (n : Nat) (J : S_J) (v3 : Int32) (v4 : Int32) (v5 : Int32), ev_J l Dv gaX mu_J_explains κ 12 0 0 [some (.ref 20), some (.ref 1), some (.ref 12), some (.int v3), some (.int v4), some (.int v5)] [] (hpW (P1, h.2.1, (M2, J, h.2.2.1.2.2), h.2.2.2) r out) (f_J_explains_L12 fu P1 M2 n J v3 v4 v5) (fun q => (some (.int q.1), hpW (P1, h.2.1, (M2, q.2, h.2.2.1.2.2), h.2.2.2) r out)) := by
  intro n
  induction n with
  | zero => exact fun _ _ _ _ => js_none
  | succ n ih =>
    intro J v3 v4 v5
    unfold f_J_explains_L12
    refine js_iload (n := 14) X (dg dc_J_explains 8 rfl) rfl rfl ?_
    refine js_iload (n := 16) X (dg dc_J_explains 9 rfl) rfl rfl ?_
    refine js_icmp_ge (t := 47) (n := 19) X (dg dc_J_explains 10 rfl) (by decide) rfl ?_ ?_
    · exact js_keep [true, true, true, true, false, false] (jl_J_explains_20_1_12_L47 l Dv fu h r out κ X P1 M2 J v3)
    refine js_aload_n (n := 20) X (dg dc_J_explains 11 rfl) rfl rfl rfl ?_
    refine js_aload_n (n := 21) X (dg dc_J_explains 12 rfl) rfl rfl rfl ?_
    refine js_iload_n (n := 22) X (dg dc_J_explains 13 rfl) rfl rfl rfl ?_
    refine js_iload (n := 24) X (dg dc_J_explains 14 rfl) rfl rfl ?_
    refine js_callS (na := 4) (n := 27) X (dg dc_J_explains 15 rfl) rfl (c_J_answersSo_1_12 l Dv fu (P1, h.2.1, (M2, J, h.2.2.1.2.2), h.2.2.2) r out P1 M2 v3 v5) gS_J_23 rfl rfl hy_J_answersSo.2 ⟨(Nat.le_of_ble_eq_true rfl), (Nat.le_of_ble_eq_true rfl)⟩ ⟨(Nat.le_of_ble_eq_true rfl), (Nat.le_of_ble_eq_true rfl)⟩ rfl rfl rfl rfl ?_
    intro r24
    refine js_if_ne (t := 32) (n := 30) X (dg dc_J_explains 16 rfl) (by decide) rfl ?_ ?_
    · refine js_aload_n (n := 33) X (dg dc_J_explains 19 rfl) rfl rfl rfl ?_
      refine js_aload_n (n := 34) X (dg dc_J_explains 20 rfl) rfl rfl rfl ?_
      refine js_iload_n (n := 35) X (dg dc_J_explains 21 rfl) rfl rfl rfl ?_
      refine js_iload (n := 37) X (dg dc_J_explains 22 rfl) rfl rfl ?_
      refine js_callS (na := 4) (n := 40) X (dg dc_J_explains 23 rfl) rfl (c_J_after_1_12 l Dv fu (P1, h.2.1, (M2, J, h.2.2.1.2.2), h.2.2.2) r out P1 M2 v3 v5) gS_J_27 rfl rfl hy_J_after.2 ⟨(Nat.le_of_ble_eq_true rfl), (Nat.le_of_ble_eq_true rfl)⟩ ⟨(Nat.le_of_ble_eq_true rfl), (Nat.le_of_ble_eq_true rfl)⟩ rfl rfl rfl rfl ?_
      intro r37
      refine js_istore_n (lo' := [some (.ref 20), some (.ref 1), some (.ref 12), some (.int r37), some (.int v4), some (.int v5)]) (n := 41) X (dg dc_J_explains 24 rfl) rfl rfl (Nat.le_of_ble_eq_true rfl) rfl ?_
      refine js_iinc (lo' := [some (.ref 20), some (.ref 1), some (.ref 12), some (.int r37), some (.int v4), some (.int (v5 + 1))]) (n := 44) 1 X (dg dc_J_explains 25 rfl) rfl (by decide) (Nat.le_of_ble_eq_true rfl) rfl rfl ?_
      refine js_goto (t := 12) X (dg dc_J_explains 26 rfl) (by decide) ?_
      exact js_keep [true, true, true, true, true, true] (ih J r37 v4 (v5 + 1))
    refine js_iconst (n := 31) 0 X (dg dc_J_explains 17 rfl) rfl (by decide) ?_
    exact js_retZ X (dg dc_J_explains 18 rfl) rfl (Nat.le_of_ble_eq_true rfl) (Nat.le_of_ble_eq_true rfl) rfl
set_option maxRecDepth 100000 in
set_option maxHeartbeats 4000000 in
theorem c_J_explains_20_1_12 (l : Launch) (Dv : va_G) (fu : Nat) (h : S_H) (r : S_R) (out : Nat → Int64) (J : S_J) (P1 : S_P) (M2 : S_M) : ev_M l Dv gaX mu_J_explains [.ref 20, .ref 1, .ref 12] (hpW (P1, h.2.1, (M2, J, h.2.2.1.2.2), h.2.2.2) r out) (f_J_explains fu J P1 M2) (fun q => (some (.int q.1), hpW (P1, h.2.1, (M2, q.2, h.2.2.1.2.2), h.2.2.2) r out)) := by
  refine ev_met (lo0 := [some (.ref 20), some (.ref 1), some (.ref 12), none, none, none]) rfl rfl rfl (fun κ X => ?_)
  unfold f_J_explains
  refine js_iconst (n := 1) 0 X (dg dc_J_explains 0 rfl) rfl (by decide) ?_
  refine js_istore_n (lo' := [some (.ref 20), some (.ref 1), some (.ref 12), some (.int 0), none, none]) (n := 2) X (dg dc_J_explains 1 rfl) rfl rfl (Nat.le_of_ble_eq_true rfl) rfl ?_
  refine js_aload_n (n := 3) X (dg dc_J_explains 2 rfl) rfl rfl rfl ?_
  refine js_iconst (n := 4) 0 X (dg dc_J_explains 3 rfl) rfl (by decide) ?_
  refine js_callV (na := 1) (ci := 1) (n := 7) X (dg dc_J_explains 4 rfl) rfl (c_P_end_1 l Dv fu (P1, h.2.1, (M2, J, h.2.2.1.2.2), h.2.2.2) r out P1 0) gV_J_17 rfl rfl hy_P_end ⟨(Nat.le_of_ble_eq_true rfl), (Nat.le_of_ble_eq_true rfl)⟩ rfl ⟨(Nat.le_of_ble_eq_true rfl), (Nat.le_of_ble_eq_true rfl)⟩ rfl rfl rfl rfl rfl ?_
  intro r4
  refine js_istore (lo' := [some (.ref 20), some (.ref 1), some (.ref 12), some (.int 0), some (.int r4), none]) (n := 9) X (dg dc_J_explains 5 rfl) rfl (Nat.le_of_ble_eq_true rfl) rfl ?_
  refine js_iconst (n := 10) 0 X (dg dc_J_explains 6 rfl) rfl (by decide) ?_
  refine js_istore (lo' := [some (.ref 20), some (.ref 1), some (.ref 12), some (.int 0), some (.int r4), some (.int 0)]) (n := 12) X (dg dc_J_explains 7 rfl) rfl (Nat.le_of_ble_eq_true rfl) rfl ?_
  exact js_keep [true, true, true, true, true, true] (jl_J_explains_20_1_12_L12 l Dv fu h r out κ X P1 M2 fu J 0 r4 0)
set_option maxRecDepth 100000 in
set_option maxHeartbeats 4000000 in
theorem jl_T_test_11_1_L69 (l : Launch) (Dv : va_G) (fu : Nat) (h : S_H) (r : S_R) (out : Nat → Int64) (κ : ev_ka) (X : ev_X l Dv gaX mu_T_test κ) (P1 : S_P) : ∀ (n : Nat) (T : S_T) (v3 : Int32) (v4 : Int32), ev_J l Dv gaX mu_T_test κ 69 0 0 [some (.ref 11), some (.ref 1), none, some (.int v3), some (.int v4)] [] (hpW (P1, h.2.1, T, h.2.2.2) r out) (f_T_test_L69 fu P1 n T v3 v4) (fun q => (some (.int q.1), hpW (P1, h.2.1, q.2, h.2.2.2) r out)) := by
  intro n
  induction n with
  | zero => exact fun _ _ _ => js_none
  | succ n ih =>
    intro T v3 v4
    unfold f_T_test_L69
    refine js_iload (n := 71) X (dg dc_T_test 38 rfl) rfl rfl ?_
    refine js_iload_n (n := 72) X (dg dc_T_test 39 rfl) rfl rfl rfl ?_
    refine js_icmp_ge (t := 97) (n := 75) X (dg dc_T_test 40 rfl) (by decide) rfl ?_ ?_
    · refine js_aload_n (n := 98) X (dg dc_T_test 54 rfl) rfl rfl rfl ?_
      refine js_getf (j := 7) (v := .int T.2.2.2.2.2.2.2.1) (n := 101) X (dg dc_T_test 55 rfl) rfl hC_T (Nat.le_of_ble_eq_true rfl) hw_380 rfl rfl ?_
      exact js_retZ X (dg dc_T_test 56 rfl) rfl (Nat.le_of_ble_eq_true rfl) (Nat.le_of_ble_eq_true rfl) rfl
    refine js_aload_n (n := 76) X (dg dc_T_test 41 rfl) rfl rfl rfl ?_
    refine js_getf (j := 2) (v := .ref 22) (n := 79) X (dg dc_T_test 42 rfl) rfl hC_T (Nat.le_of_ble_eq_true rfl) hw_383 rfl rfl ?_
    refine js_aload_n (n := 80) X (dg dc_T_test 43 rfl) rfl rfl rfl ?_
    refine js_getf (j := 1) (v := .ref 3) (n := 83) X (dg dc_T_test 44 rfl) rfl hC_P (Nat.le_of_ble_eq_true rfl) hw_384 rfl rfl ?_
    refine js_iload (n := 85) X (dg dc_T_test 45 rfl) rfl rfl ?_
    refine js_iaload (f := P1.2.1) (n := 86) X (dg dc_T_test 46 rfl) rfl rfl ?_
    refine js_dup2 (n := 87) X (dg dc_T_test 47 rfl) rfl rfl rfl ?_
    refine js_iaload (f := T.2.2.1) (n := 88) X (dg dc_T_test 48 rfl) rfl rfl ?_
    refine js_iconst (n := 89) 1 X (dg dc_T_test 49 rfl) rfl (by decide) ?_
    refine js_iadd (n := 90) X (dg dc_T_test 50 rfl) rfl ?_
    refine js_iastore (f := T.2.2.1) (n := 91) X (dg dc_T_test 51 rfl) rfl rfl ?_
    refine js_iinc (lo' := [some (.ref 11), some (.ref 1), none, some (.int v3), some (.int (v4 + 1))]) (n := 94) 1 X (dg dc_T_test 52 rfl) rfl (by decide) (Nat.le_of_ble_eq_true rfl) rfl rfl ?_
    refine js_goto (t := 69) X (dg dc_T_test 53 rfl) (by decide) ?_
    exact js_keep [true, true, false, true, true] (ih (T.1, T.2.1, (upd T.2.2.1 (ix (P1.2.1 (ix v4))) ((T.2.2.1 (ix (P1.2.1 (ix v4)))) + 1)), T.2.2.2) v3 (v4 + 1))
set_option maxRecDepth 100000 in
set_option maxHeartbeats 4000000 in
theorem c_T_test_11_1 (l : Launch) (Dv : va_G) (fu : Nat) (h : S_H) (r : S_R) (out : Nat → Int64) (T : S_T) (P1 : S_P) (a2 : Int32) : ev_M l Dv gaX mu_T_test [.ref 11, .ref 1, .int a2] (hpW (P1, h.2.1, T, h.2.2.2) r out) (f_T_test fu T P1 a2) (fun q => (some (.int q.1), hpW (P1, h.2.1, q.2, h.2.2.2) r out)) := by
  refine ev_met (lo0 := [some (.ref 11), some (.ref 1), some (.int a2), none, none]) rfl rfl rfl (fun κ X => ?_)
  unfold f_T_test
  refine js_aload_n (n := 1) X (dg dc_T_test 0 rfl) rfl rfl rfl ?_
  refine js_iload_n (n := 2) X (dg dc_T_test 1 rfl) rfl rfl rfl ?_
  refine js_puti (j := 6) (n := 5) X (dg dc_T_test 2 rfl) rfl hC_T (Nat.le_of_ble_eq_true rfl) hw_301 rfl rfl (Or.inl rfl) (Nat.le_of_ble_eq_true rfl) ?_
  refine js_aload_n (n := 6) X (dg dc_T_test 3 rfl) rfl rfl rfl ?_
  refine js_getf (j := 0) (v := .ref 12) (n := 9) X (dg dc_T_test 4 rfl) rfl hC_T (Nat.le_of_ble_eq_true rfl) hw_302 rfl rfl ?_
  refine js_aload_n (n := 10) X (dg dc_T_test 5 rfl) rfl rfl rfl ?_
  refine js_aload_n (n := 11) X (dg dc_T_test 6 rfl) rfl rfl rfl ?_
  refine js_getf (j := 3) (v := .int T.2.2.2.1) (n := 14) X (dg dc_T_test 7 rfl) rfl hC_T (Nat.le_of_ble_eq_true rfl) hw_303 rfl rfl ?_
  refine js_iload_n (n := 15) X (dg dc_T_test 8 rfl) rfl rfl rfl ?_
  refine js_callV (na := 3) (ci := 3) (n := 18) X (dg dc_T_test 9 rfl) rfl (c_M_perform_12_1 l Dv fu (P1, h.2.1, (T.1, T.2.1, T.2.2.1, T.2.2.2.1, T.2.2.2.2.1, T.2.2.2.2.2.1, a2, T.2.2.2.2.2.2.2), h.2.2.2) r out T.1 P1 T.2.2.2.1 a2) gV_T_53 rfl rfl hy_M_perform ⟨(Nat.le_of_ble_eq_true rfl), (Nat.le_of_ble_eq_true rfl)⟩ rfl ⟨(Nat.le_of_ble_eq_true rfl), (Nat.le_of_ble_eq_true rfl)⟩ rfl rfl rfl rfl rfl ?_
  intro M_15
  refine js_aload_n (n := 19) X (dg dc_T_test 10 rfl) rfl rfl rfl ?_
  refine js_aload_n (n := 20) X (dg dc_T_test 11 rfl) rfl rfl rfl ?_
  refine js_getf (j := 1) (v := .ref 20) (n := 23) X (dg dc_T_test 12 rfl) rfl hC_T (Nat.le_of_ble_eq_true rfl) hw_353 rfl rfl ?_
  refine js_aload_n (n := 24) X (dg dc_T_test 13 rfl) rfl rfl rfl ?_
  refine js_aload_n (n := 25) X (dg dc_T_test 14 rfl) rfl rfl rfl ?_
  refine js_getf (j := 0) (v := .ref 12) (n := 28) X (dg dc_T_test 15 rfl) rfl hC_T (Nat.le_of_ble_eq_true rfl) hw_302 rfl rfl ?_
  refine js_callV (na := 2) (ci := 4) (n := 31) X (dg dc_T_test 16 rfl) rfl (c_J_explains_20_1_12 l Dv fu (P1, h.2.1, (M_15, T.2.1, T.2.2.1, T.2.2.2.1, T.2.2.2.2.1, T.2.2.2.2.2.1, a2, T.2.2.2.2.2.2.2), h.2.2.2) r out T.2.1 P1 M_15) gV_T_57 rfl rfl hy_J_explains ⟨(Nat.le_of_ble_eq_true rfl), (Nat.le_of_ble_eq_true rfl)⟩ rfl ⟨(Nat.le_of_ble_eq_true rfl), (Nat.le_of_ble_eq_true rfl)⟩ rfl rfl rfl rfl rfl ?_
  rintro ⟨r28, J_28⟩
  refine js_putz (j := 7) (n := 34) X (dg dc_T_test 17 rfl) rfl hC_T (Nat.le_of_ble_eq_true rfl) hw_380 rfl rfl (Or.inl rfl) (Nat.le_of_ble_eq_true rfl) ?_
  refine js_aload_n (n := 35) X (dg dc_T_test 18 rfl) rfl rfl rfl ?_
  refine js_dup (n := 36) X (dg dc_T_test 19 rfl) rfl rfl ?_
  refine js_getf (j := 4) (v := .int T.2.2.2.2.1) (n := 39) X (dg dc_T_test 20 rfl) rfl hC_T (Nat.le_of_ble_eq_true rfl) hw_381 rfl rfl ?_
  refine js_iconst (n := 40) 1 X (dg dc_T_test 21 rfl) rfl (by decide) ?_
  refine js_iadd (n := 41) X (dg dc_T_test 22 rfl) rfl ?_
  refine js_puti (j := 4) (n := 44) X (dg dc_T_test 23 rfl) rfl hC_T (Nat.le_of_ble_eq_true rfl) hw_381 rfl rfl (Or.inl rfl) (Nat.le_of_ble_eq_true rfl) ?_
  refine js_aload_n (n := 45) X (dg dc_T_test 24 rfl) rfl rfl rfl ?_
  refine js_getf (j := 7) (v := .int r28) (n := 48) X (dg dc_T_test 25 rfl) rfl hC_T (Nat.le_of_ble_eq_true rfl) hw_380 rfl rfl ?_
  refine js_if_ne (t := 61) (n := 51) X (dg dc_T_test 26 rfl) (by decide) rfl ?_ ?_
  · refine js_aload_n (n := 62) X (dg dc_T_test 33 rfl) rfl rfl rfl ?_
    refine js_callV (na := 0) (ci := 1) (n := 65) X (dg dc_T_test 34 rfl) rfl (c_P_size_1 l Dv fu (P1, h.2.1, (M_15, J_28, T.2.2.1, T.2.2.2.1, T.2.2.2.2.1 + 1, T.2.2.2.2.2.1, a2, r28, T.2.2.2.2.2.2.2.2), h.2.2.2) r out P1) gV_T_61 rfl rfl hy_P_size ⟨(Nat.le_of_ble_eq_true rfl), (Nat.le_of_ble_eq_true rfl)⟩ rfl ⟨(Nat.le_of_ble_eq_true rfl), (Nat.le_of_ble_eq_true rfl)⟩ rfl rfl rfl rfl rfl ?_
    intro r62
    refine js_istore_n (lo' := [some (.ref 11), some (.ref 1), some (.int a2), some (.int r62), none]) (n := 66) X (dg dc_T_test 35 rfl) rfl rfl (Nat.le_of_ble_eq_true rfl) rfl ?_
    refine js_iconst (n := 67) 0 X (dg dc_T_test 36 rfl) rfl (by decide) ?_
    refine js_istore (lo' := [some (.ref 11), some (.ref 1), some (.int a2), some (.int r62), some (.int 0)]) (n := 69) X (dg dc_T_test 37 rfl) rfl (Nat.le_of_ble_eq_true rfl) rfl ?_
    exact js_keep [true, true, false, true, true] (jl_T_test_11_1_L69 l Dv fu h r out κ X P1 fu (M_15, J_28, T.2.2.1, T.2.2.2.1, T.2.2.2.2.1 + 1, T.2.2.2.2.2.1, a2, r28, T.2.2.2.2.2.2.2.2) r62 0)
  refine js_aload_n (n := 52) X (dg dc_T_test 27 rfl) rfl rfl rfl ?_
  refine js_dup (n := 53) X (dg dc_T_test 28 rfl) rfl rfl ?_
  refine js_getf (j := 5) (v := .int T.2.2.2.2.2.1) (n := 56) X (dg dc_T_test 29 rfl) rfl hC_T (Nat.le_of_ble_eq_true rfl) hw_385 rfl rfl ?_
  refine js_iconst (n := 57) 1 X (dg dc_T_test 30 rfl) rfl (by decide) ?_
  refine js_iadd (n := 58) X (dg dc_T_test 31 rfl) rfl ?_
  refine js_puti (j := 5) (n := 61) X (dg dc_T_test 32 rfl) rfl hC_T (Nat.le_of_ble_eq_true rfl) hw_385 rfl rfl (Or.inl rfl) (Nat.le_of_ble_eq_true rfl) ?_
  refine js_aload_n (n := 62) X (dg dc_T_test 33 rfl) rfl rfl rfl ?_
  refine js_callV (na := 0) (ci := 1) (n := 65) X (dg dc_T_test 34 rfl) rfl (c_P_size_1 l Dv fu (P1, h.2.1, (M_15, J_28, T.2.2.1, T.2.2.2.1, T.2.2.2.2.1 + 1, T.2.2.2.2.2.1 + 1, a2, r28, T.2.2.2.2.2.2.2.2), h.2.2.2) r out P1) gV_T_61 rfl rfl hy_P_size ⟨(Nat.le_of_ble_eq_true rfl), (Nat.le_of_ble_eq_true rfl)⟩ rfl ⟨(Nat.le_of_ble_eq_true rfl), (Nat.le_of_ble_eq_true rfl)⟩ rfl rfl rfl rfl rfl ?_
  intro r62
  refine js_istore_n (lo' := [some (.ref 11), some (.ref 1), some (.int a2), some (.int r62), none]) (n := 66) X (dg dc_T_test 35 rfl) rfl rfl (Nat.le_of_ble_eq_true rfl) rfl ?_
  refine js_iconst (n := 67) 0 X (dg dc_T_test 36 rfl) rfl (by decide) ?_
  refine js_istore (lo' := [some (.ref 11), some (.ref 1), some (.int a2), some (.int r62), some (.int 0)]) (n := 69) X (dg dc_T_test 37 rfl) rfl (Nat.le_of_ble_eq_true rfl) rfl ?_
  exact js_keep [true, true, false, true, true] (jl_T_test_11_1_L69 l Dv fu h r out κ X P1 fu (M_15, J_28, T.2.2.1, T.2.2.2.1, T.2.2.2.2.1 + 1, T.2.2.2.2.2.1 + 1, a2, r28, T.2.2.2.2.2.2.2.2) r62 0)
set_option maxRecDepth 100000 in
set_option maxHeartbeats 4000000 in
theorem c_D_restart_23 (l : Launch) (Dv : va_G) (fu : Nat) (h : S_H) (r : S_R) (out : Nat → Int64) (D : S_D) (a1 : Int64) : ev_M l Dv gaX mu_D_restart [.ref 23, .long a1] (hpW (h.1, h.2.1, (h.2.2.1.1, h.2.2.1.2.1, h.2.2.1.2.2.1, h.2.2.1.2.2.2.1, h.2.2.1.2.2.2.2.1, h.2.2.1.2.2.2.2.2.1, h.2.2.1.2.2.2.2.2.2.1, h.2.2.1.2.2.2.2.2.2.2.1, D), h.2.2.2) r out) (f_D_restart fu D a1) (fun q => (none, hpW (h.1, h.2.1, (h.2.2.1.1, h.2.2.1.2.1, h.2.2.1.2.2.1, h.2.2.1.2.2.2.1, h.2.2.1.2.2.2.2.1, h.2.2.1.2.2.2.2.2.1, h.2.2.1.2.2.2.2.2.2.1, h.2.2.1.2.2.2.2.2.2.2.1, q), h.2.2.2) r out)) := by
  refine ev_met (lo0 := [some (.ref 23), some (.long a1), none]) rfl rfl rfl (fun κ X => ?_)
  unfold f_D_restart
  refine js_aload_n (n := 1) X (dg dc_D_restart 0 rfl) rfl rfl rfl ?_
  refine js_lload_n (n := 2) X (dg dc_D_restart 1 rfl) rfl rfl rfl ?_
  refine js_putj (j := 0) (n := 5) X (dg dc_D_restart 2 rfl) rfl hC_D (Nat.le_of_ble_eq_true rfl) hw_77 rfl rfl (Or.inl rfl) (Nat.le_of_ble_eq_true rfl) ?_
  exact js_retV X (dg dc_D_restart 3 rfl) rfl (Nat.le_of_ble_eq_true rfl) (Nat.le_of_ble_eq_true rfl) rfl
set_option maxRecDepth 100000 in
set_option maxHeartbeats 4000000 in
theorem cg_D_below_23 (l : Launch) (Dv : va_G) (fu : Nat) (h : S_H) (r : S_R) (out : Nat → Int64) (D : S_D) (a1 : Int32) (m_hw_78 : Int64) (m_hw_79 : Int64) (km_hw_78 : (Jvm.Cond.constantLong "HistoryJudge$Draws" (13 : Nat) m_hw_78) ∈ lg) (km_hw_79 : (Jvm.Cond.constantLong "HistoryJudge$Draws" (15 : Nat) m_hw_79) ∈ lg) : ev_M l Dv gaX mu_D_below [.ref 23, .int a1] (hpW (h.1, h.2.1, (h.2.2.1.1, h.2.2.1.2.1, h.2.2.1.2.2.1, h.2.2.1.2.2.2.1, h.2.2.1.2.2.2.2.1, h.2.2.1.2.2.2.2.2.1, h.2.2.1.2.2.2.2.2.2.1, h.2.2.1.2.2.2.2.2.2.2.1, D), h.2.2.2) r out) (
  if a1 ≤ 0 then
    some (0, (D * m_hw_78) + m_hw_79)
  else
    ck (nz a1) <|
    some ((((((D * m_hw_78) + m_hw_79).toUInt64 >>> ((33 : Int32).toInt64.toUInt64 &&& Int64.toUInt64 63)).toInt64).toInt32) - (((((D * m_hw_78) + m_hw_79).toUInt64 >>> ((33 : Int32).toInt64.toUInt64 &&& Int64.toUInt64 63)).toInt64).toInt32) / a1 * a1, (D * m_hw_78) + m_hw_79)) (fun q => (some (.int q.1), hpW (h.1, h.2.1, (h.2.2.1.1, h.2.2.1.2.1, h.2.2.1.2.2.1, h.2.2.1.2.2.2.1, h.2.2.1.2.2.2.2.1, h.2.2.1.2.2.2.2.2.1, h.2.2.1.2.2.2.2.2.2.1, h.2.2.1.2.2.2.2.2.2.2.1, q.2), h.2.2.2) r out)) := by
  refine ev_met (lo0 := [some (.ref 23), some (.int a1), none]) rfl rfl rfl (fun κ X => ?_)
  refine js_aload_n (n := 1) X (dg dc_D_below 0 rfl) rfl rfl rfl ?_
  refine js_aload_n (n := 2) X (dg dc_D_below 1 rfl) rfl rfl rfl ?_
  refine js_getf (j := 0) (v := .long D) (n := 5) X (dg dc_D_below 2 rfl) rfl hC_D (Nat.le_of_ble_eq_true rfl) hw_77 rfl rfl ?_
  refine js_ldc2 (n := 8) (v := m_hw_78) X (dg dc_D_below 3 rfl) rfl km_hw_78 ?_
  refine js_lmul (n := 9) X (dg dc_D_below 4 rfl) rfl ?_
  refine js_ldc2 (n := 12) (v := m_hw_79) X (dg dc_D_below 5 rfl) rfl km_hw_79 ?_
  refine js_ladd (n := 13) X (dg dc_D_below 6 rfl) rfl ?_
  refine js_putj (j := 0) (n := 16) X (dg dc_D_below 7 rfl) rfl hC_D (Nat.le_of_ble_eq_true rfl) hw_77 rfl rfl (Or.inl rfl) (Nat.le_of_ble_eq_true rfl) ?_
  refine js_aload_n (n := 17) X (dg dc_D_below 8 rfl) rfl rfl rfl ?_
  refine js_getf (j := 0) (v := .long ((D * m_hw_78) + m_hw_79)) (n := 20) X (dg dc_D_below 9 rfl) rfl hC_D (Nat.le_of_ble_eq_true rfl) hw_77 rfl rfl ?_
  refine js_bipush (n := 22) 33 X (dg dc_D_below 10 rfl) rfl (by decide) ?_
  refine js_lushr (n := 23) X (dg dc_D_below 11 rfl) rfl ?_
  refine js_l2i (n := 24) X (dg dc_D_below 12 rfl) rfl ?_
  refine js_istore_n (lo' := [some (.ref 23), some (.int a1), some (.int (((((D * m_hw_78) + m_hw_79).toUInt64 >>> ((33 : Int32).toInt64.toUInt64 &&& Int64.toUInt64 63)).toInt64).toInt32))]) (n := 25) X (dg dc_D_below 13 rfl) rfl rfl (Nat.le_of_ble_eq_true rfl) rfl ?_
  refine js_iload_n (n := 26) X (dg dc_D_below 14 rfl) rfl rfl rfl ?_
  refine js_if_le (t := 35) (n := 29) X (dg dc_D_below 15 rfl) (by decide) rfl ?_ ?_
  · refine js_iconst (n := 36) 0 X (dg dc_D_below 20 rfl) rfl (by decide) ?_
    exact js_retI X (dg dc_D_below 21 rfl) rfl (Nat.le_of_ble_eq_true rfl) (Nat.le_of_ble_eq_true rfl) rfl
  refine js_iload_n (n := 30) X (dg dc_D_below 16 rfl) rfl rfl rfl ?_
  refine js_iload_n (n := 31) X (dg dc_D_below 17 rfl) rfl rfl rfl ?_
  refine js_irem (n := 32) X (dg dc_D_below 18 rfl) rfl ?_
  refine js_goto (t := 36) X (dg dc_D_below 19 rfl) (by decide) ?_
  exact js_retI X (dg dc_D_below 21 rfl) rfl (Nat.le_of_ble_eq_true rfl) (Nat.le_of_ble_eq_true rfl) rfl
set_option maxRecDepth 100000 in
set_option maxHeartbeats 4000000 in
theorem c_D_below_23 (l : Launch) (Dv : va_G) (fu : Nat) (h : S_H) (r : S_R) (out : Nat → Int64) (D : S_D) (a1 : Int32) : ev_M l Dv gaX mu_D_below [.ref 23, .int a1] (hpW (h.1, h.2.1, (h.2.2.1.1, h.2.2.1.2.1, h.2.2.1.2.2.1, h.2.2.1.2.2.2.1, h.2.2.1.2.2.2.2.1, h.2.2.1.2.2.2.2.2.1, h.2.2.1.2.2.2.2.2.2.1, h.2.2.1.2.2.2.2.2.2.2.1, D), h.2.2.2) r out) (f_D_below fu D a1) (fun q => (some (.int q.1), hpW (h.1, h.2.1, (h.2.2.1.1, h.2.2.1.2.1, h.2.2.1.2.2.1, h.2.2.1.2.2.2.1, h.2.2.1.2.2.2.2.1, h.2.2.1.2.2.2.2.2.1, h.2.2.1.2.2.2.2.2.2.1, h.2.2.1.2.2.2.2.2.2.2.1, q.2), h.2.2.2) r out)) := by
  unfold f_D_below
  exact cg_D_below_23 l Dv fu h r out D a1 6364136223846793005 1442695040888963407 hw_78 hw_79
set_option maxRecDepth 100000 in
set_option maxHeartbeats 4000000 in
theorem jl_T_firstFailure_11_1_L11 (l : Launch) (Dv : va_G) (fu : Nat) (h : S_H) (r : S_R) (out : Nat → Int64) (κ : ev_ka) (X : ev_X l Dv gaX mu_T_firstFailure κ) (P1 : S_P) : ∀ (n : Nat) (T : S_T) (v4 : Int32) (v5 : Int32), ev_J l Dv gaX mu_T_firstFailure κ 11 0 0 [some (.ref 11), some (.ref 1), none, none, some (.int v4), some (.int v5)] [] (hpW (P1, h.2.1, T, h.2.2.2) r out) (f_T_firstFailure_L11 fu P1 n T v4 v5) (fun q => (some (.int q.1), hpW (P1, h.2.1, q.2, h.2.2.2) r out)) := by
  intro n
  induction n with
  | zero => exact fun _ _ _ => js_none
  | succ n ih =>
    intro T v4 v5
    unfold f_T_firstFailure_L11
    refine js_iload (n := 13) X (dg dc_T_firstFailure 6 rfl) rfl rfl ?_
    refine js_iload (n := 15) X (dg dc_T_firstFailure 7 rfl) rfl rfl ?_
    refine js_icmp_ge (t := 44) (n := 18) X (dg dc_T_firstFailure 8 rfl) (by decide) rfl ?_ ?_
    · refine js_iconst (n := 45) (-1) X (dg dc_T_firstFailure 21 rfl) rfl (by decide) ?_
      exact js_retI X (dg dc_T_firstFailure 22 rfl) rfl (Nat.le_of_ble_eq_true rfl) (Nat.le_of_ble_eq_true rfl) rfl
    refine js_aload_n (n := 19) X (dg dc_T_firstFailure 9 rfl) rfl rfl rfl ?_
    refine js_aload_n (n := 20) X (dg dc_T_firstFailure 10 rfl) rfl rfl rfl ?_
    refine js_aload_n (n := 21) X (dg dc_T_firstFailure 11 rfl) rfl rfl rfl ?_
    refine js_getf (j := 8) (v := .ref 23) (n := 24) X (dg dc_T_firstFailure 12 rfl) rfl hC_T (Nat.le_of_ble_eq_true rfl) hw_386 rfl rfl ?_
    refine js_ldc (n := 26) (v := 2147483647) X (dg dc_T_firstFailure 13 rfl) rfl hw_391 ?_
    refine js_callV (na := 1) (ci := 5) (n := 29) X (dg dc_T_firstFailure 14 rfl) rfl (c_D_below_23 l Dv fu (P1, h.2.1, T, h.2.2.2) r out T.2.2.2.2.2.2.2.2 2147483647) gV_T_75 rfl rfl hy_D_below ⟨(Nat.le_of_ble_eq_true rfl), (Nat.le_of_ble_eq_true rfl)⟩ rfl ⟨(Nat.le_of_ble_eq_true rfl), (Nat.le_of_ble_eq_true rfl)⟩ rfl rfl rfl rfl rfl ?_
    rintro ⟨r26, D_26⟩
    refine js_callV (na := 2) (ci := 2) (n := 32) X (dg dc_T_firstFailure 15 rfl) rfl (c_T_test_11_1 l Dv fu (P1, h.2.1, (T.1, T.2.1, T.2.2.1, T.2.2.2.1, T.2.2.2.2.1, T.2.2.2.2.2.1, T.2.2.2.2.2.2.1, T.2.2.2.2.2.2.2.1, D_26), h.2.2.2) r out (T.1, T.2.1, T.2.2.1, T.2.2.2.1, T.2.2.2.2.1, T.2.2.2.2.2.1, T.2.2.2.2.2.2.1, T.2.2.2.2.2.2.2.1, D_26) P1 r26) gV_T_79 rfl rfl hy_T_test ⟨(Nat.le_of_ble_eq_true rfl), (Nat.le_of_ble_eq_true rfl)⟩ rfl ⟨(Nat.le_of_ble_eq_true rfl), (Nat.le_of_ble_eq_true rfl)⟩ rfl rfl rfl rfl rfl ?_
    rintro ⟨r29, T_29⟩
    refine js_if_ne (t := 38) (n := 35) X (dg dc_T_firstFailure 16 rfl) (by decide) rfl ?_ ?_
    · refine js_iinc (lo' := [some (.ref 11), some (.ref 1), none, none, some (.int v4), some (.int (v5 + 1))]) (n := 41) 1 X (dg dc_T_firstFailure 19 rfl) rfl (by decide) (Nat.le_of_ble_eq_true rfl) rfl rfl ?_
      refine js_goto (t := 11) X (dg dc_T_firstFailure 20 rfl) (by decide) ?_
      exact js_keep [true, true, false, false, true, true] (ih T_29 v4 (v5 + 1))
    refine js_iload (n := 37) X (dg dc_T_firstFailure 17 rfl) rfl rfl ?_
    exact js_retI X (dg dc_T_firstFailure 18 rfl) rfl (Nat.le_of_ble_eq_true rfl) (Nat.le_of_ble_eq_true rfl) rfl
set_option maxRecDepth 100000 in
set_option maxHeartbeats 4000000 in
theorem c_T_firstFailure_11_1 (l : Launch) (Dv : va_G) (fu : Nat) (h : S_H) (r : S_R) (out : Nat → Int64) (T : S_T) (P1 : S_P) (a2 : Int64) (a4 : Int32) : ev_M l Dv gaX mu_T_firstFailure [.ref 11, .ref 1, .long a2, .int a4] (hpW (P1, h.2.1, T, h.2.2.2) r out) (f_T_firstFailure fu T P1 a2 a4) (fun q => (some (.int q.1), hpW (P1, h.2.1, q.2, h.2.2.2) r out)) := by
  refine ev_met (lo0 := [some (.ref 11), some (.ref 1), some (.long a2), none, some (.int a4), none]) rfl rfl rfl (fun κ X => ?_)
  unfold f_T_firstFailure
  refine js_aload_n (n := 1) X (dg dc_T_firstFailure 0 rfl) rfl rfl rfl ?_
  refine js_getf (j := 8) (v := .ref 23) (n := 4) X (dg dc_T_firstFailure 1 rfl) rfl hC_T (Nat.le_of_ble_eq_true rfl) hw_386 rfl rfl ?_
  refine js_lload_n (n := 5) X (dg dc_T_firstFailure 2 rfl) rfl rfl rfl ?_
  refine js_callV (na := 1) (ci := 5) (n := 8) X (dg dc_T_firstFailure 3 rfl) rfl (c_D_restart_23 l Dv fu (P1, h.2.1, T, h.2.2.2) r out T.2.2.2.2.2.2.2.2 a2) gV_T_70 rfl rfl hy_D_restart ⟨(Nat.le_of_ble_eq_true rfl), (Nat.le_of_ble_eq_true rfl)⟩ rfl ⟨(Nat.le_of_ble_eq_true rfl), (Nat.le_of_ble_eq_true rfl)⟩ rfl rfl rfl rfl rfl ?_
  intro D_5
  refine js_iconst (n := 9) 0 X (dg dc_T_firstFailure 4 rfl) rfl (by decide) ?_
  refine js_istore (lo' := [some (.ref 11), some (.ref 1), some (.long a2), none, some (.int a4), some (.int 0)]) (n := 11) X (dg dc_T_firstFailure 5 rfl) rfl (Nat.le_of_ble_eq_true rfl) rfl ?_
  exact js_keep [true, true, false, false, true, true] (jl_T_firstFailure_11_1_L11 l Dv fu h r out κ X P1 fu (T.1, T.2.1, T.2.2.1, T.2.2.2.1, T.2.2.2.2.1, T.2.2.2.2.2.1, T.2.2.2.2.2.2.1, T.2.2.2.2.2.2.2.1, D_5) a4 0)
set_option maxRecDepth 100000 in
set_option maxHeartbeats 4000000 in
theorem jl_M_step_12_6_L228 (l : Launch) (Dv : va_G) (fu : Nat) (h : S_H) (r : S_R) (out : Nat → Int64) (κ : ev_ka) (X : ev_X l Dv gaX mu_M_step κ) (P1 : S_P) (M : S_M) (v2 : Int32) (v4 : Int32) (v5 : Int32) (s1 : Int32) (s2 : Int32) : ev_J l Dv gaX mu_M_step κ 228 0 0 [some (.ref 12), none, some (.int v2), none, some (.int v4), some (.int v5), none] [.int s2, .int s1, .ref 18] (hpW (h.1, P1, (M, h.2.2.1.2), h.2.2.2) r out) (f_M_step_L228 fu P1 M v2 v4 v5 s1 s2) (fun q => (none, hpW (h.1, P1, (q, h.2.2.1.2), h.2.2.2) r out)) := by
  unfold f_M_step_L228
  refine js_iastore (f := M.2.2.2.2.2.2.1) (n := 229) X (dg dc_M_step 107 rfl) rfl rfl ?_
  refine js_aload_n (n := 230) X (dg dc_M_step 108 rfl) rfl rfl rfl ?_
  refine js_getf (j := 5) (v := .ref 17) (n := 233) X (dg dc_M_step 109 rfl) rfl hC_M (Nat.le_of_ble_eq_true rfl) hw_307 rfl rfl ?_
  refine js_iload_n (n := 234) X (dg dc_M_step 110 rfl) rfl rfl rfl ?_
  refine js_aload_n (n := 235) X (dg dc_M_step 111 rfl) rfl rfl rfl ?_
  refine js_iload (n := 237) X (dg dc_M_step 112 rfl) rfl rfl ?_
  refine js_callV (na := 1) (ci := 3) (n := 240) X (dg dc_M_step 113 rfl) rfl (c_M_isLate_12 l Dv fu (h.1, P1, ((M.1, M.2.1, M.2.2.1, M.2.2.2.1, M.2.2.2.2.1, M.2.2.2.2.2.1, (upd M.2.2.2.2.2.2.1 (ix s1) s2), M.2.2.2.2.2.2.2), h.2.2.1.2), h.2.2.2) r out (M.1, M.2.1, M.2.2.1, M.2.2.2.1, M.2.2.2.2.1, M.2.2.2.2.2.1, (upd M.2.2.2.2.2.2.1 (ix s1) s2), M.2.2.2.2.2.2.2) v5) gV_M_85 rfl rfl hy_M_isLate ⟨(Nat.le_of_ble_eq_true rfl), (Nat.le_of_ble_eq_true rfl)⟩ rfl ⟨(Nat.le_of_ble_eq_true rfl), (Nat.le_of_ble_eq_true rfl)⟩ rfl rfl rfl rfl rfl ?_
  intro r237
  refine js_if_eq (t := 248) (n := 243) X (dg dc_M_step 114 rfl) (by decide) rfl ?_ ?_
  · refine js_iload (n := 250) X (dg dc_M_step 117 rfl) rfl rfl ?_
    refine js_iconst (n := 251) 1 X (dg dc_M_step 118 rfl) rfl (by decide) ?_
    refine js_iadd (n := 252) X (dg dc_M_step 119 rfl) rfl ?_
    refine js_iastore (f := M.2.2.2.2.2.1) (n := 253) X (dg dc_M_step 120 rfl) rfl rfl ?_
    refine js_goto (t := 295) X (dg dc_M_step 121 rfl) (by decide) ?_
    exact js_retV X (dg dc_M_step 145 rfl) rfl (Nat.le_of_ble_eq_true rfl) (Nat.le_of_ble_eq_true rfl) rfl
  refine js_iload (n := 245) X (dg dc_M_step 115 rfl) rfl rfl ?_
  refine js_goto (t := 252) X (dg dc_M_step 116 rfl) (by decide) ?_
  refine js_iastore (f := M.2.2.2.2.2.1) (n := 253) X (dg dc_M_step 120 rfl) rfl rfl ?_
  refine js_goto (t := 295) X (dg dc_M_step 121 rfl) (by decide) ?_
  exact js_retV X (dg dc_M_step 145 rfl) rfl (Nat.le_of_ble_eq_true rfl) (Nat.le_of_ble_eq_true rfl) rfl
set_option maxRecDepth 100000 in
set_option maxHeartbeats 4000000 in
theorem c_M_step_12_6 (l : Launch) (Dv : va_G) (fu : Nat) (h : S_H) (r : S_R) (out : Nat → Int64) (M : S_M) (P1 : S_P) (a2 : Int32) (a3 : Int32) : ev_M l Dv gaX mu_M_step [.ref 12, .ref 6, .int a2, .int a3] (hpW (h.1, P1, (M, h.2.2.1.2), h.2.2.2) r out) (f_M_step fu M P1 a2 a3) (fun q => (none, hpW (h.1, P1, (q, h.2.2.1.2), h.2.2.2) r out)) := by
  refine ev_met (lo0 := [some (.ref 12), some (.ref 6), some (.int a2), some (.int a3), none, none, none]) rfl rfl rfl (fun κ X => ?_)
  unfold f_M_step
  refine js_aload_n (n := 1) X (dg dc_M_step 0 rfl) rfl rfl rfl ?_
  refine js_getf (j := 5) (v := .ref 17) (n := 4) X (dg dc_M_step 1 rfl) rfl hC_M (Nat.le_of_ble_eq_true rfl) hw_307 rfl rfl ?_
  refine js_iload_n (n := 5) X (dg dc_M_step 2 rfl) rfl rfl rfl ?_
  refine js_iaload (f := M.2.2.2.2.2.1) (n := 6) X (dg dc_M_step 3 rfl) rfl rfl ?_
  refine js_istore (lo' := [some (.ref 12), some (.ref 6), some (.int a2), some (.int a3), some (.int (M.2.2.2.2.2.1 (ix a2))), none, none]) (n := 8) X (dg dc_M_step 4 rfl) rfl (Nat.le_of_ble_eq_true rfl) rfl ?_
  refine js_aload_n (n := 9) X (dg dc_M_step 5 rfl) rfl rfl rfl ?_
  refine js_getf (j := 1) (v := .ref 8) (n := 12) X (dg dc_M_step 6 rfl) rfl hC_P (Nat.le_of_ble_eq_true rfl) hw_308 rfl rfl ?_
  refine js_iload (n := 14) X (dg dc_M_step 7 rfl) rfl rfl ?_
  refine js_iaload (f := P1.2.1) (n := 15) X (dg dc_M_step 8 rfl) rfl rfl ?_
  refine js_istore (lo' := [some (.ref 12), some (.ref 6), some (.int a2), some (.int a3), some (.int (M.2.2.2.2.2.1 (ix a2))), some (.int (P1.2.1 (ix (M.2.2.2.2.2.1 (ix a2))))), none]) (n := 17) X (dg dc_M_step 9 rfl) rfl (Nat.le_of_ble_eq_true rfl) rfl ?_
  refine js_aload_n (n := 18) X (dg dc_M_step 10 rfl) rfl rfl rfl ?_
  refine js_getf (j := 2) (v := .ref 9) (n := 21) X (dg dc_M_step 11 rfl) rfl hC_P (Nat.le_of_ble_eq_true rfl) hw_309 rfl rfl ?_
  refine js_iload (n := 23) X (dg dc_M_step 12 rfl) rfl rfl ?_
  refine js_iaload (f := P1.2.2.1) (n := 24) X (dg dc_M_step 13 rfl) rfl rfl ?_
  refine js_istore (lo' := [some (.ref 12), some (.ref 6), some (.int a2), some (.int a3), some (.int (M.2.2.2.2.2.1 (ix a2))), some (.int (P1.2.1 (ix (M.2.2.2.2.2.1 (ix a2))))), some (.int (P1.2.2.1 (ix (M.2.2.2.2.2.1 (ix a2)))))]) (n := 26) X (dg dc_M_step 14 rfl) rfl (Nat.le_of_ble_eq_true rfl) rfl ?_
  refine js_aload_n (n := 27) X (dg dc_M_step 15 rfl) rfl rfl rfl ?_
  refine js_getf (j := 6) (v := .ref 18) (n := 30) X (dg dc_M_step 16 rfl) rfl hC_M (Nat.le_of_ble_eq_true rfl) hw_310 rfl rfl ?_
  refine js_iload_n (n := 31) X (dg dc_M_step 17 rfl) rfl rfl rfl ?_
  refine js_iaload (f := M.2.2.2.2.2.2.1) (n := 32) X (dg dc_M_step 18 rfl) rfl rfl ?_
  refine js_tsw X (dg dc_M_step 19 rfl) (by decide) ?_
  refine js_sw1 64 (by decide) (by decide) ?_ ?_
  · refine js_aload_n (n := 65) X (dg dc_M_step 20 rfl) rfl rfl rfl ?_
    refine js_getf (j := 2) (v := .ref 15) (n := 68) X (dg dc_M_step 21 rfl) rfl hC_M (Nat.le_of_ble_eq_true rfl) hw_311 rfl rfl ?_
    refine js_iload (n := 70) X (dg dc_M_step 22 rfl) rfl rfl ?_
    refine js_iload_n (n := 71) X (dg dc_M_step 23 rfl) rfl rfl rfl ?_
    refine js_iastore (f := M.2.2.1) (n := 72) X (dg dc_M_step 24 rfl) rfl rfl ?_
    refine js_aload_n (n := 73) X (dg dc_M_step 25 rfl) rfl rfl rfl ?_
    refine js_getf (j := 1) (v := .ref 14) (n := 76) X (dg dc_M_step 26 rfl) rfl hC_M (Nat.le_of_ble_eq_true rfl) hw_312 rfl rfl ?_
    refine js_iload (n := 78) X (dg dc_M_step 27 rfl) rfl rfl ?_
    refine js_aload_n (n := 79) X (dg dc_M_step 28 rfl) rfl rfl rfl ?_
    refine js_aload_n (n := 80) X (dg dc_M_step 29 rfl) rfl rfl rfl ?_
    refine js_getf (j := 3) (v := .ref 10) (n := 83) X (dg dc_M_step 30 rfl) rfl hC_P (Nat.le_of_ble_eq_true rfl) hw_313 rfl rfl ?_
    refine js_iload (n := 85) X (dg dc_M_step 31 rfl) rfl rfl ?_
    refine js_iaload (f := P1.2.2.2) (n := 86) X (dg dc_M_step 32 rfl) rfl rfl ?_
    refine js_callV (na := 1) (ci := 3) (n := 89) X (dg dc_M_step 33 rfl) rfl (c_M_numberOf_12 l Dv fu (h.1, P1, ((M.1, M.2.1, (upd M.2.2.1 (ix (M.2.2.2.2.2.1 (ix a2))) a3), M.2.2.2), h.2.2.1.2), h.2.2.2) r out (M.1, M.2.1, (upd M.2.2.1 (ix (M.2.2.2.2.2.1 (ix a2))) a3), M.2.2.2) (P1.2.2.2 (ix (M.2.2.2.2.2.1 (ix a2))))) gV_M_63 rfl rfl hy_M_numberOf ⟨(Nat.le_of_ble_eq_true rfl), (Nat.le_of_ble_eq_true rfl)⟩ rfl ⟨(Nat.le_of_ble_eq_true rfl), (Nat.le_of_ble_eq_true rfl)⟩ rfl rfl rfl rfl rfl ?_
    intro r86
    refine js_iastore (f := M.2.1) (n := 90) X (dg dc_M_step 34 rfl) rfl rfl ?_
    refine js_aload_n (n := 91) X (dg dc_M_step 35 rfl) rfl rfl rfl ?_
    refine js_getf (j := 6) (v := .ref 18) (n := 94) X (dg dc_M_step 36 rfl) rfl hC_M (Nat.le_of_ble_eq_true rfl) hw_310 rfl rfl ?_
    refine js_iload_n (n := 95) X (dg dc_M_step 37 rfl) rfl rfl rfl ?_
    refine js_aload_n (n := 96) X (dg dc_M_step 38 rfl) rfl rfl rfl ?_
    refine js_iload (n := 98) X (dg dc_M_step 39 rfl) rfl rfl ?_
    refine js_callV (na := 1) (ci := 3) (n := 101) X (dg dc_M_step 40 rfl) rfl (c_M_isSplit_12 l Dv fu (h.1, P1, ((M.1, (upd M.2.1 (ix (M.2.2.2.2.2.1 (ix a2))) r86), (upd M.2.2.1 (ix (M.2.2.2.2.2.1 (ix a2))) a3), M.2.2.2), h.2.2.1.2), h.2.2.2) r out (M.1, (upd M.2.1 (ix (M.2.2.2.2.2.1 (ix a2))) r86), (upd M.2.2.1 (ix (M.2.2.2.2.2.1 (ix a2))) a3), M.2.2.2) (P1.2.1 (ix (M.2.2.2.2.2.1 (ix a2))))) gV_M_66 rfl rfl hy_M_isSplit ⟨(Nat.le_of_ble_eq_true rfl), (Nat.le_of_ble_eq_true rfl)⟩ rfl ⟨(Nat.le_of_ble_eq_true rfl), (Nat.le_of_ble_eq_true rfl)⟩ rfl rfl rfl rfl rfl ?_
    intro r98
    refine js_if_eq (t := 108) (n := 104) X (dg dc_M_step 41 rfl) (by decide) rfl ?_ ?_
    · refine js_iconst (n := 109) 2 X (dg dc_M_step 44 rfl) rfl (by decide) ?_
      refine js_iastore (f := M.2.2.2.2.2.2.1) (n := 110) X (dg dc_M_step 45 rfl) rfl rfl ?_
      refine js_goto (t := 295) X (dg dc_M_step 46 rfl) (by decide) ?_
      exact js_retV X (dg dc_M_step 145 rfl) rfl (Nat.le_of_ble_eq_true rfl) (Nat.le_of_ble_eq_true rfl) rfl
    refine js_iconst (n := 105) 1 X (dg dc_M_step 42 rfl) rfl (by decide) ?_
    refine js_goto (t := 109) X (dg dc_M_step 43 rfl) (by decide) ?_
    refine js_iastore (f := M.2.2.2.2.2.2.1) (n := 110) X (dg dc_M_step 45 rfl) rfl rfl ?_
    refine js_goto (t := 295) X (dg dc_M_step 46 rfl) (by decide) ?_
    exact js_retV X (dg dc_M_step 145 rfl) rfl (Nat.le_of_ble_eq_true rfl) (Nat.le_of_ble_eq_true rfl) rfl
  refine js_sw1 113 (by decide) (by decide) ?_ ?_
  · refine js_aload_n (n := 114) X (dg dc_M_step 47 rfl) rfl rfl rfl ?_
    refine js_getf (j := 7) (v := .ref 19) (n := 117) X (dg dc_M_step 48 rfl) rfl hC_M (Nat.le_of_ble_eq_true rfl) hw_324 rfl rfl ?_
    refine js_iload_n (n := 118) X (dg dc_M_step 49 rfl) rfl rfl rfl ?_
    refine js_aload_n (n := 119) X (dg dc_M_step 50 rfl) rfl rfl rfl ?_
    refine js_getf (j := 4) (v := .int M.2.2.2.2.1) (n := 122) X (dg dc_M_step 51 rfl) rfl hC_M (Nat.le_of_ble_eq_true rfl) hw_305 rfl rfl ?_
    refine js_iload (n := 124) X (dg dc_M_step 52 rfl) rfl rfl ?_
    refine js_bipush (n := 126) 6 X (dg dc_M_step 53 rfl) rfl (by decide) ?_
    refine js_icmp_ne (t := 137) (n := 129) X (dg dc_M_step 54 rfl) (by decide) rfl ?_ ?_
    · refine js_iload (n := 139) X (dg dc_M_step 58 rfl) rfl rfl ?_
      refine js_callS (na := 2) (n := 142) X (dg dc_M_step 59 rfl) rfl (c_O_held l Dv fu _ M.2.2.2.2.1 (P1.2.2.1 (ix (M.2.2.2.2.2.1 (ix a2))))) gS_M_73 rfl rfl hy_O_held.2 ⟨(Nat.le_of_ble_eq_true rfl), (Nat.le_of_ble_eq_true rfl)⟩ ⟨(Nat.le_of_ble_eq_true rfl), (Nat.le_of_ble_eq_true rfl)⟩ rfl rfl rfl rfl ?_
      intro r139
      refine js_iastore (f := M.2.2.2.2.2.2.2.1) (n := 143) X (dg dc_M_step 60 rfl) rfl rfl ?_
      refine js_aload_n (n := 144) X (dg dc_M_step 61 rfl) rfl rfl rfl ?_
      refine js_getf (j := 6) (v := .ref 18) (n := 147) X (dg dc_M_step 62 rfl) rfl hC_M (Nat.le_of_ble_eq_true rfl) hw_310 rfl rfl ?_
      refine js_iload_n (n := 148) X (dg dc_M_step 63 rfl) rfl rfl rfl ?_
      refine js_iconst (n := 149) 2 X (dg dc_M_step 64 rfl) rfl (by decide) ?_
      refine js_iastore (f := M.2.2.2.2.2.2.1) (n := 150) X (dg dc_M_step 65 rfl) rfl rfl ?_
      refine js_goto (t := 295) X (dg dc_M_step 66 rfl) (by decide) ?_
      exact js_retV X (dg dc_M_step 145 rfl) rfl (Nat.le_of_ble_eq_true rfl) (Nat.le_of_ble_eq_true rfl) rfl
    refine js_iload (n := 131) X (dg dc_M_step 55 rfl) rfl rfl ?_
    refine js_callS (na := 1) (n := 134) X (dg dc_M_step 56 rfl) rfl (c_O_source l Dv fu _ (P1.2.2.1 (ix (M.2.2.2.2.2.1 (ix a2))))) gS_M_70 rfl rfl hy_O_source.2 ⟨(Nat.le_of_ble_eq_true rfl), (Nat.le_of_ble_eq_true rfl)⟩ ⟨(Nat.le_of_ble_eq_true rfl), (Nat.le_of_ble_eq_true rfl)⟩ rfl rfl rfl rfl ?_
    intro r131
    refine js_goto (t := 139) X (dg dc_M_step 57 rfl) (by decide) ?_
    refine js_callS (na := 2) (n := 142) X (dg dc_M_step 59 rfl) rfl (c_O_held l Dv fu _ M.2.2.2.2.1 r131) gS_M_73 rfl rfl hy_O_held.2 ⟨(Nat.le_of_ble_eq_true rfl), (Nat.le_of_ble_eq_true rfl)⟩ ⟨(Nat.le_of_ble_eq_true rfl), (Nat.le_of_ble_eq_true rfl)⟩ rfl rfl rfl rfl ?_
    intro r139
    refine js_iastore (f := M.2.2.2.2.2.2.2.1) (n := 143) X (dg dc_M_step 60 rfl) rfl rfl ?_
    refine js_aload_n (n := 144) X (dg dc_M_step 61 rfl) rfl rfl rfl ?_
    refine js_getf (j := 6) (v := .ref 18) (n := 147) X (dg dc_M_step 62 rfl) rfl hC_M (Nat.le_of_ble_eq_true rfl) hw_310 rfl rfl ?_
    refine js_iload_n (n := 148) X (dg dc_M_step 63 rfl) rfl rfl rfl ?_
    refine js_iconst (n := 149) 2 X (dg dc_M_step 64 rfl) rfl (by decide) ?_
    refine js_iastore (f := M.2.2.2.2.2.2.1) (n := 150) X (dg dc_M_step 65 rfl) rfl rfl ?_
    refine js_goto (t := 295) X (dg dc_M_step 66 rfl) (by decide) ?_
    exact js_retV X (dg dc_M_step 145 rfl) rfl (Nat.le_of_ble_eq_true rfl) (Nat.le_of_ble_eq_true rfl) rfl
  refine js_sw1 153 (by decide) (by decide) ?_ ?_
  · refine js_aload_n (n := 154) X (dg dc_M_step 67 rfl) rfl rfl rfl ?_
    refine js_iload (n := 156) X (dg dc_M_step 68 rfl) rfl rfl ?_
    refine js_callV (na := 1) (ci := 3) (n := 159) X (dg dc_M_step 69 rfl) rfl (c_M_isSplit_12 l Dv fu (h.1, P1, (M, h.2.2.1.2), h.2.2.2) r out M (P1.2.1 (ix (M.2.2.2.2.2.1 (ix a2))))) gV_M_66 rfl rfl hy_M_isSplit ⟨(Nat.le_of_ble_eq_true rfl), (Nat.le_of_ble_eq_true rfl)⟩ rfl ⟨(Nat.le_of_ble_eq_true rfl), (Nat.le_of_ble_eq_true rfl)⟩ rfl rfl rfl rfl rfl ?_
    intro r156
    refine js_if_eq (t := 181) (n := 162) X (dg dc_M_step 70 rfl) (by decide) rfl ?_ ?_
    · refine js_aload_n (n := 182) X (dg dc_M_step 81 rfl) rfl rfl rfl ?_
      refine js_iload (n := 184) X (dg dc_M_step 82 rfl) rfl rfl ?_
      refine js_iload (n := 186) X (dg dc_M_step 83 rfl) rfl rfl ?_
      refine js_iload (n := 188) X (dg dc_M_step 84 rfl) rfl rfl ?_
      refine js_callV (na := 3) (ci := 3) (n := 191) X (dg dc_M_step 85 rfl) rfl (c_M_act_12 l Dv fu (h.1, P1, (M, h.2.2.1.2), h.2.2.2) r out M (M.2.2.2.2.2.1 (ix a2)) (P1.2.1 (ix (M.2.2.2.2.2.1 (ix a2)))) (P1.2.2.1 (ix (M.2.2.2.2.2.1 (ix a2))))) gV_M_81 rfl rfl hy_M_act ⟨(Nat.le_of_ble_eq_true rfl), (Nat.le_of_ble_eq_true rfl)⟩ rfl ⟨(Nat.le_of_ble_eq_true rfl), (Nat.le_of_ble_eq_true rfl)⟩ rfl rfl rfl rfl rfl ?_
      intro M_188
      refine js_aload_n (n := 192) X (dg dc_M_step 86 rfl) rfl rfl rfl ?_
      refine js_getf (j := 6) (v := .ref 18) (n := 195) X (dg dc_M_step 87 rfl) rfl hC_M (Nat.le_of_ble_eq_true rfl) hw_310 rfl rfl ?_
      refine js_iload_n (n := 196) X (dg dc_M_step 88 rfl) rfl rfl rfl ?_
      refine js_iconst (n := 197) 3 X (dg dc_M_step 89 rfl) rfl (by decide) ?_
      refine js_iastore (f := M_188.2.2.2.2.2.2.1) (n := 198) X (dg dc_M_step 90 rfl) rfl rfl ?_
      refine js_goto (t := 295) X (dg dc_M_step 91 rfl) (by decide) ?_
      exact js_retV X (dg dc_M_step 145 rfl) rfl (Nat.le_of_ble_eq_true rfl) (Nat.le_of_ble_eq_true rfl) rfl
    refine js_aload_n (n := 163) X (dg dc_M_step 71 rfl) rfl rfl rfl ?_
    refine js_iload (n := 165) X (dg dc_M_step 72 rfl) rfl rfl ?_
    refine js_iload (n := 167) X (dg dc_M_step 73 rfl) rfl rfl ?_
    refine js_iload (n := 169) X (dg dc_M_step 74 rfl) rfl rfl ?_
    refine js_aload_n (n := 170) X (dg dc_M_step 75 rfl) rfl rfl rfl ?_
    refine js_getf (j := 7) (v := .ref 19) (n := 173) X (dg dc_M_step 76 rfl) rfl hC_M (Nat.le_of_ble_eq_true rfl) hw_324 rfl rfl ?_
    refine js_iload_n (n := 174) X (dg dc_M_step 77 rfl) rfl rfl rfl ?_
    refine js_iaload (f := M.2.2.2.2.2.2.2.1) (n := 175) X (dg dc_M_step 78 rfl) rfl rfl ?_
    refine js_callV (na := 4) (ci := 3) (n := 178) X (dg dc_M_step 79 rfl) rfl (c_M_actByNote_12 l Dv fu (h.1, P1, (M, h.2.2.1.2), h.2.2.2) r out M (M.2.2.2.2.2.1 (ix a2)) (P1.2.1 (ix (M.2.2.2.2.2.1 (ix a2)))) (P1.2.2.1 (ix (M.2.2.2.2.2.1 (ix a2)))) (M.2.2.2.2.2.2.2.1 (ix a2))) gV_M_77 rfl rfl hy_M_actByNote ⟨(Nat.le_of_ble_eq_true rfl), (Nat.le_of_ble_eq_true rfl)⟩ rfl ⟨(Nat.le_of_ble_eq_true rfl), (Nat.le_of_ble_eq_true rfl)⟩ rfl rfl rfl rfl rfl ?_
    intro M_175
    refine js_goto (t := 191) X (dg dc_M_step 80 rfl) (by decide) ?_
    refine js_aload_n (n := 192) X (dg dc_M_step 86 rfl) rfl rfl rfl ?_
    refine js_getf (j := 6) (v := .ref 18) (n := 195) X (dg dc_M_step 87 rfl) rfl hC_M (Nat.le_of_ble_eq_true rfl) hw_310 rfl rfl ?_
    refine js_iload_n (n := 196) X (dg dc_M_step 88 rfl) rfl rfl rfl ?_
    refine js_iconst (n := 197) 3 X (dg dc_M_step 89 rfl) rfl (by decide) ?_
    refine js_iastore (f := M_175.2.2.2.2.2.2.1) (n := 198) X (dg dc_M_step 90 rfl) rfl rfl ?_
    refine js_goto (t := 295) X (dg dc_M_step 91 rfl) (by decide) ?_
    exact js_retV X (dg dc_M_step 145 rfl) rfl (Nat.le_of_ble_eq_true rfl) (Nat.le_of_ble_eq_true rfl) rfl
  refine js_sw1 201 (by decide) (by decide) ?_ ?_
  · refine js_aload_n (n := 202) X (dg dc_M_step 92 rfl) rfl rfl rfl ?_
    refine js_getf (j := 3) (v := .ref 16) (n := 205) X (dg dc_M_step 93 rfl) rfl hC_M (Nat.le_of_ble_eq_true rfl) hw_343 rfl rfl ?_
    refine js_iload (n := 207) X (dg dc_M_step 94 rfl) rfl rfl ?_
    refine js_iload_n (n := 208) X (dg dc_M_step 95 rfl) rfl rfl rfl ?_
    refine js_iastore (f := M.2.2.2.1) (n := 209) X (dg dc_M_step 96 rfl) rfl rfl ?_
    refine js_aload_n (n := 210) X (dg dc_M_step 97 rfl) rfl rfl rfl ?_
    refine js_getf (j := 6) (v := .ref 18) (n := 213) X (dg dc_M_step 98 rfl) rfl hC_M (Nat.le_of_ble_eq_true rfl) hw_310 rfl rfl ?_
    refine js_iload_n (n := 214) X (dg dc_M_step 99 rfl) rfl rfl rfl ?_
    refine js_aload_n (n := 215) X (dg dc_M_step 100 rfl) rfl rfl rfl ?_
    refine js_iload (n := 217) X (dg dc_M_step 101 rfl) rfl rfl ?_
    refine js_callV (na := 1) (ci := 3) (n := 220) X (dg dc_M_step 102 rfl) rfl (c_M_isLate_12 l Dv fu (h.1, P1, ((M.1, M.2.1, M.2.2.1, (upd M.2.2.2.1 (ix (M.2.2.2.2.2.1 (ix a2))) a3), M.2.2.2.2), h.2.2.1.2), h.2.2.2) r out (M.1, M.2.1, M.2.2.1, (upd M.2.2.2.1 (ix (M.2.2.2.2.2.1 (ix a2))) a3), M.2.2.2.2) (P1.2.1 (ix (M.2.2.2.2.2.1 (ix a2))))) gV_M_85 rfl rfl hy_M_isLate ⟨(Nat.le_of_ble_eq_true rfl), (Nat.le_of_ble_eq_true rfl)⟩ rfl ⟨(Nat.le_of_ble_eq_true rfl), (Nat.le_of_ble_eq_true rfl)⟩ rfl rfl rfl rfl rfl ?_
    intro r217
    refine js_if_eq (t := 227) (n := 223) X (dg dc_M_step 103 rfl) (by decide) rfl ?_ ?_
    · refine js_iconst (n := 228) 0 X (dg dc_M_step 106 rfl) rfl (by decide) ?_
      exact js_keep [true, false, true, false, true, true, false] (jl_M_step_12_6_L228 l Dv fu h r out κ X P1 (M.1, M.2.1, M.2.2.1, (upd M.2.2.2.1 (ix (M.2.2.2.2.2.1 (ix a2))) a3), M.2.2.2.2) a2 (M.2.2.2.2.2.1 (ix a2)) (P1.2.1 (ix (M.2.2.2.2.2.1 (ix a2)))) a2 0)
    refine js_iconst (n := 224) 4 X (dg dc_M_step 104 rfl) rfl (by decide) ?_
    refine js_goto (t := 228) X (dg dc_M_step 105 rfl) (by decide) ?_
    exact js_keep [true, false, true, false, true, true, false] (jl_M_step_12_6_L228 l Dv fu h r out κ X P1 (M.1, M.2.1, M.2.2.1, (upd M.2.2.2.1 (ix (M.2.2.2.2.2.1 (ix a2))) a3), M.2.2.2.2) a2 (M.2.2.2.2.2.1 (ix a2)) (P1.2.1 (ix (M.2.2.2.2.2.1 (ix a2)))) a2 4)
  refine js_sw0 256 (by decide) ?_
  refine js_aload_n (n := 257) X (dg dc_M_step 122 rfl) rfl rfl rfl ?_
  refine js_aload_n (n := 258) X (dg dc_M_step 123 rfl) rfl rfl rfl ?_
  refine js_getf (j := 4) (v := .int M.2.2.2.2.1) (n := 261) X (dg dc_M_step 124 rfl) rfl hC_M (Nat.le_of_ble_eq_true rfl) hw_305 rfl rfl ?_
  refine js_iload (n := 263) X (dg dc_M_step 125 rfl) rfl rfl ?_
  refine js_iload (n := 265) X (dg dc_M_step 126 rfl) rfl rfl ?_
  refine js_aload_n (n := 266) X (dg dc_M_step 127 rfl) rfl rfl rfl ?_
  refine js_getf (j := 1) (v := .ref 14) (n := 269) X (dg dc_M_step 128 rfl) rfl hC_M (Nat.le_of_ble_eq_true rfl) hw_312 rfl rfl ?_
  refine js_iload (n := 271) X (dg dc_M_step 129 rfl) rfl rfl ?_
  refine js_iaload (f := M.2.1) (n := 272) X (dg dc_M_step 130 rfl) rfl rfl ?_
  refine js_callS (na := 4) (n := 275) X (dg dc_M_step 131 rfl) rfl (c_O_after l Dv fu _ M.2.2.2.2.1 (P1.2.1 (ix (M.2.2.2.2.2.1 (ix a2)))) (P1.2.2.1 (ix (M.2.2.2.2.2.1 (ix a2)))) (M.2.1 (ix (M.2.2.2.2.2.1 (ix a2))))) gS_M_88 rfl rfl hy_O_after.2 ⟨(Nat.le_of_ble_eq_true rfl), (Nat.le_of_ble_eq_true rfl)⟩ ⟨(Nat.le_of_ble_eq_true rfl), (Nat.le_of_ble_eq_true rfl)⟩ rfl rfl rfl rfl ?_
  intro r272
  refine js_puti (j := 4) (n := 278) X (dg dc_M_step 132 rfl) rfl hC_M (Nat.le_of_ble_eq_true rfl) hw_305 rfl rfl (Or.inl rfl) (Nat.le_of_ble_eq_true rfl) ?_
  refine js_aload_n (n := 279) X (dg dc_M_step 133 rfl) rfl rfl rfl ?_
  refine js_getf (j := 6) (v := .ref 18) (n := 282) X (dg dc_M_step 134 rfl) rfl hC_M (Nat.le_of_ble_eq_true rfl) hw_310 rfl rfl ?_
  refine js_iload_n (n := 283) X (dg dc_M_step 135 rfl) rfl rfl rfl ?_
  refine js_iconst (n := 284) 0 X (dg dc_M_step 136 rfl) rfl (by decide) ?_
  refine js_iastore (f := M.2.2.2.2.2.2.1) (n := 285) X (dg dc_M_step 137 rfl) rfl rfl ?_
  refine js_aload_n (n := 286) X (dg dc_M_step 138 rfl) rfl rfl rfl ?_
  refine js_getf (j := 5) (v := .ref 17) (n := 289) X (dg dc_M_step 139 rfl) rfl hC_M (Nat.le_of_ble_eq_true rfl) hw_307 rfl rfl ?_
  refine js_iload_n (n := 290) X (dg dc_M_step 140 rfl) rfl rfl rfl ?_
  refine js_iload (n := 292) X (dg dc_M_step 141 rfl) rfl rfl ?_
  refine js_iconst (n := 293) 1 X (dg dc_M_step 142 rfl) rfl (by decide) ?_
  refine js_iadd (n := 294) X (dg dc_M_step 143 rfl) rfl ?_
  refine js_iastore (f := M.2.2.2.2.2.1) (n := 295) X (dg dc_M_step 144 rfl) rfl rfl ?_
  exact js_retV X (dg dc_M_step 145 rfl) rfl (Nat.le_of_ble_eq_true rfl) (Nat.le_of_ble_eq_true rfl) rfl
set_option maxRecDepth 100000 in
set_option maxHeartbeats 4000000 in
theorem jl_M_perform_12_6_L178 (l : Launch) (Dv : va_G) (fu : Nat) (h : S_H) (r : S_R) (out : Nat → Int64) (κ : ev_ka) (X : ev_X l Dv gaX mu_M_perform κ) (P1 : S_P) (k104 : S_M → Int32 → Int32 → Int32 → Int32 → Option (S_M)) (hk104 : ∀ (M : S_M) (v3 : Int32) (v5 : Int32) (v6 : Int32) (v7 : Int32), ev_J l Dv gaX mu_M_perform κ 104 0 0 [some (.ref 12), some (.ref 6), none, some (.int v3), none, some (.int v5), some (.int v6), some (.int v7), none, none, none] [] (hpW (h.1, P1, (M, h.2.2.1.2), h.2.2.2) r out) (k104 M v3 v5 v6 v7) (fun q => (none, hpW (h.1, P1, (q, h.2.2.1.2), h.2.2.2) r out))) (M : S_M) (v3 : Int32) (v5 : Int32) (v6 : Int32) (v7 : Int32) (v8 : Int32) (v9 : Int32) (s0 : Int32) : ev_J l Dv gaX mu_M_perform κ 178 0 0 [some (.ref 12), some (.ref 6), none, some (.int v3), none, some (.int v5), some (.int v6), some (.int v7), some (.int v8), some (.int v9), none] [.int s0] (hpW (h.1, P1, (M, h.2.2.1.2), h.2.2.2) r out) (f_M_perform_L178 fu P1 k104 M v3 v5 v6 v7 v8 v9 s0) (fun q => (none, hpW (h.1, P1, (q, h.2.2.1.2), h.2.2.2) r out)) := by
  unfold f_M_perform_L178
  refine js_istore (lo' := [some (.ref 12), some (.ref 6), none, some (.int v3), none, some (.int v5), some (.int v6), some (.int v7), some (.int v8), some (.int v9), some (.int s0)]) (n := 180) X (dg dc_M_perform 97 rfl) rfl (Nat.le_of_ble_eq_true rfl) rfl ?_
  refine js_aload_n (n := 181) X (dg dc_M_perform 98 rfl) rfl rfl rfl ?_
  refine js_aload_n (n := 182) X (dg dc_M_perform 99 rfl) rfl rfl rfl ?_
  refine js_iload (n := 184) X (dg dc_M_perform 100 rfl) rfl rfl ?_
  refine js_if_ne (t := 197) (n := 187) X (dg dc_M_perform 101 rfl) (by decide) rfl ?_ ?_
  · refine js_iconst (n := 198) 2 X (dg dc_M_perform 106 rfl) rfl (by decide) ?_
    refine js_goto (t := 202) X (dg dc_M_perform 107 rfl) (by decide) ?_
    refine js_iload (n := 204) X (dg dc_M_perform 109 rfl) rfl rfl ?_
    refine js_callV (na := 3) (ci := 3) (n := 207) X (dg dc_M_perform 110 rfl) rfl (c_M_step_12_6 l Dv fu (h.1, P1, (M, h.2.2.1.2), h.2.2.2) r out M P1 2 v7) gV_M_51 rfl rfl hy_M_step ⟨(Nat.le_of_ble_eq_true rfl), (Nat.le_of_ble_eq_true rfl)⟩ rfl ⟨(Nat.le_of_ble_eq_true rfl), (Nat.le_of_ble_eq_true rfl)⟩ rfl rfl rfl rfl rfl ?_
    intro M_204
    refine js_iinc (lo' := [some (.ref 12), some (.ref 6), none, some (.int v3), none, some (.int v5), some (.int v6), some (.int (v7 + 1)), some (.int v8), some (.int v9), some (.int s0)]) (n := 210) 1 X (dg dc_M_perform 111 rfl) rfl (by decide) (Nat.le_of_ble_eq_true rfl) rfl rfl ?_
    refine js_goto (t := 104) X (dg dc_M_perform 112 rfl) (by decide) ?_
    exact js_keep [true, true, false, true, false, true, true, true, false, false, false] (hk104 M_204 v3 v5 v6 (v7 + 1))
  refine js_iload (n := 189) X (dg dc_M_perform 102 rfl) rfl rfl ?_
  refine js_if_eq (t := 201) (n := 192) X (dg dc_M_perform 103 rfl) (by decide) rfl ?_ ?_
  · refine js_iconst (n := 202) 1 X (dg dc_M_perform 108 rfl) rfl (by decide) ?_
    refine js_iload (n := 204) X (dg dc_M_perform 109 rfl) rfl rfl ?_
    refine js_callV (na := 3) (ci := 3) (n := 207) X (dg dc_M_perform 110 rfl) rfl (c_M_step_12_6 l Dv fu (h.1, P1, (M, h.2.2.1.2), h.2.2.2) r out M P1 1 v7) gV_M_51 rfl rfl hy_M_step ⟨(Nat.le_of_ble_eq_true rfl), (Nat.le_of_ble_eq_true rfl)⟩ rfl ⟨(Nat.le_of_ble_eq_true rfl), (Nat.le_of_ble_eq_true rfl)⟩ rfl rfl rfl rfl rfl ?_
    intro M_204
    refine js_iinc (lo' := [some (.ref 12), some (.ref 6), none, some (.int v3), none, some (.int v5), some (.int v6), some (.int (v7 + 1)), some (.int v8), some (.int v9), some (.int s0)]) (n := 210) 1 X (dg dc_M_perform 111 rfl) rfl (by decide) (Nat.le_of_ble_eq_true rfl) rfl rfl ?_
    refine js_goto (t := 104) X (dg dc_M_perform 112 rfl) (by decide) ?_
    exact js_keep [true, true, false, true, false, true, true, true, false, false, false] (hk104 M_204 v3 v5 v6 (v7 + 1))
  refine js_iload (n := 194) X (dg dc_M_perform 104 rfl) rfl rfl ?_
  refine js_if_ne (t := 201) (n := 197) X (dg dc_M_perform 105 rfl) (by decide) rfl ?_ ?_
  · refine js_iconst (n := 202) 1 X (dg dc_M_perform 108 rfl) rfl (by decide) ?_
    refine js_iload (n := 204) X (dg dc_M_perform 109 rfl) rfl rfl ?_
    refine js_callV (na := 3) (ci := 3) (n := 207) X (dg dc_M_perform 110 rfl) rfl (c_M_step_12_6 l Dv fu (h.1, P1, (M, h.2.2.1.2), h.2.2.2) r out M P1 1 v7) gV_M_51 rfl rfl hy_M_step ⟨(Nat.le_of_ble_eq_true rfl), (Nat.le_of_ble_eq_true rfl)⟩ rfl ⟨(Nat.le_of_ble_eq_true rfl), (Nat.le_of_ble_eq_true rfl)⟩ rfl rfl rfl rfl rfl ?_
    intro M_204
    refine js_iinc (lo' := [some (.ref 12), some (.ref 6), none, some (.int v3), none, some (.int v5), some (.int v6), some (.int (v7 + 1)), some (.int v8), some (.int v9), some (.int s0)]) (n := 210) 1 X (dg dc_M_perform 111 rfl) rfl (by decide) (Nat.le_of_ble_eq_true rfl) rfl rfl ?_
    refine js_goto (t := 104) X (dg dc_M_perform 112 rfl) (by decide) ?_
    exact js_keep [true, true, false, true, false, true, true, true, false, false, false] (hk104 M_204 v3 v5 v6 (v7 + 1))
  refine js_iconst (n := 198) 2 X (dg dc_M_perform 106 rfl) rfl (by decide) ?_
  refine js_goto (t := 202) X (dg dc_M_perform 107 rfl) (by decide) ?_
  refine js_iload (n := 204) X (dg dc_M_perform 109 rfl) rfl rfl ?_
  refine js_callV (na := 3) (ci := 3) (n := 207) X (dg dc_M_perform 110 rfl) rfl (c_M_step_12_6 l Dv fu (h.1, P1, (M, h.2.2.1.2), h.2.2.2) r out M P1 2 v7) gV_M_51 rfl rfl hy_M_step ⟨(Nat.le_of_ble_eq_true rfl), (Nat.le_of_ble_eq_true rfl)⟩ rfl ⟨(Nat.le_of_ble_eq_true rfl), (Nat.le_of_ble_eq_true rfl)⟩ rfl rfl rfl rfl rfl ?_
  intro M_204
  refine js_iinc (lo' := [some (.ref 12), some (.ref 6), none, some (.int v3), none, some (.int v5), some (.int v6), some (.int (v7 + 1)), some (.int v8), some (.int v9), some (.int s0)]) (n := 210) 1 X (dg dc_M_perform 111 rfl) rfl (by decide) (Nat.le_of_ble_eq_true rfl) rfl rfl ?_
  refine js_goto (t := 104) X (dg dc_M_perform 112 rfl) (by decide) ?_
  exact js_keep [true, true, false, true, false, true, true, true, false, false, false] (hk104 M_204 v3 v5 v6 (v7 + 1))
set_option maxRecDepth 100000 in
set_option maxHeartbeats 4000000 in
theorem jl_M_perform_12_6_L160 (l : Launch) (Dv : va_G) (fu : Nat) (h : S_H) (r : S_R) (out : Nat → Int64) (κ : ev_ka) (X : ev_X l Dv gaX mu_M_perform κ) (P1 : S_P) (k104 : S_M → Int32 → Int32 → Int32 → Int32 → Option (S_M)) (hk104 : ∀ (M : S_M) (v3 : Int32) (v5 : Int32) (v6 : Int32) (v7 : Int32), ev_J l Dv gaX mu_M_perform κ 104 0 0 [some (.ref 12), some (.ref 6), none, some (.int v3), none, some (.int v5), some (.int v6), some (.int v7), none, none, none] [] (hpW (h.1, P1, (M, h.2.2.1.2), h.2.2.2) r out) (k104 M v3 v5 v6 v7) (fun q => (none, hpW (h.1, P1, (q, h.2.2.1.2), h.2.2.2) r out))) (M : S_M) (v3 : Int32) (v5 : Int32) (v6 : Int32) (v7 : Int32) (v8 : Int32) (v9 : Int32) : ev_J l Dv gaX mu_M_perform κ 160 0 0 [some (.ref 12), some (.ref 6), none, some (.int v3), none, some (.int v5), some (.int v6), some (.int v7), some (.int v8), some (.int v9), none] [] (hpW (h.1, P1, (M, h.2.2.1.2), h.2.2.2) r out) (f_M_perform_L160 fu P1 k104 M v3 v5 v6 v7 v8 v9) (fun q => (none, hpW (h.1, P1, (q, h.2.2.1.2), h.2.2.2) r out)) := by
  unfold f_M_perform_L160
  refine js_iload_n (n := 161) X (dg dc_M_perform 85 rfl) rfl rfl rfl ?_
  refine js_iload (n := 163) X (dg dc_M_perform 86 rfl) rfl rfl ?_
  refine js_bipush (n := 165) 31 X (dg dc_M_perform 87 rfl) rfl (by decide) ?_
  refine js_irem (n := 166) X (dg dc_M_perform 88 rfl) rfl ?_
  refine js_ishr (n := 167) X (dg dc_M_perform 89 rfl) rfl ?_
  refine js_iconst (n := 168) 1 X (dg dc_M_perform 90 rfl) rfl (by decide) ?_
  refine js_iand (n := 169) X (dg dc_M_perform 91 rfl) rfl ?_
  refine js_iconst (n := 170) 1 X (dg dc_M_perform 92 rfl) rfl (by decide) ?_
  refine js_icmp_ne (t := 177) (n := 173) X (dg dc_M_perform 93 rfl) (by decide) rfl ?_ ?_
  · refine js_iconst (n := 178) 0 X (dg dc_M_perform 96 rfl) rfl (by decide) ?_
    exact js_keep [true, true, false, true, false, true, true, true, true, true, false] (jl_M_perform_12_6_L178 l Dv fu h r out κ X P1 k104 (fun z0 z1 z2 z3 z4 => hk104 z0 z1 z2 z3 z4) M v3 v5 v6 v7 v8 v9 0)
  refine js_iconst (n := 174) 1 X (dg dc_M_perform 94 rfl) rfl (by decide) ?_
  refine js_goto (t := 178) X (dg dc_M_perform 95 rfl) (by decide) ?_
  exact js_keep [true, true, false, true, false, true, true, true, true, true, false] (jl_M_perform_12_6_L178 l Dv fu h r out κ X P1 k104 (fun z0 z1 z2 z3 z4 => hk104 z0 z1 z2 z3 z4) M v3 v5 v6 v7 v8 v9 1)
set_option maxRecDepth 100000 in
set_option maxHeartbeats 4000000 in
theorem jl_M_perform_12_6_L127 (l : Launch) (Dv : va_G) (fu : Nat) (h : S_H) (r : S_R) (out : Nat → Int64) (κ : ev_ka) (X : ev_X l Dv gaX mu_M_perform κ) (P1 : S_P) (k104 : S_M → Int32 → Int32 → Int32 → Int32 → Option (S_M)) (hk104 : ∀ (M : S_M) (v3 : Int32) (v5 : Int32) (v6 : Int32) (v7 : Int32), ev_J l Dv gaX mu_M_perform κ 104 0 0 [some (.ref 12), some (.ref 6), none, some (.int v3), none, some (.int v5), some (.int v6), some (.int v7), none, none, none] [] (hpW (h.1, P1, (M, h.2.2.1.2), h.2.2.2) r out) (k104 M v3 v5 v6 v7) (fun q => (none, hpW (h.1, P1, (q, h.2.2.1.2), h.2.2.2) r out))) (M : S_M) (v3 : Int32) (v5 : Int32) (v6 : Int32) (v7 : Int32) (s0 : Int32) : ev_J l Dv gaX mu_M_perform κ 127 0 0 [some (.ref 12), some (.ref 6), none, some (.int v3), none, some (.int v5), some (.int v6), some (.int v7), none, none, none] [.int s0] (hpW (h.1, P1, (M, h.2.2.1.2), h.2.2.2) r out) (f_M_perform_L127 fu P1 k104 M v3 v5 v6 v7 s0) (fun q => (none, hpW (h.1, P1, (q, h.2.2.1.2), h.2.2.2) r out)) := by
  unfold f_M_perform_L127
  refine js_istore (lo' := [some (.ref 12), some (.ref 6), none, some (.int v3), none, some (.int v5), some (.int v6), some (.int v7), some (.int s0), none, none]) (n := 129) X (dg dc_M_perform 69 rfl) rfl (Nat.le_of_ble_eq_true rfl) rfl ?_
  refine js_aload_n (n := 130) X (dg dc_M_perform 70 rfl) rfl rfl rfl ?_
  refine js_getf (j := 5) (v := .ref 17) (n := 133) X (dg dc_M_perform 71 rfl) rfl hC_M (Nat.le_of_ble_eq_true rfl) hw_307 rfl rfl ?_
  refine js_iconst (n := 134) 2 X (dg dc_M_perform 72 rfl) rfl (by decide) ?_
  refine js_iaload (f := M.2.2.2.2.2.1) (n := 135) X (dg dc_M_perform 73 rfl) rfl rfl ?_
  refine js_iload (n := 137) X (dg dc_M_perform 74 rfl) rfl rfl ?_
  refine js_icmp_lt (t := 144) (n := 140) X (dg dc_M_perform 75 rfl) (by decide) rfl ?_ ?_
  · refine js_iconst (n := 145) 0 X (dg dc_M_perform 78 rfl) rfl (by decide) ?_
    refine js_istore (lo' := [some (.ref 12), some (.ref 6), none, some (.int v3), none, some (.int v5), some (.int v6), some (.int v7), some (.int s0), some (.int 0), none]) (n := 147) X (dg dc_M_perform 79 rfl) rfl (Nat.le_of_ble_eq_true rfl) rfl ?_
    refine js_iload (n := 149) X (dg dc_M_perform 80 rfl) rfl rfl ?_
    refine js_if_eq (t := 160) (n := 152) X (dg dc_M_perform 81 rfl) (by decide) rfl ?_ ?_
    · exact js_keep [true, true, false, true, false, true, true, true, true, true, false] (jl_M_perform_12_6_L160 l Dv fu h r out κ X P1 k104 (fun z0 z1 z2 z3 z4 => hk104 z0 z1 z2 z3 z4) M v3 v5 v6 v7 s0 0)
    refine js_iload (n := 154) X (dg dc_M_perform 82 rfl) rfl rfl ?_
    refine js_if_eq_t (t := 160) X (dg dc_M_perform 83 rfl) (by decide) (by decide) ?_
    exact js_keep [true, true, false, true, false, true, true, true, true, true, false] (jl_M_perform_12_6_L160 l Dv fu h r out κ X P1 k104 (fun z0 z1 z2 z3 z4 => hk104 z0 z1 z2 z3 z4) M v3 v5 v6 v7 s0 0)
  refine js_iconst (n := 141) 1 X (dg dc_M_perform 76 rfl) rfl (by decide) ?_
  refine js_goto (t := 145) X (dg dc_M_perform 77 rfl) (by decide) ?_
  refine js_istore (lo' := [some (.ref 12), some (.ref 6), none, some (.int v3), none, some (.int v5), some (.int v6), some (.int v7), some (.int s0), some (.int 1), none]) (n := 147) X (dg dc_M_perform 79 rfl) rfl (Nat.le_of_ble_eq_true rfl) rfl ?_
  refine js_iload (n := 149) X (dg dc_M_perform 80 rfl) rfl rfl ?_
  refine js_if_eq (t := 160) (n := 152) X (dg dc_M_perform 81 rfl) (by decide) rfl ?_ ?_
  · exact js_keep [true, true, false, true, false, true, true, true, true, true, false] (jl_M_perform_12_6_L160 l Dv fu h r out κ X P1 k104 (fun z0 z1 z2 z3 z4 => hk104 z0 z1 z2 z3 z4) M v3 v5 v6 v7 s0 1)
  refine js_iload (n := 154) X (dg dc_M_perform 82 rfl) rfl rfl ?_
  refine js_if_eq_f (t := 160) (n := 157) X (dg dc_M_perform 83 rfl) (by decide) rfl (by decide) ?_
  refine js_goto (t := 213) X (dg dc_M_perform 84 rfl) (by decide) ?_
  exact js_retV X (dg dc_M_perform 113 rfl) rfl (Nat.le_of_ble_eq_true rfl) (Nat.le_of_ble_eq_true rfl) rfl
set_option maxRecDepth 100000 in
set_option maxHeartbeats 4000000 in
theorem jl_M_perform_12_6_L104 (l : Launch) (Dv : va_G) (fu : Nat) (h : S_H) (r : S_R) (out : Nat → Int64) (κ : ev_ka) (X : ev_X l Dv gaX mu_M_perform κ) (P1 : S_P) : ∀ (n : Nat) (M : S_M) (v3 : Int32) (v5 : Int32) (v6 : Int32) (v7 : Int32), ev_J l Dv gaX mu_M_perform κ 104 0 0 [some (.ref 12), some (.ref 6), none, some (.int v3), none, some (.int v5), some (.int v6), some (.int v7), none, none, none] [] (hpW (h.1, P1, (M, h.2.2.1.2), h.2.2.2) r out) (f_M_perform_L104 fu P1 n M v3 v5 v6 v7) (fun q => (none, hpW (h.1, P1, (q, h.2.2.1.2), h.2.2.2) r out)) := by
  intro n
  induction n with
  | zero => exact fun _ _ _ _ _ => js_none
  | succ n ih =>
    intro M v3 v5 v6 v7
    unfold f_M_perform_L104
    refine js_iload (n := 106) X (dg dc_M_perform 57 rfl) rfl rfl ?_
    refine js_bipush (n := 108) 70 X (dg dc_M_perform 58 rfl) rfl (by decide) ?_
    refine js_icmp_ge (t := 213) (n := 111) X (dg dc_M_perform 59 rfl) (by decide) rfl ?_ ?_
    · exact js_retV X (dg dc_M_perform 113 rfl) rfl (Nat.le_of_ble_eq_true rfl) (Nat.le_of_ble_eq_true rfl) rfl
    refine js_aload_n (n := 112) X (dg dc_M_perform 60 rfl) rfl rfl rfl ?_
    refine js_getf (j := 5) (v := .ref 17) (n := 115) X (dg dc_M_perform 61 rfl) rfl hC_M (Nat.le_of_ble_eq_true rfl) hw_307 rfl rfl ?_
    refine js_iconst (n := 116) 1 X (dg dc_M_perform 62 rfl) rfl (by decide) ?_
    refine js_iaload (f := M.2.2.2.2.2.1) (n := 117) X (dg dc_M_perform 63 rfl) rfl rfl ?_
    refine js_iload (n := 119) X (dg dc_M_perform 64 rfl) rfl rfl ?_
    refine js_icmp_lt (t := 126) (n := 122) X (dg dc_M_perform 65 rfl) (by decide) rfl ?_ ?_
    · refine js_iconst (n := 127) 0 X (dg dc_M_perform 68 rfl) rfl (by decide) ?_
      exact js_keep [true, true, false, true, false, true, true, true, false, false, false] (jl_M_perform_12_6_L127 l Dv fu h r out κ X P1 (f_M_perform_L104 fu P1 n) (fun z0 z1 z2 z3 z4 => ih z0 z1 z2 z3 z4) M v3 v5 v6 v7 0)
    refine js_iconst (n := 123) 1 X (dg dc_M_perform 66 rfl) rfl (by decide) ?_
    refine js_goto (t := 127) X (dg dc_M_perform 67 rfl) (by decide) ?_
    exact js_keep [true, true, false, true, false, true, true, true, false, false, false] (jl_M_perform_12_6_L127 l Dv fu h r out κ X P1 (f_M_perform_L104 fu P1 n) (fun z0 z1 z2 z3 z4 => ih z0 z1 z2 z3 z4) M v3 v5 v6 v7 1)
set_option maxRecDepth 100000 in
set_option maxHeartbeats 4000000 in
theorem jl_M_perform_12_6_L87 (l : Launch) (Dv : va_G) (fu : Nat) (h : S_H) (r : S_R) (out : Nat → Int64) (κ : ev_ka) (X : ev_X l Dv gaX mu_M_perform κ) (P1 : S_P) (M : S_M) (v3 : Int32) : ev_J l Dv gaX mu_M_perform κ 87 0 0 [some (.ref 12), some (.ref 6), none, some (.int v3), none, none, none, none, none, none, none] [] (hpW (h.1, P1, (M, h.2.2.1.2), h.2.2.2) r out) (f_M_perform_L87 fu P1 M v3) (fun q => (none, hpW (h.1, P1, (q, h.2.2.1.2), h.2.2.2) r out)) := by
  unfold f_M_perform_L87
  refine js_aload_n (n := 88) X (dg dc_M_perform 47 rfl) rfl rfl rfl ?_
  refine js_iconst (n := 89) 1 X (dg dc_M_perform 48 rfl) rfl (by decide) ?_
  refine js_callV (na := 1) (ci := 1) (n := 92) X (dg dc_M_perform 49 rfl) rfl (c_P_end_6 l Dv fu (h.1, P1, (M, h.2.2.1.2), h.2.2.2) r out P1 1) gV_M_48 rfl rfl hy_P_end ⟨(Nat.le_of_ble_eq_true rfl), (Nat.le_of_ble_eq_true rfl)⟩ rfl ⟨(Nat.le_of_ble_eq_true rfl), (Nat.le_of_ble_eq_true rfl)⟩ rfl rfl rfl rfl rfl ?_
  intro r89
  refine js_istore (lo' := [some (.ref 12), some (.ref 6), none, some (.int v3), none, some (.int r89), none, none, none, none, none]) (n := 94) X (dg dc_M_perform 50 rfl) rfl (Nat.le_of_ble_eq_true rfl) rfl ?_
  refine js_aload_n (n := 95) X (dg dc_M_perform 51 rfl) rfl rfl rfl ?_
  refine js_iconst (n := 96) 2 X (dg dc_M_perform 52 rfl) rfl (by decide) ?_
  refine js_callV (na := 1) (ci := 1) (n := 99) X (dg dc_M_perform 53 rfl) rfl (c_P_end_6 l Dv fu (h.1, P1, (M, h.2.2.1.2), h.2.2.2) r out P1 2) gV_M_48 rfl rfl hy_P_end ⟨(Nat.le_of_ble_eq_true rfl), (Nat.le_of_ble_eq_true rfl)⟩ rfl ⟨(Nat.le_of_ble_eq_true rfl), (Nat.le_of_ble_eq_true rfl)⟩ rfl rfl rfl rfl rfl ?_
  intro r96
  refine js_istore (lo' := [some (.ref 12), some (.ref 6), none, some (.int v3), none, some (.int r89), some (.int r96), none, none, none, none]) (n := 101) X (dg dc_M_perform 54 rfl) rfl (Nat.le_of_ble_eq_true rfl) rfl ?_
  refine js_iconst (n := 102) 0 X (dg dc_M_perform 55 rfl) rfl (by decide) ?_
  refine js_istore (lo' := [some (.ref 12), some (.ref 6), none, some (.int v3), none, some (.int r89), some (.int r96), some (.int 0), none, none, none]) (n := 104) X (dg dc_M_perform 56 rfl) rfl (Nat.le_of_ble_eq_true rfl) rfl ?_
  exact js_keep [true, true, false, true, false, true, true, true, false, false, false] (jl_M_perform_12_6_L104 l Dv fu h r out κ X P1 fu M v3 r89 r96 0)
set_option maxRecDepth 100000 in
set_option maxHeartbeats 4000000 in
theorem jl_M_perform_12_6_L56 (l : Launch) (Dv : va_G) (fu : Nat) (h : S_H) (r : S_R) (out : Nat → Int64) (κ : ev_ka) (X : ev_X l Dv gaX mu_M_perform κ) (P1 : S_P) : ∀ (n : Nat) (M : S_M) (v3 : Int32) (v4 : Int32) (v5 : Int32), ev_J l Dv gaX mu_M_perform κ 56 0 0 [some (.ref 12), some (.ref 6), none, some (.int v3), some (.int v4), some (.int v5), none, none, none, none, none] [] (hpW (h.1, P1, (M, h.2.2.1.2), h.2.2.2) r out) (f_M_perform_L56 fu P1 n M v3 v4 v5) (fun q => (none, hpW (h.1, P1, (q, h.2.2.1.2), h.2.2.2) r out)) := by
  intro n
  induction n with
  | zero => exact fun _ _ _ _ => js_none
  | succ n ih =>
    intro M v3 v4 v5
    unfold f_M_perform_L56
    refine js_iload (n := 58) X (dg dc_M_perform 31 rfl) rfl rfl ?_
    refine js_bipush (n := 60) 70 X (dg dc_M_perform 32 rfl) rfl (by decide) ?_
    refine js_icmp_ge (t := 87) (n := 63) X (dg dc_M_perform 33 rfl) (by decide) rfl ?_ ?_
    · exact js_keep [true, true, false, true, false, false, false, false, false, false, false] (jl_M_perform_12_6_L87 l Dv fu h r out κ X P1 M v3)
    refine js_aload_n (n := 64) X (dg dc_M_perform 34 rfl) rfl rfl rfl ?_
    refine js_getf (j := 5) (v := .ref 17) (n := 67) X (dg dc_M_perform 35 rfl) rfl hC_M (Nat.le_of_ble_eq_true rfl) hw_307 rfl rfl ?_
    refine js_iconst (n := 68) 0 X (dg dc_M_perform 36 rfl) rfl (by decide) ?_
    refine js_iaload (f := M.2.2.2.2.2.1) (n := 69) X (dg dc_M_perform 37 rfl) rfl rfl ?_
    refine js_iload (n := 71) X (dg dc_M_perform 38 rfl) rfl rfl ?_
    refine js_icmp_ge (t := 87) (n := 74) X (dg dc_M_perform 39 rfl) (by decide) rfl ?_ ?_
    · exact js_keep [true, true, false, true, false, false, false, false, false, false, false] (jl_M_perform_12_6_L87 l Dv fu h r out κ X P1 M v3)
    refine js_aload_n (n := 75) X (dg dc_M_perform 40 rfl) rfl rfl rfl ?_
    refine js_aload_n (n := 76) X (dg dc_M_perform 41 rfl) rfl rfl rfl ?_
    refine js_iconst (n := 77) 0 X (dg dc_M_perform 42 rfl) rfl (by decide) ?_
    refine js_iconst (n := 78) (-1) X (dg dc_M_perform 43 rfl) rfl (by decide) ?_
    refine js_callV (na := 3) (ci := 3) (n := 81) X (dg dc_M_perform 44 rfl) rfl (c_M_step_12_6 l Dv fu (h.1, P1, (M, h.2.2.1.2), h.2.2.2) r out M P1 0 (-1)) gV_M_51 rfl rfl hy_M_step ⟨(Nat.le_of_ble_eq_true rfl), (Nat.le_of_ble_eq_true rfl)⟩ rfl ⟨(Nat.le_of_ble_eq_true rfl), (Nat.le_of_ble_eq_true rfl)⟩ rfl rfl rfl rfl rfl ?_
    intro M_78
    refine js_iinc (lo' := [some (.ref 12), some (.ref 6), none, some (.int v3), some (.int v4), some (.int (v5 + 1)), none, none, none, none, none]) (n := 84) 1 X (dg dc_M_perform 45 rfl) rfl (by decide) (Nat.le_of_ble_eq_true rfl) rfl rfl ?_
    refine js_goto (t := 56) X (dg dc_M_perform 46 rfl) (by decide) ?_
    exact js_keep [true, true, false, true, true, true, false, false, false, false, false] (ih M_78 v3 v4 (v5 + 1))
set_option maxRecDepth 100000 in
set_option maxHeartbeats 4000000 in
theorem jl_M_perform_12_6_L46 (l : Launch) (Dv : va_G) (fu : Nat) (h : S_H) (r : S_R) (out : Nat → Int64) (κ : ev_ka) (X : ev_X l Dv gaX mu_M_perform κ) (P1 : S_P) (M : S_M) (v3 : Int32) : ev_J l Dv gaX mu_M_perform κ 46 0 0 [some (.ref 12), some (.ref 6), none, some (.int v3), none, none, none, none, none, none, none] [] (hpW (h.1, P1, (M, h.2.2.1.2), h.2.2.2) r out) (f_M_perform_L46 fu P1 M v3) (fun q => (none, hpW (h.1, P1, (q, h.2.2.1.2), h.2.2.2) r out)) := by
  unfold f_M_perform_L46
  refine js_aload_n (n := 47) X (dg dc_M_perform 25 rfl) rfl rfl rfl ?_
  refine js_iconst (n := 48) 0 X (dg dc_M_perform 26 rfl) rfl (by decide) ?_
  refine js_callV (na := 1) (ci := 1) (n := 51) X (dg dc_M_perform 27 rfl) rfl (c_P_end_6 l Dv fu (h.1, P1, (M, h.2.2.1.2), h.2.2.2) r out P1 0) gV_M_48 rfl rfl hy_P_end ⟨(Nat.le_of_ble_eq_true rfl), (Nat.le_of_ble_eq_true rfl)⟩ rfl ⟨(Nat.le_of_ble_eq_true rfl), (Nat.le_of_ble_eq_true rfl)⟩ rfl rfl rfl rfl rfl ?_
  intro r48
  refine js_istore (lo' := [some (.ref 12), some (.ref 6), none, some (.int v3), some (.int r48), none, none, none, none, none, none]) (n := 53) X (dg dc_M_perform 28 rfl) rfl (Nat.le_of_ble_eq_true rfl) rfl ?_
  refine js_iconst (n := 54) 0 X (dg dc_M_perform 29 rfl) rfl (by decide) ?_
  refine js_istore (lo' := [some (.ref 12), some (.ref 6), none, some (.int v3), some (.int r48), some (.int 0), none, none, none, none, none]) (n := 56) X (dg dc_M_perform 30 rfl) rfl (Nat.le_of_ble_eq_true rfl) rfl ?_
  exact js_keep [true, true, false, true, true, true, false, false, false, false, false] (jl_M_perform_12_6_L56 l Dv fu h r out κ X P1 fu M v3 r48 0)
set_option maxRecDepth 100000 in
set_option maxHeartbeats 4000000 in
theorem jl_M_perform_12_6_L13 (l : Launch) (Dv : va_G) (fu : Nat) (h : S_H) (r : S_R) (out : Nat → Int64) (κ : ev_ka) (X : ev_X l Dv gaX mu_M_perform κ) (P1 : S_P) : ∀ (n : Nat) (M : S_M) (v3 : Int32) (v4 : Int32), ev_J l Dv gaX mu_M_perform κ 13 0 0 [some (.ref 12), some (.ref 6), none, some (.int v3), some (.int v4), none, none, none, none, none, none] [] (hpW (h.1, P1, (M, h.2.2.1.2), h.2.2.2) r out) (f_M_perform_L13 fu P1 n M v3 v4) (fun q => (none, hpW (h.1, P1, (q, h.2.2.1.2), h.2.2.2) r out)) := by
  intro n
  induction n with
  | zero => exact fun _ _ _ => js_none
  | succ n ih =>
    intro M v3 v4
    unfold f_M_perform_L13
    refine js_iload (n := 15) X (dg dc_M_perform 8 rfl) rfl rfl ?_
    refine js_iconst (n := 16) 3 X (dg dc_M_perform 9 rfl) rfl (by decide) ?_
    refine js_icmp_ge (t := 46) (n := 19) X (dg dc_M_perform 10 rfl) (by decide) rfl ?_ ?_
    · exact js_keep [true, true, false, true, false, false, false, false, false, false, false] (jl_M_perform_12_6_L46 l Dv fu h r out κ X P1 M v3)
    refine js_aload_n (n := 20) X (dg dc_M_perform 11 rfl) rfl rfl rfl ?_
    refine js_getf (j := 5) (v := .ref 17) (n := 23) X (dg dc_M_perform 12 rfl) rfl hC_M (Nat.le_of_ble_eq_true rfl) hw_307 rfl rfl ?_
    refine js_iload (n := 25) X (dg dc_M_perform 13 rfl) rfl rfl ?_
    refine js_aload_n (n := 26) X (dg dc_M_perform 14 rfl) rfl rfl rfl ?_
    refine js_iload (n := 28) X (dg dc_M_perform 15 rfl) rfl rfl ?_
    refine js_callV (na := 1) (ci := 1) (n := 31) X (dg dc_M_perform 16 rfl) rfl (c_P_start_6 l Dv fu (h.1, P1, (M, h.2.2.1.2), h.2.2.2) r out P1 v4) gV_M_42 rfl rfl hy_P_start ⟨(Nat.le_of_ble_eq_true rfl), (Nat.le_of_ble_eq_true rfl)⟩ rfl ⟨(Nat.le_of_ble_eq_true rfl), (Nat.le_of_ble_eq_true rfl)⟩ rfl rfl rfl rfl rfl ?_
    intro r28
    refine js_iastore (f := M.2.2.2.2.2.1) (n := 32) X (dg dc_M_perform 17 rfl) rfl rfl ?_
    refine js_aload_n (n := 33) X (dg dc_M_perform 18 rfl) rfl rfl rfl ?_
    refine js_getf (j := 6) (v := .ref 18) (n := 36) X (dg dc_M_perform 19 rfl) rfl hC_M (Nat.le_of_ble_eq_true rfl) hw_310 rfl rfl ?_
    refine js_iload (n := 38) X (dg dc_M_perform 20 rfl) rfl rfl ?_
    refine js_iconst (n := 39) 0 X (dg dc_M_perform 21 rfl) rfl (by decide) ?_
    refine js_iastore (f := M.2.2.2.2.2.2.1) (n := 40) X (dg dc_M_perform 22 rfl) rfl rfl ?_
    refine js_iinc (lo' := [some (.ref 12), some (.ref 6), none, some (.int v3), some (.int (v4 + 1)), none, none, none, none, none, none]) (n := 43) 1 X (dg dc_M_perform 23 rfl) rfl (by decide) (Nat.le_of_ble_eq_true rfl) rfl rfl ?_
    refine js_goto (t := 13) X (dg dc_M_perform 24 rfl) (by decide) ?_
    exact js_keep [true, true, false, true, true, false, false, false, false, false, false] (ih (M.1, M.2.1, M.2.2.1, M.2.2.2.1, M.2.2.2.2.1, (upd M.2.2.2.2.2.1 (ix v4) r28), (upd M.2.2.2.2.2.2.1 (ix v4) 0), M.2.2.2.2.2.2.2) v3 (v4 + 1))
set_option maxRecDepth 100000 in
set_option maxHeartbeats 4000000 in
theorem c_M_perform_12_6 (l : Launch) (Dv : va_G) (fu : Nat) (h : S_H) (r : S_R) (out : Nat → Int64) (M : S_M) (P1 : S_P) (a2 : Int32) (a3 : Int32) : ev_M l Dv gaX mu_M_perform [.ref 12, .ref 6, .int a2, .int a3] (hpW (h.1, P1, (M, h.2.2.1.2), h.2.2.2) r out) (f_M_perform fu M P1 a2 a3) (fun q => (none, hpW (h.1, P1, (q, h.2.2.1.2), h.2.2.2) r out)) := by
  refine ev_met (lo0 := [some (.ref 12), some (.ref 6), some (.int a2), some (.int a3), none, none, none, none, none, none, none]) rfl rfl rfl (fun κ X => ?_)
  unfold f_M_perform
  refine js_aload_n (n := 1) X (dg dc_M_perform 0 rfl) rfl rfl rfl ?_
  refine js_iload_n (n := 2) X (dg dc_M_perform 1 rfl) rfl rfl rfl ?_
  refine js_puti (j := 8) (n := 5) X (dg dc_M_perform 2 rfl) rfl hC_M (Nat.le_of_ble_eq_true rfl) hw_304 rfl rfl (Or.inl rfl) (Nat.le_of_ble_eq_true rfl) ?_
  refine js_aload_n (n := 6) X (dg dc_M_perform 3 rfl) rfl rfl rfl ?_
  refine js_iconst (n := 7) 0 X (dg dc_M_perform 4 rfl) rfl (by decide) ?_
  refine js_puti (j := 4) (n := 10) X (dg dc_M_perform 5 rfl) rfl hC_M (Nat.le_of_ble_eq_true rfl) hw_305 rfl rfl (Or.inl rfl) (Nat.le_of_ble_eq_true rfl) ?_
  refine js_iconst (n := 11) 0 X (dg dc_M_perform 6 rfl) rfl (by decide) ?_
  refine js_istore (lo' := [some (.ref 12), some (.ref 6), some (.int a2), some (.int a3), some (.int 0), none, none, none, none, none, none]) (n := 13) X (dg dc_M_perform 7 rfl) rfl (Nat.le_of_ble_eq_true rfl) rfl ?_
  exact js_keep [true, true, false, true, true, false, false, false, false, false, false] (jl_M_perform_12_6_L13 l Dv fu h r out κ X P1 fu (M.1, M.2.1, M.2.2.1, M.2.2.2.1, 0, M.2.2.2.2.2.1, M.2.2.2.2.2.2.1, M.2.2.2.2.2.2.2.1, a2) a3 0)
