def nsX : List (String × String) := [("java/lang/IllegalStateException", "java/lang/IllegalArgumentException"), ("java/lang/UnsupportedOperationException", "java/lang/IllegalArgumentException"), ("java/lang/UnsupportedOperationException", "java/lang/IllegalStateException"), ("java/lang/IllegalStateException", "java/lang/IndexOutOfBoundsException"), ("java/util/NoSuchElementException", "java/lang/IllegalStateException")]
def f_L_add (fu : Nat) (H : S_H) (out : Nat → Int64) (a1 : Int32) (a2 : Int32) (a3 : Int32) (a4 : Int32) : Option (Int32 × S_H × (Nat → Int64)) :=
  bd (f_H_add fu H a1 a2 a3 a4) fun q => match q.1 with
  | .inl v => ck (inb 0 1) <| some (0, q.2, vp_updL out (ix 0) v.toInt64)
  | .inr e => if e = 1 then some (1, q.2, out) else if e = 2 then some (2, q.2, out) else if e = 3 then some (3, q.2, out) else none
theorem ct_add_1 : ev_ct gaL deX nsX hh_add y_L_add.cls 9 (ev_exn 1) 17 := ⟨[], ⟨0, 14, 17, 13⟩, [⟨0, 14, 21, 15⟩, ⟨0, 14, 25, 17⟩], rfl, (fun _ h => absurd h List.not_mem_nil), by decide, by decide, lx_9, by decide, rfl⟩
theorem ct_add_2 : ev_ct gaL deX nsX hh_add y_L_add.cls 9 (ev_exn 2) 21 := ⟨[⟨0, 14, 17, 13⟩], ⟨0, 14, 21, 15⟩, [⟨0, 14, 25, 17⟩], rfl, List.forall_mem_cons.mpr ⟨Or.inr ⟨by decide, "java/lang/IllegalArgumentException", lx_9, List.mem_of_getElem? (i := 0) rfl⟩, (fun _ h => absurd h List.not_mem_nil)⟩, by decide, by decide, lx_10, by decide, rfl⟩
theorem ct_add_3 : ev_ct gaL deX nsX hh_add y_L_add.cls 9 (ev_exn 3) 25 := ⟨[⟨0, 14, 17, 13⟩, ⟨0, 14, 21, 15⟩], ⟨0, 14, 25, 17⟩, [], rfl, List.forall_mem_cons.mpr ⟨Or.inr ⟨by decide, "java/lang/IllegalArgumentException", lx_9, List.mem_of_getElem? (i := 1) rfl⟩, List.forall_mem_cons.mpr ⟨Or.inr ⟨by decide, "java/lang/IllegalStateException", lx_10, List.mem_of_getElem? (i := 2) rfl⟩, (fun _ h => absurd h List.not_mem_nil)⟩⟩, by decide, by decide, lx_11, by decide, rfl⟩
set_option maxHeartbeats 2000000 in
theorem c_L_add (l : Launch) (hst : l.stackTraces = false) (Dv : va_G) (fu : Nat) (r : S_R) (out : Nat → Int64) (H : S_H) (a1 : Int32) (a2 : Int32) (a3 : Int32) (a4 : Int32) : ev_MW l Dv gaL deX nsX mu_L_add hh_add [.ref 0, .int a1, .int a2, .int a3, .int a4, .ref 44] (hpW H r out) (f_L_add fu H out a1 a2 a3 a4) (fun q => (some (.int q.1), hpW q.2.1 r q.2.2)) := by
  refine ev_metW rfl rfl rfl ?_
  intro κ X T
  refine js_aload (n := 2) X (dg dc_L_add 0 rfl) rfl rfl ?_
  refine js_iconst (n := 3) 0 X (dg dc_L_add 1 rfl) rfl rfl ?_
  refine js_aload_n (n := 4) X (dg dc_L_add 2 rfl) rfl rfl rfl ?_
  refine js_iload_n (n := 5) X (dg dc_L_add 3 rfl) rfl rfl rfl ?_
  refine js_iload_n (n := 6) X (dg dc_L_add 4 rfl) rfl rfl rfl ?_
  refine js_iload_n (n := 7) X (dg dc_L_add 5 rfl) rfl rfl rfl ?_
  refine js_iload (n := 9) X (dg dc_L_add 6 rfl) rfl rfl ?_
  refine js_callX (γ' := gaX) (n := 12) (na := 4) (ci := 0) X T (dg dc_L_add 7 rfl) rfl ⟨rfl, rfl⟩ (c_H_add_0 l hst Dv fu r out H a1 a2 a3 a4) gV_L_7 rfl rfl hy_H_add ⟨(Nat.le_of_ble_eq_true rfl), (Nat.le_of_ble_eq_true rfl)⟩ rfl ⟨(Nat.le_of_ble_eq_true rfl), (Nat.le_of_ble_eq_true rfl)⟩ rfl rfl rfl rfl rfl (fun _ _ => sv_no) ?_ ?_
  · intro q1 r1 hp1 he
    obtain ⟨res, h1⟩ := q1
    cases res with
    | inl v =>
      cases he
      show ev_J _ _ _ _ _ _ _ _ _ _ _ (ck (inb 0 1) (some ((0 : Int32), h1, vp_updL out (ix 0) r1.toInt64))) _
      refine js_i2l (n := 13) X (dg dc_L_add 8 rfl) rfl ?_
      refine js_lastore (n := 14) X (dg dc_L_add 9 rfl) rfl rfl ?_
      refine js_goto (t := 29) X (dg dc_L_add 10 rfl) (by decide) ?_
      refine js_iconst (n := 30) 0 X (dg dc_L_add 20 rfl) rfl rfl ?_
      exact js_retI X (dg dc_L_add 21 rfl) rfl (Nat.le_of_ble_eq_true rfl) (Nat.le_of_ble_eq_true rfl) rfl
    | inr e => cases he
  · intro q1 n9 hp1 he
    obtain ⟨res, h1⟩ := q1
    cases res with
    | inl v => cases he
    | inr e =>
      cases he
      by_cases e1 : n9 = 1
      · subst e1
        right
        refine ⟨17, ct_add_1, fun q9 => ?_⟩
        show ev_J _ _ _ _ _ _ _ _ _ _ _ (some ((1 : Int32), h1, out)) _
        refine js_astoreX (n := 19) X (dg dc_L_add 11 rfl) rfl (Nat.le_of_ble_eq_true rfl) rfl ?_
        refine js_iconst (n := 20) 1 X (dg dc_L_add 12 rfl) rfl rfl ?_
        exact js_retI X (dg dc_L_add 13 rfl) rfl (Nat.le_of_ble_eq_true rfl) (Nat.le_of_ble_eq_true rfl) rfl
      by_cases e2 : n9 = 2
      · subst e2
        right
        refine ⟨21, ct_add_2, fun q9 => ?_⟩
        show ev_J _ _ _ _ _ _ _ _ _ _ _ (some ((2 : Int32), h1, out)) _
        refine js_astoreX (n := 23) X (dg dc_L_add 14 rfl) rfl (Nat.le_of_ble_eq_true rfl) rfl ?_
        refine js_iconst (n := 24) 2 X (dg dc_L_add 15 rfl) rfl rfl ?_
        exact js_retI X (dg dc_L_add 16 rfl) rfl (Nat.le_of_ble_eq_true rfl) (Nat.le_of_ble_eq_true rfl) rfl
      by_cases e3 : n9 = 3
      · subst e3
        right
        refine ⟨25, ct_add_3, fun q9 => ?_⟩
        show ev_J _ _ _ _ _ _ _ _ _ _ _ (some ((3 : Int32), h1, out)) _
        refine js_astoreX (n := 27) X (dg dc_L_add 17 rfl) rfl (Nat.le_of_ble_eq_true rfl) rfl ?_
        refine js_iconst (n := 28) 3 X (dg dc_L_add 18 rfl) rfl rfl ?_
        exact js_retI X (dg dc_L_add 19 rfl) rfl (Nat.le_of_ble_eq_true rfl) (Nat.le_of_ble_eq_true rfl) rfl
      · left
        show (if n9 = 1 then some (1, h1, out) else if n9 = 2 then some (2, h1, out) else if n9 = 3 then some (3, h1, out) else none : Option _) = none
        rw [if_neg e1, if_neg e2, if_neg e3]
def f_L_make (fu : Nat) (H : S_H) (out : Nat → Int64) (a1 : Int64) (a3 : Int32) (a4 : Int32) (a5 : Int32) : Option (Int32 × S_H × (Nat → Int64)) :=
  bd (f_H_make fu H a1 a3 a4 a5) fun q => match q.1 with
  | .inl v => ck (inb 0 1) <| some (0, q.2, vp_updL out (ix 0) v.toInt64)
  | .inr e => if e = 1 then some (1, q.2, out) else none
theorem ct_make_1 : ev_ct gaL deX nsX hh_make y_L_make.cls 10 (ev_exn 1) 18 := ⟨[], ⟨0, 15, 18, 13⟩, [], rfl, (fun _ h => absurd h List.not_mem_nil), by decide, by decide, lx_9, by decide, rfl⟩
set_option maxHeartbeats 2000000 in
theorem c_L_make (l : Launch) (hst : l.stackTraces = false) (Dv : va_G) (fu : Nat) (r : S_R) (out : Nat → Int64) (H : S_H) (a1 : Int64) (a3 : Int32) (a4 : Int32) (a5 : Int32) : ev_MW l Dv gaL deX nsX mu_L_make hh_make [.ref 0, .long a1, .int a3, .int a4, .int a5, .ref 44] (hpW H r out) (f_L_make fu H out a1 a3 a4 a5) (fun q => (some (.int q.1), hpW q.2.1 r q.2.2)) := by
  refine ev_metW rfl rfl rfl ?_
  intro κ X T
  refine js_aload (n := 2) X (dg dc_L_make 0 rfl) rfl rfl ?_
  refine js_iconst (n := 3) 0 X (dg dc_L_make 1 rfl) rfl rfl ?_
  refine js_aload_n (n := 4) X (dg dc_L_make 2 rfl) rfl rfl rfl ?_
  refine js_lload_n (n := 5) X (dg dc_L_make 3 rfl) rfl rfl rfl ?_
  refine js_iload_n (n := 6) X (dg dc_L_make 4 rfl) rfl rfl rfl ?_
  refine js_iload (n := 8) X (dg dc_L_make 5 rfl) rfl rfl ?_
  refine js_iload (n := 10) X (dg dc_L_make 6 rfl) rfl rfl ?_
  refine js_callX (γ' := gaX) (n := 13) (na := 4) (ci := 0) X T (dg dc_L_make 7 rfl) rfl ⟨rfl, rfl⟩ (c_H_make_0 l hst Dv fu r out H a1 a3 a4 a5) gV_L_19 rfl rfl hy_H_make ⟨(Nat.le_of_ble_eq_true rfl), (Nat.le_of_ble_eq_true rfl)⟩ rfl ⟨(Nat.le_of_ble_eq_true rfl), (Nat.le_of_ble_eq_true rfl)⟩ rfl rfl rfl rfl rfl (fun _ _ => sv_no) ?_ ?_
  · intro q1 r1 hp1 he
    obtain ⟨res, h1⟩ := q1
    cases res with
    | inl v =>
      cases he
      show ev_J _ _ _ _ _ _ _ _ _ _ _ (ck (inb 0 1) (some ((0 : Int32), h1, vp_updL out (ix 0) r1.toInt64))) _
      refine js_i2l (n := 14) X (dg dc_L_make 8 rfl) rfl ?_
      refine js_lastore (n := 15) X (dg dc_L_make 9 rfl) rfl rfl ?_
      refine js_goto (t := 22) X (dg dc_L_make 10 rfl) (by decide) ?_
      refine js_iconst (n := 23) 0 X (dg dc_L_make 14 rfl) rfl rfl ?_
      exact js_retI X (dg dc_L_make 15 rfl) rfl (Nat.le_of_ble_eq_true rfl) (Nat.le_of_ble_eq_true rfl) rfl
    | inr e => cases he
  · intro q1 n9 hp1 he
    obtain ⟨res, h1⟩ := q1
    cases res with
    | inl v => cases he
    | inr e =>
      cases he
      by_cases e1 : n9 = 1
      · subst e1
        right
        refine ⟨18, ct_make_1, fun q9 => ?_⟩
        show ev_J _ _ _ _ _ _ _ _ _ _ _ (some ((1 : Int32), h1, out)) _
        refine js_astoreX (n := 20) X (dg dc_L_make 11 rfl) rfl (Nat.le_of_ble_eq_true rfl) rfl ?_
        refine js_iconst (n := 21) 1 X (dg dc_L_make 12 rfl) rfl rfl ?_
        exact js_retI X (dg dc_L_make 13 rfl) rfl (Nat.le_of_ble_eq_true rfl) (Nat.le_of_ble_eq_true rfl) rfl
      · left
        show (if n9 = 1 then some (1, h1, out) else none : Option _) = none
        rw [if_neg e1]
def f_L_flaws (fu : Nat) (H : S_H) (out : Nat → Int64) (a1 : Int32) : Option (Int32 × S_H × (Nat → Int64)) :=
  bd (f_H_flaws fu H a1) fun q => match q.1 with
  | .inl v => ck (inb 0 1) <| some (0, q.2, vp_updL out (ix 0) v.toInt64)
  | .inr e => if e = 1 then some (1, q.2, out) else none
theorem ct_flaws_1 : ev_ct gaL deX nsX hh_flaws y_L_flaws.cls 4 (ev_exn 1) 12 := ⟨[], ⟨0, 9, 12, 13⟩, [], rfl, (fun _ h => absurd h List.not_mem_nil), by decide, by decide, lx_9, by decide, rfl⟩
set_option maxHeartbeats 2000000 in
theorem c_L_flaws (l : Launch) (hst : l.stackTraces = false) (Dv : va_G) (fu : Nat) (r : S_R) (out : Nat → Int64) (H : S_H) (a1 : Int32) : ev_MW l Dv gaL deX nsX mu_L_flaws hh_flaws [.ref 0, .int a1, .ref 44] (hpW H r out) (f_L_flaws fu H out a1) (fun q => (some (.int q.1), hpW q.2.1 r q.2.2)) := by
  refine ev_metW rfl rfl rfl ?_
  intro κ X T
  refine js_aload_n (n := 1) X (dg dc_L_flaws 0 rfl) rfl rfl rfl ?_
  refine js_iconst (n := 2) 0 X (dg dc_L_flaws 1 rfl) rfl rfl ?_
  refine js_aload_n (n := 3) X (dg dc_L_flaws 2 rfl) rfl rfl rfl ?_
  refine js_iload_n (n := 4) X (dg dc_L_flaws 3 rfl) rfl rfl rfl ?_
  refine js_callX (γ' := gaX) (n := 7) (na := 1) (ci := 0) X T (dg dc_L_flaws 4 rfl) rfl ⟨rfl, rfl⟩ (c_H_flaws_0 l hst Dv fu r out H a1) gV_L_23 rfl rfl hy_H_flaws ⟨(Nat.le_of_ble_eq_true rfl), (Nat.le_of_ble_eq_true rfl)⟩ rfl ⟨(Nat.le_of_ble_eq_true rfl), (Nat.le_of_ble_eq_true rfl)⟩ rfl rfl rfl rfl rfl (fun _ _ => sv_no) ?_ ?_
  · intro q1 r1 hp1 he
    obtain ⟨res, h1⟩ := q1
    cases res with
    | inl v =>
      cases he
      show ev_J _ _ _ _ _ _ _ _ _ _ _ (ck (inb 0 1) (some ((0 : Int32), h1, vp_updL out (ix 0) r1.toInt64))) _
      refine js_i2l (n := 8) X (dg dc_L_flaws 5 rfl) rfl ?_
      refine js_lastore (n := 9) X (dg dc_L_flaws 6 rfl) rfl rfl ?_
      refine js_goto (t := 15) X (dg dc_L_flaws 7 rfl) (by decide) ?_
      refine js_iconst (n := 16) 0 X (dg dc_L_flaws 11 rfl) rfl rfl ?_
      exact js_retI X (dg dc_L_flaws 12 rfl) rfl (Nat.le_of_ble_eq_true rfl) (Nat.le_of_ble_eq_true rfl) rfl
    | inr e => cases he
  · intro q1 n9 hp1 he
    obtain ⟨res, h1⟩ := q1
    cases res with
    | inl v => cases he
    | inr e =>
      cases he
      by_cases e1 : n9 = 1
      · subst e1
        right
        refine ⟨12, ct_flaws_1, fun q9 => ?_⟩
        show ev_J _ _ _ _ _ _ _ _ _ _ _ (some ((1 : Int32), h1, out)) _
        refine js_astoreX_n (n := 13) (i := 3) X (dg dc_L_flaws 8 rfl) rfl rfl (Nat.le_of_ble_eq_true rfl) rfl ?_
        refine js_iconst (n := 14) 1 X (dg dc_L_flaws 9 rfl) rfl rfl ?_
        exact js_retI X (dg dc_L_flaws 10 rfl) rfl (Nat.le_of_ble_eq_true rfl) (Nat.le_of_ble_eq_true rfl) rfl
      · left
        show (if n9 = 1 then some (1, h1, out) else none : Option _) = none
        rw [if_neg e1]
def f_L_run (fu : Nat) (H : S_H) (out : Nat → Int64) (a1 : Int32) : Option (Int32 × S_H × (Nat → Int64)) :=
  bd (f_H_run fu H a1) fun q => match q.1 with
  | .inl v => ck (inb 0 1) <| some (0, q.2, vp_updL out (ix 0) (if v = 0 then 0 else 1))
  | .inr e => if e = 1 then some (1, q.2, out) else none
theorem ct_run_1 : ev_ct gaL deX nsX hh_run y_L_run.cls 4 (ev_exn 1) 19 := ⟨[], ⟨0, 16, 19, 13⟩, [], rfl, (fun _ h => absurd h List.not_mem_nil), by decide, by decide, lx_9, by decide, rfl⟩
set_option maxHeartbeats 2000000 in
theorem c_L_run (l : Launch) (hst : l.stackTraces = false) (Dv : va_G) (fu : Nat) (r : S_R) (out : Nat → Int64) (H : S_H) (a1 : Int32) : ev_MW l Dv gaL deX nsX mu_L_run hh_run [.ref 0, .int a1, .ref 44] (hpW H r out) (f_L_run fu H out a1) (fun q => (some (.int q.1), hpW q.2.1 r q.2.2)) := by
  refine ev_metW rfl rfl rfl ?_
  intro κ X T
  refine js_aload_n (n := 1) X (dg dc_L_run 0 rfl) rfl rfl rfl ?_
  refine js_iconst (n := 2) 0 X (dg dc_L_run 1 rfl) rfl rfl ?_
  refine js_aload_n (n := 3) X (dg dc_L_run 2 rfl) rfl rfl rfl ?_
  refine js_iload_n (n := 4) X (dg dc_L_run 3 rfl) rfl rfl rfl ?_
  refine js_callX (γ' := gaX) (n := 7) (na := 1) (ci := 0) X T (dg dc_L_run 4 rfl) rfl ⟨rfl, rfl⟩ (c_H_run_0 l hst Dv fu r out H a1) gV_L_27 rfl rfl hy_H_run ⟨(Nat.le_of_ble_eq_true rfl), (Nat.le_of_ble_eq_true rfl)⟩ rfl ⟨(Nat.le_of_ble_eq_true rfl), (Nat.le_of_ble_eq_true rfl)⟩ rfl rfl rfl rfl rfl (fun _ _ => sv_no) ?_ ?_
  · intro q1 r1 hp1 he
    obtain ⟨res, h1⟩ := q1
    cases res with
    | inl v =>
      cases he
      by_cases hv : r1 = 0
      · show ev_J _ _ _ _ _ _ _ _ _ _ _ (ck (inb 0 1) (some ((0 : Int32), h1, vp_updL out (ix 0) (if r1 = 0 then (0 : Int64) else 1)))) _
        rw [show (if r1 = 0 then (0 : Int64) else 1) = 0 from if_pos hv]
        refine js_if_eq_t (t := 14) X (dg dc_L_run 5 rfl) (by decide) hv ?_
        refine js_lconst (n := 15) 0 X (dg dc_L_run 8 rfl) rfl rfl ?_
        refine js_lastore (n := 16) X (dg dc_L_run 9 rfl) rfl rfl ?_
        refine js_goto (t := 22) X (dg dc_L_run 10 rfl) (by decide) ?_
        refine js_iconst (n := 23) 0 X (dg dc_L_run 14 rfl) rfl rfl ?_
        exact js_retI X (dg dc_L_run 15 rfl) rfl (Nat.le_of_ble_eq_true rfl) (Nat.le_of_ble_eq_true rfl) rfl
      · show ev_J _ _ _ _ _ _ _ _ _ _ _ (ck (inb 0 1) (some ((0 : Int32), h1, vp_updL out (ix 0) (if r1 = 0 then (0 : Int64) else 1)))) _
        rw [show (if r1 = 0 then (0 : Int64) else 1) = 1 from if_neg hv]
        refine js_if_eq_f (t := 14) (n := 10) X (dg dc_L_run 5 rfl) (by decide) rfl hv ?_
        refine js_lconst (n := 11) 1 X (dg dc_L_run 6 rfl) rfl rfl ?_
        refine js_goto (t := 15) X (dg dc_L_run 7 rfl) (by decide) ?_
        refine js_lastore (n := 16) X (dg dc_L_run 9 rfl) rfl rfl ?_
        refine js_goto (t := 22) X (dg dc_L_run 10 rfl) (by decide) ?_
        refine js_iconst (n := 23) 0 X (dg dc_L_run 14 rfl) rfl rfl ?_
        exact js_retI X (dg dc_L_run 15 rfl) rfl (Nat.le_of_ble_eq_true rfl) (Nat.le_of_ble_eq_true rfl) rfl
    | inr e => cases he
  · intro q1 n9 hp1 he
    obtain ⟨res, h1⟩ := q1
    cases res with
    | inl v => cases he
    | inr e =>
      cases he
      by_cases e1 : n9 = 1
      · subst e1
        right
        refine ⟨19, ct_run_1, fun q9 => ?_⟩
        show ev_J _ _ _ _ _ _ _ _ _ _ _ (some ((1 : Int32), h1, out)) _
        refine js_astoreX_n (n := 20) (i := 3) X (dg dc_L_run 11 rfl) rfl rfl (Nat.le_of_ble_eq_true rfl) rfl ?_
        refine js_iconst (n := 21) 1 X (dg dc_L_run 12 rfl) rfl rfl ?_
        exact js_retI X (dg dc_L_run 13 rfl) rfl (Nat.le_of_ble_eq_true rfl) (Nat.le_of_ble_eq_true rfl) rfl
      · left
        show (if n9 = 1 then some (1, h1, out) else none : Option _) = none
        rw [if_neg e1]
def f_L_fails (fu : Nat) (H : S_H) (out : Nat → Int64) (a1 : Int64) (a3 : Int32) : Option (Int32 × S_H × (Nat → Int64)) :=
  bd (f_H_fails fu H a1 a3) fun q => match q.1 with
  | .inl v => ck (inb 0 1) <| some (0, q.2, vp_updL out (ix 0) v.toInt64)
  | .inr e => if e = 1 then some (1, q.2, out) else none
theorem ct_fails_1 : ev_ct gaL deX nsX hh_fails y_L_fails.cls 6 (ev_exn 1) 14 := ⟨[], ⟨0, 11, 14, 13⟩, [], rfl, (fun _ h => absurd h List.not_mem_nil), by decide, by decide, lx_9, by decide, rfl⟩
set_option maxHeartbeats 2000000 in
theorem c_L_fails (l : Launch) (hst : l.stackTraces = false) (Dv : va_G) (fu : Nat) (r : S_R) (out : Nat → Int64) (H : S_H) (a1 : Int64) (a3 : Int32) : ev_MW l Dv gaL deX nsX mu_L_fails hh_fails [.ref 0, .long a1, .int a3, .ref 44] (hpW H r out) (f_L_fails fu H out a1 a3) (fun q => (some (.int q.1), hpW q.2.1 r q.2.2)) := by
  refine ev_metW rfl rfl rfl ?_
  intro κ X T
  refine js_aload (n := 2) X (dg dc_L_fails 0 rfl) rfl rfl ?_
  refine js_iconst (n := 3) 0 X (dg dc_L_fails 1 rfl) rfl rfl ?_
  refine js_aload_n (n := 4) X (dg dc_L_fails 2 rfl) rfl rfl rfl ?_
  refine js_lload_n (n := 5) X (dg dc_L_fails 3 rfl) rfl rfl rfl ?_
  refine js_iload_n (n := 6) X (dg dc_L_fails 4 rfl) rfl rfl rfl ?_
  refine js_callX (γ' := gaX) (n := 9) (na := 2) (ci := 0) X T (dg dc_L_fails 5 rfl) rfl ⟨rfl, rfl⟩ (c_H_fails_0 l hst Dv fu r out H a1 a3) gV_L_31 rfl rfl hy_H_fails ⟨(Nat.le_of_ble_eq_true rfl), (Nat.le_of_ble_eq_true rfl)⟩ rfl ⟨(Nat.le_of_ble_eq_true rfl), (Nat.le_of_ble_eq_true rfl)⟩ rfl rfl rfl rfl rfl (fun _ _ => sv_no) ?_ ?_
  · intro q1 r1 hp1 he
    obtain ⟨res, h1⟩ := q1
    cases res with
    | inl v =>
      cases he
      show ev_J _ _ _ _ _ _ _ _ _ _ _ (ck (inb 0 1) (some ((0 : Int32), h1, vp_updL out (ix 0) r1.toInt64))) _
      refine js_i2l (n := 10) X (dg dc_L_fails 6 rfl) rfl ?_
      refine js_lastore (n := 11) X (dg dc_L_fails 7 rfl) rfl rfl ?_
      refine js_goto (t := 18) X (dg dc_L_fails 8 rfl) (by decide) ?_
      refine js_iconst (n := 19) 0 X (dg dc_L_fails 12 rfl) rfl rfl ?_
      exact js_retI X (dg dc_L_fails 13 rfl) rfl (Nat.le_of_ble_eq_true rfl) (Nat.le_of_ble_eq_true rfl) rfl
    | inr e => cases he
  · intro q1 n9 hp1 he
    obtain ⟨res, h1⟩ := q1
    cases res with
    | inl v => cases he
    | inr e =>
      cases he
      by_cases e1 : n9 = 1
      · subst e1
        right
        refine ⟨14, ct_fails_1, fun q9 => ?_⟩
        show ev_J _ _ _ _ _ _ _ _ _ _ _ (some ((1 : Int32), h1, out)) _
        refine js_astoreX (n := 16) X (dg dc_L_fails 9 rfl) rfl (Nat.le_of_ble_eq_true rfl) rfl ?_
        refine js_iconst (n := 17) 1 X (dg dc_L_fails 10 rfl) rfl rfl ?_
        exact js_retI X (dg dc_L_fails 11 rfl) rfl (Nat.le_of_ble_eq_true rfl) (Nat.le_of_ble_eq_true rfl) rfl
      · left
        show (if n9 = 1 then some (1, h1, out) else none : Option _) = none
        rw [if_neg e1]
def f_L_shrink (fu : Nat) (H : S_H) (out : Nat → Int64) (a1 : Int64) (a3 : Int32) : Option (Int32 × S_H × (Nat → Int64)) :=
  bd (f_H_shrink fu H a1 a3) fun q => match q.1 with
  | .inl v => ck (inb 0 1) <| some (0, q.2, vp_updL out (ix 0) v.toInt64)
  | .inr e => if e = 1 then some (1, q.2, out) else if e = 2 then some (2, q.2, out) else none
theorem ct_shrink_1 : ev_ct gaL deX nsX hh_shrink y_L_shrink.cls 6 (ev_exn 1) 14 := ⟨[], ⟨0, 11, 14, 13⟩, [⟨0, 11, 18, 15⟩], rfl, (fun _ h => absurd h List.not_mem_nil), by decide, by decide, lx_9, by decide, rfl⟩
theorem ct_shrink_2 : ev_ct gaL deX nsX hh_shrink y_L_shrink.cls 6 (ev_exn 2) 18 := ⟨[⟨0, 11, 14, 13⟩], ⟨0, 11, 18, 15⟩, [], rfl, List.forall_mem_cons.mpr ⟨Or.inr ⟨by decide, "java/lang/IllegalArgumentException", lx_9, List.mem_of_getElem? (i := 0) rfl⟩, (fun _ h => absurd h List.not_mem_nil)⟩, by decide, by decide, lx_10, by decide, rfl⟩
set_option maxHeartbeats 2000000 in
theorem c_L_shrink (l : Launch) (hst : l.stackTraces = false) (Dv : va_G) (fu : Nat) (r : S_R) (out : Nat → Int64) (H : S_H) (a1 : Int64) (a3 : Int32) : ev_MW l Dv gaL deX nsX mu_L_shrink hh_shrink [.ref 0, .long a1, .int a3, .ref 44] (hpW H r out) (f_L_shrink fu H out a1 a3) (fun q => (some (.int q.1), hpW q.2.1 r q.2.2)) := by
  refine ev_metW rfl rfl rfl ?_
  intro κ X T
  refine js_aload (n := 2) X (dg dc_L_shrink 0 rfl) rfl rfl ?_
  refine js_iconst (n := 3) 0 X (dg dc_L_shrink 1 rfl) rfl rfl ?_
  refine js_aload_n (n := 4) X (dg dc_L_shrink 2 rfl) rfl rfl rfl ?_
  refine js_lload_n (n := 5) X (dg dc_L_shrink 3 rfl) rfl rfl rfl ?_
  refine js_iload_n (n := 6) X (dg dc_L_shrink 4 rfl) rfl rfl rfl ?_
  refine js_callX (γ' := gaX) (n := 9) (na := 2) (ci := 0) X T (dg dc_L_shrink 5 rfl) rfl ⟨rfl, rfl⟩ (c_H_shrink_0 l hst Dv fu r out H a1 a3) gV_L_35 rfl rfl hy_H_shrink ⟨(Nat.le_of_ble_eq_true rfl), (Nat.le_of_ble_eq_true rfl)⟩ rfl ⟨(Nat.le_of_ble_eq_true rfl), (Nat.le_of_ble_eq_true rfl)⟩ rfl rfl rfl rfl rfl (fun _ _ => sv_no) ?_ ?_
  · intro q1 r1 hp1 he
    obtain ⟨res, h1⟩ := q1
    cases res with
    | inl v =>
      cases he
      show ev_J _ _ _ _ _ _ _ _ _ _ _ (ck (inb 0 1) (some ((0 : Int32), h1, vp_updL out (ix 0) r1.toInt64))) _
      refine js_i2l (n := 10) X (dg dc_L_shrink 6 rfl) rfl ?_
      refine js_lastore (n := 11) X (dg dc_L_shrink 7 rfl) rfl rfl ?_
      refine js_goto (t := 22) X (dg dc_L_shrink 8 rfl) (by decide) ?_
      refine js_iconst (n := 23) 0 X (dg dc_L_shrink 15 rfl) rfl rfl ?_
      exact js_retI X (dg dc_L_shrink 16 rfl) rfl (Nat.le_of_ble_eq_true rfl) (Nat.le_of_ble_eq_true rfl) rfl
    | inr e => cases he
  · intro q1 n9 hp1 he
    obtain ⟨res, h1⟩ := q1
    cases res with
    | inl v => cases he
    | inr e =>
      cases he
      by_cases e1 : n9 = 1
      · subst e1
        right
        refine ⟨14, ct_shrink_1, fun q9 => ?_⟩
        show ev_J _ _ _ _ _ _ _ _ _ _ _ (some ((1 : Int32), h1, out)) _
        refine js_astoreX (n := 16) X (dg dc_L_shrink 9 rfl) rfl (Nat.le_of_ble_eq_true rfl) rfl ?_
        refine js_iconst (n := 17) 1 X (dg dc_L_shrink 10 rfl) rfl rfl ?_
        exact js_retI X (dg dc_L_shrink 11 rfl) rfl (Nat.le_of_ble_eq_true rfl) (Nat.le_of_ble_eq_true rfl) rfl
      by_cases e2 : n9 = 2
      · subst e2
        right
        refine ⟨18, ct_shrink_2, fun q9 => ?_⟩
        show ev_J _ _ _ _ _ _ _ _ _ _ _ (some ((2 : Int32), h1, out)) _
        refine js_astoreX (n := 20) X (dg dc_L_shrink 12 rfl) rfl (Nat.le_of_ble_eq_true rfl) rfl ?_
        refine js_iconst (n := 21) 2 X (dg dc_L_shrink 13 rfl) rfl rfl ?_
        exact js_retI X (dg dc_L_shrink 14 rfl) rfl (Nat.le_of_ble_eq_true rfl) (Nat.le_of_ble_eq_true rfl) rfl
      · left
        show (if n9 = 1 then some (1, h1, out) else if n9 = 2 then some (2, h1, out) else none : Option _) = none
        rw [if_neg e1, if_neg e2]
def f_L_command (fu : Nat) (H : S_H) (out : Nat → Int64) (a1 : Int32) (a2 : Int32) : Option (Int32 × S_H × (Nat → Int64)) :=
  bd (f_H_command fu H a1 a2) fun q => match q with
  | .inl v => ck (inb 0 1) <| some (0, H, vp_updL out (ix 0) v.toInt64)
  | .inr e => if e = 4 then some (1, H, out) else none
theorem ct_command_4 : ev_ct gaL deX nsX hh_command y_L_command.cls 5 (ev_exn 4) 13 := ⟨[], ⟨0, 10, 13, 42⟩, [], rfl, (fun _ h => absurd h List.not_mem_nil), by decide, by decide, lx_54, by decide, rfl⟩
set_option maxHeartbeats 2000000 in
theorem c_L_command (l : Launch) (hst : l.stackTraces = false) (Dv : va_G) (fu : Nat) (r : S_R) (out : Nat → Int64) (H : S_H) (a1 : Int32) (a2 : Int32) : ev_MW l Dv gaL deX nsX mu_L_command hh_command [.ref 0, .int a1, .int a2, .ref 44] (hpW H r out) (f_L_command fu H out a1 a2) (fun q => (some (.int q.1), hpW q.2.1 r q.2.2)) := by
  refine ev_metW rfl rfl rfl ?_
  intro κ X T
  refine js_aload_n (n := 1) X (dg dc_L_command 0 rfl) rfl rfl rfl ?_
  refine js_iconst (n := 2) 0 X (dg dc_L_command 1 rfl) rfl rfl ?_
  refine js_aload_n (n := 3) X (dg dc_L_command 2 rfl) rfl rfl rfl ?_
  refine js_iload_n (n := 4) X (dg dc_L_command 3 rfl) rfl rfl rfl ?_
  refine js_iload_n (n := 5) X (dg dc_L_command 4 rfl) rfl rfl rfl ?_
  refine js_callX (γ' := gaX) (n := 8) (na := 2) (ci := 0) X T (dg dc_L_command 5 rfl) rfl ⟨rfl, rfl⟩ (c_H_command_0 l hst Dv fu r out H a1 a2) gV_L_38 rfl rfl hy_H_command ⟨(Nat.le_of_ble_eq_true rfl), (Nat.le_of_ble_eq_true rfl)⟩ rfl ⟨(Nat.le_of_ble_eq_true rfl), (Nat.le_of_ble_eq_true rfl)⟩ rfl rfl rfl rfl rfl (fun _ _ => sv_no) ?_ ?_
  · intro res r1 hp1 he
    cases res with
    | inl v =>
      cases he
      show ev_J _ _ _ _ _ _ _ _ _ _ _ (ck (inb 0 1) (some ((0 : Int32), H, vp_updL out (ix 0) r1.toInt64))) _
      refine js_i2l (n := 9) X (dg dc_L_command 6 rfl) rfl ?_
      refine js_lastore (n := 10) X (dg dc_L_command 7 rfl) rfl rfl ?_
      refine js_goto (t := 17) X (dg dc_L_command 8 rfl) (by decide) ?_
      refine js_iconst (n := 18) 0 X (dg dc_L_command 12 rfl) rfl rfl ?_
      exact js_retI X (dg dc_L_command 13 rfl) rfl (Nat.le_of_ble_eq_true rfl) (Nat.le_of_ble_eq_true rfl) rfl
    | inr e => cases he
  · intro res n9 hp1 he
    cases res with
    | inl v => cases he
    | inr e =>
      cases he
      by_cases e4 : n9 = 4
      · subst e4
        right
        refine ⟨13, ct_command_4, fun q9 => ?_⟩
        show ev_J _ _ _ _ _ _ _ _ _ _ _ (some ((1 : Int32), H, out)) _
        refine js_astoreX (n := 15) X (dg dc_L_command 9 rfl) rfl (Nat.le_of_ble_eq_true rfl) rfl ?_
        refine js_iconst (n := 16) 1 X (dg dc_L_command 10 rfl) rfl rfl ?_
        exact js_retI X (dg dc_L_command 11 rfl) rfl (Nat.le_of_ble_eq_true rfl) (Nat.le_of_ble_eq_true rfl) rfl
      · left
        show (if n9 = 4 then some (1, H, out) else none : Option _) = none
        rw [if_neg e4]
def f_L_event (fu : Nat) (H : S_H) (out : Nat → Int64) (a1 : Int32) (a2 : Int32) : Option (Int32 × S_H × (Nat → Int64)) :=
  bd (f_H_event fu H a1 a2) fun q => match q with
  | .inl v => ck (inb 0 1) <| some (0, H, vp_updL out (ix 0) v.toInt64)
  | .inr e => if e = 4 then some (1, H, out) else if e = 2 then some (2, H, out) else none
theorem ct_event_4 : ev_ct gaL deX nsX hh_event y_L_event.cls 5 (ev_exn 4) 13 := ⟨[], ⟨0, 10, 13, 42⟩, [⟨0, 10, 17, 15⟩], rfl, (fun _ h => absurd h List.not_mem_nil), by decide, by decide, lx_54, by decide, rfl⟩
theorem ct_event_2 : ev_ct gaL deX nsX hh_event y_L_event.cls 5 (ev_exn 2) 17 := ⟨[⟨0, 10, 13, 42⟩], ⟨0, 10, 17, 15⟩, [], rfl, List.forall_mem_cons.mpr ⟨Or.inr ⟨by decide, "java/lang/IndexOutOfBoundsException", lx_54, List.mem_of_getElem? (i := 3) rfl⟩, (fun _ h => absurd h List.not_mem_nil)⟩, by decide, by decide, lx_10, by decide, rfl⟩
set_option maxHeartbeats 2000000 in
theorem c_L_event (l : Launch) (hst : l.stackTraces = false) (Dv : va_G) (fu : Nat) (r : S_R) (out : Nat → Int64) (H : S_H) (a1 : Int32) (a2 : Int32) : ev_MW l Dv gaL deX nsX mu_L_event hh_event [.ref 0, .int a1, .int a2, .ref 44] (hpW H r out) (f_L_event fu H out a1 a2) (fun q => (some (.int q.1), hpW q.2.1 r q.2.2)) := by
  refine ev_metW rfl rfl rfl ?_
  intro κ X T
  refine js_aload_n (n := 1) X (dg dc_L_event 0 rfl) rfl rfl rfl ?_
  refine js_iconst (n := 2) 0 X (dg dc_L_event 1 rfl) rfl rfl ?_
  refine js_aload_n (n := 3) X (dg dc_L_event 2 rfl) rfl rfl rfl ?_
  refine js_iload_n (n := 4) X (dg dc_L_event 3 rfl) rfl rfl rfl ?_
  refine js_iload_n (n := 5) X (dg dc_L_event 4 rfl) rfl rfl rfl ?_
  refine js_callX (γ' := gaX) (n := 8) (na := 2) (ci := 0) X T (dg dc_L_event 5 rfl) rfl ⟨rfl, rfl⟩ (c_H_event_0 l hst Dv fu r out H a1 a2) gV_L_44 rfl rfl hy_H_event ⟨(Nat.le_of_ble_eq_true rfl), (Nat.le_of_ble_eq_true rfl)⟩ rfl ⟨(Nat.le_of_ble_eq_true rfl), (Nat.le_of_ble_eq_true rfl)⟩ rfl rfl rfl rfl rfl (fun _ _ => sv_no) ?_ ?_
  · intro res r1 hp1 he
    cases res with
    | inl v =>
      cases he
      show ev_J _ _ _ _ _ _ _ _ _ _ _ (ck (inb 0 1) (some ((0 : Int32), H, vp_updL out (ix 0) r1.toInt64))) _
      refine js_i2l (n := 9) X (dg dc_L_event 6 rfl) rfl ?_
      refine js_lastore (n := 10) X (dg dc_L_event 7 rfl) rfl rfl ?_
      refine js_goto (t := 21) X (dg dc_L_event 8 rfl) (by decide) ?_
      refine js_iconst (n := 22) 0 X (dg dc_L_event 15 rfl) rfl rfl ?_
      exact js_retI X (dg dc_L_event 16 rfl) rfl (Nat.le_of_ble_eq_true rfl) (Nat.le_of_ble_eq_true rfl) rfl
    | inr e => cases he
  · intro res n9 hp1 he
    cases res with
    | inl v => cases he
    | inr e =>
      cases he
      by_cases e4 : n9 = 4
      · subst e4
        right
        refine ⟨13, ct_event_4, fun q9 => ?_⟩
        show ev_J _ _ _ _ _ _ _ _ _ _ _ (some ((1 : Int32), H, out)) _
        refine js_astoreX (n := 15) X (dg dc_L_event 9 rfl) rfl (Nat.le_of_ble_eq_true rfl) rfl ?_
        refine js_iconst (n := 16) 1 X (dg dc_L_event 10 rfl) rfl rfl ?_
        exact js_retI X (dg dc_L_event 11 rfl) rfl (Nat.le_of_ble_eq_true rfl) (Nat.le_of_ble_eq_true rfl) rfl
      by_cases e2 : n9 = 2
      · subst e2
        right
        refine ⟨17, ct_event_2, fun q9 => ?_⟩
        show ev_J _ _ _ _ _ _ _ _ _ _ _ (some ((2 : Int32), H, out)) _
        refine js_astoreX (n := 19) X (dg dc_L_event 12 rfl) rfl (Nat.le_of_ble_eq_true rfl) rfl ?_
        refine js_iconst (n := 20) 2 X (dg dc_L_event 13 rfl) rfl rfl ?_
        exact js_retI X (dg dc_L_event 14 rfl) rfl (Nat.le_of_ble_eq_true rfl) (Nat.le_of_ble_eq_true rfl) rfl
      · left
        show (if n9 = 4 then some (1, H, out) else if n9 = 2 then some (2, H, out) else none : Option _) = none
        rw [if_neg e4, if_neg e2]
def f_L_order (fu : Nat) (H : S_H) (out : Nat → Int64) (a1 : Int32) : Option (Int32 × S_H × (Nat → Int64)) :=
  bd (f_H_order fu H a1) fun q => match q with
  | .inl v => ck (inb 0 1) <| some (0, H, vp_updL out (ix 0) v.toInt64)
  | .inr e => if e = 2 then some (1, H, out) else if e = 5 then some (2, H, out) else none
theorem ct_order_2 : ev_ct gaL deX nsX hh_order y_L_order.cls 4 (ev_exn 2) 12 := ⟨[], ⟨0, 9, 12, 15⟩, [⟨0, 9, 15, 50⟩], rfl, (fun _ h => absurd h List.not_mem_nil), by decide, by decide, lx_10, by decide, rfl⟩
theorem ct_order_5 : ev_ct gaL deX nsX hh_order y_L_order.cls 4 (ev_exn 5) 15 := ⟨[⟨0, 9, 12, 15⟩], ⟨0, 9, 15, 50⟩, [], rfl, List.forall_mem_cons.mpr ⟨Or.inr ⟨by decide, "java/lang/IllegalStateException", lx_10, List.mem_of_getElem? (i := 4) rfl⟩, (fun _ h => absurd h List.not_mem_nil)⟩, by decide, by decide, lx_69, by decide, rfl⟩
set_option maxHeartbeats 2000000 in
theorem c_L_order (l : Launch) (hst : l.stackTraces = false) (Dv : va_G) (fu : Nat) (r : S_R) (out : Nat → Int64) (H : S_H) (a1 : Int32) : ev_MW l Dv gaL deX nsX mu_L_order hh_order [.ref 0, .int a1, .ref 44] (hpW H r out) (f_L_order fu H out a1) (fun q => (some (.int q.1), hpW q.2.1 r q.2.2)) := by
  refine ev_metW rfl rfl rfl ?_
  intro κ X T
  refine js_aload_n (n := 1) X (dg dc_L_order 0 rfl) rfl rfl rfl ?_
  refine js_iconst (n := 2) 0 X (dg dc_L_order 1 rfl) rfl rfl ?_
  refine js_aload_n (n := 3) X (dg dc_L_order 2 rfl) rfl rfl rfl ?_
  refine js_iload_n (n := 4) X (dg dc_L_order 3 rfl) rfl rfl rfl ?_
  refine js_callX (γ' := gaX) (n := 7) (na := 1) (ci := 0) X T (dg dc_L_order 4 rfl) rfl ⟨rfl, rfl⟩ (c_H_order_0 l hst Dv fu r out H a1) gV_L_47 rfl rfl hy_H_order ⟨(Nat.le_of_ble_eq_true rfl), (Nat.le_of_ble_eq_true rfl)⟩ rfl ⟨(Nat.le_of_ble_eq_true rfl), (Nat.le_of_ble_eq_true rfl)⟩ rfl rfl rfl rfl rfl (fun _ _ => sv_no) ?_ ?_
  · intro res r1 hp1 he
    cases res with
    | inl v =>
      cases he
      show ev_J _ _ _ _ _ _ _ _ _ _ _ (ck (inb 0 1) (some ((0 : Int32), H, vp_updL out (ix 0) r1.toInt64))) _
      refine js_i2l (n := 8) X (dg dc_L_order 5 rfl) rfl ?_
      refine js_lastore (n := 9) X (dg dc_L_order 6 rfl) rfl rfl ?_
      refine js_goto (t := 18) X (dg dc_L_order 7 rfl) (by decide) ?_
      refine js_iconst (n := 19) 0 X (dg dc_L_order 14 rfl) rfl rfl ?_
      exact js_retI X (dg dc_L_order 15 rfl) rfl (Nat.le_of_ble_eq_true rfl) (Nat.le_of_ble_eq_true rfl) rfl
    | inr e => cases he
  · intro res n9 hp1 he
    cases res with
    | inl v => cases he
    | inr e =>
      cases he
      by_cases e2 : n9 = 2
      · subst e2
        right
        refine ⟨12, ct_order_2, fun q9 => ?_⟩
        show ev_J _ _ _ _ _ _ _ _ _ _ _ (some ((1 : Int32), H, out)) _
        refine js_astoreX_n (n := 13) (i := 3) X (dg dc_L_order 8 rfl) rfl rfl (Nat.le_of_ble_eq_true rfl) rfl ?_
        refine js_iconst (n := 14) 1 X (dg dc_L_order 9 rfl) rfl rfl ?_
        exact js_retI X (dg dc_L_order 10 rfl) rfl (Nat.le_of_ble_eq_true rfl) (Nat.le_of_ble_eq_true rfl) rfl
      by_cases e5 : n9 = 5
      · subst e5
        right
        refine ⟨15, ct_order_5, fun q9 => ?_⟩
        show ev_J _ _ _ _ _ _ _ _ _ _ _ (some ((2 : Int32), H, out)) _
        refine js_astoreX_n (n := 16) (i := 3) X (dg dc_L_order 11 rfl) rfl rfl (Nat.le_of_ble_eq_true rfl) rfl ?_
        refine js_iconst (n := 17) 2 X (dg dc_L_order 12 rfl) rfl rfl ?_
        exact js_retI X (dg dc_L_order 13 rfl) rfl (Nat.le_of_ble_eq_true rfl) (Nat.le_of_ble_eq_true rfl) rfl
      · left
        show (if n9 = 2 then some (1, H, out) else if n9 = 5 then some (2, H, out) else none : Option _) = none
        rw [if_neg e2, if_neg e5]
def f_L_cell (fu : Nat) (H : S_H) (out : Nat → Int64) (a1 : Int32) : Option (Int32 × S_H × (Nat → Int64)) :=
  bd (f_H_cell fu H a1) fun q => match q with
  | .inl v => ck (inb 0 1) <| some (0, H, vp_updL out (ix 0) v.toInt64)
  | .inr e => if e = 4 then some (1, H, out) else if e = 2 then some (2, H, out) else none
theorem ct_cell_4 : ev_ct gaL deX nsX hh_cell y_L_cell.cls 4 (ev_exn 4) 12 := ⟨[], ⟨0, 9, 12, 42⟩, [⟨0, 9, 15, 15⟩], rfl, (fun _ h => absurd h List.not_mem_nil), by decide, by decide, lx_54, by decide, rfl⟩
theorem ct_cell_2 : ev_ct gaL deX nsX hh_cell y_L_cell.cls 4 (ev_exn 2) 15 := ⟨[⟨0, 9, 12, 42⟩], ⟨0, 9, 15, 15⟩, [], rfl, List.forall_mem_cons.mpr ⟨Or.inr ⟨by decide, "java/lang/IndexOutOfBoundsException", lx_54, List.mem_of_getElem? (i := 3) rfl⟩, (fun _ h => absurd h List.not_mem_nil)⟩, by decide, by decide, lx_10, by decide, rfl⟩
set_option maxHeartbeats 2000000 in
theorem c_L_cell (l : Launch) (hst : l.stackTraces = false) (Dv : va_G) (fu : Nat) (r : S_R) (out : Nat → Int64) (H : S_H) (a1 : Int32) : ev_MW l Dv gaL deX nsX mu_L_cell hh_cell [.ref 0, .int a1, .ref 44] (hpW H r out) (f_L_cell fu H out a1) (fun q => (some (.int q.1), hpW q.2.1 r q.2.2)) := by
  refine ev_metW rfl rfl rfl ?_
  intro κ X T
  refine js_aload_n (n := 1) X (dg dc_L_cell 0 rfl) rfl rfl rfl ?_
  refine js_iconst (n := 2) 0 X (dg dc_L_cell 1 rfl) rfl rfl ?_
  refine js_aload_n (n := 3) X (dg dc_L_cell 2 rfl) rfl rfl rfl ?_
  refine js_iload_n (n := 4) X (dg dc_L_cell 3 rfl) rfl rfl rfl ?_
  refine js_callX (γ' := gaX) (n := 7) (na := 1) (ci := 0) X T (dg dc_L_cell 4 rfl) rfl ⟨rfl, rfl⟩ (c_H_cell_0 l hst Dv fu r out H a1) gV_L_52 rfl rfl hy_H_cell ⟨(Nat.le_of_ble_eq_true rfl), (Nat.le_of_ble_eq_true rfl)⟩ rfl ⟨(Nat.le_of_ble_eq_true rfl), (Nat.le_of_ble_eq_true rfl)⟩ rfl rfl rfl rfl rfl (fun _ _ => sv_no) ?_ ?_
  · intro res r1 hp1 he
    cases res with
    | inl v =>
      cases he
      show ev_J _ _ _ _ _ _ _ _ _ _ _ (ck (inb 0 1) (some ((0 : Int32), H, vp_updL out (ix 0) r1.toInt64))) _
      refine js_i2l (n := 8) X (dg dc_L_cell 5 rfl) rfl ?_
      refine js_lastore (n := 9) X (dg dc_L_cell 6 rfl) rfl rfl ?_
      refine js_goto (t := 18) X (dg dc_L_cell 7 rfl) (by decide) ?_
      refine js_iconst (n := 19) 0 X (dg dc_L_cell 14 rfl) rfl rfl ?_
      exact js_retI X (dg dc_L_cell 15 rfl) rfl (Nat.le_of_ble_eq_true rfl) (Nat.le_of_ble_eq_true rfl) rfl
    | inr e => cases he
  · intro res n9 hp1 he
    cases res with
    | inl v => cases he
    | inr e =>
      cases he
      by_cases e4 : n9 = 4
      · subst e4
        right
        refine ⟨12, ct_cell_4, fun q9 => ?_⟩
        show ev_J _ _ _ _ _ _ _ _ _ _ _ (some ((1 : Int32), H, out)) _
        refine js_astoreX_n (n := 13) (i := 3) X (dg dc_L_cell 8 rfl) rfl rfl (Nat.le_of_ble_eq_true rfl) rfl ?_
        refine js_iconst (n := 14) 1 X (dg dc_L_cell 9 rfl) rfl rfl ?_
        exact js_retI X (dg dc_L_cell 10 rfl) rfl (Nat.le_of_ble_eq_true rfl) (Nat.le_of_ble_eq_true rfl) rfl
      by_cases e2 : n9 = 2
      · subst e2
        right
        refine ⟨15, ct_cell_2, fun q9 => ?_⟩
        show ev_J _ _ _ _ _ _ _ _ _ _ _ (some ((2 : Int32), H, out)) _
        refine js_astoreX_n (n := 16) (i := 3) X (dg dc_L_cell 11 rfl) rfl rfl (Nat.le_of_ble_eq_true rfl) rfl ?_
        refine js_iconst (n := 17) 2 X (dg dc_L_cell 12 rfl) rfl rfl ?_
        exact js_retI X (dg dc_L_cell 13 rfl) rfl (Nat.le_of_ble_eq_true rfl) (Nat.le_of_ble_eq_true rfl) rfl
      · left
        show (if n9 = 4 then some (1, H, out) else if n9 = 2 then some (2, H, out) else none : Option _) = none
        rw [if_neg e4, if_neg e2]
def f_L_count (fu : Nat) (H : S_H) (out : Nat → Int64) (a1 : Int32) : Option (Int32 × S_H × (Nat → Int64)) :=
  bd (f_H_count fu H a1) fun q => match q with
  | .inl v => ck (inb 0 1) <| some (0, H, vp_updL out (ix 0) v.toInt64)
  | .inr e => if e = 4 then some (1, H, out) else none
theorem ct_count_4 : ev_ct gaL deX nsX hh_count y_L_count.cls 4 (ev_exn 4) 12 := ⟨[], ⟨0, 9, 12, 42⟩, [], rfl, (fun _ h => absurd h List.not_mem_nil), by decide, by decide, lx_54, by decide, rfl⟩
set_option maxHeartbeats 2000000 in
theorem c_L_count (l : Launch) (hst : l.stackTraces = false) (Dv : va_G) (fu : Nat) (r : S_R) (out : Nat → Int64) (H : S_H) (a1 : Int32) : ev_MW l Dv gaL deX nsX mu_L_count hh_count [.ref 0, .int a1, .ref 44] (hpW H r out) (f_L_count fu H out a1) (fun q => (some (.int q.1), hpW q.2.1 r q.2.2)) := by
  refine ev_metW rfl rfl rfl ?_
  intro κ X T
  refine js_aload_n (n := 1) X (dg dc_L_count 0 rfl) rfl rfl rfl ?_
  refine js_iconst (n := 2) 0 X (dg dc_L_count 1 rfl) rfl rfl ?_
  refine js_aload_n (n := 3) X (dg dc_L_count 2 rfl) rfl rfl rfl ?_
  refine js_iload_n (n := 4) X (dg dc_L_count 3 rfl) rfl rfl rfl ?_
  refine js_callX (γ' := gaX) (n := 7) (na := 1) (ci := 0) X T (dg dc_L_count 4 rfl) rfl ⟨rfl, rfl⟩ (c_H_count_0 l hst Dv fu r out H a1) gV_L_55 rfl rfl hy_H_count ⟨(Nat.le_of_ble_eq_true rfl), (Nat.le_of_ble_eq_true rfl)⟩ rfl ⟨(Nat.le_of_ble_eq_true rfl), (Nat.le_of_ble_eq_true rfl)⟩ rfl rfl rfl rfl rfl (fun _ _ => sv_no) ?_ ?_
  · intro res r1 hp1 he
    cases res with
    | inl v =>
      cases he
      show ev_J _ _ _ _ _ _ _ _ _ _ _ (ck (inb 0 1) (some ((0 : Int32), H, vp_updL out (ix 0) r1.toInt64))) _
      refine js_i2l (n := 8) X (dg dc_L_count 5 rfl) rfl ?_
      refine js_lastore (n := 9) X (dg dc_L_count 6 rfl) rfl rfl ?_
      refine js_goto (t := 15) X (dg dc_L_count 7 rfl) (by decide) ?_
      refine js_iconst (n := 16) 0 X (dg dc_L_count 11 rfl) rfl rfl ?_
      exact js_retI X (dg dc_L_count 12 rfl) rfl (Nat.le_of_ble_eq_true rfl) (Nat.le_of_ble_eq_true rfl) rfl
    | inr e => cases he
  · intro res n9 hp1 he
    cases res with
    | inl v => cases he
    | inr e =>
      cases he
      by_cases e4 : n9 = 4
      · subst e4
        right
        refine ⟨12, ct_count_4, fun q9 => ?_⟩
        show ev_J _ _ _ _ _ _ _ _ _ _ _ (some ((1 : Int32), H, out)) _
        refine js_astoreX_n (n := 13) (i := 3) X (dg dc_L_count 8 rfl) rfl rfl (Nat.le_of_ble_eq_true rfl) rfl ?_
        refine js_iconst (n := 14) 1 X (dg dc_L_count 9 rfl) rfl rfl ?_
        exact js_retI X (dg dc_L_count 10 rfl) rfl (Nat.le_of_ble_eq_true rfl) (Nat.le_of_ble_eq_true rfl) rfl
      · left
        show (if n9 = 4 then some (1, H, out) else none : Option _) = none
        rw [if_neg e4]
def f_L_tally (fu : Nat) (H : S_H) (out : Nat → Int64) (a1 : Int32) : Option (Int32 × S_H × (Nat → Int64)) :=
  bd (f_H_tally fu H a1) fun q => match q with
  | .inl v => ck (inb 0 1) <| some (0, H, vp_updL out (ix 0) v.toInt64)
  | .inr e => if e = 4 then some (1, H, out) else none
theorem ct_tally_4 : ev_ct gaL deX nsX hh_tally y_L_tally.cls 4 (ev_exn 4) 12 := ⟨[], ⟨0, 9, 12, 42⟩, [], rfl, (fun _ h => absurd h List.not_mem_nil), by decide, by decide, lx_54, by decide, rfl⟩
set_option maxHeartbeats 2000000 in
theorem c_L_tally (l : Launch) (hst : l.stackTraces = false) (Dv : va_G) (fu : Nat) (r : S_R) (out : Nat → Int64) (H : S_H) (a1 : Int32) : ev_MW l Dv gaL deX nsX mu_L_tally hh_tally [.ref 0, .int a1, .ref 44] (hpW H r out) (f_L_tally fu H out a1) (fun q => (some (.int q.1), hpW q.2.1 r q.2.2)) := by
  refine ev_metW rfl rfl rfl ?_
  intro κ X T
  refine js_aload_n (n := 1) X (dg dc_L_tally 0 rfl) rfl rfl rfl ?_
  refine js_iconst (n := 2) 0 X (dg dc_L_tally 1 rfl) rfl rfl ?_
  refine js_aload_n (n := 3) X (dg dc_L_tally 2 rfl) rfl rfl rfl ?_
  refine js_iload_n (n := 4) X (dg dc_L_tally 3 rfl) rfl rfl rfl ?_
  refine js_callX (γ' := gaX) (n := 7) (na := 1) (ci := 0) X T (dg dc_L_tally 4 rfl) rfl ⟨rfl, rfl⟩ (c_H_tally_0 l hst Dv fu r out H a1) gV_L_58 rfl rfl hy_H_tally ⟨(Nat.le_of_ble_eq_true rfl), (Nat.le_of_ble_eq_true rfl)⟩ rfl ⟨(Nat.le_of_ble_eq_true rfl), (Nat.le_of_ble_eq_true rfl)⟩ rfl rfl rfl rfl rfl (fun _ _ => sv_no) ?_ ?_
  · intro res r1 hp1 he
    cases res with
    | inl v =>
      cases he
      show ev_J _ _ _ _ _ _ _ _ _ _ _ (ck (inb 0 1) (some ((0 : Int32), H, vp_updL out (ix 0) r1.toInt64))) _
      refine js_i2l (n := 8) X (dg dc_L_tally 5 rfl) rfl ?_
      refine js_lastore (n := 9) X (dg dc_L_tally 6 rfl) rfl rfl ?_
      refine js_goto (t := 15) X (dg dc_L_tally 7 rfl) (by decide) ?_
      refine js_iconst (n := 16) 0 X (dg dc_L_tally 11 rfl) rfl rfl ?_
      exact js_retI X (dg dc_L_tally 12 rfl) rfl (Nat.le_of_ble_eq_true rfl) (Nat.le_of_ble_eq_true rfl) rfl
    | inr e => cases he
  · intro res n9 hp1 he
    cases res with
    | inl v => cases he
    | inr e =>
      cases he
      by_cases e4 : n9 = 4
      · subst e4
        right
        refine ⟨12, ct_tally_4, fun q9 => ?_⟩
        show ev_J _ _ _ _ _ _ _ _ _ _ _ (some ((1 : Int32), H, out)) _
        refine js_astoreX_n (n := 13) (i := 3) X (dg dc_L_tally 8 rfl) rfl rfl (Nat.le_of_ble_eq_true rfl) rfl ?_
        refine js_iconst (n := 14) 1 X (dg dc_L_tally 9 rfl) rfl rfl ?_
        exact js_retI X (dg dc_L_tally 10 rfl) rfl (Nat.le_of_ble_eq_true rfl) (Nat.le_of_ble_eq_true rfl) rfl
      · left
        show (if n9 = 4 then some (1, H, out) else none : Option _) = none
        rw [if_neg e4]
