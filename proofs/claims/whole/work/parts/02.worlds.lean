/-! worlds as lists of cells; a reference is a place in the list -/
abbrev ev_A : Type := FieldType × Nat × ((Nat → Int32) ⊕ (Nat → Int64))
abbrev ev_E : Type := ev_A ⊕ (Nat × List Value)
abbrev ev_H : Type := List ev_E
abbrev ev_R : Type := Nat → Nat × ClassId
abbrev ev_L : Type := List (Option Value)
abbrev ev_O : Type := Option Value × ev_H
abbrev ev_K : Type := ev_L → List Value → ev_H → Option ev_O
abbrev ev_N : Type := List (String × Nat × MethodName × String)
def ev_n {α : Type} : List α → Nat → Option α
  | [], _ => none
  | a :: _, 0 => some a
  | _ :: l, k + 1 => ev_n l k
def ev_s {α : Type} : List α → Nat → α → List α
  | [], _, _ => []
  | _ :: l, 0, x => x :: l
  | a :: l, k + 1, x => a :: ev_s l k x
theorem ev_n_eq {α : Type} : ∀ (l : List α) (k : Nat), ev_n l k = l[k]?
  | [], k => by simp [ev_n]
  | a :: l, 0 => by simp [ev_n]
  | a :: l, k + 1 => by simp [ev_n, ev_n_eq l k]
theorem ev_s_eq {α : Type} : ∀ (l : List α) (k : Nat) (x : α), ev_s l k x = l.set k x
  | [], k, x => by simp [ev_s]
  | a :: l, 0, x => by simp [ev_s]
  | a :: l, k + 1, x => by simp [ev_s, ev_s_eq l k x]
theorem ev_n_s {α : Type} (l : List α) (k j : Nat) (x y : α) (h : ev_n (ev_s l k x) j = some y) : (j = k ∧ y = x) ∨ (j ≠ k ∧ ev_n l j = some y) := by
  rw [ev_n_eq, ev_s_eq, List.getElem?_set] at h
  by_cases hk : k = j
  · subst hk
    rw [if_pos rfl] at h
    split at h
    · cases h
      exact Or.inl ⟨rfl, rfl⟩
    · cases h
  · rw [if_neg hk] at h
    exact Or.inr ⟨fun q => hk q.symm, by rw [ev_n_eq]; exact h⟩
theorem ev_s_len {α : Type} (l : List α) (k : Nat) (x : α) : (ev_s l k x).length = l.length := by rw [ev_s_eq, List.length_set]
/-- a value of the list as a value of the heap: a place's address; 'retAddr b' stands for the address b itself -/
def ev_v (ρ : ev_R) (v : Value) : Value := match v with
  | .ref a => .ref (ρ a).1
  | .retAddr b => .ref b
  | .int x => .int x
  | .long x => .long x
  | .float x => .float x
  | .double x => .double x
  | .null => .null
theorem ev_v_cat (ρ : ev_R) (v : Value) : (ev_v ρ v).category = v.category := by cases v <;> rfl
theorem ev_v_cats (ρ : ev_R) (st : List Value) : ((st.map (ev_v ρ)).map fun v => v.category) = st.map fun v => v.category := by
  rw [List.map_map]
  exact List.map_congr_left fun v _ => ev_v_cat ρ v
def ev_e (ρ : ev_R) (k : Nat) (x : ev_E) : va_E := match x with
  | .inl (_, n, .inl f) => .inl ((ρ k).2, n, .inl f)
  | .inl (_, n, .inr f) => .inl ((ρ k).2, n, .inr (.inl f))
  | .inr (ci, fs) => .inr (ci, fs.map (ev_v ρ))
def ev_w (ρ : ev_R) (A : ev_H) : va_W := A.mapIdx fun k x => ((ρ k).1, ev_e ρ k x)
theorem ev_w_get (ρ : ev_R) (A : ev_H) (k : Nat) : (ev_w ρ A)[k]? = A[k]?.map (fun x => ((ρ k).1, ev_e ρ k x)) := by
  unfold ev_w
  rw [List.getElem?_mapIdx]
theorem ev_w_at {ρ : ev_R} {A : ev_H} {k : Nat} {x : ev_E} (h : ev_n A k = some x) : (ev_w ρ A)[k]? = some ((ρ k).1, ev_e ρ k x) := by
  rw [ev_w_get, ← ev_n_eq, h]
  rfl
theorem ev_w_len (ρ : ev_R) (A : ev_H) : (ev_w ρ A).length = A.length := by unfold ev_w; exact List.length_mapIdx
theorem ev_w_set (ρ : ev_R) (A : ev_H) (k : Nat) (x : ev_E) : ev_w ρ (ev_s A k x) = (ev_w ρ A).set k ((ρ k).1, ev_e ρ k x) := by
  apply List.ext_getElem?
  intro i
  rw [ev_w_get, ev_s_eq, List.getElem?_set, List.getElem?_set, ev_w_len, ev_w_get]
  by_cases h : k = i
  · subst h
    rw [if_pos rfl, if_pos rfl]
    by_cases hl : k < A.length
    · rw [if_pos hl, if_pos hl]
      rfl
    · rw [if_neg hl, if_neg hl]
      rfl
  · rw [if_neg h, if_neg h]
def ev_okv (n : Nat) (v : Value) : Bool := match v with
  | .ref a => Nat.blt a n
  | _ => true
def ev_okl (n : Nat) : ev_L → Bool
  | [] => true
  | none :: l => ev_okl n l
  | some v :: l => ev_okv n v && ev_okl n l
def ev_oks (n : Nat) : List Value → Bool
  | [] => true
  | v :: l => ev_okv n v && ev_oks n l
def ev_okh (n : Nat) : ev_H → Bool
  | [] => true
  | .inl _ :: l => ev_okh n l
  | .inr (_, fs) :: l => ev_oks n fs && ev_okh n l
theorem ev_okv_eq {n : Nat} {ρ ρ' : ev_R} (ha : ∀ k, k < n → ρ' k = ρ k) {v : Value} (h : ev_okv n v = true) : ev_v ρ' v = ev_v ρ v := by
  cases v with
  | ref a =>
    have : a < n := by simpa [ev_okv, Nat.blt_eq] using h
    show Value.ref (ρ' a).1 = Value.ref (ρ a).1
    rw [ha a this]
  | _ => rfl
theorem ev_oks_eq {n : Nat} {ρ ρ' : ev_R} (ha : ∀ k, k < n → ρ' k = ρ k) : ∀ {st : List Value}, ev_oks n st = true → st.map (ev_v ρ') = st.map (ev_v ρ)
  | [], _ => rfl
  | v :: st, h => by
    simp only [ev_oks, Bool.and_eq_true] at h
    rw [List.map_cons, List.map_cons, ev_okv_eq ha h.1, ev_oks_eq ha h.2]
theorem ev_okl_eq {n : Nat} {ρ ρ' : ev_R} (ha : ∀ k, k < n → ρ' k = ρ k) : ∀ {lo : ev_L}, ev_okl n lo = true → ∀ (i : Nat) (v : Value), ev_n lo i = some (some v) → ev_v ρ' v = ev_v ρ v
  | [], _, i, v, hi => by simp [ev_n] at hi
  | none :: lo, h, 0, v, hi => by simp [ev_n] at hi
  | none :: lo, h, i + 1, v, hi => ev_okl_eq ha (lo := lo) h i v hi
  | some u :: lo, h, 0, v, hi => by
    simp only [ev_okl, Bool.and_eq_true] at h
    simp only [ev_n, Option.some.injEq] at hi
    subst hi
    exact ev_okv_eq ha h.1
  | some u :: lo, h, i + 1, v, hi => by
    simp only [ev_okl, Bool.and_eq_true] at h
    exact ev_okl_eq ha (lo := lo) h.2 i v hi
theorem ev_okh_eq {n : Nat} {ρ ρ' : ev_R} (ha : ∀ k, k < n → ρ' k = ρ k) : ∀ {A : ev_H}, ev_okh n A = true → ∀ (i : Nat) (x : ev_E), A[i]? = some x → i < n → ev_e ρ' i x = ev_e ρ i x
  | [], _, i, x, hi, _ => by simp at hi
  | a :: A, h, i, x, hi, hn => by
    have key : ∀ (j : Nat), j < n → ev_okh n [x] = true → ev_e ρ' j x = ev_e ρ j x := by
      intro j hj hx
      rcases x with ⟨ty, N, f | f⟩ | ⟨ci, fs⟩
      · show (Sum.inl ((ρ' j).2, N, Sum.inl f) : va_E) = Sum.inl ((ρ j).2, N, Sum.inl f)
        rw [ha j hj]
      · show (Sum.inl ((ρ' j).2, N, Sum.inr (Sum.inl f)) : va_E) = Sum.inl ((ρ j).2, N, Sum.inr (Sum.inl f))
        rw [ha j hj]
      · simp only [ev_okh, Bool.and_true] at hx
        show (Sum.inr (ci, fs.map (ev_v ρ')) : va_E) = Sum.inr (ci, fs.map (ev_v ρ))
        rw [ev_oks_eq ha hx]
    have mem : ∀ (B : ev_H) (j : Nat), ev_okh n B = true → B[j]? = some x → ev_okh n [x] = true := by
      intro B
      induction B with
      | nil => intro j _ h; simp at h
      | cons b B ih =>
        intro j hb hj
        cases j with
        | zero =>
          simp only [List.getElem?_cons_zero, Option.some.injEq] at hj
          subst hj
          rcases b with b | ⟨ci, fs⟩
          · rfl
          · simp only [ev_okh, Bool.and_eq_true] at hb
            simp only [ev_okh, Bool.and_true]
            exact hb.1
        | succ j =>
          rw [List.getElem?_cons_succ] at hj
          refine ih j ?_ hj
          rcases b with b | ⟨ci, fs⟩
          · exact hb
          · simp only [ev_okh, Bool.and_eq_true] at hb
            exact hb.2
    exact key i hn (mem (a :: A) i h hi)
theorem ev_w_eq {ρ ρ' : ev_R} {A : ev_H} (ha : ∀ k, k < A.length → ρ' k = ρ k) (h : ev_okh A.length A = true) : ev_w ρ' A = ev_w ρ A := by
  apply List.ext_getElem?
  intro i
  rw [ev_w_get, ev_w_get]
  cases hi : A[i]? with
  | none => rfl
  | some x =>
    have hl : i < A.length := (List.getElem?_eq_some_iff.mp hi).1
    show some ((ρ' i).1, ev_e ρ' i x) = some ((ρ i).1, ev_e ρ i x)
    rw [ha i hl, ev_okh_eq ha h i x hi hl]
def ev_up (ρ : ev_R) (n q : Nat) (c : ClassId) : ev_R := fun k => if k = n then (q, c) else ρ k
theorem ev_up_lt {ρ : ev_R} {n q : Nat} {c : ClassId} (k : Nat) (h : k < n) : ev_up ρ n q c k = ρ k := by
  unfold ev_up
  rw [if_neg (by omega)]
theorem ev_up_at {ρ : ev_R} {n q : Nat} {c : ClassId} : ev_up ρ n q c n = (q, c) := by
  unfold ev_up
  rw [if_pos rfl]
theorem ev_w_push {ρ : ev_R} {A : ev_H} {q : Nat} {c : ClassId} {x : ev_E} (h : ev_okh A.length A = true) : ev_w (ev_up ρ A.length q c) (A ++ [x]) = ev_w ρ A ++ [(q, ev_e (ev_up ρ A.length q c) A.length x)] := by
  have h1 : ev_w (ev_up ρ A.length q c) (A ++ [x]) = ev_w (ev_up ρ A.length q c) A ++ [((ev_up ρ A.length q c A.length).1, ev_e (ev_up ρ A.length q c) A.length x)] := by
    unfold ev_w
    rw [List.mapIdx_append]
    simp
  rw [h1, ev_w_eq (ρ' := ev_up ρ A.length q c) (ρ := ρ) (fun k hk => ev_up_lt k hk) h, ev_up_at]
def ev_T (ρ : ev_R) (A : ev_H) (U : State) : Prop := ∀ (k : Nat) (ty : FieldType) (x : Nat × ((Nat → Int32) ⊕ (Nat → Int64))), A[k]? = some (.inl (ty, x)) → ArrOfT U (ρ k).2 ty ∧ va_RA U (ρ k).2 ty
theorem ev_T.moved {ρ : ev_R} {A : ev_H} {u U : State} (hvm : u.vm.Alike U.vm) (h : ev_T ρ A u) : ev_T ρ A U := fun k ty x hk => ⟨arrOfT_moved hvm (h k ty x hk).1, (h k ty x hk).2.moved hvm⟩
theorem ev_T.set {ρ : ev_R} {A : ev_H} {U : State} (h : ev_T ρ A U) {k : Nat} {ty : FieldType} {x y : Nat × ((Nat → Int32) ⊕ (Nat → Int64))} (hk : ev_n A k = some (.inl (ty, x))) : ev_T ρ (ev_s A k (.inl (ty, y))) U := by
  intro j t z hj
  rw [← ev_n_eq] at hj
  rcases ev_n_s _ _ _ _ _ hj with ⟨rfl, e⟩ | ⟨_, e⟩
  · cases e
    exact h j ty x (by rw [← ev_n_eq]; exact hk)
  · exact h j t z (by rw [← ev_n_eq]; exact e)
theorem ev_T.seto {ρ : ev_R} {A : ev_H} {U : State} (h : ev_T ρ A U) {k : Nat} {x : Nat × List Value} : ev_T ρ (ev_s A k (.inr x)) U := by
  intro j t z hj
  rw [← ev_n_eq] at hj
  rcases ev_n_s _ _ _ _ _ hj with ⟨rfl, e⟩ | ⟨_, e⟩
  · cases e
  · exact h j t z (by rw [← ev_n_eq]; exact e)
/-- the array at place k is of type ty -/
theorem ev_T.K {ρ : ev_R} {A : ev_H} {U : State} {D : va_G} {cl : List vw_C} (h : ev_T ρ A U) (hK : va_K D cl [] U) {k : Nat} {ty : FieldType} {x : Nat × ((Nat → Int32) ⊕ (Nat → Int64))} (hk : ev_n A k = some (.inl (ty, x))) : va_K D cl [((ρ k).2, ty)] U := by
  refine ⟨hK.1, fun j q hj => ?_⟩
  cases j with
  | zero =>
    simp only [List.getElem?_cons_zero, Option.some.injEq] at hj
    subst hj
    exact h k ty x (by rw [← ev_n_eq]; exact hk)
  | succ j => simp at hj
def ev_wd (D : va_G) (cl : List vw_C) (A : Nat → Prop) (s : State) (ρ0 : ev_R) (n0 : Nat) (ρ : ev_R) (hp : ev_H) (H : Heap) (locs : List Loc) : Prop :=
  va_P D cl (ev_w ρ hp) H ∧ va_D A (ev_w ρ hp) ∧ va_S A s.heap H locs ∧ ev_T ρ hp s ∧ n0 ≤ hp.length ∧ ∀ k, k < n0 → ρ k = ρ0 k
/-! locals -/
def ev_lo (ρ : ev_R) (ls : Array Slot) (nL : Nat) (lo : ev_L) : Prop := ls.size = nL ∧ lv_wf ls ∧ ∀ (i : Nat) (v : Value), ev_n lo i = some (some v) → ls[i]? = some (.val (ev_v ρ v))
def ev_a1 (ρ : ev_R) (lo : ev_L) (i : Nat) : Option (Nat × Value) := match ev_n lo i with
  | some (some v) => some (i, ev_v ρ v)
  | _ => none
def ev_as (ρ : ev_R) (lo : ev_L) : List (Nat × Value) := (List.range lo.length).filterMap (ev_a1 ρ lo)
theorem ev_lo.has {ρ : ev_R} {ls : Array Slot} {nL : Nat} {lo : ev_L} (h : ev_lo ρ ls nL lo) : lv_has ls nL (ev_as ρ lo) := by
  refine ⟨h.1, h.2.1, fun q hq => ?_⟩
  obtain ⟨i, -, hi⟩ := List.mem_filterMap.mp hq
  unfold ev_a1 at hi
  split at hi
  · rename_i v hv
    cases hi
    exact h.2.2 i v hv
  · cases hi
theorem ev_n_lt {α : Type} {l : List α} {i : Nat} {x : α} (h : ev_n l i = some x) : i < l.length := by
  rw [ev_n_eq] at h
  exact (List.getElem?_eq_some_iff.mp h).1
theorem ev_as_mem {ρ : ev_R} {lo : ev_L} {i : Nat} {v : Value} (h : ev_n lo i = some (some v)) : (i, ev_v ρ v) ∈ ev_as ρ lo := by
  refine List.mem_filterMap.mpr ⟨i, List.mem_range.mpr (ev_n_lt h), ?_⟩
  unfold ev_a1
  rw [h]
def ev_pw (lo : ev_L) (j : Nat) : ev_L := match ev_n lo j with
  | some (some (.long _)) => ev_s lo j none
  | some (some (.double _)) => ev_s lo j none
  | _ => lo
def ev_pv (lo : ev_L) : Nat → ev_L
  | 0 => lo
  | j + 1 => ev_pw lo j
def ev_st (lo : ev_L) (i : Nat) (v : Value) : ev_L := ev_s (ev_pv lo i) i (some v)
theorem ev_st_n {lo : ev_L} {i j : Nat} {v u : Value} (h : ev_n (ev_st lo i v) j = some (some u)) : (j = i ∧ u = v) ∨ (j ≠ i ∧ ev_n lo j = some (some u) ∧ ¬ (j + 1 = i ∧ u.category = 2)) := by
  unfold ev_st at h
  rcases ev_n_s _ _ _ _ _ h with ⟨a, b⟩ | ⟨a, b⟩
  · cases b
    exact Or.inl ⟨a, rfl⟩
  · refine Or.inr ⟨a, ?_⟩
    cases i with
    | zero => exact ⟨b, fun q => by omega⟩
    | succ i =>
      have b2 : ev_n (ev_pw lo i) j = some (some u) := b
      clear b
      unfold ev_pw at b2
      split at b2
      · rename_i x hx
        rcases ev_n_s _ _ _ _ _ b2 with ⟨_, b⟩ | ⟨a1, b⟩
        · cases b
        · exact ⟨b, fun q => a1 (by omega)⟩
      · rename_i x hx
        rcases ev_n_s _ _ _ _ _ b2 with ⟨_, b⟩ | ⟨a1, b⟩
        · cases b
        · exact ⟨b, fun q => a1 (by omega)⟩
      · rename_i h1 h2
        refine ⟨b2, fun q => ?_⟩
        obtain ⟨q1, q2⟩ := q
        have : j = i := by omega
        subst this
        cases u with
        | long z => exact h1 z b2
        | double z => exact h2 z b2
        | _ => simp [Value.category] at q2
theorem ev_lo.store {ρ : ev_R} {ls ls' : Array Slot} {nL i : Nat} {lo : ev_L} {v : Value} (h : lv_has ls' nL ((i, ev_v ρ v) :: (ev_as ρ lo).filter (fun q => !(q.1 == i) && !(q.1 + 1 == i && q.2.category == 2)))) : ev_lo ρ ls' nL (ev_st lo i v) := by
  refine ⟨h.1, h.2.1, fun j u hj => ?_⟩
  rcases ev_st_n hj with ⟨rfl, rfl⟩ | ⟨a, b, d⟩
  · exact h.2.2 _ List.mem_cons_self
  · refine h.2.2 (j, ev_v ρ u) (List.mem_cons_of_mem _ (List.mem_filter.mpr ⟨ev_as_mem b, ?_⟩))
    simp only [Bool.and_eq_true, Bool.not_eq_true', beq_eq_false_iff_ne, ne_eq, Bool.and_eq_false_iff, ev_v_cat]
    refine ⟨a, ?_⟩
    by_cases h1 : j + 1 = i
    · exact Or.inr fun q => d ⟨h1, q⟩
    · exact Or.inl h1
theorem ev_lo.to {ρ ρ' : ev_R} {ls : Array Slot} {nL : Nat} {lo : ev_L} (h : ev_lo ρ ls nL lo) (he : ∀ (i : Nat) (v : Value), ev_n lo i = some (some v) → ev_v ρ' v = ev_v ρ v) : ev_lo ρ' ls nL lo := ⟨h.1, h.2.1, fun i v hi => by rw [he i v hi]; exact h.2.2 i v hi⟩
/-- what is dead is forgotten: only the places of the list ks stay -/
def ev_keep : List Bool → ev_L → ev_L
  | [], _ => []
  | _ :: _, [] => []
  | true :: b, v :: lo => v :: ev_keep b lo
  | false :: b, _ :: lo => none :: ev_keep b lo
theorem ev_keep_n : ∀ {b : List Bool} {lo : ev_L} {i : Nat} {v : Value}, ev_n (ev_keep b lo) i = some (some v) → ev_n lo i = some (some v)
  | [], lo, i, v, h => by simp [ev_keep, ev_n] at h
  | _ :: _, [], i, v, h => by simp [ev_keep, ev_n] at h
  | true :: b, x :: lo, 0, v, h => h
  | false :: b, x :: lo, 0, v, h => by simp [ev_keep, ev_n] at h
  | true :: b, x :: lo, i + 1, v, h => ev_keep_n (b := b) (lo := lo) (i := i) h
  | false :: b, x :: lo, i + 1, v, h => ev_keep_n (b := b) (lo := lo) (i := i) h
theorem ev_lo.keep {ρ : ev_R} {ls : Array Slot} {nL : Nat} {lo : ev_L} (b : List Bool) (h : ev_lo ρ ls nL lo) : ev_lo ρ ls nL (ev_keep b lo) := ⟨h.1, h.2.1, fun i v hi => h.2.2 i v (ev_keep_n hi)⟩
/-- a method's locals at its entry -/
def ev_ent : Nat → List Value → ev_L
  | 0, _ => []
  | n + 1, [] => none :: ev_ent n []
  | n + 1, .long x :: vs => match n with
    | 0 => [some (.long x)]
    | n + 1 => some (.long x) :: none :: ev_ent n vs
  | n + 1, .double x :: vs => match n with
    | 0 => [some (.double x)]
    | n + 1 => some (.double x) :: none :: ev_ent n vs
  | n + 1, v :: vs => some v :: ev_ent n vs
theorem ev_ent_nil : ∀ (n i : Nat) (v : Value), ¬ ev_n (ev_ent n []) i = some (some v)
  | 0, i, v => by simp [ev_ent, ev_n]
  | n + 1, 0, v => by simp [ev_ent, ev_n]
  | n + 1, i + 1, v => by
    intro h
    exact ev_ent_nil n i v (by simpa [ev_ent, ev_n] using h)
theorem ev_ent_n (ρ : ev_R) : ∀ (n : Nat) (vs : List Value) (i j : Nat) (v : Value), ev_n (ev_ent n vs) i = some (some v) → (j + i, ev_v ρ v) ∈ lv_args j (vs.map (ev_v ρ))
  | 0, vs, i, j, v, h => by simp [ev_ent, ev_n] at h
  | n + 1, [], i, j, v, h => absurd h (ev_ent_nil (n + 1) i v)
  | n + 1, u :: vs, i, j, v, h => by
    have one : u.category = 1 → ev_n (some u :: ev_ent n vs) i = some (some v) → (j + i, ev_v ρ v) ∈ lv_args j ((u :: vs).map (ev_v ρ)) := by
      intro hc h
      rw [List.map_cons, lv_args, ev_v_cat, hc, if_neg (by decide)]
      cases i with
      | zero =>
        simp only [ev_n, Option.some.injEq] at h
        subst h
        exact List.mem_cons_self
      | succ i =>
        have := ev_ent_n ρ n vs i (j + 1) v h
        rw [show j + (i + 1) = j + 1 + i by omega]
        exact List.mem_cons_of_mem _ this
    have two : u.category = 2 → ∀ n', ev_n (some u :: none :: ev_ent n' vs) i = some (some v) → n' < n + 1 → (j + i, ev_v ρ v) ∈ lv_args j ((u :: vs).map (ev_v ρ)) := by
      intro hc n' h hn'
      rw [List.map_cons, lv_args, ev_v_cat, hc, if_pos rfl]
      match i, h with
      | 0, h =>
        simp only [ev_n, Option.some.injEq] at h
        subst h
        exact List.mem_cons_self
      | 1, h => simp [ev_n] at h
      | i + 2, h =>
        have := ev_ent_n ρ n' vs i (j + 2) v h
        rw [show j + (i + 2) = j + 2 + i by omega]
        exact List.mem_cons_of_mem _ this
    have two1 : u.category = 2 → ev_n [some u] i = some (some v) → (j + i, ev_v ρ v) ∈ lv_args j ((u :: vs).map (ev_v ρ)) := by
      intro hc h
      rw [List.map_cons, lv_args]
      cases i with
      | zero =>
        simp only [ev_n, Option.some.injEq] at h
        subst h
        exact List.mem_cons_self
      | succ i => simp [ev_n] at h
    cases u with
    | long x =>
      cases n with
      | zero => exact two1 rfl h
      | succ n => exact two rfl n h (by omega)
    | double x =>
      cases n with
      | zero => exact two1 rfl h
      | succ n => exact two rfl n h (by omega)
    | int x => exact one rfl h
    | float x => exact one rfl h
    | null => exact one rfl h
    | ref x => exact one rfl h
    | retAddr x => exact one rfl h
termination_by n => n
theorem ev_ent_lo {ρ : ev_R} {ls : Array Slot} {nL : Nat} {as : List Value} (h : lv_has ls nL (lv_args 0 (as.map (ev_v ρ)))) : ev_lo ρ ls nL (ev_ent nL as) := by
  refine ⟨h.1, h.2.1, fun i v hi => ?_⟩
  have := ev_ent_n ρ nL as i 0 v hi
  rw [Nat.zero_add] at this
  exact h.2.2 _ this
