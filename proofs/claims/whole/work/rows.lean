section
/-! worlds as lists of cells; a reference is a place in the list -/
abbrev ev_A : Type := FieldType × Nat × ((Nat → Int32) ⊕ (Nat → Int64))
abbrev ev_E : Type := ev_A ⊕ (Nat × List Value)
abbrev ev_H : Type := List ev_E
abbrev ev_R : Type := Nat → Nat × ClassId
abbrev ev_L : Type := List (Option Value)
abbrev ev_O : Type := Option Value × ev_H
abbrev ev_K : Type := ev_L → List Value → ev_H → Option ev_O
abbrev ev_N : Type := List (String × Nat × MethodName × String)
def ev_n {α : Type} : List α → Nat → Option α
  | [], _ => none
  | a :: _, 0 => some a
  | _ :: l, k + 1 => ev_n l k
def ev_s {α : Type} : List α → Nat → α → List α
  | [], _, _ => []
  | _ :: l, 0, x => x :: l
  | a :: l, k + 1, x => a :: ev_s l k x
theorem ev_n_eq {α : Type} : ∀ (l : List α) (k : Nat), ev_n l k = l[k]?
  | [], k => by simp [ev_n]
  | a :: l, 0 => by simp [ev_n]
  | a :: l, k + 1 => by simp [ev_n, ev_n_eq l k]
theorem ev_s_eq {α : Type} : ∀ (l : List α) (k : Nat) (x : α), ev_s l k x = l.set k x
  | [], k, x => by simp [ev_s]
  | a :: l, 0, x => by simp [ev_s]
  | a :: l, k + 1, x => by simp [ev_s, ev_s_eq l k x]
theorem ev_n_s {α : Type} (l : List α) (k j : Nat) (x y : α) (h : ev_n (ev_s l k x) j = some y) : (j = k ∧ y = x) ∨ (j ≠ k ∧ ev_n l j = some y) := by
  rw [ev_n_eq, ev_s_eq, List.getElem?_set] at h
  by_cases hk : k = j
  · subst hk
    rw [if_pos rfl] at h
    split at h
    · cases h
      exact Or.inl ⟨rfl, rfl⟩
    · cases h
  · rw [if_neg hk] at h
    exact Or.inr ⟨fun q => hk q.symm, by rw [ev_n_eq]; exact h⟩
theorem ev_s_len {α : Type} (l : List α) (k : Nat) (x : α) : (ev_s l k x).length = l.length := by rw [ev_s_eq, List.length_set]
/-- a value of the list as a value of the heap: a place's address; 'retAddr b' stands for the address b itself -/
def ev_v (ρ : ev_R) (v : Value) : Value := match v with
  | .ref a => .ref (ρ a).1
  | .retAddr b => .ref b
  | .int x => .int x
  | .long x => .long x
  | .float x => .float x
  | .double x => .double x
  | .null => .null
theorem ev_v_cat (ρ : ev_R) (v : Value) : (ev_v ρ v).category = v.category := by cases v <;> rfl
theorem ev_v_cats (ρ : ev_R) (st : List Value) : ((st.map (ev_v ρ)).map fun v => v.category) = st.map fun v => v.category := by
  rw [List.map_map]
  exact List.map_congr_left fun v _ => ev_v_cat ρ v
def ev_e (ρ : ev_R) (k : Nat) (x : ev_E) : va_E := match x with
  | .inl (_, n, .inl f) => .inl ((ρ k).2, n, .inl f)
  | .inl (_, n, .inr f) => .inl ((ρ k).2, n, .inr (.inl f))
  | .inr (ci, fs) => .inr (ci, fs.map (ev_v ρ))
def ev_w (ρ : ev_R) (A : ev_H) : va_W := A.mapIdx fun k x => ((ρ k).1, ev_e ρ k x)
theorem ev_w_get (ρ : ev_R) (A : ev_H) (k : Nat) : (ev_w ρ A)[k]? = A[k]?.map (fun x => ((ρ k).1, ev_e ρ k x)) := by
  unfold ev_w
  rw [List.getElem?_mapIdx]
theorem ev_w_at {ρ : ev_R} {A : ev_H} {k : Nat} {x : ev_E} (h : ev_n A k = some x) : (ev_w ρ A)[k]? = some ((ρ k).1, ev_e ρ k x) := by
  rw [ev_w_get, ← ev_n_eq, h]
  rfl
theorem ev_w_len (ρ : ev_R) (A : ev_H) : (ev_w ρ A).length = A.length := by unfold ev_w; exact List.length_mapIdx
theorem ev_w_set (ρ : ev_R) (A : ev_H) (k : Nat) (x : ev_E) : ev_w ρ (ev_s A k x) = (ev_w ρ A).set k ((ρ k).1, ev_e ρ k x) := by
  apply List.ext_getElem?
  intro i
  rw [ev_w_get, ev_s_eq, List.getElem?_set, List.getElem?_set, ev_w_len, ev_w_get]
  by_cases h : k = i
  · subst h
    rw [if_pos rfl, if_pos rfl]
    by_cases hl : k < A.length
    · rw [if_pos hl, if_pos hl]
      rfl
    · rw [if_neg hl, if_neg hl]
      rfl
  · rw [if_neg h, if_neg h]
def ev_okv (n : Nat) (v : Value) : Bool := match v with
  | .ref a => Nat.blt a n
  | _ => true
def ev_okl (n : Nat) : ev_L → Bool
  | [] => true
  | none :: l => ev_okl n l
  | some v :: l => ev_okv n v && ev_okl n l
def ev_oks (n : Nat) : List Value → Bool
  | [] => true
  | v :: l => ev_okv n v && ev_oks n l
def ev_okh (n : Nat) : ev_H → Bool
  | [] => true
  | .inl _ :: l => ev_okh n l
  | .inr (_, fs) :: l => ev_oks n fs && ev_okh n l
theorem ev_okv_eq {n : Nat} {ρ ρ' : ev_R} (ha : ∀ k, k < n → ρ' k = ρ k) {v : Value} (h : ev_okv n v = true) : ev_v ρ' v = ev_v ρ v := by
  cases v with
  | ref a =>
    have : a < n := by simpa [ev_okv, Nat.blt_eq] using h
    show Value.ref (ρ' a).1 = Value.ref (ρ a).1
    rw [ha a this]
  | _ => rfl
theorem ev_oks_eq {n : Nat} {ρ ρ' : ev_R} (ha : ∀ k, k < n → ρ' k = ρ k) : ∀ {st : List Value}, ev_oks n st = true → st.map (ev_v ρ') = st.map (ev_v ρ)
  | [], _ => rfl
  | v :: st, h => by
    simp only [ev_oks, Bool.and_eq_true] at h
    rw [List.map_cons, List.map_cons, ev_okv_eq ha h.1, ev_oks_eq ha h.2]
theorem ev_okl_eq {n : Nat} {ρ ρ' : ev_R} (ha : ∀ k, k < n → ρ' k = ρ k) : ∀ {lo : ev_L}, ev_okl n lo = true → ∀ (i : Nat) (v : Value), ev_n lo i = some (some v) → ev_v ρ' v = ev_v ρ v
  | [], _, i, v, hi => by simp [ev_n] at hi
  | none :: lo, h, 0, v, hi => by simp [ev_n] at hi
  | none :: lo, h, i + 1, v, hi => ev_okl_eq ha (lo := lo) h i v hi
  | some u :: lo, h, 0, v, hi => by
    simp only [ev_okl, Bool.and_eq_true] at h
    simp only [ev_n, Option.some.injEq] at hi
    subst hi
    exact ev_okv_eq ha h.1
  | some u :: lo, h, i + 1, v, hi => by
    simp only [ev_okl, Bool.and_eq_true] at h
    exact ev_okl_eq ha (lo := lo) h.2 i v hi
theorem ev_okh_eq {n : Nat} {ρ ρ' : ev_R} (ha : ∀ k, k < n → ρ' k = ρ k) : ∀ {A : ev_H}, ev_okh n A = true → ∀ (i : Nat) (x : ev_E), A[i]? = some x → i < n → ev_e ρ' i x = ev_e ρ i x
  | [], _, i, x, hi, _ => by simp at hi
  | a :: A, h, i, x, hi, hn => by
    have key : ∀ (j : Nat), j < n → ev_okh n [x] = true → ev_e ρ' j x = ev_e ρ j x := by
      intro j hj hx
      rcases x with ⟨ty, N, f | f⟩ | ⟨ci, fs⟩
      · show (Sum.inl ((ρ' j).2, N, Sum.inl f) : va_E) = Sum.inl ((ρ j).2, N, Sum.inl f)
        rw [ha j hj]
      · show (Sum.inl ((ρ' j).2, N, Sum.inr (Sum.inl f)) : va_E) = Sum.inl ((ρ j).2, N, Sum.inr (Sum.inl f))
        rw [ha j hj]
      · simp only [ev_okh, Bool.and_true] at hx
        show (Sum.inr (ci, fs.map (ev_v ρ')) : va_E) = Sum.inr (ci, fs.map (ev_v ρ))
        rw [ev_oks_eq ha hx]
    have mem : ∀ (B : ev_H) (j : Nat), ev_okh n B = true → B[j]? = some x → ev_okh n [x] = true := by
      intro B
      induction B with
      | nil => intro j _ h; simp at h
      | cons b B ih =>
        intro j hb hj
        cases j with
        | zero =>
          simp only [List.getElem?_cons_zero, Option.some.injEq] at hj
          subst hj
          rcases b with b | ⟨ci, fs⟩
          · rfl
          · simp only [ev_okh, Bool.and_eq_true] at hb
            simp only [ev_okh, Bool.and_true]
            exact hb.1
        | succ j =>
          rw [List.getElem?_cons_succ] at hj
          refine ih j ?_ hj
          rcases b with b | ⟨ci, fs⟩
          · exact hb
          · simp only [ev_okh, Bool.and_eq_true] at hb
            exact hb.2
    exact key i hn (mem (a :: A) i h hi)
theorem ev_w_eq {ρ ρ' : ev_R} {A : ev_H} (ha : ∀ k, k < A.length → ρ' k = ρ k) (h : ev_okh A.length A = true) : ev_w ρ' A = ev_w ρ A := by
  apply List.ext_getElem?
  intro i
  rw [ev_w_get, ev_w_get]
  cases hi : A[i]? with
  | none => rfl
  | some x =>
    have hl : i < A.length := (List.getElem?_eq_some_iff.mp hi).1
    show some ((ρ' i).1, ev_e ρ' i x) = some ((ρ i).1, ev_e ρ i x)
    rw [ha i hl, ev_okh_eq ha h i x hi hl]
def ev_up (ρ : ev_R) (n q : Nat) (c : ClassId) : ev_R := fun k => if k = n then (q, c) else ρ k
theorem ev_up_lt {ρ : ev_R} {n q : Nat} {c : ClassId} (k : Nat) (h : k < n) : ev_up ρ n q c k = ρ k := by
  unfold ev_up
  rw [if_neg (by omega)]
theorem ev_up_at {ρ : ev_R} {n q : Nat} {c : ClassId} : ev_up ρ n q c n = (q, c) := by
  unfold ev_up
  rw [if_pos rfl]
theorem ev_w_push {ρ : ev_R} {A : ev_H} {q : Nat} {c : ClassId} {x : ev_E} (h : ev_okh A.length A = true) : ev_w (ev_up ρ A.length q c) (A ++ [x]) = ev_w ρ A ++ [(q, ev_e (ev_up ρ A.length q c) A.length x)] := by
  have h1 : ev_w (ev_up ρ A.length q c) (A ++ [x]) = ev_w (ev_up ρ A.length q c) A ++ [((ev_up ρ A.length q c A.length).1, ev_e (ev_up ρ A.length q c) A.length x)] := by
    unfold ev_w
    rw [List.mapIdx_append]
    simp
  rw [h1, ev_w_eq (ρ' := ev_up ρ A.length q c) (ρ := ρ) (fun k hk => ev_up_lt k hk) h, ev_up_at]
def ev_T (ρ : ev_R) (A : ev_H) (U : State) : Prop := ∀ (k : Nat) (ty : FieldType) (x : Nat × ((Nat → Int32) ⊕ (Nat → Int64))), A[k]? = some (.inl (ty, x)) → ArrOfT U (ρ k).2 ty ∧ va_RA U (ρ k).2 ty
theorem ev_T.moved {ρ : ev_R} {A : ev_H} {u U : State} (hvm : u.vm.Alike U.vm) (h : ev_T ρ A u) : ev_T ρ A U := fun k ty x hk => ⟨arrOfT_moved hvm (h k ty x hk).1, (h k ty x hk).2.moved hvm⟩
theorem ev_T.set {ρ : ev_R} {A : ev_H} {U : State} (h : ev_T ρ A U) {k : Nat} {ty : FieldType} {x y : Nat × ((Nat → Int32) ⊕ (Nat → Int64))} (hk : ev_n A k = some (.inl (ty, x))) : ev_T ρ (ev_s A k (.inl (ty, y))) U := by
  intro j t z hj
  rw [← ev_n_eq] at hj
  rcases ev_n_s _ _ _ _ _ hj with ⟨rfl, e⟩ | ⟨_, e⟩
  · cases e
    exact h j ty x (by rw [← ev_n_eq]; exact hk)
  · exact h j t z (by rw [← ev_n_eq]; exact e)
theorem ev_T.seto {ρ : ev_R} {A : ev_H} {U : State} (h : ev_T ρ A U) {k : Nat} {x : Nat × List Value} : ev_T ρ (ev_s A k (.inr x)) U := by
  intro j t z hj
  rw [← ev_n_eq] at hj
  rcases ev_n_s _ _ _ _ _ hj with ⟨rfl, e⟩ | ⟨_, e⟩
  · cases e
  · exact h j t z (by rw [← ev_n_eq]; exact e)
/-- the array at place k is of type ty -/
theorem ev_T.K {ρ : ev_R} {A : ev_H} {U : State} {D : va_G} {cl : List vw_C} (h : ev_T ρ A U) (hK : va_K D cl [] U) {k : Nat} {ty : FieldType} {x : Nat × ((Nat → Int32) ⊕ (Nat → Int64))} (hk : ev_n A k = some (.inl (ty, x))) : va_K D cl [((ρ k).2, ty)] U := by
  refine ⟨hK.1, fun j q hj => ?_⟩
  cases j with
  | zero =>
    simp only [List.getElem?_cons_zero, Option.some.injEq] at hj
    subst hj
    exact h k ty x (by rw [← ev_n_eq]; exact hk)
  | succ j => simp at hj
def ev_wd (D : va_G) (cl : List vw_C) (A : Nat → Prop) (s : State) (ρ0 : ev_R) (n0 : Nat) (ρ : ev_R) (hp : ev_H) (H : Heap) (locs : List Loc) : Prop :=
  va_P D cl (ev_w ρ hp) H ∧ va_D A (ev_w ρ hp) ∧ va_S A s.heap H locs ∧ ev_T ρ hp s ∧ n0 ≤ hp.length ∧ ∀ k, k < n0 → ρ k = ρ0 k
/-! locals -/
def ev_lo (ρ : ev_R) (ls : Array Slot) (nL : Nat) (lo : ev_L) : Prop := ls.size = nL ∧ lv_wf ls ∧ ∀ (i : Nat) (v : Value), ev_n lo i = some (some v) → ls[i]? = some (.val (ev_v ρ v))
def ev_a1 (ρ : ev_R) (lo : ev_L) (i : Nat) : Option (Nat × Value) := match ev_n lo i with
  | some (some v) => some (i, ev_v ρ v)
  | _ => none
def ev_as (ρ : ev_R) (lo : ev_L) : List (Nat × Value) := (List.range lo.length).filterMap (ev_a1 ρ lo)
theorem ev_lo.has {ρ : ev_R} {ls : Array Slot} {nL : Nat} {lo : ev_L} (h : ev_lo ρ ls nL lo) : lv_has ls nL (ev_as ρ lo) := by
  refine ⟨h.1, h.2.1, fun q hq => ?_⟩
  obtain ⟨i, -, hi⟩ := List.mem_filterMap.mp hq
  unfold ev_a1 at hi
  split at hi
  · rename_i v hv
    cases hi
    exact h.2.2 i v hv
  · cases hi
theorem ev_n_lt {α : Type} {l : List α} {i : Nat} {x : α} (h : ev_n l i = some x) : i < l.length := by
  rw [ev_n_eq] at h
  exact (List.getElem?_eq_some_iff.mp h).1
theorem ev_as_mem {ρ : ev_R} {lo : ev_L} {i : Nat} {v : Value} (h : ev_n lo i = some (some v)) : (i, ev_v ρ v) ∈ ev_as ρ lo := by
  refine List.mem_filterMap.mpr ⟨i, List.mem_range.mpr (ev_n_lt h), ?_⟩
  unfold ev_a1
  rw [h]
def ev_pw (lo : ev_L) (j : Nat) : ev_L := match ev_n lo j with
  | some (some (.long _)) => ev_s lo j none
  | some (some (.double _)) => ev_s lo j none
  | _ => lo
def ev_pv (lo : ev_L) : Nat → ev_L
  | 0 => lo
  | j + 1 => ev_pw lo j
def ev_st (lo : ev_L) (i : Nat) (v : Value) : ev_L := ev_s (ev_pv lo i) i (some v)
theorem ev_st_n {lo : ev_L} {i j : Nat} {v u : Value} (h : ev_n (ev_st lo i v) j = some (some u)) : (j = i ∧ u = v) ∨ (j ≠ i ∧ ev_n lo j = some (some u) ∧ ¬ (j + 1 = i ∧ u.category = 2)) := by
  unfold ev_st at h
  rcases ev_n_s _ _ _ _ _ h with ⟨a, b⟩ | ⟨a, b⟩
  · cases b
    exact Or.inl ⟨a, rfl⟩
  · refine Or.inr ⟨a, ?_⟩
    cases i with
    | zero => exact ⟨b, fun q => by omega⟩
    | succ i =>
      have b2 : ev_n (ev_pw lo i) j = some (some u) := b
      clear b
      unfold ev_pw at b2
      split at b2
      · rename_i x hx
        rcases ev_n_s _ _ _ _ _ b2 with ⟨_, b⟩ | ⟨a1, b⟩
        · cases b
        · exact ⟨b, fun q => a1 (by omega)⟩
      · rename_i x hx
        rcases ev_n_s _ _ _ _ _ b2 with ⟨_, b⟩ | ⟨a1, b⟩
        · cases b
        · exact ⟨b, fun q => a1 (by omega)⟩
      · rename_i h1 h2
        refine ⟨b2, fun q => ?_⟩
        obtain ⟨q1, q2⟩ := q
        have : j = i := by omega
        subst this
        cases u with
        | long z => exact h1 z b2
        | double z => exact h2 z b2
        | _ => simp [Value.category] at q2
theorem ev_lo.store {ρ : ev_R} {ls ls' : Array Slot} {nL i : Nat} {lo : ev_L} {v : Value} (h : lv_has ls' nL ((i, ev_v ρ v) :: (ev_as ρ lo).filter (fun q => !(q.1 == i) && !(q.1 + 1 == i && q.2.category == 2)))) : ev_lo ρ ls' nL (ev_st lo i v) := by
  refine ⟨h.1, h.2.1, fun j u hj => ?_⟩
  rcases ev_st_n hj with ⟨rfl, rfl⟩ | ⟨a, b, d⟩
  · exact h.2.2 _ List.mem_cons_self
  · refine h.2.2 (j, ev_v ρ u) (List.mem_cons_of_mem _ (List.mem_filter.mpr ⟨ev_as_mem b, ?_⟩))
    simp only [Bool.and_eq_true, Bool.not_eq_true', beq_eq_false_iff_ne, ne_eq, Bool.and_eq_false_iff, ev_v_cat]
    refine ⟨a, ?_⟩
    by_cases h1 : j + 1 = i
    · exact Or.inr fun q => d ⟨h1, q⟩
    · exact Or.inl h1
theorem ev_lo.to {ρ ρ' : ev_R} {ls : Array Slot} {nL : Nat} {lo : ev_L} (h : ev_lo ρ ls nL lo) (he : ∀ (i : Nat) (v : Value), ev_n lo i = some (some v) → ev_v ρ' v = ev_v ρ v) : ev_lo ρ' ls nL lo := ⟨h.1, h.2.1, fun i v hi => by rw [he i v hi]; exact h.2.2 i v hi⟩
/-- what is dead is forgotten: only the places of the list ks stay -/
def ev_keep : List Bool → ev_L → ev_L
  | [], _ => []
  | _ :: _, [] => []
  | true :: b, v :: lo => v :: ev_keep b lo
  | false :: b, _ :: lo => none :: ev_keep b lo
theorem ev_keep_n : ∀ {b : List Bool} {lo : ev_L} {i : Nat} {v : Value}, ev_n (ev_keep b lo) i = some (some v) → ev_n lo i = some (some v)
  | [], lo, i, v, h => by simp [ev_keep, ev_n] at h
  | _ :: _, [], i, v, h => by simp [ev_keep, ev_n] at h
  | true :: b, x :: lo, 0, v, h => h
  | false :: b, x :: lo, 0, v, h => by simp [ev_keep, ev_n] at h
  | true :: b, x :: lo, i + 1, v, h => ev_keep_n (b := b) (lo := lo) (i := i) h
  | false :: b, x :: lo, i + 1, v, h => ev_keep_n (b := b) (lo := lo) (i := i) h
theorem ev_lo.keep {ρ : ev_R} {ls : Array Slot} {nL : Nat} {lo : ev_L} (b : List Bool) (h : ev_lo ρ ls nL lo) : ev_lo ρ ls nL (ev_keep b lo) := ⟨h.1, h.2.1, fun i v hi => h.2.2 i v (ev_keep_n hi)⟩
/-- a method's locals at its entry -/
def ev_ent : Nat → List Value → ev_L
  | 0, _ => []
  | n + 1, [] => none :: ev_ent n []
  | n + 1, .long x :: vs => match n with
    | 0 => [some (.long x)]
    | n + 1 => some (.long x) :: none :: ev_ent n vs
  | n + 1, .double x :: vs => match n with
    | 0 => [some (.double x)]
    | n + 1 => some (.double x) :: none :: ev_ent n vs
  | n + 1, v :: vs => some v :: ev_ent n vs
theorem ev_ent_nil : ∀ (n i : Nat) (v : Value), ¬ ev_n (ev_ent n []) i = some (some v)
  | 0, i, v => by simp [ev_ent, ev_n]
  | n + 1, 0, v => by simp [ev_ent, ev_n]
  | n + 1, i + 1, v => by
    intro h
    exact ev_ent_nil n i v (by simpa [ev_ent, ev_n] using h)
theorem ev_ent_n (ρ : ev_R) : ∀ (n : Nat) (vs : List Value) (i j : Nat) (v : Value), ev_n (ev_ent n vs) i = some (some v) → (j + i, ev_v ρ v) ∈ lv_args j (vs.map (ev_v ρ))
  | 0, vs, i, j, v, h => by simp [ev_ent, ev_n] at h
  | n + 1, [], i, j, v, h => absurd h (ev_ent_nil (n + 1) i v)
  | n + 1, u :: vs, i, j, v, h => by
    have one : u.category = 1 → ev_n (some u :: ev_ent n vs) i = some (some v) → (j + i, ev_v ρ v) ∈ lv_args j ((u :: vs).map (ev_v ρ)) := by
      intro hc h
      rw [List.map_cons, lv_args, ev_v_cat, hc, if_neg (by decide)]
      cases i with
      | zero =>
        simp only [ev_n, Option.some.injEq] at h
        subst h
        exact List.mem_cons_self
      | succ i =>
        have := ev_ent_n ρ n vs i (j + 1) v h
        rw [show j + (i + 1) = j + 1 + i by omega]
        exact List.mem_cons_of_mem _ this
    have two : u.category = 2 → ∀ n', ev_n (some u :: none :: ev_ent n' vs) i = some (some v) → n' < n + 1 → (j + i, ev_v ρ v) ∈ lv_args j ((u :: vs).map (ev_v ρ)) := by
      intro hc n' h hn'
      rw [List.map_cons, lv_args, ev_v_cat, hc, if_pos rfl]
      match i, h with
      | 0, h =>
        simp only [ev_n, Option.some.injEq] at h
        subst h
        exact List.mem_cons_self
      | 1, h => simp [ev_n] at h
      | i + 2, h =>
        have := ev_ent_n ρ n' vs i (j + 2) v h
        rw [show j + (i + 2) = j + 2 + i by omega]
        exact List.mem_cons_of_mem _ this
    have two1 : u.category = 2 → ev_n [some u] i = some (some v) → (j + i, ev_v ρ v) ∈ lv_args j ((u :: vs).map (ev_v ρ)) := by
      intro hc h
      rw [List.map_cons, lv_args]
      cases i with
      | zero =>
        simp only [ev_n, Option.some.injEq] at h
        subst h
        exact List.mem_cons_self
      | succ i => simp [ev_n] at h
    cases u with
    | long x =>
      cases n with
      | zero => exact two1 rfl h
      | succ n => exact two rfl n h (by omega)
    | double x =>
      cases n with
      | zero => exact two1 rfl h
      | succ n => exact two rfl n h (by omega)
    | int x => exact one rfl h
    | float x => exact one rfl h
    | null => exact one rfl h
    | ref x => exact one rfl h
    | retAddr x => exact one rfl h
termination_by n => n
theorem ev_ent_lo {ρ : ev_R} {ls : Array Slot} {nL : Nat} {as : List Value} (h : lv_has ls nL (lv_args 0 (as.map (ev_v ρ)))) : ev_lo ρ ls nL (ev_ent nL as) := by
  refine ⟨h.1, h.2.1, fun i v hi => ?_⟩
  have := ev_ent_n ρ nL as i 0 v hi
  rw [Nat.zero_add] at this
  exact h.2.2 _ this
end
section
/-! kinds, nest words and words of the tables; code, size of locals, answer's type, name, room, cells, slots; the machine's own state -/
abbrev ev_ga : Type := List vw_C × ev_N × List Jvm.Cond
abbrev ev_mu : Type := ByteArray × Nat × Option FieldType × MethodName × Room × Nat × Nat
abbrev ev_ka : Type := Program × Env × State × MethodId × Array Value × List Frame × Method × Code × (State → Prop) × (Nat → Prop) × ev_R × Nat × (ev_O → Prop)
def isB (x : Int32) : Bool := decide (x = 0 ∨ x = 1)
theorem isB_or {x : Int32} (h : isB x = true) : x = 0 ∨ x = 1 := of_decide_eq_true h
def ev_rd (cc : ByteArray) (ret : Option FieldType) (pc : Nat) (v : Option Value) : Prop := match v with
  | none => ret = none ∧ decode cc pc = .ok (.return_, 1)
  | some (.int x) => decode cc pc = .ok (.ireturn, 1) ∧ (ret = some .int ∨ (ret = some .boolean ∧ isB x = true))
  | _ => False
def ev_Ex (l : Launch) (D : va_G) (γ : ev_ga) (μ : ev_mu) (κ : ev_ka) (o : ev_O) : Prop := match κ with
  | (p, e, s, m, args, below, meth, c, Q, A, ρ0, n0, Ex) => ∀ (pc : Nat) (ρ : ev_R) (ls : Array Slot) (H : Heap) (locs : List Loc), ev_rd μ.1 μ.2.2.1 pc o.1 → ev_wd D γ.1 A s ρ0 n0 ρ o.2 H locs → W p l e μ.2.2.2.2.1 s m args below meth c H locs μ.2.2.2.2.2.1 μ.2.2.2.2.2.2 Q (F0 m pc ls (o.1.toList.map (ev_v ρ)))
def ev_X (l : Launch) (D : va_G) (γ : ev_ga) (μ : ev_mu) (κ : ev_ka) : Prop := match κ with
  | (p, e, s, m, args, below, meth, c, Q, A, ρ0, n0, Ex) => p.tables.exec = Jvm.exec ∧ c.code = μ.1 ∧ c.maxLocals = μ.2.1 ∧ s.vm.findClass μ.2.2.2.1.cls = some m.cls ∧ (∀ w ∈ γ.2.2, w.before args s = true) ∧ va_K D γ.1 [] s ∧ (∀ q, s.heap.size ≤ q → A q) ∧ (∀ q ∈ γ.2.1, va_Nw (.methodLinkNest q.1 q.2.1 q.2.2.1 q.2.2.2) s) ∧ meth.name = μ.2.2.2.1.name ∧ ∀ o, Ex o → ev_Ex l D γ μ (p, e, s, m, args, below, meth, c, Q, A, ρ0, n0, Ex) o
def ev_J {β : Type} (l : Launch) (D : va_G) (γ : ev_ga) (μ : ev_mu) (κ : ev_ka) (pc ce sl : Nat) (lo : ev_L) (st : List Value) (hp : ev_H) (y : Option β) (w : β → ev_O) : Prop := match κ with
  | (p, e, s, m, args, below, meth, c, Q, A, ρ0, n0, Ex) => ∀ (q : β), y = some q → Ex (w q) → ∀ (ρ : ev_R) (ls : Array Slot) (H : Heap) (locs : List Loc), ev_lo ρ ls μ.2.1 lo → ev_wd D γ.1 A s ρ0 n0 ρ hp H locs → W p l e μ.2.2.2.2.1 s m args below meth c H locs ce sl Q (F0 m pc ls (st.map (ev_v ρ)))
abbrev ix (i : Int32) : Nat := i.toNatClampNeg
def inb (i : Int32) (n : Nat) : Bool := decide (¬ (i < 0 ∨ n ≤ i.toNatClampNeg))
def nz (x : Int32) : Bool := decide (¬ x = 0)
def nzL (x : Int64) : Bool := decide (¬ x = 0)
theorem inb_in {i : Int32} {n : Nat} (h : inb i n = true) : vp_in i n := by
  have h1 : ¬ (i < 0 ∨ n ≤ i.toNatClampNeg) := of_decide_eq_true h
  exact h1
theorem nz_ne {x : Int32} (h : nz x = true) : ¬ x = 0 := of_decide_eq_true h
theorem nzL_ne {x : Int64} (h : nzL x = true) : ¬ x = 0 := of_decide_eq_true h
def ck {α : Type} (b : Bool) (k : Option α) : Option α := match b with
  | true => k
  | false => none
theorem ck_t {α : Type} {b : Bool} {k : Option α} {x : α} (h : ck b k = some x) : b = true ∧ k = some x := by
  cases b with
  | true => exact ⟨rfl, h⟩
  | false => cases h
def bd {α β : Type} (x : Option α) (k : α → Option β) : Option β := match x with
  | some a => k a
  | none => none
theorem bd_t {α β : Type} {x : Option α} {k : α → Option β} {z : β} (h : bd x k = some z) : ∃ a, x = some a ∧ k a = some z := by
  cases x with
  | some a => exact ⟨a, rfl, h⟩
  | none => cases h
section EVR
variable {β : Type} {l : Launch} {D : va_G} {γ : ev_ga} {μ : ev_mu} {κ : ev_ka} {pc n ce sl : Nat} {lo : ev_L} {st : List Value} {hp : ev_H} {y : Option β} {w : β → ev_O}
theorem js_iconst {i : Int} (v : Int32) (X : ev_X l D γ μ κ) (hd : decode μ.1 pc = .ok (.iconst i, 1)) (hn : pc + 1 = n) (hv : Int32.ofInt i = v) (hk : ev_J l D γ μ κ n ce sl lo (.int v :: st) hp y w) : ev_J l D γ μ κ pc ce sl lo (st) hp (y) w := by
  obtain ⟨p, e, s, m, args, below, meth, c, Q, A, ρ0, n0, Ex⟩ := κ
  subst hn
  intro q hy E ρ ls H locs hl hw
  exact lv_iconst X.1 X.2.1 hd hv (hk q hy E ρ ls H locs hl hw)
theorem js_bipush {i : Int} (v : Int32) (X : ev_X l D γ μ κ) (hd : decode μ.1 pc = .ok (.bipush i, 2)) (hn : pc + 2 = n) (hv : (Int8.ofInt i).toInt32 = v) (hk : ev_J l D γ μ κ n ce sl lo (.int v :: st) hp y w) : ev_J l D γ μ κ pc ce sl lo (st) hp (y) w := by
  obtain ⟨p, e, s, m, args, below, meth, c, Q, A, ρ0, n0, Ex⟩ := κ
  subst hn
  intro q hy E ρ ls H locs hl hw
  exact lv_bipush X.1 X.2.1 hd hv (hk q hy E ρ ls H locs hl hw)
theorem js_sipush {i : Int} (v : Int32) (X : ev_X l D γ μ κ) (hd : decode μ.1 pc = .ok (.sipush i, 3)) (hn : pc + 3 = n) (hv : (Int16.ofInt i).toInt32 = v) (hk : ev_J l D γ μ κ n ce sl lo (.int v :: st) hp y w) : ev_J l D γ μ κ pc ce sl lo (st) hp (y) w := by
  obtain ⟨p, e, s, m, args, below, meth, c, Q, A, ρ0, n0, Ex⟩ := κ
  subst hn
  intro q hy E ρ ls H locs hl hw
  exact lv_sipush X.1 X.2.1 hd hv (hk q hy E ρ ls H locs hl hw)
theorem js_lconst {i : Fin 2} (v : Int64) (X : ev_X l D γ μ κ) (hd : decode μ.1 pc = .ok (.lconst i, 1)) (hn : pc + 1 = n) (hv : Int64.ofNat (i : Nat) = v) (hk : ev_J l D γ μ κ n ce sl lo (.long v :: st) hp y w) : ev_J l D γ μ κ pc ce sl lo (st) hp (y) w := by
  obtain ⟨p, e, s, m, args, below, meth, c, Q, A, ρ0, n0, Ex⟩ := κ
  subst hn
  intro q hy E ρ ls H locs hl hw
  exact lv_lconst X.1 X.2.1 hd hv (hk q hy E ρ ls H locs hl hw)
theorem js_ldc {i : Nat} {v : Int32} (X : ev_X l D γ μ κ) (hd : decode μ.1 pc = .ok (.ldc i, 2)) (hn : pc + 2 = n) (hv : Jvm.Cond.constant μ.2.2.2.1.cls i v ∈ γ.2.2) (hk : ev_J l D γ μ κ n ce sl lo (.int v :: st) hp y w) : ev_J l D γ μ κ pc ce sl lo (st) hp (y) w := by
  obtain ⟨p, e, s, m, args, below, meth, c, Q, A, ρ0, n0, Ex⟩ := κ
  subst hn
  intro q hy E ρ ls H locs hl hw
  exact lv_ldc X.1 X.2.1 X.2.2.2.1 (X.2.2.2.2.1 _ hv) hd (hk q hy E ρ ls H locs hl hw)
theorem js_ldcw {i : Nat} {v : Int32} (X : ev_X l D γ μ κ) (hd : decode μ.1 pc = .ok (.ldc_w i, 3)) (hn : pc + 3 = n) (hv : Jvm.Cond.constant μ.2.2.2.1.cls i v ∈ γ.2.2) (hk : ev_J l D γ μ κ n ce sl lo (.int v :: st) hp y w) : ev_J l D γ μ κ pc ce sl lo (st) hp (y) w := by
  obtain ⟨p, e, s, m, args, below, meth, c, Q, A, ρ0, n0, Ex⟩ := κ
  subst hn
  intro q hy E ρ ls H locs hl hw
  exact lv_ldcw X.1 X.2.1 X.2.2.2.1 (X.2.2.2.2.1 _ hv) hd (hk q hy E ρ ls H locs hl hw)
theorem js_ldc2 {i : Nat} {v : Int64} (X : ev_X l D γ μ κ) (hd : decode μ.1 pc = .ok (.ldc2_w i, 3)) (hn : pc + 3 = n) (hv : Jvm.Cond.constantLong μ.2.2.2.1.cls i v ∈ γ.2.2) (hk : ev_J l D γ μ κ n ce sl lo (.long v :: st) hp y w) : ev_J l D γ μ κ pc ce sl lo (st) hp (y) w := by
  obtain ⟨p, e, s, m, args, below, meth, c, Q, A, ρ0, n0, Ex⟩ := κ
  subst hn
  intro q hy E ρ ls H locs hl hw
  exact lv_ldc2 X.1 X.2.1 X.2.2.2.1 (X.2.2.2.2.1 _ hv) hd (hk q hy E ρ ls H locs hl hw)
theorem js_iload {i : Nat} {x : Int32} (X : ev_X l D γ μ κ) (hd : decode μ.1 pc = .ok (.iload i, 2)) (hn : pc + 2 = n) (hx : ev_n lo i = some (some (.int x))) (hk : ev_J l D γ μ κ n ce sl lo (.int x :: st) hp y w) : ev_J l D γ μ κ pc ce sl lo (st) hp (y) w := by
  obtain ⟨p, e, s, m, args, below, meth, c, Q, A, ρ0, n0, Ex⟩ := κ
  subst hn
  intro q hy E ρ ls H locs hl hw
  exact lv_iload X.1 X.2.1 hd (hl.2.2 i _ hx) (hk q hy E ρ ls H locs hl hw)
theorem js_iload_n {i : Nat} {j : Fin 4} {x : Int32} (X : ev_X l D γ μ κ) (hd : decode μ.1 pc = .ok (.iload_n j, 1)) (hn : pc + 1 = n) (hj : (j : Nat) = i) (hx : ev_n lo i = some (some (.int x))) (hk : ev_J l D γ μ κ n ce sl lo (.int x :: st) hp y w) : ev_J l D γ μ κ pc ce sl lo (st) hp (y) w := by
  obtain ⟨p, e, s, m, args, below, meth, c, Q, A, ρ0, n0, Ex⟩ := κ
  subst hn
  intro q hy E ρ ls H locs hl hw
  exact lv_iload_n X.1 X.2.1 hd hj (hl.2.2 i _ hx) (hk q hy E ρ ls H locs hl hw)
theorem js_lload {i : Nat} {x : Int64} (X : ev_X l D γ μ κ) (hd : decode μ.1 pc = .ok (.lload i, 2)) (hn : pc + 2 = n) (hx : ev_n lo i = some (some (.long x))) (hk : ev_J l D γ μ κ n ce sl lo (.long x :: st) hp y w) : ev_J l D γ μ κ pc ce sl lo (st) hp (y) w := by
  obtain ⟨p, e, s, m, args, below, meth, c, Q, A, ρ0, n0, Ex⟩ := κ
  subst hn
  intro q hy E ρ ls H locs hl hw
  exact lv_lload X.1 X.2.1 hd (hl.2.2 i _ hx) (hk q hy E ρ ls H locs hl hw)
theorem js_lload_n {i : Nat} {j : Fin 4} {x : Int64} (X : ev_X l D γ μ κ) (hd : decode μ.1 pc = .ok (.lload_n j, 1)) (hn : pc + 1 = n) (hj : (j : Nat) = i) (hx : ev_n lo i = some (some (.long x))) (hk : ev_J l D γ μ κ n ce sl lo (.long x :: st) hp y w) : ev_J l D γ μ κ pc ce sl lo (st) hp (y) w := by
  obtain ⟨p, e, s, m, args, below, meth, c, Q, A, ρ0, n0, Ex⟩ := κ
  subst hn
  intro q hy E ρ ls H locs hl hw
  exact lv_lload_n X.1 X.2.1 hd hj (hl.2.2 i _ hx) (hk q hy E ρ ls H locs hl hw)
theorem js_aload {i : Nat} {x : Nat} (X : ev_X l D γ μ κ) (hd : decode μ.1 pc = .ok (.aload i, 2)) (hn : pc + 2 = n) (hx : ev_n lo i = some (some (.ref x))) (hk : ev_J l D γ μ κ n ce sl lo (.ref x :: st) hp y w) : ev_J l D γ μ κ pc ce sl lo (st) hp (y) w := by
  obtain ⟨p, e, s, m, args, below, meth, c, Q, A, ρ0, n0, Ex⟩ := κ
  subst hn
  intro q hy E ρ ls H locs hl hw
  exact lv_aload X.1 X.2.1 hd (hl.2.2 i _ hx) (hk q hy E ρ ls H locs hl hw)
theorem js_aload_n {i : Nat} {j : Fin 4} {x : Nat} (X : ev_X l D γ μ κ) (hd : decode μ.1 pc = .ok (.aload_n j, 1)) (hn : pc + 1 = n) (hj : (j : Nat) = i) (hx : ev_n lo i = some (some (.ref x))) (hk : ev_J l D γ μ κ n ce sl lo (.ref x :: st) hp y w) : ev_J l D γ μ κ pc ce sl lo (st) hp (y) w := by
  obtain ⟨p, e, s, m, args, below, meth, c, Q, A, ρ0, n0, Ex⟩ := κ
  subst hn
  intro q hy E ρ ls H locs hl hw
  exact lv_aload_n X.1 X.2.1 hd hj (hl.2.2 i _ hx) (hk q hy E ρ ls H locs hl hw)
theorem js_sload {i : Nat} {x : Nat} (X : ev_X l D γ μ κ) (hd : decode μ.1 pc = .ok (.aload i, 2)) (hn : pc + 2 = n) (hx : ev_n lo i = some (some (.retAddr x))) (hk : ev_J l D γ μ κ n ce sl lo (.retAddr x :: st) hp y w) : ev_J l D γ μ κ pc ce sl lo (st) hp (y) w := by
  obtain ⟨p, e, s, m, args, below, meth, c, Q, A, ρ0, n0, Ex⟩ := κ
  subst hn
  intro q hy E ρ ls H locs hl hw
  exact lv_aload X.1 X.2.1 hd (hl.2.2 i _ hx) (hk q hy E ρ ls H locs hl hw)
theorem js_sload_n {i : Nat} {j : Fin 4} {x : Nat} (X : ev_X l D γ μ κ) (hd : decode μ.1 pc = .ok (.aload_n j, 1)) (hn : pc + 1 = n) (hj : (j : Nat) = i) (hx : ev_n lo i = some (some (.retAddr x))) (hk : ev_J l D γ μ κ n ce sl lo (.retAddr x :: st) hp y w) : ev_J l D γ μ κ pc ce sl lo (st) hp (y) w := by
  obtain ⟨p, e, s, m, args, below, meth, c, Q, A, ρ0, n0, Ex⟩ := κ
  subst hn
  intro q hy E ρ ls H locs hl hw
  exact lv_aload_n X.1 X.2.1 hd hj (hl.2.2 i _ hx) (hk q hy E ρ ls H locs hl hw)
theorem js_istore {i : Nat} {x : Int32} {lo' : ev_L} (X : ev_X l D γ μ κ) (hd : decode μ.1 pc = .ok (.istore i, 2)) (hn : pc + 2 = n) (hi : i < μ.2.1) (hlo : ev_st lo i (.int x) = lo') (hk : ev_J l D γ μ κ n ce sl lo' (st) hp y w) : ev_J l D γ μ κ pc ce sl lo (.int x :: st) hp (y) w := by
  obtain ⟨p, e, s, m, args, below, meth, c, Q, A, ρ0, n0, Ex⟩ := κ
  subst hn
  intro q hy E ρ ls H locs hl hw
  subst hlo
  exact lv_istore X.1 X.2.1 hd hl.has hi rfl (fun ls' h => hk q hy E ρ ls' H locs (ev_lo.store (v := .int x) (ls := ls) h) hw)
theorem js_istore_n {i : Nat} {j : Fin 4} {x : Int32} {lo' : ev_L} (X : ev_X l D γ μ κ) (hd : decode μ.1 pc = .ok (.istore_n j, 1)) (hn : pc + 1 = n) (hj : (j : Nat) = i) (hi : i < μ.2.1) (hlo : ev_st lo i (.int x) = lo') (hk : ev_J l D γ μ κ n ce sl lo' (st) hp y w) : ev_J l D γ μ κ pc ce sl lo (.int x :: st) hp (y) w := by
  obtain ⟨p, e, s, m, args, below, meth, c, Q, A, ρ0, n0, Ex⟩ := κ
  subst hn
  intro q hy E ρ ls H locs hl hw
  subst hlo
  exact lv_istore_n X.1 X.2.1 hd hj hl.has hi rfl (fun ls' h => hk q hy E ρ ls' H locs (ev_lo.store (v := .int x) (ls := ls) h) hw)
theorem js_astore {i : Nat} {x : Nat} {lo' : ev_L} (X : ev_X l D γ μ κ) (hd : decode μ.1 pc = .ok (.astore i, 2)) (hn : pc + 2 = n) (hi : i < μ.2.1) (hlo : ev_st lo i (.ref x) = lo') (hk : ev_J l D γ μ κ n ce sl lo' (st) hp y w) : ev_J l D γ μ κ pc ce sl lo (.ref x :: st) hp (y) w := by
  obtain ⟨p, e, s, m, args, below, meth, c, Q, A, ρ0, n0, Ex⟩ := κ
  subst hn
  intro q hy E ρ ls H locs hl hw
  subst hlo
  exact lv_astore X.1 X.2.1 hd hl.has hi rfl (fun ls' h => hk q hy E ρ ls' H locs (ev_lo.store (v := .ref x) (ls := ls) h) hw)
theorem js_astore_n {i : Nat} {j : Fin 4} {x : Nat} {lo' : ev_L} (X : ev_X l D γ μ κ) (hd : decode μ.1 pc = .ok (.astore_n j, 1)) (hn : pc + 1 = n) (hj : (j : Nat) = i) (hi : i < μ.2.1) (hlo : ev_st lo i (.ref x) = lo') (hk : ev_J l D γ μ κ n ce sl lo' (st) hp y w) : ev_J l D γ μ κ pc ce sl lo (.ref x :: st) hp (y) w := by
  obtain ⟨p, e, s, m, args, below, meth, c, Q, A, ρ0, n0, Ex⟩ := κ
  subst hn
  intro q hy E ρ ls H locs hl hw
  subst hlo
  exact lv_astore_n X.1 X.2.1 hd hj hl.has hi rfl (fun ls' h => hk q hy E ρ ls' H locs (ev_lo.store (v := .ref x) (ls := ls) h) hw)
theorem js_iinc {i : Nat} {d : Int} (v : Int32) {x : Int32} {lo' : ev_L} (X : ev_X l D γ μ κ) (hd : decode μ.1 pc = .ok (.iinc i d, 3)) (hn : pc + 3 = n) (hv : Int32.ofInt d = v) (hi : i < μ.2.1) (hx : ev_n lo i = some (some (.int x))) (hlo : ev_st lo i (.int (x + v)) = lo') (hk : ev_J l D γ μ κ n ce sl lo' (st) hp y w) : ev_J l D γ μ κ pc ce sl lo (st) hp (y) w := by
  obtain ⟨p, e, s, m, args, below, meth, c, Q, A, ρ0, n0, Ex⟩ := κ
  subst hn
  intro q hy E ρ ls H locs hl hw
  subst hlo
  obtain ⟨j, hj⟩ := List.getElem?_of_mem (ev_as_mem (ρ := ρ) hx)
  exact lv_iinc X.1 X.2.1 hd hl.has (k := j) hj (by rw [hv]) hi rfl (fun ls' h => hk q hy E ρ ls' H locs (ev_lo.store (v := .int (x + v)) (ls := ls) h) hw)
theorem js_iadd {x z : Int32} (X : ev_X l D γ μ κ) (hd : decode μ.1 pc = .ok (.iadd, 1)) (hn : pc + 1 = n) (hk : ev_J l D γ μ κ n ce sl lo (.int (x + z) :: st) hp y w) : ev_J l D γ μ κ pc ce sl lo (.int z :: .int x :: st) hp (y) w := by
  obtain ⟨p, e, s, m, args, below, meth, c, Q, A, ρ0, n0, Ex⟩ := κ
  subst hn
  intro q hy E ρ ls H locs hl hw
  exact lv_iadd X.1 X.2.1 hd (hk q hy E ρ ls H locs hl hw)
theorem js_isub {x z : Int32} (X : ev_X l D γ μ κ) (hd : decode μ.1 pc = .ok (.isub, 1)) (hn : pc + 1 = n) (hk : ev_J l D γ μ κ n ce sl lo (.int (x - z) :: st) hp y w) : ev_J l D γ μ κ pc ce sl lo (.int z :: .int x :: st) hp (y) w := by
  obtain ⟨p, e, s, m, args, below, meth, c, Q, A, ρ0, n0, Ex⟩ := κ
  subst hn
  intro q hy E ρ ls H locs hl hw
  exact lv_isub X.1 X.2.1 hd (hk q hy E ρ ls H locs hl hw)
theorem js_imul {x z : Int32} (X : ev_X l D γ μ κ) (hd : decode μ.1 pc = .ok (.imul, 1)) (hn : pc + 1 = n) (hk : ev_J l D γ μ κ n ce sl lo (.int (x * z) :: st) hp y w) : ev_J l D γ μ κ pc ce sl lo (.int z :: .int x :: st) hp (y) w := by
  obtain ⟨p, e, s, m, args, below, meth, c, Q, A, ρ0, n0, Ex⟩ := κ
  subst hn
  intro q hy E ρ ls H locs hl hw
  exact lv_imul X.1 X.2.1 hd (hk q hy E ρ ls H locs hl hw)
theorem js_iand {x z : Int32} (X : ev_X l D γ μ κ) (hd : decode μ.1 pc = .ok (.iand, 1)) (hn : pc + 1 = n) (hk : ev_J l D γ μ κ n ce sl lo (.int (x &&& z) :: st) hp y w) : ev_J l D γ μ κ pc ce sl lo (.int z :: .int x :: st) hp (y) w := by
  obtain ⟨p, e, s, m, args, below, meth, c, Q, A, ρ0, n0, Ex⟩ := κ
  subst hn
  intro q hy E ρ ls H locs hl hw
  exact lv_iand X.1 X.2.1 hd (hk q hy E ρ ls H locs hl hw)
theorem js_ior {x z : Int32} (X : ev_X l D γ μ κ) (hd : decode μ.1 pc = .ok (.ior, 1)) (hn : pc + 1 = n) (hk : ev_J l D γ μ κ n ce sl lo (.int (x ||| z) :: st) hp y w) : ev_J l D γ μ κ pc ce sl lo (.int z :: .int x :: st) hp (y) w := by
  obtain ⟨p, e, s, m, args, below, meth, c, Q, A, ρ0, n0, Ex⟩ := κ
  subst hn
  intro q hy E ρ ls H locs hl hw
  exact lv_ior X.1 X.2.1 hd (hk q hy E ρ ls H locs hl hw)
theorem js_ixor {x z : Int32} (X : ev_X l D γ μ κ) (hd : decode μ.1 pc = .ok (.ixor, 1)) (hn : pc + 1 = n) (hk : ev_J l D γ μ κ n ce sl lo (.int (x ^^^ z) :: st) hp y w) : ev_J l D γ μ κ pc ce sl lo (.int z :: .int x :: st) hp (y) w := by
  obtain ⟨p, e, s, m, args, below, meth, c, Q, A, ρ0, n0, Ex⟩ := κ
  subst hn
  intro q hy E ρ ls H locs hl hw
  exact lv_ixor X.1 X.2.1 hd (hk q hy E ρ ls H locs hl hw)
theorem js_ishl {x z : Int32} (X : ev_X l D γ μ κ) (hd : decode μ.1 pc = .ok (.ishl, 1)) (hn : pc + 1 = n) (hk : ev_J l D γ μ κ n ce sl lo (.int (x <<< (z &&& 31)) :: st) hp y w) : ev_J l D γ μ κ pc ce sl lo (.int z :: .int x :: st) hp (y) w := by
  obtain ⟨p, e, s, m, args, below, meth, c, Q, A, ρ0, n0, Ex⟩ := κ
  subst hn
  intro q hy E ρ ls H locs hl hw
  exact lv_ishl X.1 X.2.1 hd (hk q hy E ρ ls H locs hl hw)
theorem js_ishr {x z : Int32} (X : ev_X l D γ μ κ) (hd : decode μ.1 pc = .ok (.ishr, 1)) (hn : pc + 1 = n) (hk : ev_J l D γ μ κ n ce sl lo (.int (x >>> (z &&& 31)) :: st) hp y w) : ev_J l D γ μ κ pc ce sl lo (.int z :: .int x :: st) hp (y) w := by
  obtain ⟨p, e, s, m, args, below, meth, c, Q, A, ρ0, n0, Ex⟩ := κ
  subst hn
  intro q hy E ρ ls H locs hl hw
  exact lv_ishr X.1 X.2.1 hd (hk q hy E ρ ls H locs hl hw)
theorem js_ineg {x : Int32} (X : ev_X l D γ μ κ) (hd : decode μ.1 pc = .ok (.ineg, 1)) (hn : pc + 1 = n) (hk : ev_J l D γ μ κ n ce sl lo (.int (-x) :: st) hp y w) : ev_J l D γ μ κ pc ce sl lo (.int x :: st) hp (y) w := by
  obtain ⟨p, e, s, m, args, below, meth, c, Q, A, ρ0, n0, Ex⟩ := κ
  subst hn
  intro q hy E ρ ls H locs hl hw
  exact lv_ineg X.1 X.2.1 hd (hk q hy E ρ ls H locs hl hw)
theorem js_idiv {x z : Int32} (X : ev_X l D γ μ κ) (hd : decode μ.1 pc = .ok (.idiv, 1)) (hn : pc + 1 = n) (hk : ev_J l D γ μ κ n ce sl lo (.int (x / z) :: st) hp y w) : ev_J l D γ μ κ pc ce sl lo (.int z :: .int x :: st) hp (ck (nz z) y) w := by
  obtain ⟨p, e, s, m, args, below, meth, c, Q, A, ρ0, n0, Ex⟩ := κ
  subst hn
  intro q hy E ρ ls H locs hl hw
  obtain ⟨h1, hy⟩ := ck_t hy
  exact lv_idiv X.1 X.2.1 hd (nz_ne h1) (hk q hy E ρ ls H locs hl hw)
theorem js_irem {x z : Int32} (X : ev_X l D γ μ κ) (hd : decode μ.1 pc = .ok (.irem, 1)) (hn : pc + 1 = n) (hk : ev_J l D γ μ κ n ce sl lo (.int (x - x / z * z) :: st) hp y w) : ev_J l D γ μ κ pc ce sl lo (.int z :: .int x :: st) hp (ck (nz z) y) w := by
  obtain ⟨p, e, s, m, args, below, meth, c, Q, A, ρ0, n0, Ex⟩ := κ
  subst hn
  intro q hy E ρ ls H locs hl hw
  obtain ⟨h1, hy⟩ := ck_t hy
  exact lv_irem X.1 X.2.1 hd (nz_ne h1) (hk q hy E ρ ls H locs hl hw)
theorem js_ladd {x z : Int64} (X : ev_X l D γ μ κ) (hd : decode μ.1 pc = .ok (.ladd, 1)) (hn : pc + 1 = n) (hk : ev_J l D γ μ κ n ce sl lo (.long (x + z) :: st) hp y w) : ev_J l D γ μ κ pc ce sl lo (.long z :: .long x :: st) hp (y) w := by
  obtain ⟨p, e, s, m, args, below, meth, c, Q, A, ρ0, n0, Ex⟩ := κ
  subst hn
  intro q hy E ρ ls H locs hl hw
  exact lv_ladd X.1 X.2.1 hd (hk q hy E ρ ls H locs hl hw)
theorem js_lmul {x z : Int64} (X : ev_X l D γ μ κ) (hd : decode μ.1 pc = .ok (.lmul, 1)) (hn : pc + 1 = n) (hk : ev_J l D γ μ κ n ce sl lo (.long (x * z) :: st) hp y w) : ev_J l D γ μ κ pc ce sl lo (.long z :: .long x :: st) hp (y) w := by
  obtain ⟨p, e, s, m, args, below, meth, c, Q, A, ρ0, n0, Ex⟩ := κ
  subst hn
  intro q hy E ρ ls H locs hl hw
  exact lv_lmul X.1 X.2.1 hd (hk q hy E ρ ls H locs hl hw)
theorem js_land {x z : Int64} (X : ev_X l D γ μ κ) (hd : decode μ.1 pc = .ok (.land, 1)) (hn : pc + 1 = n) (hk : ev_J l D γ μ κ n ce sl lo (.long (x &&& z) :: st) hp y w) : ev_J l D γ μ κ pc ce sl lo (.long z :: .long x :: st) hp (y) w := by
  obtain ⟨p, e, s, m, args, below, meth, c, Q, A, ρ0, n0, Ex⟩ := κ
  subst hn
  intro q hy E ρ ls H locs hl hw
  exact lv_land X.1 X.2.1 hd (hk q hy E ρ ls H locs hl hw)
theorem js_lor {x z : Int64} (X : ev_X l D γ μ κ) (hd : decode μ.1 pc = .ok (.lor, 1)) (hn : pc + 1 = n) (hk : ev_J l D γ μ κ n ce sl lo (.long (x ||| z) :: st) hp y w) : ev_J l D γ μ κ pc ce sl lo (.long z :: .long x :: st) hp (y) w := by
  obtain ⟨p, e, s, m, args, below, meth, c, Q, A, ρ0, n0, Ex⟩ := κ
  subst hn
  intro q hy E ρ ls H locs hl hw
  exact lv_lor X.1 X.2.1 hd (hk q hy E ρ ls H locs hl hw)
theorem js_lrem {x z : Int64} (X : ev_X l D γ μ κ) (hd : decode μ.1 pc = .ok (.lrem, 1)) (hn : pc + 1 = n) (hk : ev_J l D γ μ κ n ce sl lo (.long (x - x / z * z) :: st) hp y w) : ev_J l D γ μ κ pc ce sl lo (.long z :: .long x :: st) hp (ck (nzL z) y) w := by
  obtain ⟨p, e, s, m, args, below, meth, c, Q, A, ρ0, n0, Ex⟩ := κ
  subst hn
  intro q hy E ρ ls H locs hl hw
  obtain ⟨h1, hy⟩ := ck_t hy
  exact lv_lrem X.1 X.2.1 hd (nzL_ne h1) (hk q hy E ρ ls H locs hl hw)
theorem js_lushr {x : Int64} {z : Int32} (X : ev_X l D γ μ κ) (hd : decode μ.1 pc = .ok (.lushr, 1)) (hn : pc + 1 = n) (hk : ev_J l D γ μ κ n ce sl lo (.long ((x.toUInt64 >>> (z.toInt64.toUInt64 &&& Int64.toUInt64 63)).toInt64) :: st) hp y w) : ev_J l D γ μ κ pc ce sl lo (.int z :: .long x :: st) hp (y) w := by
  obtain ⟨p, e, s, m, args, below, meth, c, Q, A, ρ0, n0, Ex⟩ := κ
  subst hn
  intro q hy E ρ ls H locs hl hw
  exact lv_lushr X.1 X.2.1 hd rfl (hk q hy E ρ ls H locs hl hw)
theorem js_lshl {x : Int64} {z : Int32} (X : ev_X l D γ μ κ) (hd : decode μ.1 pc = .ok (.lshl, 1)) (hn : pc + 1 = n) (hk : ev_J l D γ μ κ n ce sl lo (.long (x <<< (z.toInt64 &&& 63)) :: st) hp y w) : ev_J l D γ μ κ pc ce sl lo (.int z :: .long x :: st) hp (y) w := by
  obtain ⟨p, e, s, m, args, below, meth, c, Q, A, ρ0, n0, Ex⟩ := κ
  subst hn
  intro q hy E ρ ls H locs hl hw
  exact lv_lshl X.1 X.2.1 hd rfl (hk q hy E ρ ls H locs hl hw)
theorem js_lshr {x : Int64} {z : Int32} (X : ev_X l D γ μ κ) (hd : decode μ.1 pc = .ok (.lshr, 1)) (hn : pc + 1 = n) (hk : ev_J l D γ μ κ n ce sl lo (.long (x >>> (z.toInt64 &&& 63)) :: st) hp y w) : ev_J l D γ μ κ pc ce sl lo (.int z :: .long x :: st) hp (y) w := by
  obtain ⟨p, e, s, m, args, below, meth, c, Q, A, ρ0, n0, Ex⟩ := κ
  subst hn
  intro q hy E ρ ls H locs hl hw
  exact lv_lshr X.1 X.2.1 hd rfl (hk q hy E ρ ls H locs hl hw)
theorem js_lcmp {x z : Int64} (X : ev_X l D γ μ κ) (hd : decode μ.1 pc = .ok (.lcmp, 1)) (hn : pc + 1 = n) (hk : ev_J l D γ μ κ n ce sl lo (.int (lg_cmp x z) :: st) hp y w) : ev_J l D γ μ κ pc ce sl lo (.long z :: .long x :: st) hp (y) w := by
  obtain ⟨p, e, s, m, args, below, meth, c, Q, A, ρ0, n0, Ex⟩ := κ
  subst hn
  intro q hy E ρ ls H locs hl hw
  exact W.lcmp X.1 X.2.1 hd (hk q hy E ρ ls H locs hl hw)
theorem js_i2l {x : Int32} (X : ev_X l D γ μ κ) (hd : decode μ.1 pc = .ok (.i2l, 1)) (hn : pc + 1 = n) (hk : ev_J l D γ μ κ n ce sl lo (.long x.toInt64 :: st) hp y w) : ev_J l D γ μ κ pc ce sl lo (.int x :: st) hp (y) w := by
  obtain ⟨p, e, s, m, args, below, meth, c, Q, A, ρ0, n0, Ex⟩ := κ
  subst hn
  intro q hy E ρ ls H locs hl hw
  exact lv_i2l X.1 X.2.1 hd rfl (hk q hy E ρ ls H locs hl hw)
theorem js_l2i {x : Int64} (X : ev_X l D γ μ κ) (hd : decode μ.1 pc = .ok (.l2i, 1)) (hn : pc + 1 = n) (hk : ev_J l D γ μ κ n ce sl lo (.int x.toInt32 :: st) hp y w) : ev_J l D γ μ κ pc ce sl lo (.long x :: st) hp (y) w := by
  obtain ⟨p, e, s, m, args, below, meth, c, Q, A, ρ0, n0, Ex⟩ := κ
  subst hn
  intro q hy E ρ ls H locs hl hw
  exact lv_l2i X.1 X.2.1 hd rfl (hk q hy E ρ ls H locs hl hw)
theorem js_dup {a : Value} (X : ev_X l D γ μ κ) (hd : decode μ.1 pc = .ok (.dup, 1)) (hn : pc + 1 = n) (ha : a.category = 1) (hk : ev_J l D γ μ κ n ce sl lo (a :: a :: st) hp y w) : ev_J l D γ μ κ pc ce sl lo (a :: st) hp (y) w := by
  obtain ⟨p, e, s, m, args, below, meth, c, Q, A, ρ0, n0, Ex⟩ := κ
  subst hn
  intro q hy E ρ ls H locs hl hw
  exact lv_dup X.1 X.2.1 hd (by rw [ev_v_cat]; exact ha) (hk q hy E ρ ls H locs hl hw)
theorem js_dup2 {a b : Value} (X : ev_X l D γ μ κ) (hd : decode μ.1 pc = .ok (.dup2, 1)) (hn : pc + 1 = n) (ha : a.category = 1) (hb : b.category = 1) (hk : ev_J l D γ μ κ n ce sl lo (a :: b :: a :: b :: st) hp y w) : ev_J l D γ μ κ pc ce sl lo (a :: b :: st) hp (y) w := by
  obtain ⟨p, e, s, m, args, below, meth, c, Q, A, ρ0, n0, Ex⟩ := κ
  subst hn
  intro q hy E ρ ls H locs hl hw
  exact lv_dup2_11 X.1 X.2.1 hd (by rw [ev_v_cat]; exact ha) (by rw [ev_v_cat]; exact hb) (hk q hy E ρ ls H locs hl hw)
theorem js_dup22 {a : Value} (X : ev_X l D γ μ κ) (hd : decode μ.1 pc = .ok (.dup2, 1)) (hn : pc + 1 = n) (ha : a.category = 2) (hk : ev_J l D γ μ κ n ce sl lo (a :: a :: st) hp y w) : ev_J l D γ μ κ pc ce sl lo (a :: st) hp (y) w := by
  obtain ⟨p, e, s, m, args, below, meth, c, Q, A, ρ0, n0, Ex⟩ := κ
  subst hn
  intro q hy E ρ ls H locs hl hw
  exact lv_dup2_2 X.1 X.2.1 hd (by rw [ev_v_cat]; exact ha) (hk q hy E ρ ls H locs hl hw)
theorem js_dup_x1 {a b : Value} (X : ev_X l D γ μ κ) (hd : decode μ.1 pc = .ok (.dup_x1, 1)) (hn : pc + 1 = n) (ha : a.category = 1) (hb : b.category = 1) (hk : ev_J l D γ μ κ n ce sl lo (a :: b :: a :: st) hp y w) : ev_J l D γ μ κ pc ce sl lo (a :: b :: st) hp (y) w := by
  obtain ⟨p, e, s, m, args, below, meth, c, Q, A, ρ0, n0, Ex⟩ := κ
  subst hn
  intro q hy E ρ ls H locs hl hw
  exact lv_dup_x1 X.1 X.2.1 hd (by rw [ev_v_cat]; exact ha) (by rw [ev_v_cat]; exact hb) (hk q hy E ρ ls H locs hl hw)
theorem js_pop {a : Value} (X : ev_X l D γ μ κ) (hd : decode μ.1 pc = .ok (.pop, 1)) (hn : pc + 1 = n) (ha : a.category = 1) (hk : ev_J l D γ μ κ n ce sl lo (st) hp y w) : ev_J l D γ μ κ pc ce sl lo (a :: st) hp (y) w := by
  obtain ⟨p, e, s, m, args, below, meth, c, Q, A, ρ0, n0, Ex⟩ := κ
  subst hn
  intro q hy E ρ ls H locs hl hw
  exact lv_pop (va := ev_v ρ a) X.1 X.2.1 hd (by rw [ev_v_cat]; exact ha) (hk q hy E ρ ls H locs hl hw)
theorem js_if_eq {x : Int32} {yt yf : Option β} {t : Nat} {off : Int} (X : ev_X l D γ μ κ) (hd : decode μ.1 pc = .ok (.ifCond .eq off, 3)) (ht : (pc : Int) + off = (t : Int)) (hn : pc + 3 = n) (hkt : ev_J l D γ μ κ t ce sl lo st hp yt w) (hkf : ev_J l D γ μ κ n ce sl lo st hp yf w) : ev_J l D γ μ κ pc ce sl lo (.int x :: st) hp (if x = 0 then yt else yf) w := by
  obtain ⟨p, e, s, m, args, below, meth, c, Q, A, ρ0, n0, Ex⟩ := κ
  subst hn
  intro q hy E ρ ls H locs hl hw
  exact lv_if_eq X.1 X.2.1 hd ht (fun h => hkt q (by rw [if_pos h] at hy; exact hy) E ρ ls H locs hl hw) (fun h => hkf q (by rw [if_neg h] at hy; exact hy) E ρ ls H locs hl hw)
theorem js_if_eq_t {x : Int32} {t : Nat} {off : Int} (X : ev_X l D γ μ κ) (hd : decode μ.1 pc = .ok (.ifCond .eq off, 3)) (ht : (pc : Int) + off = (t : Int)) (hc : x = 0) (hkt : ev_J l D γ μ κ t ce sl lo st hp y w) : ev_J l D γ μ κ pc ce sl lo (.int x :: st) hp y w := by
  obtain ⟨p, e, s, m, args, below, meth, c, Q, A, ρ0, n0, Ex⟩ := κ
  intro q hy E ρ ls H locs hl hw
  exact lv_if_eq X.1 X.2.1 hd ht (fun _ => hkt q hy E ρ ls H locs hl hw) (fun h => absurd hc h)
theorem js_if_eq_f {x : Int32} {t : Nat} {off : Int} (X : ev_X l D γ μ κ) (hd : decode μ.1 pc = .ok (.ifCond .eq off, 3)) (ht : (pc : Int) + off = (t : Int)) (hn : pc + 3 = n) (hc : ¬ x = 0) (hkf : ev_J l D γ μ κ n ce sl lo st hp y w) : ev_J l D γ μ κ pc ce sl lo (.int x :: st) hp y w := by
  obtain ⟨p, e, s, m, args, below, meth, c, Q, A, ρ0, n0, Ex⟩ := κ
  subst hn
  intro q hy E ρ ls H locs hl hw
  exact lv_if_eq X.1 X.2.1 hd ht (fun h => absurd h hc) (fun _ => hkf q hy E ρ ls H locs hl hw)
theorem js_if_ne {x : Int32} {yt yf : Option β} {t : Nat} {off : Int} (X : ev_X l D γ μ κ) (hd : decode μ.1 pc = .ok (.ifCond .ne off, 3)) (ht : (pc : Int) + off = (t : Int)) (hn : pc + 3 = n) (hkt : ev_J l D γ μ κ t ce sl lo st hp yt w) (hkf : ev_J l D γ μ κ n ce sl lo st hp yf w) : ev_J l D γ μ κ pc ce sl lo (.int x :: st) hp (if x = 0 then yf else yt) w := by
  obtain ⟨p, e, s, m, args, below, meth, c, Q, A, ρ0, n0, Ex⟩ := κ
  subst hn
  intro q hy E ρ ls H locs hl hw
  exact lv_if_ne X.1 X.2.1 hd ht (fun h => hkt q (by rw [if_neg h] at hy; exact hy) E ρ ls H locs hl hw) (fun h => hkf q (by rw [if_pos h] at hy; exact hy) E ρ ls H locs hl hw)
theorem js_if_ne_t {x : Int32} {t : Nat} {off : Int} (X : ev_X l D γ μ κ) (hd : decode μ.1 pc = .ok (.ifCond .ne off, 3)) (ht : (pc : Int) + off = (t : Int)) (hc : ¬ x = 0) (hkt : ev_J l D γ μ κ t ce sl lo st hp y w) : ev_J l D γ μ κ pc ce sl lo (.int x :: st) hp y w := by
  obtain ⟨p, e, s, m, args, below, meth, c, Q, A, ρ0, n0, Ex⟩ := κ
  intro q hy E ρ ls H locs hl hw
  exact lv_if_ne X.1 X.2.1 hd ht (fun _ => hkt q hy E ρ ls H locs hl hw) (fun h => absurd h hc)
theorem js_if_ne_f {x : Int32} {t : Nat} {off : Int} (X : ev_X l D γ μ κ) (hd : decode μ.1 pc = .ok (.ifCond .ne off, 3)) (ht : (pc : Int) + off = (t : Int)) (hn : pc + 3 = n) (hc : x = 0) (hkf : ev_J l D γ μ κ n ce sl lo st hp y w) : ev_J l D γ μ κ pc ce sl lo (.int x :: st) hp y w := by
  obtain ⟨p, e, s, m, args, below, meth, c, Q, A, ρ0, n0, Ex⟩ := κ
  subst hn
  intro q hy E ρ ls H locs hl hw
  exact lv_if_ne X.1 X.2.1 hd ht (fun h => absurd hc h) (fun _ => hkf q hy E ρ ls H locs hl hw)
theorem js_if_lt {x : Int32} {yt yf : Option β} {t : Nat} {off : Int} (X : ev_X l D γ μ κ) (hd : decode μ.1 pc = .ok (.ifCond .lt off, 3)) (ht : (pc : Int) + off = (t : Int)) (hn : pc + 3 = n) (hkt : ev_J l D γ μ κ t ce sl lo st hp yt w) (hkf : ev_J l D γ μ κ n ce sl lo st hp yf w) : ev_J l D γ μ κ pc ce sl lo (.int x :: st) hp (if x < 0 then yt else yf) w := by
  obtain ⟨p, e, s, m, args, below, meth, c, Q, A, ρ0, n0, Ex⟩ := κ
  subst hn
  intro q hy E ρ ls H locs hl hw
  exact lv_if_lt X.1 X.2.1 hd ht (fun h => hkt q (by rw [if_pos h] at hy; exact hy) E ρ ls H locs hl hw) (fun h => hkf q (by rw [if_neg h] at hy; exact hy) E ρ ls H locs hl hw)
theorem js_if_lt_t {x : Int32} {t : Nat} {off : Int} (X : ev_X l D γ μ κ) (hd : decode μ.1 pc = .ok (.ifCond .lt off, 3)) (ht : (pc : Int) + off = (t : Int)) (hc : x < 0) (hkt : ev_J l D γ μ κ t ce sl lo st hp y w) : ev_J l D γ μ κ pc ce sl lo (.int x :: st) hp y w := by
  obtain ⟨p, e, s, m, args, below, meth, c, Q, A, ρ0, n0, Ex⟩ := κ
  intro q hy E ρ ls H locs hl hw
  exact lv_if_lt X.1 X.2.1 hd ht (fun _ => hkt q hy E ρ ls H locs hl hw) (fun h => absurd hc h)
theorem js_if_lt_f {x : Int32} {t : Nat} {off : Int} (X : ev_X l D γ μ κ) (hd : decode μ.1 pc = .ok (.ifCond .lt off, 3)) (ht : (pc : Int) + off = (t : Int)) (hn : pc + 3 = n) (hc : ¬ x < 0) (hkf : ev_J l D γ μ κ n ce sl lo st hp y w) : ev_J l D γ μ κ pc ce sl lo (.int x :: st) hp y w := by
  obtain ⟨p, e, s, m, args, below, meth, c, Q, A, ρ0, n0, Ex⟩ := κ
  subst hn
  intro q hy E ρ ls H locs hl hw
  exact lv_if_lt X.1 X.2.1 hd ht (fun h => absurd h hc) (fun _ => hkf q hy E ρ ls H locs hl hw)
theorem js_if_ge {x : Int32} {yt yf : Option β} {t : Nat} {off : Int} (X : ev_X l D γ μ κ) (hd : decode μ.1 pc = .ok (.ifCond .ge off, 3)) (ht : (pc : Int) + off = (t : Int)) (hn : pc + 3 = n) (hkt : ev_J l D γ μ κ t ce sl lo st hp yt w) (hkf : ev_J l D γ μ κ n ce sl lo st hp yf w) : ev_J l D γ μ κ pc ce sl lo (.int x :: st) hp (if 0 ≤ x then yt else yf) w := by
  obtain ⟨p, e, s, m, args, below, meth, c, Q, A, ρ0, n0, Ex⟩ := κ
  subst hn
  intro q hy E ρ ls H locs hl hw
  exact lv_if_ge X.1 X.2.1 hd ht (fun h => hkt q (by rw [if_pos h] at hy; exact hy) E ρ ls H locs hl hw) (fun h => hkf q (by rw [if_neg h] at hy; exact hy) E ρ ls H locs hl hw)
theorem js_if_ge_t {x : Int32} {t : Nat} {off : Int} (X : ev_X l D γ μ κ) (hd : decode μ.1 pc = .ok (.ifCond .ge off, 3)) (ht : (pc : Int) + off = (t : Int)) (hc : 0 ≤ x) (hkt : ev_J l D γ μ κ t ce sl lo st hp y w) : ev_J l D γ μ κ pc ce sl lo (.int x :: st) hp y w := by
  obtain ⟨p, e, s, m, args, below, meth, c, Q, A, ρ0, n0, Ex⟩ := κ
  intro q hy E ρ ls H locs hl hw
  exact lv_if_ge X.1 X.2.1 hd ht (fun _ => hkt q hy E ρ ls H locs hl hw) (fun h => absurd hc h)
theorem js_if_ge_f {x : Int32} {t : Nat} {off : Int} (X : ev_X l D γ μ κ) (hd : decode μ.1 pc = .ok (.ifCond .ge off, 3)) (ht : (pc : Int) + off = (t : Int)) (hn : pc + 3 = n) (hc : ¬ 0 ≤ x) (hkf : ev_J l D γ μ κ n ce sl lo st hp y w) : ev_J l D γ μ κ pc ce sl lo (.int x :: st) hp y w := by
  obtain ⟨p, e, s, m, args, below, meth, c, Q, A, ρ0, n0, Ex⟩ := κ
  subst hn
  intro q hy E ρ ls H locs hl hw
  exact lv_if_ge X.1 X.2.1 hd ht (fun h => absurd h hc) (fun _ => hkf q hy E ρ ls H locs hl hw)
theorem js_if_gt {x : Int32} {yt yf : Option β} {t : Nat} {off : Int} (X : ev_X l D γ μ κ) (hd : decode μ.1 pc = .ok (.ifCond .gt off, 3)) (ht : (pc : Int) + off = (t : Int)) (hn : pc + 3 = n) (hkt : ev_J l D γ μ κ t ce sl lo st hp yt w) (hkf : ev_J l D γ μ κ n ce sl lo st hp yf w) : ev_J l D γ μ κ pc ce sl lo (.int x :: st) hp (if 0 < x then yt else yf) w := by
  obtain ⟨p, e, s, m, args, below, meth, c, Q, A, ρ0, n0, Ex⟩ := κ
  subst hn
  intro q hy E ρ ls H locs hl hw
  exact lv_if_gt X.1 X.2.1 hd ht (fun h => hkt q (by rw [if_pos h] at hy; exact hy) E ρ ls H locs hl hw) (fun h => hkf q (by rw [if_neg h] at hy; exact hy) E ρ ls H locs hl hw)
theorem js_if_gt_t {x : Int32} {t : Nat} {off : Int} (X : ev_X l D γ μ κ) (hd : decode μ.1 pc = .ok (.ifCond .gt off, 3)) (ht : (pc : Int) + off = (t : Int)) (hc : 0 < x) (hkt : ev_J l D γ μ κ t ce sl lo st hp y w) : ev_J l D γ μ κ pc ce sl lo (.int x :: st) hp y w := by
  obtain ⟨p, e, s, m, args, below, meth, c, Q, A, ρ0, n0, Ex⟩ := κ
  intro q hy E ρ ls H locs hl hw
  exact lv_if_gt X.1 X.2.1 hd ht (fun _ => hkt q hy E ρ ls H locs hl hw) (fun h => absurd hc h)
theorem js_if_gt_f {x : Int32} {t : Nat} {off : Int} (X : ev_X l D γ μ κ) (hd : decode μ.1 pc = .ok (.ifCond .gt off, 3)) (ht : (pc : Int) + off = (t : Int)) (hn : pc + 3 = n) (hc : ¬ 0 < x) (hkf : ev_J l D γ μ κ n ce sl lo st hp y w) : ev_J l D γ μ κ pc ce sl lo (.int x :: st) hp y w := by
  obtain ⟨p, e, s, m, args, below, meth, c, Q, A, ρ0, n0, Ex⟩ := κ
  subst hn
  intro q hy E ρ ls H locs hl hw
  exact lv_if_gt X.1 X.2.1 hd ht (fun h => absurd h hc) (fun _ => hkf q hy E ρ ls H locs hl hw)
theorem js_if_le {x : Int32} {yt yf : Option β} {t : Nat} {off : Int} (X : ev_X l D γ μ κ) (hd : decode μ.1 pc = .ok (.ifCond .le off, 3)) (ht : (pc : Int) + off = (t : Int)) (hn : pc + 3 = n) (hkt : ev_J l D γ μ κ t ce sl lo st hp yt w) (hkf : ev_J l D γ μ κ n ce sl lo st hp yf w) : ev_J l D γ μ κ pc ce sl lo (.int x :: st) hp (if x ≤ 0 then yt else yf) w := by
  obtain ⟨p, e, s, m, args, below, meth, c, Q, A, ρ0, n0, Ex⟩ := κ
  subst hn
  intro q hy E ρ ls H locs hl hw
  exact lv_if_le X.1 X.2.1 hd ht (fun h => hkt q (by rw [if_pos h] at hy; exact hy) E ρ ls H locs hl hw) (fun h => hkf q (by rw [if_neg h] at hy; exact hy) E ρ ls H locs hl hw)
theorem js_if_le_t {x : Int32} {t : Nat} {off : Int} (X : ev_X l D γ μ κ) (hd : decode μ.1 pc = .ok (.ifCond .le off, 3)) (ht : (pc : Int) + off = (t : Int)) (hc : x ≤ 0) (hkt : ev_J l D γ μ κ t ce sl lo st hp y w) : ev_J l D γ μ κ pc ce sl lo (.int x :: st) hp y w := by
  obtain ⟨p, e, s, m, args, below, meth, c, Q, A, ρ0, n0, Ex⟩ := κ
  intro q hy E ρ ls H locs hl hw
  exact lv_if_le X.1 X.2.1 hd ht (fun _ => hkt q hy E ρ ls H locs hl hw) (fun h => absurd hc h)
theorem js_if_le_f {x : Int32} {t : Nat} {off : Int} (X : ev_X l D γ μ κ) (hd : decode μ.1 pc = .ok (.ifCond .le off, 3)) (ht : (pc : Int) + off = (t : Int)) (hn : pc + 3 = n) (hc : ¬ x ≤ 0) (hkf : ev_J l D γ μ κ n ce sl lo st hp y w) : ev_J l D γ μ κ pc ce sl lo (.int x :: st) hp y w := by
  obtain ⟨p, e, s, m, args, below, meth, c, Q, A, ρ0, n0, Ex⟩ := κ
  subst hn
  intro q hy E ρ ls H locs hl hw
  exact lv_if_le X.1 X.2.1 hd ht (fun h => absurd h hc) (fun _ => hkf q hy E ρ ls H locs hl hw)
theorem js_icmp_eq {x z : Int32} {yt yf : Option β} {t : Nat} {off : Int} (X : ev_X l D γ μ κ) (hd : decode μ.1 pc = .ok (.if_icmp .eq off, 3)) (ht : (pc : Int) + off = (t : Int)) (hn : pc + 3 = n) (hkt : ev_J l D γ μ κ t ce sl lo st hp yt w) (hkf : ev_J l D γ μ κ n ce sl lo st hp yf w) : ev_J l D γ μ κ pc ce sl lo (.int z :: .int x :: st) hp (if x = z then yt else yf) w := by
  obtain ⟨p, e, s, m, args, below, meth, c, Q, A, ρ0, n0, Ex⟩ := κ
  subst hn
  intro q hy E ρ ls H locs hl hw
  exact lv_icmp_eq X.1 X.2.1 hd ht (fun h => hkt q (by rw [if_pos h] at hy; exact hy) E ρ ls H locs hl hw) (fun h => hkf q (by rw [if_neg h] at hy; exact hy) E ρ ls H locs hl hw)
theorem js_icmp_eq_t {x z : Int32} {t : Nat} {off : Int} (X : ev_X l D γ μ κ) (hd : decode μ.1 pc = .ok (.if_icmp .eq off, 3)) (ht : (pc : Int) + off = (t : Int)) (hc : x = z) (hkt : ev_J l D γ μ κ t ce sl lo st hp y w) : ev_J l D γ μ κ pc ce sl lo (.int z :: .int x :: st) hp y w := by
  obtain ⟨p, e, s, m, args, below, meth, c, Q, A, ρ0, n0, Ex⟩ := κ
  intro q hy E ρ ls H locs hl hw
  exact lv_icmp_eq X.1 X.2.1 hd ht (fun _ => hkt q hy E ρ ls H locs hl hw) (fun h => absurd hc h)
theorem js_icmp_eq_f {x z : Int32} {t : Nat} {off : Int} (X : ev_X l D γ μ κ) (hd : decode μ.1 pc = .ok (.if_icmp .eq off, 3)) (ht : (pc : Int) + off = (t : Int)) (hn : pc + 3 = n) (hc : ¬ x = z) (hkf : ev_J l D γ μ κ n ce sl lo st hp y w) : ev_J l D γ μ κ pc ce sl lo (.int z :: .int x :: st) hp y w := by
  obtain ⟨p, e, s, m, args, below, meth, c, Q, A, ρ0, n0, Ex⟩ := κ
  subst hn
  intro q hy E ρ ls H locs hl hw
  exact lv_icmp_eq X.1 X.2.1 hd ht (fun h => absurd h hc) (fun _ => hkf q hy E ρ ls H locs hl hw)
theorem js_icmp_ne {x z : Int32} {yt yf : Option β} {t : Nat} {off : Int} (X : ev_X l D γ μ κ) (hd : decode μ.1 pc = .ok (.if_icmp .ne off, 3)) (ht : (pc : Int) + off = (t : Int)) (hn : pc + 3 = n) (hkt : ev_J l D γ μ κ t ce sl lo st hp yt w) (hkf : ev_J l D γ μ κ n ce sl lo st hp yf w) : ev_J l D γ μ κ pc ce sl lo (.int z :: .int x :: st) hp (if x = z then yf else yt) w := by
  obtain ⟨p, e, s, m, args, below, meth, c, Q, A, ρ0, n0, Ex⟩ := κ
  subst hn
  intro q hy E ρ ls H locs hl hw
  exact lv_icmp_ne X.1 X.2.1 hd ht (fun h => hkt q (by rw [if_neg h] at hy; exact hy) E ρ ls H locs hl hw) (fun h => hkf q (by rw [if_pos h] at hy; exact hy) E ρ ls H locs hl hw)
theorem js_icmp_ne_t {x z : Int32} {t : Nat} {off : Int} (X : ev_X l D γ μ κ) (hd : decode μ.1 pc = .ok (.if_icmp .ne off, 3)) (ht : (pc : Int) + off = (t : Int)) (hc : ¬ x = z) (hkt : ev_J l D γ μ κ t ce sl lo st hp y w) : ev_J l D γ μ κ pc ce sl lo (.int z :: .int x :: st) hp y w := by
  obtain ⟨p, e, s, m, args, below, meth, c, Q, A, ρ0, n0, Ex⟩ := κ
  intro q hy E ρ ls H locs hl hw
  exact lv_icmp_ne X.1 X.2.1 hd ht (fun _ => hkt q hy E ρ ls H locs hl hw) (fun h => absurd h hc)
theorem js_icmp_ne_f {x z : Int32} {t : Nat} {off : Int} (X : ev_X l D γ μ κ) (hd : decode μ.1 pc = .ok (.if_icmp .ne off, 3)) (ht : (pc : Int) + off = (t : Int)) (hn : pc + 3 = n) (hc : x = z) (hkf : ev_J l D γ μ κ n ce sl lo st hp y w) : ev_J l D γ μ κ pc ce sl lo (.int z :: .int x :: st) hp y w := by
  obtain ⟨p, e, s, m, args, below, meth, c, Q, A, ρ0, n0, Ex⟩ := κ
  subst hn
  intro q hy E ρ ls H locs hl hw
  exact lv_icmp_ne X.1 X.2.1 hd ht (fun h => absurd hc h) (fun _ => hkf q hy E ρ ls H locs hl hw)
theorem js_icmp_lt {x z : Int32} {yt yf : Option β} {t : Nat} {off : Int} (X : ev_X l D γ μ κ) (hd : decode μ.1 pc = .ok (.if_icmp .lt off, 3)) (ht : (pc : Int) + off = (t : Int)) (hn : pc + 3 = n) (hkt : ev_J l D γ μ κ t ce sl lo st hp yt w) (hkf : ev_J l D γ μ κ n ce sl lo st hp yf w) : ev_J l D γ μ κ pc ce sl lo (.int z :: .int x :: st) hp (if x < z then yt else yf) w := by
  obtain ⟨p, e, s, m, args, below, meth, c, Q, A, ρ0, n0, Ex⟩ := κ
  subst hn
  intro q hy E ρ ls H locs hl hw
  exact lv_icmp_lt X.1 X.2.1 hd ht (fun h => hkt q (by rw [if_pos h] at hy; exact hy) E ρ ls H locs hl hw) (fun h => hkf q (by rw [if_neg h] at hy; exact hy) E ρ ls H locs hl hw)
theorem js_icmp_lt_t {x z : Int32} {t : Nat} {off : Int} (X : ev_X l D γ μ κ) (hd : decode μ.1 pc = .ok (.if_icmp .lt off, 3)) (ht : (pc : Int) + off = (t : Int)) (hc : x < z) (hkt : ev_J l D γ μ κ t ce sl lo st hp y w) : ev_J l D γ μ κ pc ce sl lo (.int z :: .int x :: st) hp y w := by
  obtain ⟨p, e, s, m, args, below, meth, c, Q, A, ρ0, n0, Ex⟩ := κ
  intro q hy E ρ ls H locs hl hw
  exact lv_icmp_lt X.1 X.2.1 hd ht (fun _ => hkt q hy E ρ ls H locs hl hw) (fun h => absurd hc h)
theorem js_icmp_lt_f {x z : Int32} {t : Nat} {off : Int} (X : ev_X l D γ μ κ) (hd : decode μ.1 pc = .ok (.if_icmp .lt off, 3)) (ht : (pc : Int) + off = (t : Int)) (hn : pc + 3 = n) (hc : ¬ x < z) (hkf : ev_J l D γ μ κ n ce sl lo st hp y w) : ev_J l D γ μ κ pc ce sl lo (.int z :: .int x :: st) hp y w := by
  obtain ⟨p, e, s, m, args, below, meth, c, Q, A, ρ0, n0, Ex⟩ := κ
  subst hn
  intro q hy E ρ ls H locs hl hw
  exact lv_icmp_lt X.1 X.2.1 hd ht (fun h => absurd h hc) (fun _ => hkf q hy E ρ ls H locs hl hw)
theorem js_icmp_ge {x z : Int32} {yt yf : Option β} {t : Nat} {off : Int} (X : ev_X l D γ μ κ) (hd : decode μ.1 pc = .ok (.if_icmp .ge off, 3)) (ht : (pc : Int) + off = (t : Int)) (hn : pc + 3 = n) (hkt : ev_J l D γ μ κ t ce sl lo st hp yt w) (hkf : ev_J l D γ μ κ n ce sl lo st hp yf w) : ev_J l D γ μ κ pc ce sl lo (.int z :: .int x :: st) hp (if z ≤ x then yt else yf) w := by
  obtain ⟨p, e, s, m, args, below, meth, c, Q, A, ρ0, n0, Ex⟩ := κ
  subst hn
  intro q hy E ρ ls H locs hl hw
  exact lv_icmp_ge X.1 X.2.1 hd ht (fun h => hkt q (by rw [if_pos h] at hy; exact hy) E ρ ls H locs hl hw) (fun h => hkf q (by rw [if_neg h] at hy; exact hy) E ρ ls H locs hl hw)
theorem js_icmp_ge_t {x z : Int32} {t : Nat} {off : Int} (X : ev_X l D γ μ κ) (hd : decode μ.1 pc = .ok (.if_icmp .ge off, 3)) (ht : (pc : Int) + off = (t : Int)) (hc : z ≤ x) (hkt : ev_J l D γ μ κ t ce sl lo st hp y w) : ev_J l D γ μ κ pc ce sl lo (.int z :: .int x :: st) hp y w := by
  obtain ⟨p, e, s, m, args, below, meth, c, Q, A, ρ0, n0, Ex⟩ := κ
  intro q hy E ρ ls H locs hl hw
  exact lv_icmp_ge X.1 X.2.1 hd ht (fun _ => hkt q hy E ρ ls H locs hl hw) (fun h => absurd hc h)
theorem js_icmp_ge_f {x z : Int32} {t : Nat} {off : Int} (X : ev_X l D γ μ κ) (hd : decode μ.1 pc = .ok (.if_icmp .ge off, 3)) (ht : (pc : Int) + off = (t : Int)) (hn : pc + 3 = n) (hc : ¬ z ≤ x) (hkf : ev_J l D γ μ κ n ce sl lo st hp y w) : ev_J l D γ μ κ pc ce sl lo (.int z :: .int x :: st) hp y w := by
  obtain ⟨p, e, s, m, args, below, meth, c, Q, A, ρ0, n0, Ex⟩ := κ
  subst hn
  intro q hy E ρ ls H locs hl hw
  exact lv_icmp_ge X.1 X.2.1 hd ht (fun h => absurd h hc) (fun _ => hkf q hy E ρ ls H locs hl hw)
theorem js_icmp_gt {x z : Int32} {yt yf : Option β} {t : Nat} {off : Int} (X : ev_X l D γ μ κ) (hd : decode μ.1 pc = .ok (.if_icmp .gt off, 3)) (ht : (pc : Int) + off = (t : Int)) (hn : pc + 3 = n) (hkt : ev_J l D γ μ κ t ce sl lo st hp yt w) (hkf : ev_J l D γ μ κ n ce sl lo st hp yf w) : ev_J l D γ μ κ pc ce sl lo (.int z :: .int x :: st) hp (if z < x then yt else yf) w := by
  obtain ⟨p, e, s, m, args, below, meth, c, Q, A, ρ0, n0, Ex⟩ := κ
  subst hn
  intro q hy E ρ ls H locs hl hw
  exact lv_icmp_gt X.1 X.2.1 hd ht (fun h => hkt q (by rw [if_pos h] at hy; exact hy) E ρ ls H locs hl hw) (fun h => hkf q (by rw [if_neg h] at hy; exact hy) E ρ ls H locs hl hw)
theorem js_icmp_gt_t {x z : Int32} {t : Nat} {off : Int} (X : ev_X l D γ μ κ) (hd : decode μ.1 pc = .ok (.if_icmp .gt off, 3)) (ht : (pc : Int) + off = (t : Int)) (hc : z < x) (hkt : ev_J l D γ μ κ t ce sl lo st hp y w) : ev_J l D γ μ κ pc ce sl lo (.int z :: .int x :: st) hp y w := by
  obtain ⟨p, e, s, m, args, below, meth, c, Q, A, ρ0, n0, Ex⟩ := κ
  intro q hy E ρ ls H locs hl hw
  exact lv_icmp_gt X.1 X.2.1 hd ht (fun _ => hkt q hy E ρ ls H locs hl hw) (fun h => absurd hc h)
theorem js_icmp_gt_f {x z : Int32} {t : Nat} {off : Int} (X : ev_X l D γ μ κ) (hd : decode μ.1 pc = .ok (.if_icmp .gt off, 3)) (ht : (pc : Int) + off = (t : Int)) (hn : pc + 3 = n) (hc : ¬ z < x) (hkf : ev_J l D γ μ κ n ce sl lo st hp y w) : ev_J l D γ μ κ pc ce sl lo (.int z :: .int x :: st) hp y w := by
  obtain ⟨p, e, s, m, args, below, meth, c, Q, A, ρ0, n0, Ex⟩ := κ
  subst hn
  intro q hy E ρ ls H locs hl hw
  exact lv_icmp_gt X.1 X.2.1 hd ht (fun h => absurd h hc) (fun _ => hkf q hy E ρ ls H locs hl hw)
theorem js_icmp_le {x z : Int32} {yt yf : Option β} {t : Nat} {off : Int} (X : ev_X l D γ μ κ) (hd : decode μ.1 pc = .ok (.if_icmp .le off, 3)) (ht : (pc : Int) + off = (t : Int)) (hn : pc + 3 = n) (hkt : ev_J l D γ μ κ t ce sl lo st hp yt w) (hkf : ev_J l D γ μ κ n ce sl lo st hp yf w) : ev_J l D γ μ κ pc ce sl lo (.int z :: .int x :: st) hp (if x ≤ z then yt else yf) w := by
  obtain ⟨p, e, s, m, args, below, meth, c, Q, A, ρ0, n0, Ex⟩ := κ
  subst hn
  intro q hy E ρ ls H locs hl hw
  exact lv_icmp_le X.1 X.2.1 hd ht (fun h => hkt q (by rw [if_pos h] at hy; exact hy) E ρ ls H locs hl hw) (fun h => hkf q (by rw [if_neg h] at hy; exact hy) E ρ ls H locs hl hw)
theorem js_icmp_le_t {x z : Int32} {t : Nat} {off : Int} (X : ev_X l D γ μ κ) (hd : decode μ.1 pc = .ok (.if_icmp .le off, 3)) (ht : (pc : Int) + off = (t : Int)) (hc : x ≤ z) (hkt : ev_J l D γ μ κ t ce sl lo st hp y w) : ev_J l D γ μ κ pc ce sl lo (.int z :: .int x :: st) hp y w := by
  obtain ⟨p, e, s, m, args, below, meth, c, Q, A, ρ0, n0, Ex⟩ := κ
  intro q hy E ρ ls H locs hl hw
  exact lv_icmp_le X.1 X.2.1 hd ht (fun _ => hkt q hy E ρ ls H locs hl hw) (fun h => absurd hc h)
theorem js_icmp_le_f {x z : Int32} {t : Nat} {off : Int} (X : ev_X l D γ μ κ) (hd : decode μ.1 pc = .ok (.if_icmp .le off, 3)) (ht : (pc : Int) + off = (t : Int)) (hn : pc + 3 = n) (hc : ¬ x ≤ z) (hkf : ev_J l D γ μ κ n ce sl lo st hp y w) : ev_J l D γ μ κ pc ce sl lo (.int z :: .int x :: st) hp y w := by
  obtain ⟨p, e, s, m, args, below, meth, c, Q, A, ρ0, n0, Ex⟩ := κ
  subst hn
  intro q hy E ρ ls H locs hl hw
  exact lv_icmp_le X.1 X.2.1 hd ht (fun h => absurd h hc) (fun _ => hkf q hy E ρ ls H locs hl hw)
theorem js_goto {t : Nat} {off : Int} (X : ev_X l D γ μ κ) (hd : decode μ.1 pc = .ok (.goto off, 3)) (ht : (pc : Int) + off = (t : Int)) (hk : ev_J l D γ μ κ t ce sl lo st hp y w) : ev_J l D γ μ κ pc ce sl lo st hp y w := by
  obtain ⟨p, e, s, m, args, below, meth, c, Q, A, ρ0, n0, Ex⟩ := κ
  intro q hy E ρ ls H locs hl hw
  exact lv_goto X.1 X.2.1 hd ht (hk q hy E ρ ls H locs hl hw)
theorem js_keep (b : List Bool) (hk : ev_J l D γ μ κ pc ce sl (ev_keep b lo) st hp y w) : ev_J l D γ μ κ pc ce sl lo st hp y w := by
  obtain ⟨p, e, s, m, args, below, meth, c, Q, A, ρ0, n0, Ex⟩ := κ
  intro q hy E ρ ls H locs hl hw
  exact hk q hy E ρ ls H locs (hl.keep b) hw
theorem js_none : ev_J l D γ μ κ pc ce sl lo st hp (none : Option β) w := by
  obtain ⟨p, e, s, m, args, below, meth, c, Q, A, ρ0, n0, Ex⟩ := κ
  intro q hy
  cases hy
theorem js_widen {ce' sl' : Nat} (h1 : ce ≤ ce') (h2 : sl ≤ sl') (hk : ev_J l D γ μ κ pc ce' sl' lo st hp y w) : ev_J l D γ μ κ pc ce sl lo st hp y w := by
  obtain ⟨p, e, s, m, args, below, meth, c, Q, A, ρ0, n0, Ex⟩ := κ
  intro q hy E ρ ls H locs hl hw
  exact W.widen h1 h2 (hk q hy E ρ ls H locs hl hw)
/-- a switch, one key after the other: ps are the keys that are left, with their targets -/
def ev_sj (l : Launch) (D : va_G) (γ : ev_ga) (μ : ev_mu) (κ : ev_ka) (pc ce sl : Nat) (lo : ev_L) (x : Int32) (st : List Value) (hp : ev_H) (ps : List (Int × Int)) (dflt : Int) (y : Option β) (w : β → ev_O) : Prop :=
  ∃ (off : Int) (t : Nat), Op.lookupswitch.offset ps dflt x.toInt = off ∧ (pc : Int) + off = (t : Int) ∧ ev_J l D γ μ κ t ce sl lo st hp y w
theorem js_sw0 {x : Int32} {dflt : Int} (t : Nat) (ht : (pc : Int) + dflt = (t : Int)) (hk : ev_J l D γ μ κ t ce sl lo st hp y w) : ev_sj l D γ μ κ pc ce sl lo x st hp [] dflt y w := ⟨dflt, t, rfl, ht, hk⟩
theorem js_sw1 {x v : Int32} {dflt k off : Int} {ps : List (Int × Int)} {y1 y2 : Option β} (t : Nat) (hv : v.toInt = k) (ht : (pc : Int) + off = (t : Int)) (hk : ev_J l D γ μ κ t ce sl lo st hp y1 w) (hr : ev_sj l D γ μ κ pc ce sl lo x st hp ps dflt y2 w) : ev_sj l D γ μ κ pc ce sl lo x st hp ((k, off) :: ps) dflt (if x = v then y1 else y2) w := by
  by_cases h : x = v
  · refine ⟨off, t, ?_, ht, ?_⟩
    · rw [Op.lookupswitch.offset_cons, if_pos (by rw [h]; exact hv.symm)]
    · rw [if_pos h]
      exact hk
  · obtain ⟨o1, t1, a, b, d⟩ := hr
    refine ⟨o1, t1, ?_, b, ?_⟩
    · rw [Op.lookupswitch.offset_cons, if_neg (fun z => h (Int32.toInt_inj.mp (z.symm.trans hv.symm)))]
      exact a
    · rw [if_neg h]
      exact d
theorem js_lsw {x : Int32} {len : Nat} {dflt : Int} {ps : Array (Int × Int)} (X : ev_X l D γ μ κ) (hd : decode μ.1 pc = .ok (.lookupswitch dflt ps, len)) (hsort : (ps.toList.zip (ps.toList.drop 1)).all (fun (a, next) => a.1 < next.1) = true) (hk : ev_sj l D γ μ κ pc ce sl lo x st hp ps.toList dflt y w) : ev_J l D γ μ κ pc ce sl lo (.int x :: st) hp y w := by
  obtain ⟨off, t, a, b, hk⟩ := hk
  obtain ⟨p, e, s, m, args, below, meth, c, Q, A, ρ0, n0, Ex⟩ := κ
  intro q hy E ρ ls H locs hl hw
  exact lv_lookup X.1 X.2.1 hd hsort a b (hk q hy E ρ ls H locs hl hw)
theorem ev_tab {lo1 dflt x : Int} : ∀ (offs : List Int) (i : Nat), (x < lo1 + i ∨ lo1 + i + offs.length ≤ x → Op.lookupswitch.offset ((offs.zipIdx i).map fun q => (lo1 + (q.2 : Int), q.1)) dflt x = dflt) ∧ ∀ (j : Nat) (o : Int), offs[j]? = some o → x = lo1 + (i + j : Nat) → Op.lookupswitch.offset ((offs.zipIdx i).map fun q => (lo1 + (q.2 : Int), q.1)) dflt x = o
  | [], i => ⟨fun _ => rfl, fun j o h => by simp at h⟩
  | a :: r, i => by
    obtain ⟨h1, h2⟩ := ev_tab (lo1 := lo1) (dflt := dflt) (x := x) r (i + 1)
    have e : (((a :: r).zipIdx i).map fun q => (lo1 + (q.2 : Int), q.1)) = (lo1 + (i : Int), a) :: ((r.zipIdx (i + 1)).map fun q => (lo1 + (q.2 : Int), q.1)) := by simp [List.zipIdx_cons]
    rw [e, Op.lookupswitch.offset_cons]
    refine ⟨fun h => ?_, fun j o hj hx => ?_⟩
    · rw [List.length_cons] at h
      rw [if_neg (by omega)]
      exact h1 (by omega)
    · cases j with
      | zero =>
        rw [if_pos (by omega)]
        simpa using hj
      | succ j =>
        rw [if_neg (by omega)]
        rw [List.getElem?_cons_succ] at hj
        exact h2 j o hj (by omega)
theorem js_tsw {x : Int32} {len : Nat} {dflt lo1 hi1 : Int} {offs : Array Int} (X : ev_X l D γ μ κ) (hd : decode μ.1 pc = .ok (.tableswitch dflt lo1 hi1 offs, len)) (hh : hi1 = lo1 + (offs.toList.length : Int) - 1) (hk : ev_sj l D γ μ κ pc ce sl lo x st hp ((offs.toList.zipIdx 0).map fun q => (lo1 + (q.2 : Int), q.1)) dflt y w) : ev_J l D γ μ κ pc ce sl lo (.int x :: st) hp y w := by
  obtain ⟨off, t, a, b, hk⟩ := hk
  obtain ⟨p, e, s, m, args, below, meth, c, Q, A, ρ0, n0, Ex⟩ := κ
  intro q hy E ρ ls H locs hl hw
  obtain ⟨h1, h2⟩ := ev_tab (lo1 := lo1) (dflt := dflt) (x := x.toInt) offs.toList 0
  by_cases hin : x.toInt < lo1 ∨ hi1 < x.toInt
  · have e1 := h1 (by omega)
    rw [e1] at a
    subst a
    exact lv_tableOut X.1 X.2.1 hd hin b (hk q hy E ρ ls H locs hl hw)
  · have n1 : ¬ x.toInt < lo1 := fun z => hin (Or.inl z)
    have n2 : ¬ hi1 < x.toInt := fun z => hin (Or.inr z)
    have hil : (x.toInt - lo1).toNat < offs.toList.length := by omega
    have hi : offs.toList[(x.toInt - lo1).toNat]? = some offs.toList[(x.toInt - lo1).toNat] := List.getElem?_eq_getElem hil
    have e2 := h2 _ _ hi (by omega)
    rw [e2] at a
    subst a
    exact lv_tableIn X.1 X.2.1 hd n1 n2 (by rw [← Array.getElem?_toList]; exact hi) b (hk q hy E ρ ls H locs hl hw)
end EVR
end
section
def ev_C (γ : ev_ga) (ci : Nat) (C : String) (T : u_T) (N : Nat) (ty : Nat → FieldType) : Prop :=
  γ.1[ci]? = some (C, T, N) ∧ (∀ w ∈ u_ws C T N, w ∈ γ.2.2) ∧ (∀ k, k < N → parseFieldDescriptor (T k).2.2.1 = some (ty k)) ∧ ∀ a, a < N → ∀ b, b < N → a ≠ b → (T a).2.1 ≠ (T b).2.1
theorem ev_w_setf (ρ : ev_R) (hp : ev_H) (a ci j : Nat) (fs : List Value) (v : Value) : ev_w ρ (ev_s hp a (.inr (ci, ev_s fs j v))) = (ev_w ρ hp).set a ((ρ a).1, .inr (ci, (fs.map (ev_v ρ)).set j (ev_v ρ v))) := by
  rw [ev_w_set]
  have h : ev_e ρ a (.inr (ci, ev_s fs j v)) = .inr (ci, (fs.map (ev_v ρ)).set j (ev_v ρ v)) := by
    show (Sum.inr (ci, (ev_s fs j v).map (ev_v ρ)) : va_E) = _
    rw [ev_s_eq, List.map_set]
  rw [h]
def cpok (sp dp n : Int32) (n0 n1 : Nat) : Bool := decide (¬ sp < 0 ∧ ¬ dp < 0 ∧ ¬ n < 0 ∧ sp.toNatClampNeg + n.toNatClampNeg ≤ n0 ∧ dp.toNatClampNeg + n.toNatClampNeg ≤ n1)
theorem cpok_of {sp dp n : Int32} {n0 n1 : Nat} (h : cpok sp dp n n0 n1 = true) : ¬ sp < 0 ∧ ¬ dp < 0 ∧ ¬ n < 0 ∧ sp.toNatClampNeg + n.toNatClampNeg ≤ n0 ∧ dp.toNatClampNeg + n.toNatClampNeg ≤ n1 := of_decide_eq_true h
theorem ev_lo.grow {ρ ρ' : ev_R} {ls : Array Slot} {lo : ev_L} {N nL : Nat} (hl : ev_lo ρ ls nL lo) (ha : ∀ k, k < N → ρ' k = ρ k) (h : ev_okl N lo = true) : ev_lo ρ' ls nL lo := hl.to fun i v hi => ev_okl_eq ha h i v hi
section EVC
variable {β : Type} {l : Launch} {D : va_G} {γ : ev_ga} {μ : ev_mu} {κ : ev_ka} {pc n ce sl : Nat} {lo : ev_L} {st : List Value} {hp : ev_H} {y : Option β} {w : β → ev_O}
theorem js_getf {ci j N idx a : Nat} {C : String} {T : u_T} {ty : Nat → FieldType} {fs : List Value} {v : Value} (X : ev_X l D γ μ κ) (hd : decode μ.1 pc = .ok (.getfield idx, 3)) (hn : pc + 3 = n) (hC : ev_C γ ci C T N ty) (hj : j < N) (hlink : Jvm.Cond.fieldLink μ.2.2.2.1.cls idx (T j).1 (T j).2.1 (T j).2.2.1 ∈ γ.2.2) (hx : ev_n hp a = some (.inr (ci, fs))) (hv : ev_n fs j = some v) (hk : ev_J l D γ μ κ n ce sl lo (v :: st) hp y w) : ev_J l D γ μ κ pc ce sl lo (.ref a :: st) hp y w := by
  obtain ⟨p, e, s, m, args, below, meth, c, Q, A, ρ0, n0, Ex⟩ := κ
  subst hn
  intro q hy E ρ ls H locs hl hw
  exact va_get X.1 X.2.1 X.2.2.2.2.1 hC.2.1 X.2.2.2.1 X.2.2.2.2.2.1 hw.1 a (ev_w_at hx) hC.1 j hj (X.2.2.2.2.1 _ hlink) (fun _ h => h) (v := ev_v ρ v) (by rw [List.getElem?_map, ← ev_n_eq, hv]; rfl) hd (hk q hy E ρ ls H locs hl hw)
theorem js_put0 {ci j N idx a : Nat} {C : String} {T : u_T} {ty : Nat → FieldType} {fs : List Value} {v : Value} (X : ev_X l D γ μ κ) (hd : decode μ.1 pc = .ok (.putfield idx, 3)) (hn : pc + 3 = n) (hC : ev_C γ ci C T N ty) (hj : j < N) (hlink : Jvm.Cond.fieldLink μ.2.2.2.1.cls idx (T j).1 (T j).2.1 (T j).2.2.1 ∈ γ.2.2) (hx : ev_n hp a = some (.inr (ci, fs)))
    (hfin : (T j).2.2.2 = false ∨ ((T j).2.2.2 = true ∧ μ.2.2.2.1.name = "<init>" ∧ (T j).1 = μ.2.2.2.1.cls)) (hlen : j < fs.length) (hv1 : ∀ ρ, narrow (ty j) (ev_v ρ v) = ev_v ρ v) (hv2 : ∀ ρ, fits (ty j) (ev_v ρ v) = true) (hk : ev_J l D γ μ κ n ce sl lo st (ev_s hp a (.inr (ci, ev_s fs j v))) y w) : ev_J l D γ μ κ pc ce sl lo (v :: .ref a :: st) hp y w := by
  obtain ⟨p, e, s, m, args, below, meth, c, Q, A, ρ0, n0, Ex⟩ := κ
  subst hn
  intro q hy E ρ ls H locs hl hw
  obtain ⟨hP, hD, hS, hT, hn0, hag⟩ := hw
  have hlen' : j < (fs.map (ev_v ρ)).length := by rw [List.length_map]; exact hlen
  rcases hfin with hfin | ⟨hfin, hin, hdecl⟩
  · refine va_put X.1 X.2.1 X.2.2.2.2.1 hC.2.1 ty hC.2.2.1 hC.2.2.2 X.2.2.2.1 X.2.2.2.2.2.1 hP hD hS a (ev_w_at hx) hC.1 j hj (X.2.2.2.2.1 _ hlink) (fun _ h => h) hfin (hC.2.2.1 j hj) (hv1 ρ) (hv2 ρ) hlen' hd (fun H1 locs1 hP1 hD1 hS1 => ?_)
    exact hk q hy E ρ ls H1 locs1 hl ⟨by rw [ev_w_setf]; exact hP1, by rw [ev_w_setf]; exact hD1, hS1, hT.seto, by rw [ev_s_len]; exact hn0, hag⟩
  · refine va_putF X.1 X.2.1 X.2.2.2.2.1 hC.2.1 ty hC.2.2.1 hC.2.2.2 X.2.2.2.1 X.2.2.2.2.2.1 hP hD hS a (ev_w_at hx) hC.1 j hj (X.2.2.2.2.1 _ hlink) (fun _ h => h) hfin (X.2.2.2.2.2.2.2.2.1.trans hin) hdecl (hC.2.2.1 j hj) (hv1 ρ) (hv2 ρ) hlen' hd (fun H1 locs1 hP1 hD1 hS1 => ?_)
    exact hk q hy E ρ ls H1 locs1 hl ⟨by rw [ev_w_setf]; exact hP1, by rw [ev_w_setf]; exact hD1, hS1, hT.seto, by rw [ev_s_len]; exact hn0, hag⟩
theorem js_puti {ci j N idx a : Nat} {C : String} {T : u_T} {ty : Nat → FieldType} {fs : List Value} {x : Int32} (X : ev_X l D γ μ κ) (hd : decode μ.1 pc = .ok (.putfield idx, 3)) (hn : pc + 3 = n) (hC : ev_C γ ci C T N ty) (hj : j < N) (hlink : Jvm.Cond.fieldLink μ.2.2.2.1.cls idx (T j).1 (T j).2.1 (T j).2.2.1 ∈ γ.2.2) (hx : ev_n hp a = some (.inr (ci, fs))) (hty : ty j = .int) (hfin : (T j).2.2.2 = false ∨ ((T j).2.2.2 = true ∧ μ.2.2.2.1.name = "<init>" ∧ (T j).1 = μ.2.2.2.1.cls)) (hlen : j < fs.length) (hk : ev_J l D γ μ κ n ce sl lo st (ev_s hp a (.inr (ci, ev_s fs j (.int x)))) y w) : ev_J l D γ μ κ pc ce sl lo (.int x :: .ref a :: st) hp y w :=
  js_put0 X hd hn hC hj hlink hx hfin hlen (fun _ => by rw [hty]; rfl) (fun _ => by rw [hty]; rfl) hk
theorem js_putj {ci j N idx a : Nat} {C : String} {T : u_T} {ty : Nat → FieldType} {fs : List Value} {x : Int64} (X : ev_X l D γ μ κ) (hd : decode μ.1 pc = .ok (.putfield idx, 3)) (hn : pc + 3 = n) (hC : ev_C γ ci C T N ty) (hj : j < N) (hlink : Jvm.Cond.fieldLink μ.2.2.2.1.cls idx (T j).1 (T j).2.1 (T j).2.2.1 ∈ γ.2.2) (hx : ev_n hp a = some (.inr (ci, fs))) (hty : ty j = .long) (hfin : (T j).2.2.2 = false ∨ ((T j).2.2.2 = true ∧ μ.2.2.2.1.name = "<init>" ∧ (T j).1 = μ.2.2.2.1.cls)) (hlen : j < fs.length) (hk : ev_J l D γ μ κ n ce sl lo st (ev_s hp a (.inr (ci, ev_s fs j (.long x)))) y w) : ev_J l D γ μ κ pc ce sl lo (.long x :: .ref a :: st) hp y w :=
  js_put0 X hd hn hC hj hlink hx hfin hlen (fun _ => by rw [hty]; rfl) (fun _ => by rw [hty]; rfl) hk
theorem js_putr {ci j N idx a : Nat} {C : String} {T : u_T} {ty : Nat → FieldType} {fs : List Value} {x : Nat} (X : ev_X l D γ μ κ) (hd : decode μ.1 pc = .ok (.putfield idx, 3)) (hn : pc + 3 = n) (hC : ev_C γ ci C T N ty) (hj : j < N) (hlink : Jvm.Cond.fieldLink μ.2.2.2.1.cls idx (T j).1 (T j).2.1 (T j).2.2.1 ∈ γ.2.2) (hx : ev_n hp a = some (.inr (ci, fs))) (hty : (∃ E, ty j = .object E) ∨ ∃ t, ty j = .array t) (hfin : (T j).2.2.2 = false ∨ ((T j).2.2.2 = true ∧ μ.2.2.2.1.name = "<init>" ∧ (T j).1 = μ.2.2.2.1.cls)) (hlen : j < fs.length) (hk : ev_J l D γ μ κ n ce sl lo st (ev_s hp a (.inr (ci, ev_s fs j (.ref x)))) y w) : ev_J l D γ μ κ pc ce sl lo (.ref x :: .ref a :: st) hp y w :=
  js_put0 X hd hn hC hj hlink hx hfin hlen (fun _ => by rcases hty with ⟨E, hty⟩ | ⟨t, hty⟩ <;> (rw [hty]; rfl)) (fun _ => by rcases hty with ⟨E, hty⟩ | ⟨t, hty⟩ <;> (rw [hty]; rfl)) hk
theorem js_putz {ci j N idx a : Nat} {C : String} {T : u_T} {ty : Nat → FieldType} {fs : List Value} {x : Int32} (X : ev_X l D γ μ κ) (hd : decode μ.1 pc = .ok (.putfield idx, 3)) (hn : pc + 3 = n) (hC : ev_C γ ci C T N ty) (hj : j < N) (hlink : Jvm.Cond.fieldLink μ.2.2.2.1.cls idx (T j).1 (T j).2.1 (T j).2.2.1 ∈ γ.2.2) (hx : ev_n hp a = some (.inr (ci, fs))) (hty : ty j = .boolean) (hfin : (T j).2.2.2 = false ∨ ((T j).2.2.2 = true ∧ μ.2.2.2.1.name = "<init>" ∧ (T j).1 = μ.2.2.2.1.cls)) (hlen : j < fs.length) (hk : ev_J l D γ μ κ n ce sl lo st (ev_s hp a (.inr (ci, ev_s fs j (.int x)))) y w) : ev_J l D γ μ κ pc ce sl lo (.int x :: .ref a :: st) hp (ck (isB x) y) w := by
  by_cases hb : isB x = true
  · rw [hb]
    exact js_put0 X hd hn hC hj hlink hx hfin hlen (fun _ => by rw [hty]; rcases isB_or hb with rfl | rfl <;> rfl) (fun _ => by rw [hty]; rcases isB_or hb with rfl | rfl <;> rfl) hk
  · rw [Bool.not_eq_true] at hb
    rw [hb]
    exact js_none
theorem js_iaload {a N : Nat} {i : Int32} {f : Nat → Int32} (X : ev_X l D γ μ κ) (hd : decode μ.1 pc = .ok (.iaload, 1)) (hn : pc + 1 = n) (hx : ev_n hp a = some (.inl (.int, N, .inl f))) (hk : ev_J l D γ μ κ n ce sl lo (.int (f (ix i)) :: st) hp y w) : ev_J l D γ μ κ pc ce sl lo (.int i :: .ref a :: st) hp (ck (inb i N) y) w := by
  obtain ⟨p, e, s, m, args, below, meth, c, Q, A, ρ0, n0, Ex⟩ := κ
  subst hn
  intro q hy E ρ ls H locs hl hw
  obtain ⟨h1, hy⟩ := ck_t hy
  exact va_iald X.1 X.2.1 (hw.2.2.2.1.K X.2.2.2.2.2.1 hx) hw.1 a 0 (ev_w_at hx) rfl (inb_in h1) hd (hk q hy E ρ ls H locs hl hw)
theorem js_baload {a N : Nat} {i : Int32} {f : Nat → Int32} (X : ev_X l D γ μ κ) (hd : decode μ.1 pc = .ok (.baload, 1)) (hn : pc + 1 = n) (hx : ev_n hp a = some (.inl (.boolean, N, .inl f))) (hk : ev_J l D γ μ κ n ce sl lo (.int (f (ix i)) :: st) hp y w) : ev_J l D γ μ κ pc ce sl lo (.int i :: .ref a :: st) hp (ck (inb i N) y) w := by
  obtain ⟨p, e, s, m, args, below, meth, c, Q, A, ρ0, n0, Ex⟩ := κ
  subst hn
  intro q hy E ρ ls H locs hl hw
  obtain ⟨h1, hy⟩ := ck_t hy
  exact va_zald X.1 X.2.1 (hw.2.2.2.1.K X.2.2.2.2.2.1 hx) hw.1 a 0 (ev_w_at hx) rfl (inb_in h1) hd (hk q hy E ρ ls H locs hl hw)
theorem js_laload {a N : Nat} {i : Int32} {f : Nat → Int64} (X : ev_X l D γ μ κ) (hd : decode μ.1 pc = .ok (.laload, 1)) (hn : pc + 1 = n) (hx : ev_n hp a = some (.inl (.long, N, .inr f))) (hk : ev_J l D γ μ κ n ce sl lo (.long (f (ix i)) :: st) hp y w) : ev_J l D γ μ κ pc ce sl lo (.int i :: .ref a :: st) hp (ck (inb i N) y) w := by
  obtain ⟨p, e, s, m, args, below, meth, c, Q, A, ρ0, n0, Ex⟩ := κ
  subst hn
  intro q hy E ρ ls H locs hl hw
  obtain ⟨h1, hy⟩ := ck_t hy
  exact va_lald X.1 X.2.1 (hw.2.2.2.1.K X.2.2.2.2.2.1 hx) hw.1 a 0 (ev_w_at hx) rfl (inb_in h1) hd (hk q hy E ρ ls H locs hl hw)
theorem js_iastore {a N : Nat} {i : Int32} {x : Int32} {f : Nat → Int32} (X : ev_X l D γ μ κ) (hd : decode μ.1 pc = .ok (.iastore, 1)) (hn : pc + 1 = n) (hx : ev_n hp a = some (.inl (.int, N, .inl f))) (hk : ev_J l D γ μ κ n ce sl lo st (ev_s hp a (.inl (.int, N, .inl (upd f (ix i) x)))) y w) : ev_J l D γ μ κ pc ce sl lo (.int x :: .int i :: .ref a :: st) hp (ck (inb i N) y) w := by
  obtain ⟨p, e, s, m, args, below, meth, c, Q, A, ρ0, n0, Ex⟩ := κ
  subst hn
  intro q hy E ρ ls H locs hl hw
  obtain ⟨h1, hy⟩ := ck_t hy
  obtain ⟨hP, hD, hS, hT, hn0, hag⟩ := hw
  refine va_iast X.1 X.2.1 (hT.K X.2.2.2.2.2.1 hx) hP hD hS a 0 (ev_w_at hx) rfl (inb_in h1) hd (fun H1 locs1 hP1 hD1 hS1 => ?_)
  exact hk q hy E ρ ls H1 locs1 hl ⟨by rw [ev_w_set]; exact hP1, by rw [ev_w_set]; exact hD1, hS1, hT.set hx, by rw [ev_s_len]; exact hn0, hag⟩
theorem js_lastore {a N : Nat} {i : Int32} {x : Int64} {f : Nat → Int64} (X : ev_X l D γ μ κ) (hd : decode μ.1 pc = .ok (.lastore, 1)) (hn : pc + 1 = n) (hx : ev_n hp a = some (.inl (.long, N, .inr f))) (hk : ev_J l D γ μ κ n ce sl lo st (ev_s hp a (.inl (.long, N, .inr (vp_updL f (ix i) x)))) y w) : ev_J l D γ μ κ pc ce sl lo (.long x :: .int i :: .ref a :: st) hp (ck (inb i N) y) w := by
  obtain ⟨p, e, s, m, args, below, meth, c, Q, A, ρ0, n0, Ex⟩ := κ
  subst hn
  intro q hy E ρ ls H locs hl hw
  obtain ⟨h1, hy⟩ := ck_t hy
  obtain ⟨hP, hD, hS, hT, hn0, hag⟩ := hw
  refine va_last X.1 X.2.1 (hT.K X.2.2.2.2.2.1 hx) hP hD hS a 0 (ev_w_at hx) rfl (inb_in h1) hd (fun H1 locs1 hP1 hD1 hS1 => ?_)
  exact hk q hy E ρ ls H1 locs1 hl ⟨by rw [ev_w_set]; exact hP1, by rw [ev_w_set]; exact hD1, hS1, hT.set hx, by rw [ev_s_len]; exact hn0, hag⟩
theorem js_bastore {a N : Nat} {i : Int32} {x : Int32} {f : Nat → Int32} (X : ev_X l D γ μ κ) (hd : decode μ.1 pc = .ok (.bastore, 1)) (hn : pc + 1 = n) (hx : ev_n hp a = some (.inl (.boolean, N, .inl f))) (hk : ev_J l D γ μ κ n ce sl lo st (ev_s hp a (.inl (.boolean, N, .inl (upd f (ix i) x)))) y w) : ev_J l D γ μ κ pc ce sl lo (.int x :: .int i :: .ref a :: st) hp (ck (inb i N) (ck (isB x) y)) w := by
  obtain ⟨p, e, s, m, args, below, meth, c, Q, A, ρ0, n0, Ex⟩ := κ
  subst hn
  intro q hy E ρ ls H locs hl hw
  obtain ⟨h1, hy⟩ := ck_t hy
  obtain ⟨h2, hy⟩ := ck_t hy
  have hz : vp_nar .boolean x = x := by rcases isB_or h2 with rfl | rfl <;> rfl
  obtain ⟨hP, hD, hS, hT, hn0, hag⟩ := hw
  refine va_zast X.1 X.2.1 (hT.K X.2.2.2.2.2.1 hx) hP hD hS a 0 (ev_w_at hx) rfl (inb_in h1) hd (fun H1 locs1 hP1 hD1 hS1 => ?_)
  rw [hz] at hP1 hD1
  exact hk q hy E ρ ls H1 locs1 hl ⟨by rw [ev_w_set]; exact hP1, by rw [ev_w_set]; exact hD1, hS1, hT.set hx, by rw [ev_s_len]; exact hn0, hag⟩
theorem js_alen {a N : Nat} {ty : FieldType} {f : Nat → Int32} (X : ev_X l D γ μ κ) (hd : decode μ.1 pc = .ok (.arraylength, 1)) (hn : pc + 1 = n) (hx : ev_n hp a = some (.inl (ty, N, .inl f))) (hk : ev_J l D γ μ κ n ce sl lo (.int (Int32.ofNat N) :: st) hp y w) : ev_J l D γ μ κ pc ce sl lo (.ref a :: st) hp y w := by
  obtain ⟨p, e, s, m, args, below, meth, c, Q, A, ρ0, n0, Ex⟩ := κ
  subst hn
  intro q hy E ρ ls H locs hl hw
  exact va_alen X.1 X.2.1 (hw.2.2.2.1.K X.2.2.2.2.2.1 hx) hw.1 a 0 (ev_w_at hx) rfl rfl hd (hk q hy E ρ ls H locs hl hw)
theorem js_copy {idx a b N0 N1 : Nat} {sp dp k9 : Int32} {f g : Nat → Int32} (X : ev_X l D γ μ κ) (hd : decode μ.1 pc = .ok (.invokestatic idx, 3)) (hn : pc + 3 = n) (w1 : Jvm.Cond.methodLink μ.2.2.2.1.cls idx arraycopyName ∈ γ.2.2) (w2 : Jvm.Cond.native arraycopyName ∈ γ.2.2) (w3 : Jvm.Cond.static arraycopyName ∈ γ.2.2) (w4 : Jvm.Cond.initialized "java/lang/System" ∈ γ.2.2) (hf : 1 ≤ μ.2.2.2.2.1.frames) (hlo : nativeFrameWords "java/lang/System" "arraycopy" 5 + 11 ≤ μ.2.2.2.2.1.locals)
    (hx : ev_n hp a = some (.inl (.int, N0, .inl f))) (hz : ev_n hp b = some (.inl (.int, N1, .inl g))) (hk : ev_J l D γ μ κ n ce sl lo [] (ev_s hp b (.inl (.int, N1, .inl (va_cpy f g (ix sp) (ix dp) (ix k9))))) y w) : ev_J l D γ μ κ pc ce sl lo [.int k9, .int dp, .ref b, .int sp, .ref a] hp (ck (cpok sp dp k9 N0 N1) y) w := by
  obtain ⟨p, e, s, m, args, below, meth, c, Q, A, ρ0, n0, Ex⟩ := κ
  subst hn
  intro q hy E ρ ls H locs hl hw
  obtain ⟨h1, hy⟩ := ck_t hy
  obtain ⟨c1, c2, c3, c4, c5⟩ := cpok_of h1
  obtain ⟨hP, hD, hS, hT, hn0, hag⟩ := hw
  refine va_copyi (rest := []) X.1 X.2.1 (X.2.2.1.trans hl.1.symm) X.2.2.2.1 (X.2.2.2.2.1 _ w1) (X.2.2.2.2.1 _ w2) (X.2.2.2.2.1 _ w3) (X.2.2.2.2.1 _ w4) ((hT.K X.2.2.2.2.2.1 hx).app (hT.K X.2.2.2.2.2.1 hz)) hP hD hS a b 0 1 (ev_w_at hx) (ev_w_at hz) rfl rfl rfl c1 c2 c3 c4 c5 (fun _ _ => rfl) hf (by simpa using hlo) hd (fun H1 locs1 hP1 hD1 hS1 => ?_)
  exact hk q hy E ρ ls H1 locs1 hl ⟨by rw [ev_w_set]; exact hP1, by rw [ev_w_set]; exact hD1, hS1, hT.set hz, by rw [ev_s_len]; exact hn0, hag⟩
theorem js_new {ci N idx : Nat} {C : String} {T : u_T} {ty : Nat → FieldType} {fs : List Value} (X : ev_X l D γ μ κ) (hd : decode μ.1 pc = .ok (.new idx, 3)) (hn : pc + 3 = n) (hC : ev_C γ ci C T N ty) (w1 : Jvm.Cond.classLink μ.2.2.2.1.cls idx C ∈ γ.2.2) (w2 : Jvm.Cond.instantiable C N ∈ γ.2.2) (w3 : Jvm.Cond.initialized C ∈ γ.2.2) (hfs : ∀ j, j < N → defaultValue (ty j) = vp_V fs j) (hfi : ∀ ρ : ev_R, fs.map (ev_v ρ) = fs) (h1 : ce + 1 ≤ μ.2.2.2.2.1.cells) (h2 : sl + N ≤ μ.2.2.2.2.1.slots)
    (o1 : ev_okh hp.length hp = true) (o2 : ev_okl hp.length lo = true) (o3 : ev_oks hp.length st = true) (hk : ev_J l D γ μ κ n (ce + 1) (sl + N) lo (.ref hp.length :: st) (hp ++ [.inr (ci, fs)]) y w) : ev_J l D γ μ κ pc ce sl lo st hp y w := by
  obtain ⟨p, e, s, m, args, below, meth, c, Q, A, ρ0, n0, Ex⟩ := κ
  subst hn
  intro q hy E ρ ls H locs hl hw
  obtain ⟨hP, hD, hS, hT, hn0, hag⟩ := hw
  refine va_new (fs := fs) X.1 X.2.1 X.2.2.2.2.1 hC.2.1 ty hC.2.2.1 X.2.2.2.1 (X.2.2.2.2.1 _ w1) (X.2.2.2.2.1 _ w2) (X.2.2.2.2.1 _ w3) X.2.2.2.2.2.1 hP hD hS X.2.2.2.2.2.2.1 hC.1 hfs h1 h2 hd (fun q9 H1 hP1 hD1 hS1 => ?_)
  have ha : ∀ k, k < hp.length → ev_up ρ hp.length q9 (ρ 0).2 k = ρ k := fun k hk => ev_up_lt k hk
  have he : ev_w (ev_up ρ hp.length q9 (ρ 0).2) (hp ++ [.inr (ci, fs)]) = ev_w ρ hp ++ [(q9, .inr (ci, fs))] := by
    rw [ev_w_push o1]
    show _ ++ [(q9, (Sum.inr (ci, fs.map (ev_v _)) : va_E))] = _
    rw [hfi]
  have hst : List.map (ev_v (ev_up ρ hp.length q9 (ρ 0).2)) (.ref hp.length :: st) = .ref q9 :: List.map (ev_v ρ) st := by
    rw [List.map_cons, ev_oks_eq ha o3]
    show Value.ref (ev_up ρ hp.length q9 (ρ 0).2 hp.length).1 :: _ = _
    rw [ev_up_at]
  have := hk q hy E (ev_up ρ hp.length q9 (ρ 0).2) ls H1 locs (hl.grow ha o2) ⟨by rw [he]; exact hP1, by rw [he]; exact hD1, hS1, ?_, by rw [List.length_append]; omega, fun k hk => by rw [ev_up_lt k (by omega)]; exact hag k hk⟩
  · rw [hst] at this
    exact this
  · intro k t x hx
    by_cases hkl : k < hp.length
    · rw [List.getElem?_append_left hkl] at hx
      rw [ev_up_lt k hkl]
      exact hT k t x hx
    · rw [List.getElem?_append_right (by omega)] at hx
      have hz : k - hp.length < 1 := (List.getElem?_eq_some_iff.mp hx).1
      have hz0 : k - hp.length = 0 := by omega
      rw [hz0] at hx
      cases hx
def ev_a0 (a : (Nat → Int32) ⊕ (Nat → Int64)) : (Nat → Int32) ⊕ (Nat → Int64) ⊕ (Nat → UInt32) ⊕ (Nat → UInt64) ⊕ (Nat → Option Nat) := match a with
  | .inl f => .inl f
  | .inr f => .inr (.inl f)
theorem js_newa {N : Nat} {ty : FieldType} {atype : ArrayType} (a : (Nat → Int32) ⊕ (Nat → Int64)) {k9 : Int32} (X : ev_X l D γ μ κ) (hd : decode μ.1 pc = .ok (.newarray atype, 2)) (hn : pc + 2 = n) (w1 : Jvm.Cond.arrayClass (newarray.typeOf atype) ∈ γ.2.2) (hty : newarray.typeOf atype = ty) (ha0 : ∀ cA : ClassId, vp_cell cA (N, ev_a0 a) = arrV cA N (fun _ => defaultValue ty)) (hby : N * componentBytes ty ≤ 536870912) (h1 : ce + 1 ≤ μ.2.2.2.2.1.cells) (h2 : sl + N ≤ μ.2.2.2.2.1.slots)
    (g1 : ¬ k9 < 0) (g2 : ix k9 = N) (o1 : ev_okh hp.length hp = true) (o2 : ev_okl hp.length lo = true) (o3 : ev_oks hp.length st = true) (hk : ev_J l D γ μ κ n (ce + 1) (sl + N) lo (.ref hp.length :: st) (hp ++ [.inl (ty, N, a)]) y w) : ev_J l D γ μ κ pc ce sl lo (.int k9 :: st) hp y w := by
  obtain ⟨p, e, s, m, args, below, meth, c, Q, A, ρ0, n0, Ex⟩ := κ
  subst hn
  intro q hy E ρ ls H locs hl hw
  obtain ⟨hP, hD, hS, hT, hn0, hag⟩ := hw
  refine va_newa (a0 := (N, ev_a0 a)) X.1 X.2.1 (X.2.2.2.2.1 _ w1) hty X.2.2.2.2.2.1 hP hD hS X.2.2.2.2.2.2.1 ha0 g1 g2 hby h1 h2 hd (fun q9 cA H1 hK1 hP1 hD1 hS1 => ?_)
  have ha : ∀ k, k < hp.length → ev_up ρ hp.length q9 cA k = ρ k := fun k hk => ev_up_lt k hk
  have he : ev_w (ev_up ρ hp.length q9 cA) (hp ++ [.inl (ty, N, a)]) = ev_w ρ hp ++ [(q9, .inl (cA, N, ev_a0 a))] := by
    rw [ev_w_push o1]
    have : ev_e (ev_up ρ hp.length q9 cA) hp.length (.inl (ty, N, a)) = .inl (cA, N, ev_a0 a) := by
      rcases a with f | f
      · show (Sum.inl ((ev_up ρ hp.length q9 cA hp.length).2, N, _) : va_E) = _
        rw [ev_up_at]
        rfl
      · show (Sum.inl ((ev_up ρ hp.length q9 cA hp.length).2, N, _) : va_E) = _
        rw [ev_up_at]
        rfl
    rw [this]
  have hst : List.map (ev_v (ev_up ρ hp.length q9 cA)) (.ref hp.length :: st) = .ref q9 :: List.map (ev_v ρ) st := by
    rw [List.map_cons, ev_oks_eq ha o3]
    show Value.ref (ev_up ρ hp.length q9 cA hp.length).1 :: _ = _
    rw [ev_up_at]
  have := hk q hy E (ev_up ρ hp.length q9 cA) ls H1 locs (hl.grow ha o2) ⟨by rw [he]; exact hP1, by rw [he]; exact hD1, hS1, ?_, by rw [List.length_append]; omega, fun k hk => by rw [ev_up_lt k (by omega)]; exact hag k hk⟩
  · rw [hst] at this
    exact this
  · intro k t x hx
    by_cases hkl : k < hp.length
    · rw [List.getElem?_append_left hkl] at hx
      rw [ev_up_lt k hkl]
      exact hT k t x hx
    · rw [List.getElem?_append_right (by omega)] at hx
      have hz : k - hp.length < 1 := (List.getElem?_eq_some_iff.mp hx).1
      have hz0 : k = hp.length := by omega
      subst hz0
      rw [Nat.sub_self] at hx
      cases hx
      rw [ev_up_at]
      exact hK1.2 0 (cA, ty) rfl
theorem js_objI {idx a : Nat} (X : ev_X l D γ μ κ) (hd : decode μ.1 pc = .ok (.invokespecial idx, 3)) (hn : pc + 3 = n) (w1 : Jvm.Cond.methodLink μ.2.2.2.1.cls idx Lib.objectInit ∈ γ.2.2) (w2 : Jvm.Cond.instanceMethod Lib.objectInit ∈ γ.2.2) (w3 : Jvm.Cond.code Lib.objectInit ⟨#[0xb1]⟩ 1 none ∈ γ.2.2) (hf : 1 ≤ μ.2.2.2.2.1.frames) (hlo : 12 ≤ μ.2.2.2.2.1.locals) (hk : ev_J l D γ μ κ n ce sl lo [] hp y w) : ev_J l D γ μ κ pc ce sl lo [.ref a] hp y w := by
  obtain ⟨p, e, s, m, args, below, meth, c, Q, A, ρ0, n0, Ex⟩ := κ
  subst hn
  intro q hy E ρ ls H locs hl hw
  refine W.objInit (rest := []) X.1 X.2.1 X.2.2.2.1 (X.2.2.2.2.1 _ w1) (X.2.2.2.2.1 _ w2) (X.2.2.2.2.1 _ w3) rfl (by rw [X.2.2.1]; exact hl.1) rfl hd hf hlo ?_
  exact hk q hy E ρ ls H locs hl hw
end EVC
end
section
def ev_Pw (D : va_G) (γ : ev_ga) (ρ : ev_R) (hp : ev_H) (sz : Nat) (U : State) : Prop :=
  U.heap.size = sz ∧ va_P D γ.1 (ev_w ρ hp) U.heap ∧ va_K D γ.1 [] U ∧ ev_T ρ hp U ∧ va_D (fun _ => True) (ev_w ρ hp) ∧ ∀ q ∈ γ.2.1, va_Nw (.methodLinkNest q.1 q.2.1 q.2.2.1 q.2.2.2) U
def ev_Bq (D : va_G) (γ : ev_ga) (ρ : ev_R) (hp hp' : ev_H) (sz : Nat) (ρ' : ev_R) (t : State) : Prop :=
  va_P D γ.1 (ev_w ρ' hp') t.heap ∧ ev_T ρ' hp' t ∧ va_D (va_A (ev_w ρ hp) sz) (ev_w ρ' hp')
def ev_ag (ρ : ev_R) (hp hp' : ev_H) (ρ' : ev_R) : Prop := (∀ k, k < hp.length → ρ' k = ρ k) ∧ hp.length ≤ hp'.length
def ev_Q (D : va_G) (γ : ev_ga) (ρ : ev_R) (hp : ev_H) (o : ev_O) (sz : Nat) : Array Value → State → Outcome → State → Prop := match o with
  | (none, hp') => va_Qv (ev_ag ρ hp hp') (ev_Bq D γ ρ hp hp' sz) (va_A (ev_w ρ hp) sz)
  | (some (.int r), hp') => va_Qi (fun r' ρ' => r' = r ∧ ev_ag ρ hp hp' ρ') (ev_Bq D γ ρ hp hp' sz) (va_A (ev_w ρ hp) sz)
  | _ => fun _ _ _ _ => False
/-- a method's contract at the values as over the world hp: what the pure side says, it does -/
def ev_M {α : Type} (l : Launch) (D : va_G) (γ : ev_ga) (μ : ev_mu) (as : List Value) (hp : ev_H) (y : Option α) (w : α → ev_O) : Prop :=
  ∀ (q : α), y = some q → ∀ (ρ : ev_R) (sz : Nat), Met l μ.2.2.2.1 (Jvm.Cond.code μ.2.2.2.1 μ.1 μ.2.1 μ.2.2.1 :: γ.2.2) μ.2.2.2.2.1 (va_Pc (as.map (ev_v ρ)) (ev_Pw D γ ρ hp sz)) (ev_Q D γ ρ hp (w q) sz) μ.2.2.2.2.2.1 μ.2.2.2.2.2.2 (va_A (ev_w ρ hp) sz)
theorem ev_blind {D : va_G} {γ : ev_ga} {ρ : ev_R} {hp : ev_H} {sz : Nat} {av : List Value} : FrameBlind (va_Pc av (ev_Pw D γ ρ hp sz)) := by
  intro a U g mk q
  obtain ⟨q0, q1, qP, qK, qT, qD, qN⟩ := q
  exact ⟨q0, q1, qP, va_K.moved (u := U) (U := U.calling g mk a) (Vm.Alike.refl U.vm) qK, ev_T.moved (u := U) (U := U.calling g mk a) (Vm.Alike.refl U.vm) qT, qD, fun z hz => va_Nw.same rfl (u := U) (U := U.calling g mk a) rfl (qN z hz)⟩
def ev_pop : Nat → List Value → List Value → Option (List Value × List Value)
  | 0, st, acc => some (acc, st)
  | _ + 1, [], _ => none
  | n + 1, v :: st, acc => ev_pop n st (v :: acc)
theorem ev_pop_eq : ∀ {n : Nat} {st acc as st' : List Value}, ev_pop n st acc = some (as, st') → as.reverse ++ st' = acc.reverse ++ st ∧ as.length = acc.length + n
  | 0, st, acc, as, st', h => by
    simp only [ev_pop, Option.some.injEq, Prod.mk.injEq] at h
    obtain ⟨rfl, rfl⟩ := h
    exact ⟨rfl, rfl⟩
  | n + 1, [], acc, as, st', h => by simp [ev_pop] at h
  | n + 1, v :: st, acc, as, st', h => by
    obtain ⟨h1, h2⟩ := ev_pop_eq (n := n) (st := st) (acc := v :: acc) h
    refine ⟨h1.trans (by simp), h2.trans ?_⟩
    rw [List.length_cons]
    omega
def ev_cs : List Value → Nat
  | [] => 0
  | .long _ :: st => ev_cs st + 2
  | .double _ :: st => ev_cs st + 2
  | _ :: st => ev_cs st + 1
theorem ev_cs_eq : ∀ (st : List Value), (st.map fun v => v.category).sum = ev_cs st
  | [] => rfl
  | v :: st => by
    rw [List.map_cons, List.sum_cons, ev_cs_eq st]
    cases v <;> simp [ev_cs, Value.category] <;> omega
def ev_push (v : Option Value) (st : List Value) : List Value := match v with
  | some v => v :: st
  | none => st
section EVM
variable {β : Type} {l : Launch} {D : va_G} {γ : ev_ga} {μ : ev_mu} {κ : ev_ka} {pc n ce sl : Nat} {lo : ev_L} {st : List Value} {hp : ev_H} {y : Option β} {w : β → ev_O}
theorem ev_after {p : Program} {e : Env} {R : Room} {s : State} {m : MethodId} {args : Array Value} {below : List Frame} {meth : Method} {c : Code} {Q : State → Prop} {A : Nat → Prop} {ρ0 ρ : ev_R} {n0 nL : Nat} {st' st0 : List Value} {ls : Array Slot} {H : Heap} {locs : List Loc} {o1 : ev_O} {a : Array Value} {mc' ms' : Nat} (hA : ∀ q, s.heap.size ≤ q → A q) (hl : ev_lo ρ ls nL lo) (hw : ev_wd D γ.1 A s ρ0 n0 ρ hp H locs) (o2 : ev_okl hp.length lo = true) (o3 : ev_oks hp.length st' = true)
    (hrun : va_Run p l e R s m args below meth c H locs ce sl mc' ms' (F0 m pc ls st0) (st'.map (ev_v ρ)) (ev_Q D γ ρ hp o1 H.size a) (va_A (ev_w ρ hp) H.size))
    (hk : ∀ (ρ' : ev_R) (H1 : Heap) (locs1 : List Loc), ev_lo ρ' ls nL lo → ev_wd D γ.1 A s ρ0 n0 ρ' o1.2 H1 locs1 → W p l e R s m args below meth c H1 locs1 (ce + mc') (sl + ms') Q (F0 m (pc + 3) ls ((ev_push o1.1 st').map (ev_v ρ')))) : W p l e R s m args below meth c H locs ce sl Q (F0 m pc ls st0) := by
  obtain ⟨hP, hD, hS, hT, hn0, hag⟩ := hw
  have hFc : ∀ q, va_A (ev_w ρ hp) H.size q → A q := by
    intro q h
    rcases h with ⟨j, x, hj⟩ | h
    · exact hD.2 j _ hj
    · exact hA q (Nat.le_trans hS.1 h)
  have fin : ∀ (ρ' : ev_R) (t : State) (H1 : Heap) (locs1 : List Loc), t.heap = H1 → s.vm.Alike t.vm → ev_ag ρ hp o1.2 ρ' → ev_Bq D γ ρ hp o1.2 H.size ρ' t → va_S A s.heap H1 locs1 → ev_lo ρ' ls nL lo ∧ st'.map (ev_v ρ') = st'.map (ev_v ρ) ∧ ev_wd D γ.1 A s ρ0 n0 ρ' o1.2 H1 locs1 := by
    intro ρ' t H1 locs1 ht hvm hg hB hS1
    obtain ⟨b1, b2, b3⟩ := hB
    rw [ht] at b1
    exact ⟨hl.grow hg.1 o2, ev_oks_eq hg.1 o3, b1, b3.weaken (fun _ _ _ h => hFc _ h), hS1, ev_T.moved hvm.symm b2, Nat.le_trans hn0 hg.2, fun j hj => by rw [hg.1 j (by omega)]; exact hag j hj⟩
  obtain ⟨v, hp'⟩ := o1
  have bad : (∀ T : State, T.heap = H → Stand p l e R s m args below meth c T locs ce sl → False) → W p l e R s m args below meth c H locs ce sl Q (F0 m pc ls st0) := fun h T hT' XS => (h T hT' XS).elim
  match v, hrun, hk, fin with
  | none, hrun, hk, fin =>
    refine va_callv (a := a) hrun hS (fun q _ h => hFc q h) hFc (fun ρ' t H1 locs1 ht hvm hg hB _ _ hS1 => ?_)
    obtain ⟨f1, f2, f3⟩ := fin ρ' t H1 locs1 ht hvm hg hB hS1
    rw [← f2]
    exact hk ρ' H1 locs1 f1 f3
  | some (.int r), hrun, hk, fin =>
    refine va_calli (a := a) hrun hS (fun q _ h => hFc q h) hFc (fun r' ρ' t H1 locs1 ht hvm hg hB _ _ hS1 => ?_)
    obtain ⟨rfl, hg⟩ := hg
    obtain ⟨f1, f2, f3⟩ := fin ρ' t H1 locs1 ht hvm hg hB hS1
    rw [← f2]
    exact hk ρ' H1 locs1 f1 f3
  | some (.long r), hrun, hk, fin => exact bad fun T hT' XS => by obtain ⟨_, _, _, _, _, _, _, _, _, _, hf, _⟩ := hrun T hT' XS; exact hf
  | some (.float r), hrun, hk, fin => exact bad fun T hT' XS => by obtain ⟨_, _, _, _, _, _, _, _, _, _, hf, _⟩ := hrun T hT' XS; exact hf
  | some (.double r), hrun, hk, fin => exact bad fun T hT' XS => by obtain ⟨_, _, _, _, _, _, _, _, _, _, hf, _⟩ := hrun T hT' XS; exact hf
  | some (.ref r), hrun, hk, fin => exact bad fun T hT' XS => by obtain ⟨_, _, _, _, _, _, _, _, _, _, hf, _⟩ := hrun T hT' XS; exact hf
  | some (.retAddr r), hrun, hk, fin => exact bad fun T hT' XS => by obtain ⟨_, _, _, _, _, _, _, _, _, _, hf, _⟩ := hrun T hT' XS; exact hf
  | some .null, hrun, hk, fin => exact bad fun T hT' XS => by obtain ⟨_, _, _, _, _, _, _, _, _, _, hf, _⟩ := hrun T hT' XS; exact hf
theorem ev_pre {s : State} {A : Nat → Prop} {ρ0 ρ : ev_R} {n0 : Nat} {H : Heap} {locs : List Loc} {as : List Value} (hK : va_K D γ.1 [] s) (hN : ∀ q ∈ γ.2.1, va_Nw (.methodLinkNest q.1 q.2.1 q.2.2.1 q.2.2.2) s) (hw : ev_wd D γ.1 A s ρ0 n0 ρ hp H locs) : PreS s H (va_Pc (as.map (ev_v ρ)) (ev_Pw D γ ρ hp H.size)) (as.map (ev_v ρ)) := by
  obtain ⟨hP, hD, hS, hT, hn0, hag⟩ := hw
  exact ⟨ev_blind, fun U hU hW => ⟨rfl, by rw [hU], by rw [hU]; exact hP, va_K.moved hW.alike hK, ev_T.moved hW.alike hT, hD.weaken (fun _ _ _ _ => trivial), fun q hq => va_Nw.warmM hW (hN q hq)⟩⟩
theorem js_callV {α : Type} {na idx ci b : Nat} {C : String} {μ' : ev_mu} {tl : u_T × Nat} {as' st' fs : List Value} {y1 : Option α} {w1 : α → ev_O} {k : α → Option β} (X : ev_X l D γ μ κ) (hd : decode μ.1 pc = .ok (.invokevirtual idx, 3)) (hn : pc + 3 = n) (hM : ev_M l D γ μ' (.ref b :: as') hp y1 w1) (hg : GoodIn γ.2.2 (wsV μ.2.2.2.1.cls idx C μ'.2.2.2.1 (Jvm.Cond.code μ'.2.2.2.1 μ'.1 μ'.2.1 μ'.2.2.1 :: γ.2.2))) (hrc : μ'.2.2.2.2.1.cells = μ'.2.2.2.2.2.1) (hrs : μ'.2.2.2.2.1.slots = μ'.2.2.2.2.2.2)
    (hyy : μ'.2.2.2.1.cls = C ∧ μ'.2.2.2.1.cls ≠ "java/lang/invoke/MethodHandle" ∧ μ'.2.2.2.1.cls ≠ "java/lang/invoke/VarHandle" ∧ (parseMethodDescriptor μ'.2.2.2.1.desc).map (fun d => d.parameters.length) = some na) (hR : μ'.2.2.2.2.1.frames + 1 ≤ μ.2.2.2.2.1.frames ∧ 8 + (μ'.2.1 + 11) + μ'.2.2.2.2.1.locals ≤ μ.2.2.2.2.1.locals) (hc : γ.1[ci]? = some (C, tl)) (hf : ce + μ'.2.2.2.2.2.1 ≤ μ.2.2.2.2.1.cells ∧ sl + μ'.2.2.2.2.2.2 ≤ μ.2.2.2.2.1.slots) (hpop : ev_pop (na + 1) st [] = some (.ref b :: as', st')) (hb : ev_n hp b = some (.inr (ci, fs))) (o2 : ev_okl hp.length lo = true) (o3 : ev_oks hp.length st' = true) (o4 : Nat.ble (ev_cs st') 8 = true) (hk : ∀ q1, ev_J l D γ μ κ n (ce + μ'.2.2.2.2.2.1) (sl + μ'.2.2.2.2.2.2) lo (ev_push (w1 q1).1 st') (w1 q1).2 (k q1) w) : ev_J l D γ μ κ pc ce sl lo st hp (bd y1 k) w := by
  obtain ⟨p, e, s, m, args, below, meth, c, Q, A, ρ0, n0, Ex⟩ := κ
  subst hn
  intro q hy E ρ ls H locs hl hw
  obtain ⟨q1, hy1, hy⟩ := bd_t hy
  obtain ⟨hst, hlen⟩ := ev_pop_eq hpop
  have hst' : st.map (ev_v ρ) = (as'.map (ev_v ρ)).reverse ++ .ref (ρ b).1 :: st'.map (ev_v ρ) := by
    rw [show st = _ from hst.symm]
    simp [ev_v]
  have hlen' : (as'.map (ev_v ρ)).length = na := by
    simp only [List.length_cons, List.length_nil] at hlen
    rw [List.length_map]
    omega
  have hroom : ((st'.map (ev_v ρ)).map fun v => v.category).sum ≤ 8 := by
    rw [ev_v_cats, ev_cs_eq]
    exact Nat.le_of_ble_eq_true o4
  have hpre := ev_pre (as := .ref b :: as') X.2.2.2.2.2.1 X.2.2.2.2.2.2.2.1 hw
  exact ev_after X.2.2.2.2.2.2.1 hl hw o2 o3 (va_runV (As := as'.map (ev_v ρ)) (rest := st'.map (ev_v ρ)) (b := (ρ b).1) ⟨X.1, X.2.1, X.2.2.1, X.2.2.2.1, X.2.2.2.2.1⟩ (hM q1 hy1 ρ H.size) (cwV na X.2.2.2.2.1 hg rfl hrc hrs hyy hR) ⟨hpre.1, va_recv X.2.2.2.2.2.1 hw.1 hc (ev_w_at hb), hpre.2⟩ rfl hlen' hl.1 hst' (lv_room hroom) hd hf) (fun ρ' H1 locs1 a1 a2 => hk q1 q hy E ρ' ls H1 locs1 a1 a2)
theorem js_callS {α : Type} {na idx : Nat} {μ' : ev_mu} {as st' : List Value} {y1 : Option α} {w1 : α → ev_O} {k : α → Option β} (X : ev_X l D γ μ κ) (hd : decode μ.1 pc = .ok (.invokestatic idx, 3)) (hn : pc + 3 = n) (hM : ev_M l D γ μ' as hp y1 w1) (hg : GoodIn γ.2.2 (va_wsS μ.2.2.2.1.cls idx μ'.2.2.2.1 (Jvm.Cond.code μ'.2.2.2.1 μ'.1 μ'.2.1 μ'.2.2.1 :: γ.2.2))) (hrc : μ'.2.2.2.2.1.cells = μ'.2.2.2.2.2.1) (hrs : μ'.2.2.2.2.1.slots = μ'.2.2.2.2.2.2)
    (hyy : μ'.2.2.2.1.cls ≠ "java/lang/invoke/MethodHandle" ∧ μ'.2.2.2.1.cls ≠ "java/lang/invoke/VarHandle" ∧ (parseMethodDescriptor μ'.2.2.2.1.desc).map (fun d => d.parameters.length) = some na) (hR : μ'.2.2.2.2.1.frames + 1 ≤ μ.2.2.2.2.1.frames ∧ 8 + (μ'.2.1 + 11) + μ'.2.2.2.2.1.locals ≤ μ.2.2.2.2.1.locals) (hf : ce + μ'.2.2.2.2.2.1 ≤ μ.2.2.2.2.1.cells ∧ sl + μ'.2.2.2.2.2.2 ≤ μ.2.2.2.2.1.slots) (hpop : ev_pop na st [] = some (as, st')) (o2 : ev_okl hp.length lo = true) (o3 : ev_oks hp.length st' = true) (o4 : Nat.ble (ev_cs st') 8 = true) (hk : ∀ q1, ev_J l D γ μ κ n (ce + μ'.2.2.2.2.2.1) (sl + μ'.2.2.2.2.2.2) lo (ev_push (w1 q1).1 st') (w1 q1).2 (k q1) w) : ev_J l D γ μ κ pc ce sl lo st hp (bd y1 k) w := by
  obtain ⟨p, e, s, m, args, below, meth, c, Q, A, ρ0, n0, Ex⟩ := κ
  subst hn
  intro q hy E ρ ls H locs hl hw
  obtain ⟨q1, hy1, hy⟩ := bd_t hy
  obtain ⟨hst, hlen⟩ := ev_pop_eq hpop
  have hst' : st.map (ev_v ρ) = (as.map (ev_v ρ)).reverse ++ st'.map (ev_v ρ) := by
    rw [show st = _ from hst.symm]
    simp
  have hlen' : (as.map (ev_v ρ)).length = na := by
    simp only [List.length_nil] at hlen
    rw [List.length_map]
    omega
  have hroom : ((st'.map (ev_v ρ)).map fun v => v.category).sum ≤ 8 := by
    rw [ev_v_cats, ev_cs_eq]
    exact Nat.le_of_ble_eq_true o4
  exact ev_after X.2.2.2.2.2.2.1 hl hw o2 o3 (va_runS (As := as.map (ev_v ρ)) (rest := st'.map (ev_v ρ)) ⟨X.1, X.2.1, X.2.2.1, X.2.2.2.1, X.2.2.2.2.1⟩ (hM q1 hy1 ρ H.size) (va_cwS na X.2.2.2.2.1 hg rfl hrc hrs hyy hR) (ev_pre X.2.2.2.2.2.1 X.2.2.2.2.2.2.2.1 hw) rfl hlen' hl.1 hst' (lv_room hroom) hd hf) (fun ρ' H1 locs1 a1 a2 => hk q1 q hy E ρ' ls H1 locs1 a1 a2)
theorem js_callI {α : Type} {na idx b : Nat} {μ' : ev_mu} {as' st' : List Value} {y1 : Option α} {w1 : α → ev_O} {k : α → Option β} (X : ev_X l D γ μ κ) (hd : decode μ.1 pc = .ok (.invokespecial idx, 3)) (hn : pc + 3 = n) (hM : ev_M l D γ μ' (.ref b :: as') hp y1 w1) (hg : GoodIn γ.2.2 (Jvm.Cond.code μ'.2.2.2.1 μ'.1 μ'.2.1 μ'.2.2.1 :: γ.2.2)) (hrc : μ'.2.2.2.2.1.cells = μ'.2.2.2.2.2.1) (hrs : μ'.2.2.2.2.1.slots = μ'.2.2.2.2.2.2) (hret : μ'.2.2.1 = none) (hini : Jvm.Cond.initialized μ'.2.2.2.1.cls ∈ γ.2.2) (hml : (Jvm.Cond.methodLink μ.2.2.2.1.cls idx μ'.2.2.2.1 ∈ γ.2.2) ∨ ∃ host, (μ.2.2.2.1.cls, idx, μ'.2.2.2.1, host) ∈ γ.2.1) (him : Jvm.Cond.instanceMethod μ'.2.2.2.1 ∈ γ.2.2) (hyn : μ'.2.2.2.1.name = "<init>")
    (hyy : μ'.2.2.2.1.cls ≠ "java/lang/invoke/MethodHandle" ∧ μ'.2.2.2.1.cls ≠ "java/lang/invoke/VarHandle" ∧ (parseMethodDescriptor μ'.2.2.2.1.desc).map (fun d => d.parameters.length) = some na) (hR : μ'.2.2.2.2.1.frames + 1 ≤ μ.2.2.2.2.1.frames ∧ 8 + (μ'.2.1 + 11) + μ'.2.2.2.2.1.locals ≤ μ.2.2.2.2.1.locals) (hf : ce + μ'.2.2.2.2.2.1 ≤ μ.2.2.2.2.1.cells ∧ sl + μ'.2.2.2.2.2.2 ≤ μ.2.2.2.2.1.slots) (hpop : ev_pop (na + 1) st [] = some (.ref b :: as', st')) (o2 : ev_okl hp.length lo = true) (o3 : ev_oks hp.length st' = true) (o4 : Nat.ble (ev_cs st') 8 = true) (hk : ∀ q1, ev_J l D γ μ κ n (ce + μ'.2.2.2.2.2.1) (sl + μ'.2.2.2.2.2.2) lo (ev_push (w1 q1).1 st') (w1 q1).2 (k q1) w) : ev_J l D γ μ κ pc ce sl lo st hp (bd y1 k) w := by
  obtain ⟨p, e, s, m, args, below, meth, c, Q, A, ρ0, n0, Ex⟩ := κ
  subst hn
  intro q hy E ρ ls H locs hl hw
  obtain ⟨q1, hy1, hy⟩ := bd_t hy
  obtain ⟨hst, hlen⟩ := ev_pop_eq hpop
  have hst' : st.map (ev_v ρ) = (as'.map (ev_v ρ)).reverse ++ .ref (ρ b).1 :: st'.map (ev_v ρ) := by
    rw [show st = _ from hst.symm]
    simp [ev_v]
  have hlen' : (as'.map (ev_v ρ)).length = na := by
    simp only [List.length_cons, List.length_nil] at hlen
    rw [List.length_map]
    omega
  have hroom : ((st'.map (ev_v ρ)).map fun v => v.category).sum ≤ 8 := by
    rw [ev_v_cats, ev_cs_eq]
    exact Nat.le_of_ble_eq_true o4
  have hpre := ev_pre (as := .ref b :: as') X.2.2.2.2.2.1 X.2.2.2.2.2.2.2.1 hw
  have hM1 := hM q1 hy1 ρ H.size
  rw [hret] at hg hM1
  rcases hml with hml | ⟨host, hml⟩
  · exact ev_after X.2.2.2.2.2.2.1 hl hw o2 o3 (va_runI (As := as'.map (ev_v ρ)) (rest := st'.map (ev_v ρ)) (b := (ρ b).1) ⟨X.1, X.2.1, X.2.2.1, X.2.2.2.1, X.2.2.2.2.1⟩ hM1 (cwI na X.2.2.2.2.1 hg rfl hrc hrs (X.2.2.2.2.1 _ hini) (X.2.2.2.2.1 _ hml) (X.2.2.2.2.1 _ him) hyn hyy hR) hpre rfl hlen' hl.1 hst' (lv_room hroom) hd hf) (fun ρ' H1 locs1 a1 a2 => hk q1 q hy E ρ' ls H1 locs1 a1 a2)
  · exact ev_after X.2.2.2.2.2.2.1 hl hw o2 o3 (va_runIN (As := as'.map (ev_v ρ)) (rest := st'.map (ev_v ρ)) (b := (ρ b).1) ⟨X.1, X.2.1, X.2.2.1, X.2.2.2.1, X.2.2.2.2.1⟩ hM1 ⟨va_cnB na X.2.2.2.2.1 hg rfl hrc hrs (X.2.2.2.2.2.2.2.1 _ hml) (X.2.2.2.2.1 _ hini) hyy hR, hyn, X.2.2.2.2.1 _ him⟩ hpre rfl hlen' hl.1 hst' (lv_room hroom) hd hf) (fun ρ' H1 locs1 a1 a2 => hk q1 q hy E ρ' ls H1 locs1 a1 a2)
/-! returns -/
theorem js_retI {x : Int32} {q : β} (X : ev_X l D γ μ κ) (hd : decode μ.1 pc = .ok (.ireturn, 1)) (hret : μ.2.2.1 = some .int) (h1 : ce ≤ μ.2.2.2.2.2.1) (h2 : sl ≤ μ.2.2.2.2.2.2) (hq : w q = (some (.int x), hp)) : ev_J l D γ μ κ pc ce sl lo [.int x] hp (some q) w := by
  obtain ⟨p, e, s, m, args, below, meth, c, Q, A, ρ0, n0, Ex⟩ := κ
  intro q' hy E ρ ls H locs hl hw
  cases hy
  rw [hq] at E
  have E := X.2.2.2.2.2.2.2.2.2 _ E
  exact W.widen h1 h2 (E pc ρ ls H locs ⟨hd, Or.inl hret⟩ hw)
theorem js_retZ {x : Int32} {q : β} (X : ev_X l D γ μ κ) (hd : decode μ.1 pc = .ok (.ireturn, 1)) (hret : μ.2.2.1 = some .boolean) (h1 : ce ≤ μ.2.2.2.2.2.1) (h2 : sl ≤ μ.2.2.2.2.2.2) (hq : w q = (some (.int x), hp)) : ev_J l D γ μ κ pc ce sl lo [.int x] hp (ck (isB x) (some q)) w := by
  obtain ⟨p, e, s, m, args, below, meth, c, Q, A, ρ0, n0, Ex⟩ := κ
  intro q' hy E ρ ls H locs hl hw
  obtain ⟨hb, hy⟩ := ck_t hy
  cases hy
  rw [hq] at E
  have E := X.2.2.2.2.2.2.2.2.2 _ E
  exact W.widen h1 h2 (E pc ρ ls H locs ⟨hd, Or.inr ⟨hret, hb⟩⟩ hw)
theorem js_retV {q : β} (X : ev_X l D γ μ κ) (hd : decode μ.1 pc = .ok (.return_, 1)) (hret : μ.2.2.1 = none) (h1 : ce ≤ μ.2.2.2.2.2.1) (h2 : sl ≤ μ.2.2.2.2.2.2) (hq : w q = (none, hp)) : ev_J l D γ μ κ pc ce sl lo [] hp (some q) w := by
  obtain ⟨p, e, s, m, args, below, meth, c, Q, A, ρ0, n0, Ex⟩ := κ
  intro q' hy E ρ ls H locs hl hw
  cases hy
  rw [hq] at E
  have E := X.2.2.2.2.2.2.2.2.2 _ E
  exact W.widen h1 h2 (E pc ρ ls H locs ⟨hret, hd⟩ hw)
end EVM
theorem ev_sl_len : ∀ (vs : List Value), (lg_sl vs).length = ev_cs vs
  | [] => rfl
  | v :: vs => by
    have h : lg_sl (v :: vs) = (if v.category = 2 then [.val v, .second] else [.val v]) ++ lg_sl vs := by simp [lg_sl]
    rw [h, List.length_append, ev_sl_len vs]
    cases v <;> simp [ev_cs, Value.category] <;> omega
theorem ev_cs_v (ρ : ev_R) (vs : List Value) : ev_cs (vs.map (ev_v ρ)) = ev_cs vs := by rw [← ev_cs_eq, ← ev_cs_eq, ev_v_cats]
set_option maxHeartbeats 4000000 in
theorem ev_met {α : Type} {l : Launch} {D : va_G} {γ : ev_ga} {μ : ev_mu} {as : List Value} {hp : ev_H} {y : Option α} {w : α → ev_O} (hpl : plainName μ.2.2.2.1.cls = true) (hlen : Nat.ble (ev_cs as) μ.2.1 = true) {lo0 : ev_L} (hlo : ev_ent μ.2.1 as = lo0)
    (hJ : ∀ κ : ev_ka, ev_X l D γ μ κ → ev_J l D γ μ κ 0 0 0 lo0 [] hp y w) : ev_M l D γ μ as hp y w := by
  subst hlo
  intro q hy ρ sz
  have hlen := Nat.le_of_ble_eq_true hlen
  refine Met.ofW (cc := μ.1) (maxL := μ.2.1) (ret := μ.2.2.1) hpl rfl ?_
  intro p e s m args below meth c s₁ B hml hv
  obtain ⟨rfl, hsz, hP, hK, hT, hD0, hN⟩ := hv
  have hts0 := atoms_spec (ws := Jvm.Cond.code μ.2.2.2.1 μ.1 μ.2.1 μ.2.2.1 :: γ.2.2) B.pre
  have hts : ∀ w ∈ γ.2.2, w.before (as.map (ev_v ρ)).toArray s = true := fun w h => hts0 w (List.mem_cons_of_mem _ h)
  have hown : s.vm.findClass μ.2.2.2.1.cls = some m.cls := findClass_of_methodNamed B.named
  have hlocks := B.notSynchronized
  have hin : meth.name = μ.2.2.2.1.name := (name_of_methodNamed B.named B.method).1
  subst hsz
  have hD := hD0.self (sz := s.heap.size)
  have hA : ∀ q : Nat, s.heap.size ≤ q → va_A (ev_w ρ hp) s.heap.size q := fun q h => Or.inr h
  have hl := lv_entry (as.map (ev_v ρ)) (n := μ.2.1) (by rw [ev_sl_len, ev_cs_v]; exact hlen)
  rw [lg_entry_eq]
  generalize (lg_sl (as.map (ev_v ρ)) ++ List.replicate (μ.2.1 - (lg_sl (as.map (ev_v ρ))).length) Slot.unset).toArray = ls at hl ⊢
  refine hJ (p, e, s, m, _, below, meth, c, _, va_A (ev_w ρ hp) s.heap.size, ρ, hp.length, ev_Ex l D γ μ (p, e, s, m, (as.map (ev_v ρ)).toArray, below, meth, c, MQ below (ev_Q D γ ρ hp (w q) s.heap.size) (as.map (ev_v ρ)).toArray s μ.2.2.2.2.2.1 μ.2.2.2.2.2.2 (va_A (ev_w ρ hp) s.heap.size), va_A (ev_w ρ hp) s.heap.size, ρ, hp.length, fun _ => True)) ⟨B.exec, B.bytes, hml, hown, hts, hK, hA, hN, hin, fun _ h => h⟩ q hy ?_ ρ ls s.heap [] (ev_ent_lo hl) ⟨hP, hD, va_S.rf, hT, Nat.le_refl _, fun _ _ => rfl⟩
  intro pc ρ' ls' H locs hrd hw
  obtain ⟨hP1, hD1, hS1, hT1, hn1, hag1⟩ := hw
  have hB : ∀ t : State, t.heap = H → s.WarmedH t.vm → ev_Bq D γ ρ hp (w q).2 s.heap.size ρ' t := fun t ht hW => ⟨by rw [ht]; exact hP1, ev_T.moved hW.alike hT1, hD1⟩
  have hr := B.returns
  generalize w q = o at hrd hn1 hB ⊢
  obtain ⟨v, hp'⟩ := o
  match v, hrd with
  | none, ⟨e1, hd⟩ =>
    rw [e1] at hr
    exact W.vret B.exec B.bytes hr (fun t ht hW => ⟨⟨ρ', rfl, ⟨hag1, hn1⟩, hB t ht hW⟩, hS1.F ht⟩) hS1.2.2 hd
  | some (.int x), ⟨hd, hret⟩ =>
    rcases hret with e1 | ⟨e1, hb⟩
    · rw [e1] at hr
      exact W.iret B.exec B.bytes hr (fun t ht hW => ⟨⟨x, ρ', rfl, ⟨rfl, hag1, hn1⟩, hB t ht hW⟩, hS1.F ht⟩) hS1.2.2 hd
    · rw [e1] at hr
      exact W.zret B.exec B.bytes hr (by rcases isB_or hb with rfl | rfl <;> rfl) (fun t ht hW => ⟨⟨x, ρ', rfl, ⟨rfl, hag1, hn1⟩, hB t ht hW⟩, hS1.F ht⟩) hS1.2.2 hd
def dq (b : ByteArray) (q : Nat × Instr × Nat) : Bool := decide (decode b q.1 = .ok q.2)
theorem dq_t {b : ByteArray} {q : Nat × Instr × Nat} (h : dq b q = true) : decode b q.1 = .ok q.2 := by
  unfold dq at h
  exact of_decide_eq_true h
theorem dg {b : ByteArray} {L : List (Nat × Instr × Nat)} (h : L.all (dq b) = true) (i : Nat) {pc len : Nat} {ins : Instr} (hi : L[i]? = some (pc, ins, len)) : decode b pc = .ok (ins, len) := by
  have h1 := dq_t (List.all_eq_true.mp h _ (List.mem_of_getElem? hi))
  exact h1
end
section
def RX_H : String := "HistoryJudge"
def TX_H : u_T := fun k => match k with
  | 0 => ("HistoryJudge", "program", "LHistoryJudge$Program;", true)
  | 1 => ("HistoryJudge", "trial", "LHistoryJudge$Program;", true)
  | 2 => ("HistoryJudge", "tester", "LHistoryJudge$Tester;", true)
  | 3 => ("HistoryJudge", "draws", "LHistoryJudge$Draws;", true)
  | 4 => ("HistoryJudge", "taken", "I", false)
  | _ => ("HistoryJudge", "runIsCurrent", "Z", false)
def tyX_H : Nat → FieldType := fun k => match k with
  | 0 => .object "HistoryJudge$Program"
  | 1 => .object "HistoryJudge$Program"
  | 2 => .object "HistoryJudge$Tester"
  | 3 => .object "HistoryJudge$Draws"
  | 4 => .int
  | _ => .boolean
def RX_P : String := "HistoryJudge$Program"
def TX_P : u_T := fun k => match k with
  | 0 => ("HistoryJudge$Program", "sizes", "[I", true)
  | 1 => ("HistoryJudge$Program", "kinds", "[I", true)
  | 2 => ("HistoryJudge$Program", "cells", "[I", true)
  | _ => ("HistoryJudge$Program", "arguments", "[I", true)
def tyX_P : Nat → FieldType := fun k => match k with
  | 0 => .array .int
  | 1 => .array .int
  | 2 => .array .int
  | _ => .array .int
def RX_T : String := "HistoryJudge$Tester"
def TX_T : u_T := fun k => match k with
  | 0 => ("HistoryJudge$Tester", "machine", "LHistoryJudge$Machine;", true)
  | 1 => ("HistoryJudge$Tester", "judge", "LHistoryJudge$Judge;", true)
  | 2 => ("HistoryJudge$Tester", "tallies", "[I", true)
  | 3 => ("HistoryJudge$Tester", "flawBits", "I", false)
  | 4 => ("HistoryJudge$Tester", "runs", "I", false)
  | 5 => ("HistoryJudge$Tester", "unexplained", "I", false)
  | 6 => ("HistoryJudge$Tester", "schedule", "I", false)
  | 7 => ("HistoryJudge$Tester", "explained", "Z", false)
  | _ => ("HistoryJudge$Tester", "draws", "LHistoryJudge$Draws;", true)
def tyX_T : Nat → FieldType := fun k => match k with
  | 0 => .object "HistoryJudge$Machine"
  | 1 => .object "HistoryJudge$Judge"
  | 2 => .array .int
  | 3 => .int
  | 4 => .int
  | 5 => .int
  | 6 => .int
  | 7 => .boolean
  | _ => .object "HistoryJudge$Draws"
def RX_M : String := "HistoryJudge$Machine"
def TX_M : u_T := fun k => match k with
  | 0 => ("HistoryJudge$Machine", "answers", "[I", true)
  | 1 => ("HistoryJudge$Machine", "numbers", "[I", true)
  | 2 => ("HistoryJudge$Machine", "calls", "[I", true)
  | 3 => ("HistoryJudge$Machine", "returns", "[I", true)
  | 4 => ("HistoryJudge$Machine", "cells", "I", false)
  | 5 => ("HistoryJudge$Machine", "nextCommand", "[I", true)
  | 6 => ("HistoryJudge$Machine", "nextEvent", "[I", true)
  | 7 => ("HistoryJudge$Machine", "noted", "[I", true)
  | _ => ("HistoryJudge$Machine", "flawBits", "I", false)
def tyX_M : Nat → FieldType := fun k => match k with
  | 0 => .array .int
  | 1 => .array .int
  | 2 => .array .int
  | 3 => .array .int
  | 4 => .int
  | 5 => .array .int
  | 6 => .array .int
  | 7 => .array .int
  | _ => .int
def RX_J : String := "HistoryJudge$Judge"
def TX_J : u_T := fun k => match k with
  | _ => ("HistoryJudge$Judge", "witness", "[I", true)
def tyX_J : Nat → FieldType := fun k => match k with
  | _ => .array .int
def RX_D : String := "HistoryJudge$Draws"
def TX_D : u_T := fun k => match k with
  | _ => ("HistoryJudge$Draws", "state", "J", false)
def tyX_D : Nat → FieldType := fun k => match k with
  | _ => .long
def RX_R : String := "HistoryJudgeModel"
def TX_R : u_T := fun k => match k with
  | 0 => ("HistoryJudgeModel", "thrown", "I", false)
  | 1 => ("HistoryJudgeModel", "sizes", "[I", true)
  | 2 => ("HistoryJudgeModel", "kind", "[I", true)
  | 3 => ("HistoryJudgeModel", "cell", "[I", true)
  | 4 => ("HistoryJudgeModel", "argument", "[I", true)
  | 5 => ("HistoryJudgeModel", "keptSizes", "[I", true)
  | 6 => ("HistoryJudgeModel", "kept", "[I", true)
  | 7 => ("HistoryJudgeModel", "flaws", "I", false)
  | 8 => ("HistoryJudgeModel", "g", "J", false)
  | 9 => ("HistoryJudgeModel", "holds", "[I", true)
  | 10 => ("HistoryJudgeModel", "open", "[Z", true)
  | 11 => ("HistoryJudgeModel", "has", "[I", true)
  | 12 => ("HistoryJudgeModel", "isOpen", "[Z", true)
  | 13 => ("HistoryJudgeModel", "ran", "Z", false)
  | 14 => ("HistoryJudgeModel", "explained", "Z", false)
  | 15 => ("HistoryJudgeModel", "answer", "[I", true)
  | 16 => ("HistoryJudgeModel", "number", "[I", true)
  | 17 => ("HistoryJudgeModel", "call", "[I", true)
  | 18 => ("HistoryJudgeModel", "back", "[I", true)
  | 19 => ("HistoryJudgeModel", "noted", "[I", true)
  | 20 => ("HistoryJudgeModel", "at", "[I", true)
  | 21 => ("HistoryJudgeModel", "event", "[I", true)
  | 22 => ("HistoryJudgeModel", "witness", "I", false)
  | 23 => ("HistoryJudgeModel", "runs", "I", false)
  | 24 => ("HistoryJudgeModel", "wrong", "I", false)
  | 25 => ("HistoryJudgeModel", "taken", "I", false)
  | 26 => ("HistoryJudgeModel", "failing", "I", false)
  | _ => ("HistoryJudgeModel", "tallies", "[I", true)
def tyX_R : Nat → FieldType := fun k => match k with
  | 0 => .int
  | 1 => .array .int
  | 2 => .array .int
  | 3 => .array .int
  | 4 => .array .int
  | 5 => .array .int
  | 6 => .array .int
  | 7 => .int
  | 8 => .long
  | 9 => .array .int
  | 10 => .array .boolean
  | 11 => .array .int
  | 12 => .array .boolean
  | 13 => .boolean
  | 14 => .boolean
  | 15 => .array .int
  | 16 => .array .int
  | 17 => .array .int
  | 18 => .array .int
  | 19 => .array .int
  | 20 => .array .int
  | 21 => .array .int
  | 22 => .int
  | 23 => .int
  | 24 => .int
  | 25 => .int
  | 26 => .int
  | _ => .array .int
abbrev clX : List vw_C := [(RX_H, TX_H, 6), (RX_P, TX_P, 4), (RX_T, TX_T, 9), (RX_M, TX_M, 9), (RX_J, TX_J, 1), (RX_D, TX_D, 1), (RX_R, TX_R, 28)]
def y_P_size : MethodName := ⟨"HistoryJudge$Program", "size", "()I"⟩
def y_P_empty : MethodName := ⟨"HistoryJudge$Program", "empty", "()V"⟩
def y_H_clear : MethodName := ⟨"HistoryJudge", "clear", "()I"⟩
def y_H_isBelow : MethodName := ⟨"HistoryJudge", "isBelow", "(II)Z"⟩
def y_P_copyFrom : MethodName := ⟨"HistoryJudge$Program", "copyFrom", "(LHistoryJudge$Program;)V"⟩
def y_P_start : MethodName := ⟨"HistoryJudge$Program", "start", "(I)I"⟩
def y_P_end : MethodName := ⟨"HistoryJudge$Program", "end", "(I)I"⟩
def y_P_put : MethodName := ⟨"HistoryJudge$Program", "put", "(IIII)V"⟩
def y_P_shiftUp : MethodName := ⟨"HistoryJudge$Program", "shiftUp", "(II)V"⟩
def y_P_renumber : MethodName := ⟨"HistoryJudge$Program", "renumber", "(II)V"⟩
def y_P_append : MethodName := ⟨"HistoryJudge$Program", "append", "(IIII)V"⟩
def y_O_isOpen : MethodName := ⟨"HistoryJudge$Model", "isOpen", "(II)Z"⟩
def y_O_source : MethodName := ⟨"HistoryJudge$Model", "source", "(I)I"⟩
def y_O_allows : MethodName := ⟨"HistoryJudge$Model", "allows", "(III)Z"⟩
def y_O_content : MethodName := ⟨"HistoryJudge$Model", "content", "(II)I"⟩
def y_O_held : MethodName := ⟨"HistoryJudge$Model", "held", "(II)I"⟩
def y_O_after : MethodName := ⟨"HistoryJudge$Model", "after", "(IIII)I"⟩
def y_P_isValidBeside : MethodName := ⟨"HistoryJudge$Program", "isValidBeside", "(II)Z"⟩
def y_P_isValid : MethodName := ⟨"HistoryJudge$Program", "isValid", "()Z"⟩
def y_H_appendIfValid : MethodName := ⟨"HistoryJudge", "appendIfValid", "(IIII)Z"⟩
def y_D_below : MethodName := ⟨"HistoryJudge$Draws", "below", "(I)I"⟩
def y_P_known : MethodName := ⟨"HistoryJudge$Program", "known", "(I)I"⟩
def y_P_knownAt : MethodName := ⟨"HistoryJudge$Program", "knownAt", "(II)I"⟩
def y_H_drawCommand : MethodName := ⟨"HistoryJudge", "drawCommand", "(I)Z"⟩
def y_H_drawBranch : MethodName := ⟨"HistoryJudge", "drawBranch", "(II)V"⟩
def y_P_lower : MethodName := ⟨"HistoryJudge$Program", "lower", "(IZ)Z"⟩
def y_P_hasRoom : MethodName := ⟨"HistoryJudge$Program", "hasRoom", "(I)Z"⟩
def y_P_promote : MethodName := ⟨"HistoryJudge$Program", "promote", "(I)Z"⟩
def y_P_isNeeded : MethodName := ⟨"HistoryJudge$Program", "isNeeded", "(I)Z"⟩
def y_P_branchOf : MethodName := ⟨"HistoryJudge$Program", "branchOf", "(I)I"⟩
def y_P_remove : MethodName := ⟨"HistoryJudge$Program", "remove", "(I)Z"⟩
def y_H_prepareCandidate : MethodName := ⟨"HistoryJudge", "prepareCandidate", "(I)Z"⟩
def y_P_mayTake : MethodName := ⟨"HistoryJudge$Program", "mayTake", "(II)Z"⟩
def y_O_answer : MethodName := ⟨"HistoryJudge$Model", "answer", "(IIII)I"⟩
def y_R_thrown : MethodName := ⟨"HistoryJudgeModel", "thrown", "()I"⟩
def y_R_fail : MethodName := ⟨"HistoryJudgeModel", "fail", "(I)I"⟩
def y_R_within : MethodName := ⟨"HistoryJudgeModel", "within", "(III)Z"⟩
def y_R_many : MethodName := ⟨"HistoryJudgeModel", "many", "()I"⟩
def y_R_branch : MethodName := ⟨"HistoryJudgeModel", "branch", "(I)I"⟩
def y_R_first : MethodName := ⟨"HistoryJudgeModel", "first", "(I)I"⟩
def y_R_mayStand : MethodName := ⟨"HistoryJudgeModel", "mayStand", "(III)Z"⟩
def y_R_placed : MethodName := ⟨"HistoryJudgeModel", "placed", "(II)I"⟩
def y_R_isOrder : MethodName := ⟨"HistoryJudgeModel", "isOrder", "(I)Z"⟩
def y_R_finds : MethodName := ⟨"HistoryJudgeModel", "finds", "(I)Z"⟩
def y_R_fits : MethodName := ⟨"HistoryJudgeModel", "fits", "(I)Z"⟩
def y_R_valid : MethodName := ⟨"HistoryJudgeModel", "valid", "()Z"⟩
def y_R_keep : MethodName := ⟨"HistoryJudgeModel", "keep", "()V"⟩
def y_R_putBack : MethodName := ⟨"HistoryJudgeModel", "putBack", "()V"⟩
def y_R_copy : MethodName := ⟨"HistoryJudgeModel", "copy", "(II)V"⟩
def y_R_insert : MethodName := ⟨"HistoryJudgeModel", "insert", "(IIII)I"⟩
def y_R_leaveOut : MethodName := ⟨"HistoryJudgeModel", "leaveOut", "(I)Z"⟩
def y_R_raise : MethodName := ⟨"HistoryJudgeModel", "raise", "(I)V"⟩
def y_R_add : MethodName := ⟨"HistoryJudgeModel", "add", "(IIII)I"⟩
def y_R_clear : MethodName := ⟨"HistoryJudgeModel", "clear", "()I"⟩
def y_R_drawn : MethodName := ⟨"HistoryJudgeModel", "drawn", "(I)I"⟩
def y_R_before : MethodName := ⟨"HistoryJudgeModel", "before", "(III)I"⟩
def y_R_tried : MethodName := ⟨"HistoryJudgeModel", "tried", "(I)V"⟩
def y_R_make : MethodName := ⟨"HistoryJudgeModel", "make", "(JIII)I"⟩
def y_R_flaws : MethodName := ⟨"HistoryJudgeModel", "flaws", "(I)I"⟩
def y_R_twoParts : MethodName := ⟨"HistoryJudgeModel", "twoParts", "(I)Z"⟩
def y_R_isLate : MethodName := ⟨"HistoryJudgeModel", "isLate", "(I)Z"⟩
def y_R_source : MethodName := ⟨"HistoryJudgeModel", "source", "(I)I"⟩
def y_R_does : MethodName := ⟨"HistoryJudgeModel", "does", "(I)V"⟩
def y_R_calls : MethodName := ⟨"HistoryJudgeModel", "calls", "(I)V"⟩
def y_R_events : MethodName := ⟨"HistoryJudgeModel", "events", "(I)I"⟩
def y_R_happens : MethodName := ⟨"HistoryJudgeModel", "happens", "(III)V"⟩
def y_R_hasLeft : MethodName := ⟨"HistoryJudgeModel", "hasLeft", "(I)Z"⟩
def y_R_go : MethodName := ⟨"HistoryJudgeModel", "go", "(I)V"⟩
def y_R_right : MethodName := ⟨"HistoryJudgeModel", "right", "(I)I"⟩
def y_R_explains : MethodName := ⟨"HistoryJudgeModel", "explains", "(I)Z"⟩
def y_R_judged : MethodName := ⟨"HistoryJudgeModel", "judged", "(I)Z"⟩
def y_R_run : MethodName := ⟨"HistoryJudgeModel", "run", "(I)Z"⟩
def y_R_failed : MethodName := ⟨"HistoryJudgeModel", "failed", "(JI)I"⟩
def y_R_fails : MethodName := ⟨"HistoryJudgeModel", "fails", "(JI)I"⟩
def y_R_takes : MethodName := ⟨"HistoryJudgeModel", "takes", "(ZJI)Z"⟩
def y_R_smaller : MethodName := ⟨"HistoryJudgeModel", "smaller", "(JI)Z"⟩
def y_R_shrink : MethodName := ⟨"HistoryJudgeModel", "shrink", "(JI)I"⟩
def y_R_command : MethodName := ⟨"HistoryJudgeModel", "command", "(II)I"⟩
def y_R_event : MethodName := ⟨"HistoryJudgeModel", "event", "(II)I"⟩
def y_R_order : MethodName := ⟨"HistoryJudgeModel", "order", "(I)I"⟩
def y_R_cell : MethodName := ⟨"HistoryJudgeModel", "cell", "(I)I"⟩
def y_R_count : MethodName := ⟨"HistoryJudgeModel", "count", "(I)I"⟩
def y_R_tally : MethodName := ⟨"HistoryJudgeModel", "tally", "(I)I"⟩
def y_M_numberOf : MethodName := ⟨"HistoryJudge$Machine", "numberOf", "(I)I"⟩
def y_M_isSplit : MethodName := ⟨"HistoryJudge$Machine", "isSplit", "(I)Z"⟩
def y_M_isLate : MethodName := ⟨"HistoryJudge$Machine", "isLate", "(I)Z"⟩
def y_M_act : MethodName := ⟨"HistoryJudge$Machine", "act", "(III)V"⟩
def y_M_actByNote : MethodName := ⟨"HistoryJudge$Machine", "actByNote", "(IIII)V"⟩
def y_M_step : MethodName := ⟨"HistoryJudge$Machine", "step", "(LHistoryJudge$Program;II)V"⟩
def y_M_perform : MethodName := ⟨"HistoryJudge$Machine", "perform", "(LHistoryJudge$Program;II)V"⟩
def y_J_answersSo : MethodName := ⟨"HistoryJudge$Judge", "answersSo", "(LHistoryJudge$Program;LHistoryJudge$Machine;II)Z"⟩
def y_J_after : MethodName := ⟨"HistoryJudge$Judge", "after", "(LHistoryJudge$Program;LHistoryJudge$Machine;II)I"⟩
def y_J_search : MethodName := ⟨"HistoryJudge$Judge", "search", "(LHistoryJudge$Program;LHistoryJudge$Machine;IIII)Z"⟩
def y_J_explains : MethodName := ⟨"HistoryJudge$Judge", "explains", "(LHistoryJudge$Program;LHistoryJudge$Machine;)Z"⟩
def y_T_test : MethodName := ⟨"HistoryJudge$Tester", "test", "(LHistoryJudge$Program;I)Z"⟩
def y_D_restart : MethodName := ⟨"HistoryJudge$Draws", "restart", "(J)V"⟩
def y_T_firstFailure : MethodName := ⟨"HistoryJudge$Tester", "firstFailure", "(LHistoryJudge$Program;JI)I"⟩
def y_H_init : MethodName := ⟨"HistoryJudge", "<init>", "()V"⟩
def y_P_init : MethodName := ⟨"HistoryJudge$Program", "<init>", "()V"⟩
def y_T_init : MethodName := ⟨"HistoryJudge$Tester", "<init>", "()V"⟩
def y_M_init : MethodName := ⟨"HistoryJudge$Machine", "<init>", "()V"⟩
def y_J_init : MethodName := ⟨"HistoryJudge$Judge", "<init>", "()V"⟩
def y_D_init : MethodName := ⟨"HistoryJudge$Draws", "<init>", "()V"⟩
def y_R_init : MethodName := ⟨"HistoryJudgeModel", "<init>", "()V"⟩
def nwX : ev_N := [("HistoryJudge", 11, y_P_init, "HistoryJudge"), ("HistoryJudge$Tester", 11, y_M_init, "HistoryJudge"), ("HistoryJudge$Tester", 20, y_J_init, "HistoryJudge"), ("HistoryJudge$Tester", 48, y_D_init, "HistoryJudge"), ("HistoryJudge", 21, y_T_init, "HistoryJudge"), ("HistoryJudge", 28, y_D_init, "HistoryJudge")]
def lg_0 : List Jvm.Cond := [(Jvm.Cond.fieldLink "HistoryJudge" (12 : Nat) "HistoryJudge" "program" "LHistoryJudge$Program;"),
  (Jvm.Cond.fieldLink "HistoryJudge$Program" (9 : Nat) "HistoryJudge$Program" "sizes" "[I"),
  (Jvm.Cond.code ({ cls := "HistoryJudge$Program", name := "size", desc := "()I" } : Jvm.MethodName) prog_6_method_2_code (1 : Nat) (Option.some Jvm.ClassFile.FieldType.int)),
  (Jvm.Cond.methodLink "HistoryJudge" (79 : Nat) ({ cls := "HistoryJudge$Program", name := "size", desc := "()I" } : Jvm.MethodName)),
  (Jvm.Cond.instanceMethod ({ cls := "HistoryJudge$Program", name := "size", desc := "()I" } : Jvm.MethodName)),
  (Jvm.Cond.selects "HistoryJudge$Program" ({ cls := "HistoryJudge$Program", name := "size", desc := "()I" } : Jvm.MethodName) ({ cls := "HistoryJudge$Program", name := "size", desc := "()I" } : Jvm.MethodName)),
  (Jvm.Cond.initialized "HistoryJudge$Program"),
  (Jvm.Cond.code ({ cls := "HistoryJudge$Program", name := "empty", desc := "()V" } : Jvm.MethodName) prog_6_method_10_code (2 : Nat) (Option.none : Option Jvm.ClassFile.FieldType)),
  (Jvm.Cond.methodLink "HistoryJudge" (83 : Nat) ({ cls := "HistoryJudge$Program", name := "empty", desc := "()V" } : Jvm.MethodName)),
  (Jvm.Cond.instanceMethod ({ cls := "HistoryJudge$Program", name := "empty", desc := "()V" } : Jvm.MethodName)),
  (Jvm.Cond.selects "HistoryJudge$Program" ({ cls := "HistoryJudge$Program", name := "empty", desc := "()V" } : Jvm.MethodName) ({ cls := "HistoryJudge$Program", name := "empty", desc := "()V" } : Jvm.MethodName)),
  (Jvm.Cond.fieldLink "HistoryJudge" (37 : Nat) "HistoryJudge" "runIsCurrent" "Z"),
  (Jvm.Cond.fieldLink "HistoryJudge" (16 : Nat) "HistoryJudge" "trial" "LHistoryJudge$Program;"),
  (Jvm.Cond.methodLink "HistoryJudge$Program" (31 : Nat) ({ cls := "HistoryJudge$Program", name := "size", desc := "()I" } : Jvm.MethodName)),
  (Jvm.Cond.fieldLink "HistoryJudge$Program" (15 : Nat) "HistoryJudge$Program" "kinds" "[I"),
  (Jvm.Cond.methodLink "HistoryJudge$Program" (35 : Nat) ({ cls := "java/lang/System", name := "arraycopy", desc := "(Ljava/lang/Object;ILjava/lang/Object;II)V" } : Jvm.MethodName)),
  (Jvm.Cond.native ({ cls := "java/lang/System", name := "arraycopy", desc := "(Ljava/lang/Object;ILjava/lang/Object;II)V" } : Jvm.MethodName)),
  (Jvm.Cond.static ({ cls := "java/lang/System", name := "arraycopy", desc := "(Ljava/lang/Object;ILjava/lang/Object;II)V" } : Jvm.MethodName)),
  (Jvm.Cond.initialized "java/lang/System"),
  (Jvm.Cond.fieldLink "HistoryJudge$Program" (18 : Nat) "HistoryJudge$Program" "cells" "[I"),
  (Jvm.Cond.fieldLink "HistoryJudge$Program" (21 : Nat) "HistoryJudge$Program" "arguments" "[I"),
  (Jvm.Cond.code ({ cls := "HistoryJudge$Program", name := "copyFrom", desc := "(LHistoryJudge$Program;)V" } : Jvm.MethodName) prog_6_method_11_code (3 : Nat) (Option.none : Option Jvm.ClassFile.FieldType)),
  (Jvm.Cond.methodLink "HistoryJudge" (125 : Nat) ({ cls := "HistoryJudge$Program", name := "copyFrom", desc := "(LHistoryJudge$Program;)V" } : Jvm.MethodName)),
  (Jvm.Cond.instanceMethod ({ cls := "HistoryJudge$Program", name := "copyFrom", desc := "(LHistoryJudge$Program;)V" } : Jvm.MethodName)),
  (Jvm.Cond.selects "HistoryJudge$Program" ({ cls := "HistoryJudge$Program", name := "copyFrom", desc := "(LHistoryJudge$Program;)V" } : Jvm.MethodName) ({ cls := "HistoryJudge$Program", name := "copyFrom", desc := "(LHistoryJudge$Program;)V" } : Jvm.MethodName)),
  (Jvm.Cond.code ({ cls := "HistoryJudge$Program", name := "start", desc := "(I)I" } : Jvm.MethodName) prog_6_method_3_code (2 : Nat) (Option.some Jvm.ClassFile.FieldType.int)),
  (Jvm.Cond.methodLink "HistoryJudge$Program" (24 : Nat) ({ cls := "HistoryJudge$Program", name := "start", desc := "(I)I" } : Jvm.MethodName)),
  (Jvm.Cond.instanceMethod ({ cls := "HistoryJudge$Program", name := "start", desc := "(I)I" } : Jvm.MethodName)),
  (Jvm.Cond.selects "HistoryJudge$Program" ({ cls := "HistoryJudge$Program", name := "start", desc := "(I)I" } : Jvm.MethodName) ({ cls := "HistoryJudge$Program", name := "start", desc := "(I)I" } : Jvm.MethodName)),
  (Jvm.Cond.code ({ cls := "HistoryJudge$Program", name := "end", desc := "(I)I" } : Jvm.MethodName) prog_6_method_4_code (2 : Nat) (Option.some Jvm.ClassFile.FieldType.int)),
  (Jvm.Cond.methodLink "HistoryJudge$Program" (28 : Nat) ({ cls := "HistoryJudge$Program", name := "end", desc := "(I)I" } : Jvm.MethodName)),
  (Jvm.Cond.instanceMethod ({ cls := "HistoryJudge$Program", name := "end", desc := "(I)I" } : Jvm.MethodName)),
  (Jvm.Cond.selects "HistoryJudge$Program" ({ cls := "HistoryJudge$Program", name := "end", desc := "(I)I" } : Jvm.MethodName) ({ cls := "HistoryJudge$Program", name := "end", desc := "(I)I" } : Jvm.MethodName)),
  (Jvm.Cond.code ({ cls := "HistoryJudge$Program", name := "put", desc := "(IIII)V" } : Jvm.MethodName) prog_6_method_19_code (5 : Nat) (Option.none : Option Jvm.ClassFile.FieldType)),
  (Jvm.Cond.methodLink "HistoryJudge$Program" (48 : Nat) ({ cls := "HistoryJudge$Program", name := "put", desc := "(IIII)V" } : Jvm.MethodName)),
  (Jvm.Cond.instanceMethod ({ cls := "HistoryJudge$Program", name := "put", desc := "(IIII)V" } : Jvm.MethodName)),
  (Jvm.Cond.selects "HistoryJudge$Program" ({ cls := "HistoryJudge$Program", name := "put", desc := "(IIII)V" } : Jvm.MethodName) ({ cls := "HistoryJudge$Program", name := "put", desc := "(IIII)V" } : Jvm.MethodName)),
  (Jvm.Cond.code ({ cls := "HistoryJudge$Program", name := "shiftUp", desc := "(II)V" } : Jvm.MethodName) prog_6_method_20_code (4 : Nat) (Option.none : Option Jvm.ClassFile.FieldType)),
  (Jvm.Cond.methodLink "HistoryJudge$Program" (41 : Nat) ({ cls := "HistoryJudge$Program", name := "shiftUp", desc := "(II)V" } : Jvm.MethodName)),
  (Jvm.Cond.instanceMethod ({ cls := "HistoryJudge$Program", name := "shiftUp", desc := "(II)V" } : Jvm.MethodName)),
  (Jvm.Cond.selects "HistoryJudge$Program" ({ cls := "HistoryJudge$Program", name := "shiftUp", desc := "(II)V" } : Jvm.MethodName) ({ cls := "HistoryJudge$Program", name := "shiftUp", desc := "(II)V" } : Jvm.MethodName)),
  (Jvm.Cond.code ({ cls := "HistoryJudge$Program", name := "renumber", desc := "(II)V" } : Jvm.MethodName) prog_6_method_21_code (5 : Nat) (Option.none : Option Jvm.ClassFile.FieldType)),
  (Jvm.Cond.methodLink "HistoryJudge$Program" (45 : Nat) ({ cls := "HistoryJudge$Program", name := "renumber", desc := "(II)V" } : Jvm.MethodName)),
  (Jvm.Cond.instanceMethod ({ cls := "HistoryJudge$Program", name := "renumber", desc := "(II)V" } : Jvm.MethodName)),
  (Jvm.Cond.selects "HistoryJudge$Program" ({ cls := "HistoryJudge$Program", name := "renumber", desc := "(II)V" } : Jvm.MethodName) ({ cls := "HistoryJudge$Program", name := "renumber", desc := "(II)V" } : Jvm.MethodName)),
  (Jvm.Cond.code ({ cls := "HistoryJudge$Program", name := "append", desc := "(IIII)V" } : Jvm.MethodName) prog_6_method_12_code (6 : Nat) (Option.none : Option Jvm.ClassFile.FieldType)),
  (Jvm.Cond.methodLink "HistoryJudge" (212 : Nat) ({ cls := "HistoryJudge$Program", name := "append", desc := "(IIII)V" } : Jvm.MethodName)),
  (Jvm.Cond.instanceMethod ({ cls := "HistoryJudge$Program", name := "append", desc := "(IIII)V" } : Jvm.MethodName)),
  (Jvm.Cond.selects "HistoryJudge$Program" ({ cls := "HistoryJudge$Program", name := "append", desc := "(IIII)V" } : Jvm.MethodName) ({ cls := "HistoryJudge$Program", name := "append", desc := "(IIII)V" } : Jvm.MethodName)),
  (Jvm.Cond.code ({ cls := "HistoryJudge$Model", name := "isOpen", desc := "(II)Z" } : Jvm.MethodName) prog_5_method_4_code (2 : Nat) (Option.some Jvm.ClassFile.FieldType.boolean)),
  (Jvm.Cond.methodLink "HistoryJudge$Model" (11 : Nat) ({ cls := "HistoryJudge$Model", name := "isOpen", desc := "(II)Z" } : Jvm.MethodName)),
  (Jvm.Cond.static ({ cls := "HistoryJudge$Model", name := "isOpen", desc := "(II)Z" } : Jvm.MethodName)),
  (Jvm.Cond.initialized "HistoryJudge$Model"),
  (Jvm.Cond.code ({ cls := "HistoryJudge$Model", name := "source", desc := "(I)I" } : Jvm.MethodName) prog_5_method_5_code (1 : Nat) (Option.some Jvm.ClassFile.FieldType.int)),
  (Jvm.Cond.methodLink "HistoryJudge$Model" (15 : Nat) ({ cls := "HistoryJudge$Model", name := "source", desc := "(I)I" } : Jvm.MethodName)),
  (Jvm.Cond.static ({ cls := "HistoryJudge$Model", name := "source", desc := "(I)I" } : Jvm.MethodName)),
  (Jvm.Cond.code ({ cls := "HistoryJudge$Model", name := "allows", desc := "(III)Z" } : Jvm.MethodName) prog_5_method_6_code (3 : Nat) (Option.some Jvm.ClassFile.FieldType.boolean)),
  (Jvm.Cond.methodLink "HistoryJudge$Program" (64 : Nat) ({ cls := "HistoryJudge$Model", name := "allows", desc := "(III)Z" } : Jvm.MethodName)),
  (Jvm.Cond.static ({ cls := "HistoryJudge$Model", name := "allows", desc := "(III)Z" } : Jvm.MethodName)),
  (Jvm.Cond.code ({ cls := "HistoryJudge$Model", name := "content", desc := "(II)I" } : Jvm.MethodName) prog_5_method_2_code (2 : Nat) (Option.some Jvm.ClassFile.FieldType.int))]
def lg_1 : List Jvm.Cond := [(Jvm.Cond.methodLink "HistoryJudge$Model" (23 : Nat) ({ cls := "HistoryJudge$Model", name := "content", desc := "(II)I" } : Jvm.MethodName)),
  (Jvm.Cond.static ({ cls := "HistoryJudge$Model", name := "content", desc := "(II)I" } : Jvm.MethodName)),
  (Jvm.Cond.code ({ cls := "HistoryJudge$Model", name := "held", desc := "(II)I" } : Jvm.MethodName) prog_5_method_3_code (2 : Nat) (Option.some Jvm.ClassFile.FieldType.int)),
  (Jvm.Cond.methodLink "HistoryJudge$Model" (19 : Nat) ({ cls := "HistoryJudge$Model", name := "held", desc := "(II)I" } : Jvm.MethodName)),
  (Jvm.Cond.static ({ cls := "HistoryJudge$Model", name := "held", desc := "(II)I" } : Jvm.MethodName)),
  (Jvm.Cond.code ({ cls := "HistoryJudge$Model", name := "after", desc := "(IIII)I" } : Jvm.MethodName) prog_5_method_8_code (7 : Nat) (Option.some Jvm.ClassFile.FieldType.int)),
  (Jvm.Cond.methodLink "HistoryJudge$Program" (68 : Nat) ({ cls := "HistoryJudge$Model", name := "after", desc := "(IIII)I" } : Jvm.MethodName)),
  (Jvm.Cond.static ({ cls := "HistoryJudge$Model", name := "after", desc := "(IIII)I" } : Jvm.MethodName)),
  (Jvm.Cond.code ({ cls := "HistoryJudge$Program", name := "isValidBeside", desc := "(II)Z" } : Jvm.MethodName) prog_6_method_17_code (6 : Nat) (Option.some Jvm.ClassFile.FieldType.boolean)),
  (Jvm.Cond.methodLink "HistoryJudge$Program" (72 : Nat) ({ cls := "HistoryJudge$Program", name := "isValidBeside", desc := "(II)Z" } : Jvm.MethodName)),
  (Jvm.Cond.instanceMethod ({ cls := "HistoryJudge$Program", name := "isValidBeside", desc := "(II)Z" } : Jvm.MethodName)),
  (Jvm.Cond.selects "HistoryJudge$Program" ({ cls := "HistoryJudge$Program", name := "isValidBeside", desc := "(II)Z" } : Jvm.MethodName) ({ cls := "HistoryJudge$Program", name := "isValidBeside", desc := "(II)Z" } : Jvm.MethodName)),
  (Jvm.Cond.code ({ cls := "HistoryJudge$Program", name := "isValid", desc := "()Z" } : Jvm.MethodName) prog_6_method_16_code (5 : Nat) (Option.some Jvm.ClassFile.FieldType.boolean)),
  (Jvm.Cond.methodLink "HistoryJudge" (121 : Nat) ({ cls := "HistoryJudge$Program", name := "isValid", desc := "()Z" } : Jvm.MethodName)),
  (Jvm.Cond.instanceMethod ({ cls := "HistoryJudge$Program", name := "isValid", desc := "()Z" } : Jvm.MethodName)),
  (Jvm.Cond.selects "HistoryJudge$Program" ({ cls := "HistoryJudge$Program", name := "isValid", desc := "()Z" } : Jvm.MethodName) ({ cls := "HistoryJudge$Program", name := "isValid", desc := "()Z" } : Jvm.MethodName)),
  (Jvm.Cond.fieldLink "HistoryJudge" (29 : Nat) "HistoryJudge" "draws" "LHistoryJudge$Draws;"),
  (Jvm.Cond.fieldLink "HistoryJudge$Draws" (7 : Nat) "HistoryJudge$Draws" "state" "J"),
  (Jvm.Cond.constantLong "HistoryJudge$Draws" (13 : Nat) (6364136223846793005 : Int64)),
  (Jvm.Cond.constantLong "HistoryJudge$Draws" (15 : Nat) (1442695040888963407 : Int64)),
  (Jvm.Cond.code ({ cls := "HistoryJudge$Draws", name := "below", desc := "(I)I" } : Jvm.MethodName) prog_2_method_3_code (3 : Nat) (Option.some Jvm.ClassFile.FieldType.int)),
  (Jvm.Cond.methodLink "HistoryJudge" (219 : Nat) ({ cls := "HistoryJudge$Draws", name := "below", desc := "(I)I" } : Jvm.MethodName)),
  (Jvm.Cond.instanceMethod ({ cls := "HistoryJudge$Draws", name := "below", desc := "(I)I" } : Jvm.MethodName)),
  (Jvm.Cond.selects "HistoryJudge$Draws" ({ cls := "HistoryJudge$Draws", name := "below", desc := "(I)I" } : Jvm.MethodName) ({ cls := "HistoryJudge$Draws", name := "below", desc := "(I)I" } : Jvm.MethodName)),
  (Jvm.Cond.initialized "HistoryJudge$Draws"),
  (Jvm.Cond.code ({ cls := "HistoryJudge$Program", name := "known", desc := "(I)I" } : Jvm.MethodName) prog_6_method_7_code (2 : Nat) (Option.some Jvm.ClassFile.FieldType.int)),
  (Jvm.Cond.methodLink "HistoryJudge" (222 : Nat) ({ cls := "HistoryJudge$Program", name := "known", desc := "(I)I" } : Jvm.MethodName)),
  (Jvm.Cond.instanceMethod ({ cls := "HistoryJudge$Program", name := "known", desc := "(I)I" } : Jvm.MethodName)),
  (Jvm.Cond.selects "HistoryJudge$Program" ({ cls := "HistoryJudge$Program", name := "known", desc := "(I)I" } : Jvm.MethodName) ({ cls := "HistoryJudge$Program", name := "known", desc := "(I)I" } : Jvm.MethodName)),
  (Jvm.Cond.code ({ cls := "HistoryJudge", name := "appendIfValid", desc := "(IIII)Z" } : Jvm.MethodName) prog_1_method_16_code (5 : Nat) (Option.some Jvm.ClassFile.FieldType.boolean)),
  (Jvm.Cond.methodLink "HistoryJudge" (70 : Nat) ({ cls := "HistoryJudge", name := "appendIfValid", desc := "(IIII)Z" } : Jvm.MethodName)),
  (Jvm.Cond.instanceMethod ({ cls := "HistoryJudge", name := "appendIfValid", desc := "(IIII)Z" } : Jvm.MethodName)),
  (Jvm.Cond.selects "HistoryJudge" ({ cls := "HistoryJudge", name := "appendIfValid", desc := "(IIII)Z" } : Jvm.MethodName) ({ cls := "HistoryJudge", name := "appendIfValid", desc := "(IIII)Z" } : Jvm.MethodName)),
  (Jvm.Cond.initialized "HistoryJudge"),
  (Jvm.Cond.code ({ cls := "HistoryJudge$Program", name := "knownAt", desc := "(II)I" } : Jvm.MethodName) prog_6_method_8_code (3 : Nat) (Option.some Jvm.ClassFile.FieldType.int)),
  (Jvm.Cond.methodLink "HistoryJudge" (225 : Nat) ({ cls := "HistoryJudge$Program", name := "knownAt", desc := "(II)I" } : Jvm.MethodName)),
  (Jvm.Cond.instanceMethod ({ cls := "HistoryJudge$Program", name := "knownAt", desc := "(II)I" } : Jvm.MethodName)),
  (Jvm.Cond.selects "HistoryJudge$Program" ({ cls := "HistoryJudge$Program", name := "knownAt", desc := "(II)I" } : Jvm.MethodName) ({ cls := "HistoryJudge$Program", name := "knownAt", desc := "(II)I" } : Jvm.MethodName)),
  (Jvm.Cond.code ({ cls := "HistoryJudge", name := "drawCommand", desc := "(I)Z" } : Jvm.MethodName) prog_1_method_18_code (7 : Nat) (Option.some Jvm.ClassFile.FieldType.boolean)),
  (Jvm.Cond.methodLink "HistoryJudge" (216 : Nat) ({ cls := "HistoryJudge", name := "drawCommand", desc := "(I)Z" } : Jvm.MethodName)),
  (Jvm.Cond.instanceMethod ({ cls := "HistoryJudge", name := "drawCommand", desc := "(I)Z" } : Jvm.MethodName)),
  (Jvm.Cond.selects "HistoryJudge" ({ cls := "HistoryJudge", name := "drawCommand", desc := "(I)Z" } : Jvm.MethodName) ({ cls := "HistoryJudge", name := "drawCommand", desc := "(I)Z" } : Jvm.MethodName)),
  (Jvm.Cond.code ({ cls := "HistoryJudge$Program", name := "lower", desc := "(IZ)Z" } : Jvm.MethodName) prog_6_method_15_code (4 : Nat) (Option.some Jvm.ClassFile.FieldType.boolean)),
  (Jvm.Cond.methodLink "HistoryJudge" (234 : Nat) ({ cls := "HistoryJudge$Program", name := "lower", desc := "(IZ)Z" } : Jvm.MethodName)),
  (Jvm.Cond.instanceMethod ({ cls := "HistoryJudge$Program", name := "lower", desc := "(IZ)Z" } : Jvm.MethodName)),
  (Jvm.Cond.selects "HistoryJudge$Program" ({ cls := "HistoryJudge$Program", name := "lower", desc := "(IZ)Z" } : Jvm.MethodName) ({ cls := "HistoryJudge$Program", name := "lower", desc := "(IZ)Z" } : Jvm.MethodName)),
  (Jvm.Cond.code ({ cls := "HistoryJudge$Program", name := "hasRoom", desc := "(I)Z" } : Jvm.MethodName) prog_6_method_6_code (2 : Nat) (Option.some Jvm.ClassFile.FieldType.boolean)),
  (Jvm.Cond.methodLink "HistoryJudge$Program" (59 : Nat) ({ cls := "HistoryJudge$Program", name := "hasRoom", desc := "(I)Z" } : Jvm.MethodName)),
  (Jvm.Cond.instanceMethod ({ cls := "HistoryJudge$Program", name := "hasRoom", desc := "(I)Z" } : Jvm.MethodName)),
  (Jvm.Cond.selects "HistoryJudge$Program" ({ cls := "HistoryJudge$Program", name := "hasRoom", desc := "(I)Z" } : Jvm.MethodName) ({ cls := "HistoryJudge$Program", name := "hasRoom", desc := "(I)Z" } : Jvm.MethodName)),
  (Jvm.Cond.code ({ cls := "HistoryJudge$Program", name := "promote", desc := "(I)Z" } : Jvm.MethodName) prog_6_method_14_code (10 : Nat) (Option.some Jvm.ClassFile.FieldType.boolean)),
  (Jvm.Cond.methodLink "HistoryJudge" (231 : Nat) ({ cls := "HistoryJudge$Program", name := "promote", desc := "(I)Z" } : Jvm.MethodName)),
  (Jvm.Cond.instanceMethod ({ cls := "HistoryJudge$Program", name := "promote", desc := "(I)Z" } : Jvm.MethodName)),
  (Jvm.Cond.selects "HistoryJudge$Program" ({ cls := "HistoryJudge$Program", name := "promote", desc := "(I)Z" } : Jvm.MethodName) ({ cls := "HistoryJudge$Program", name := "promote", desc := "(I)Z" } : Jvm.MethodName)),
  (Jvm.Cond.code ({ cls := "HistoryJudge$Program", name := "isNeeded", desc := "(I)Z" } : Jvm.MethodName) prog_6_method_18_code (4 : Nat) (Option.some Jvm.ClassFile.FieldType.boolean)),
  (Jvm.Cond.methodLink "HistoryJudge$Program" (52 : Nat) ({ cls := "HistoryJudge$Program", name := "isNeeded", desc := "(I)Z" } : Jvm.MethodName)),
  (Jvm.Cond.instanceMethod ({ cls := "HistoryJudge$Program", name := "isNeeded", desc := "(I)Z" } : Jvm.MethodName)),
  (Jvm.Cond.selects "HistoryJudge$Program" ({ cls := "HistoryJudge$Program", name := "isNeeded", desc := "(I)Z" } : Jvm.MethodName) ({ cls := "HistoryJudge$Program", name := "isNeeded", desc := "(I)Z" } : Jvm.MethodName)),
  (Jvm.Cond.code ({ cls := "HistoryJudge$Program", name := "branchOf", desc := "(I)I" } : Jvm.MethodName) prog_6_method_5_code (2 : Nat) (Option.some Jvm.ClassFile.FieldType.int)),
  (Jvm.Cond.methodLink "HistoryJudge$Program" (56 : Nat) ({ cls := "HistoryJudge$Program", name := "branchOf", desc := "(I)I" } : Jvm.MethodName))]
def lg_2 : List Jvm.Cond := [(Jvm.Cond.instanceMethod ({ cls := "HistoryJudge$Program", name := "branchOf", desc := "(I)I" } : Jvm.MethodName)),
  (Jvm.Cond.selects "HistoryJudge$Program" ({ cls := "HistoryJudge$Program", name := "branchOf", desc := "(I)I" } : Jvm.MethodName) ({ cls := "HistoryJudge$Program", name := "branchOf", desc := "(I)I" } : Jvm.MethodName)),
  (Jvm.Cond.code ({ cls := "HistoryJudge$Program", name := "remove", desc := "(I)Z" } : Jvm.MethodName) prog_6_method_13_code (4 : Nat) (Option.some Jvm.ClassFile.FieldType.boolean)),
  (Jvm.Cond.methodLink "HistoryJudge" (228 : Nat) ({ cls := "HistoryJudge$Program", name := "remove", desc := "(I)Z" } : Jvm.MethodName)),
  (Jvm.Cond.instanceMethod ({ cls := "HistoryJudge$Program", name := "remove", desc := "(I)Z" } : Jvm.MethodName)),
  (Jvm.Cond.selects "HistoryJudge$Program" ({ cls := "HistoryJudge$Program", name := "remove", desc := "(I)Z" } : Jvm.MethodName) ({ cls := "HistoryJudge$Program", name := "remove", desc := "(I)Z" } : Jvm.MethodName)),
  (Jvm.Cond.fieldLink "HistoryJudgeModel" (65 : Nat) "HistoryJudgeModel" "thrown" "I"),
  (Jvm.Cond.fieldLink "HistoryJudgeModel" (7 : Nat) "HistoryJudgeModel" "sizes" "[I"),
  (Jvm.Cond.code ({ cls := "HistoryJudgeModel", name := "branch", desc := "(I)I" } : Jvm.MethodName) prog_9_method_6_code (2 : Nat) (Option.some Jvm.ClassFile.FieldType.int)),
  (Jvm.Cond.methodLink "HistoryJudgeModel" (69 : Nat) ({ cls := "HistoryJudgeModel", name := "branch", desc := "(I)I" } : Jvm.MethodName)),
  (Jvm.Cond.instanceMethod ({ cls := "HistoryJudgeModel", name := "branch", desc := "(I)I" } : Jvm.MethodName)),
  (Jvm.Cond.selects "HistoryJudgeModel" ({ cls := "HistoryJudgeModel", name := "branch", desc := "(I)I" } : Jvm.MethodName) ({ cls := "HistoryJudgeModel", name := "branch", desc := "(I)I" } : Jvm.MethodName)),
  (Jvm.Cond.initialized "HistoryJudgeModel"),
  (Jvm.Cond.code ({ cls := "HistoryJudgeModel", name := "first", desc := "(I)I" } : Jvm.MethodName) prog_9_method_7_code (2 : Nat) (Option.some Jvm.ClassFile.FieldType.int)),
  (Jvm.Cond.methodLink "HistoryJudgeModel" (73 : Nat) ({ cls := "HistoryJudgeModel", name := "first", desc := "(I)I" } : Jvm.MethodName)),
  (Jvm.Cond.instanceMethod ({ cls := "HistoryJudgeModel", name := "first", desc := "(I)I" } : Jvm.MethodName)),
  (Jvm.Cond.selects "HistoryJudgeModel" ({ cls := "HistoryJudgeModel", name := "first", desc := "(I)I" } : Jvm.MethodName) ({ cls := "HistoryJudgeModel", name := "first", desc := "(I)I" } : Jvm.MethodName)),
  (Jvm.Cond.fieldLink "HistoryJudgeModel" (16 : Nat) "HistoryJudgeModel" "cell" "[I"),
  (Jvm.Cond.fieldLink "HistoryJudgeModel" (13 : Nat) "HistoryJudgeModel" "kind" "[I"),
  (Jvm.Cond.fieldLink "HistoryJudgeModel" (31 : Nat) "HistoryJudgeModel" "open" "[Z"),
  (Jvm.Cond.code ({ cls := "HistoryJudgeModel", name := "placed", desc := "(II)I" } : Jvm.MethodName) prog_9_method_9_code (6 : Nat) (Option.some Jvm.ClassFile.FieldType.int)),
  (Jvm.Cond.methodLink "HistoryJudgeModel" (80 : Nat) ({ cls := "HistoryJudgeModel", name := "placed", desc := "(II)I" } : Jvm.MethodName)),
  (Jvm.Cond.instanceMethod ({ cls := "HistoryJudgeModel", name := "placed", desc := "(II)I" } : Jvm.MethodName)),
  (Jvm.Cond.selects "HistoryJudgeModel" ({ cls := "HistoryJudgeModel", name := "placed", desc := "(II)I" } : Jvm.MethodName) ({ cls := "HistoryJudgeModel", name := "placed", desc := "(II)I" } : Jvm.MethodName)),
  (Jvm.Cond.code ({ cls := "HistoryJudgeModel", name := "finds", desc := "(I)Z" } : Jvm.MethodName) prog_9_method_11_code (4 : Nat) (Option.some Jvm.ClassFile.FieldType.boolean)),
  (Jvm.Cond.methodLink "HistoryJudgeModel" (76 : Nat) ({ cls := "HistoryJudgeModel", name := "finds", desc := "(I)Z" } : Jvm.MethodName)),
  (Jvm.Cond.instanceMethod ({ cls := "HistoryJudgeModel", name := "finds", desc := "(I)Z" } : Jvm.MethodName)),
  (Jvm.Cond.selects "HistoryJudgeModel" ({ cls := "HistoryJudgeModel", name := "finds", desc := "(I)Z" } : Jvm.MethodName) ({ cls := "HistoryJudgeModel", name := "finds", desc := "(I)Z" } : Jvm.MethodName)),
  (Jvm.Cond.code ({ cls := "HistoryJudgeModel", name := "many", desc := "()I" } : Jvm.MethodName) prog_9_method_5_code (1 : Nat) (Option.some Jvm.ClassFile.FieldType.int)),
  (Jvm.Cond.methodLink "HistoryJudgeModel" (84 : Nat) ({ cls := "HistoryJudgeModel", name := "many", desc := "()I" } : Jvm.MethodName)),
  (Jvm.Cond.instanceMethod ({ cls := "HistoryJudgeModel", name := "many", desc := "()I" } : Jvm.MethodName)),
  (Jvm.Cond.selects "HistoryJudgeModel" ({ cls := "HistoryJudgeModel", name := "many", desc := "()I" } : Jvm.MethodName) ({ cls := "HistoryJudgeModel", name := "many", desc := "()I" } : Jvm.MethodName)),
  (Jvm.Cond.code ({ cls := "HistoryJudgeModel", name := "isOrder", desc := "(I)Z" } : Jvm.MethodName) prog_9_method_10_code (4 : Nat) (Option.some Jvm.ClassFile.FieldType.boolean)),
  (Jvm.Cond.methodLink "HistoryJudgeModel" (92 : Nat) ({ cls := "HistoryJudgeModel", name := "isOrder", desc := "(I)Z" } : Jvm.MethodName)),
  (Jvm.Cond.instanceMethod ({ cls := "HistoryJudgeModel", name := "isOrder", desc := "(I)Z" } : Jvm.MethodName)),
  (Jvm.Cond.selects "HistoryJudgeModel" ({ cls := "HistoryJudgeModel", name := "isOrder", desc := "(I)Z" } : Jvm.MethodName) ({ cls := "HistoryJudgeModel", name := "isOrder", desc := "(I)Z" } : Jvm.MethodName)),
  (Jvm.Cond.code ({ cls := "HistoryJudgeModel", name := "fits", desc := "(I)Z" } : Jvm.MethodName) prog_9_method_12_code (4 : Nat) (Option.some Jvm.ClassFile.FieldType.boolean)),
  (Jvm.Cond.methodLink "HistoryJudgeModel" (95 : Nat) ({ cls := "HistoryJudgeModel", name := "fits", desc := "(I)Z" } : Jvm.MethodName)),
  (Jvm.Cond.instanceMethod ({ cls := "HistoryJudgeModel", name := "fits", desc := "(I)Z" } : Jvm.MethodName)),
  (Jvm.Cond.selects "HistoryJudgeModel" ({ cls := "HistoryJudgeModel", name := "fits", desc := "(I)Z" } : Jvm.MethodName) ({ cls := "HistoryJudgeModel", name := "fits", desc := "(I)Z" } : Jvm.MethodName)),
  (Jvm.Cond.fieldLink "HistoryJudgeModel" (19 : Nat) "HistoryJudgeModel" "argument" "[I"),
  (Jvm.Cond.code ({ cls := "HistoryJudgeModel", name := "mayStand", desc := "(III)Z" } : Jvm.MethodName) prog_9_method_8_code (4 : Nat) (Option.some Jvm.ClassFile.FieldType.boolean)),
  (Jvm.Cond.methodLink "HistoryJudgeModel" (88 : Nat) ({ cls := "HistoryJudgeModel", name := "mayStand", desc := "(III)Z" } : Jvm.MethodName)),
  (Jvm.Cond.instanceMethod ({ cls := "HistoryJudgeModel", name := "mayStand", desc := "(III)Z" } : Jvm.MethodName)),
  (Jvm.Cond.selects "HistoryJudgeModel" ({ cls := "HistoryJudgeModel", name := "mayStand", desc := "(III)Z" } : Jvm.MethodName) ({ cls := "HistoryJudgeModel", name := "mayStand", desc := "(III)Z" } : Jvm.MethodName)),
  (Jvm.Cond.fieldLink "HistoryJudgeModel" (25 : Nat) "HistoryJudgeModel" "kept" "[I"),
  (Jvm.Cond.fieldLink "HistoryJudgeModel" (22 : Nat) "HistoryJudgeModel" "keptSizes" "[I"),
  (Jvm.Cond.code ({ cls := "HistoryJudgeModel", name := "copy", desc := "(II)V" } : Jvm.MethodName) prog_9_method_16_code (3 : Nat) (Option.none : Option Jvm.ClassFile.FieldType)),
  (Jvm.Cond.methodLink "HistoryJudgeModel" (98 : Nat) ({ cls := "HistoryJudgeModel", name := "copy", desc := "(II)V" } : Jvm.MethodName)),
  (Jvm.Cond.instanceMethod ({ cls := "HistoryJudgeModel", name := "copy", desc := "(II)V" } : Jvm.MethodName)),
  (Jvm.Cond.selects "HistoryJudgeModel" ({ cls := "HistoryJudgeModel", name := "copy", desc := "(II)V" } : Jvm.MethodName) ({ cls := "HistoryJudgeModel", name := "copy", desc := "(II)V" } : Jvm.MethodName)),
  (Jvm.Cond.code ({ cls := "HistoryJudgeModel", name := "within", desc := "(III)Z" } : Jvm.MethodName) prog_9_method_4_code (3 : Nat) (Option.some Jvm.ClassFile.FieldType.boolean)),
  (Jvm.Cond.methodLink "HistoryJudgeModel" (102 : Nat) ({ cls := "HistoryJudgeModel", name := "within", desc := "(III)Z" } : Jvm.MethodName)),
  (Jvm.Cond.static ({ cls := "HistoryJudgeModel", name := "within", desc := "(III)Z" } : Jvm.MethodName)),
  (Jvm.Cond.code ({ cls := "HistoryJudgeModel", name := "fail", desc := "(I)I" } : Jvm.MethodName) prog_9_method_3_code (2 : Nat) (Option.some Jvm.ClassFile.FieldType.int)),
  (Jvm.Cond.methodLink "HistoryJudgeModel" (105 : Nat) ({ cls := "HistoryJudgeModel", name := "fail", desc := "(I)I" } : Jvm.MethodName)),
  (Jvm.Cond.instanceMethod ({ cls := "HistoryJudgeModel", name := "fail", desc := "(I)I" } : Jvm.MethodName)),
  (Jvm.Cond.selects "HistoryJudgeModel" ({ cls := "HistoryJudgeModel", name := "fail", desc := "(I)I" } : Jvm.MethodName) ({ cls := "HistoryJudgeModel", name := "fail", desc := "(I)I" } : Jvm.MethodName)),
  (Jvm.Cond.code ({ cls := "HistoryJudgeModel", name := "keep", desc := "()V" } : Jvm.MethodName) prog_9_method_14_code (2 : Nat) (Option.none : Option Jvm.ClassFile.FieldType)),
  (Jvm.Cond.methodLink "HistoryJudgeModel" (108 : Nat) ({ cls := "HistoryJudgeModel", name := "keep", desc := "()V" } : Jvm.MethodName))]
def lg_3 : List Jvm.Cond := [(Jvm.Cond.instanceMethod ({ cls := "HistoryJudgeModel", name := "keep", desc := "()V" } : Jvm.MethodName)),
  (Jvm.Cond.selects "HistoryJudgeModel" ({ cls := "HistoryJudgeModel", name := "keep", desc := "()V" } : Jvm.MethodName) ({ cls := "HistoryJudgeModel", name := "keep", desc := "()V" } : Jvm.MethodName)),
  (Jvm.Cond.code ({ cls := "HistoryJudgeModel", name := "insert", desc := "(IIII)I" } : Jvm.MethodName) prog_9_method_17_code (7 : Nat) (Option.some Jvm.ClassFile.FieldType.int)),
  (Jvm.Cond.methodLink "HistoryJudgeModel" (111 : Nat) ({ cls := "HistoryJudgeModel", name := "insert", desc := "(IIII)I" } : Jvm.MethodName)),
  (Jvm.Cond.instanceMethod ({ cls := "HistoryJudgeModel", name := "insert", desc := "(IIII)I" } : Jvm.MethodName)),
  (Jvm.Cond.selects "HistoryJudgeModel" ({ cls := "HistoryJudgeModel", name := "insert", desc := "(IIII)I" } : Jvm.MethodName) ({ cls := "HistoryJudgeModel", name := "insert", desc := "(IIII)I" } : Jvm.MethodName)),
  (Jvm.Cond.code ({ cls := "HistoryJudgeModel", name := "valid", desc := "()Z" } : Jvm.MethodName) prog_9_method_13_code (4 : Nat) (Option.some Jvm.ClassFile.FieldType.boolean)),
  (Jvm.Cond.methodLink "HistoryJudgeModel" (115 : Nat) ({ cls := "HistoryJudgeModel", name := "valid", desc := "()Z" } : Jvm.MethodName)),
  (Jvm.Cond.instanceMethod ({ cls := "HistoryJudgeModel", name := "valid", desc := "()Z" } : Jvm.MethodName)),
  (Jvm.Cond.selects "HistoryJudgeModel" ({ cls := "HistoryJudgeModel", name := "valid", desc := "()Z" } : Jvm.MethodName) ({ cls := "HistoryJudgeModel", name := "valid", desc := "()Z" } : Jvm.MethodName)),
  (Jvm.Cond.fieldLink "HistoryJudgeModel" (122 : Nat) "HistoryJudgeModel" "ran" "Z"),
  (Jvm.Cond.code ({ cls := "HistoryJudgeModel", name := "putBack", desc := "()V" } : Jvm.MethodName) prog_9_method_15_code (2 : Nat) (Option.none : Option Jvm.ClassFile.FieldType)),
  (Jvm.Cond.methodLink "HistoryJudgeModel" (119 : Nat) ({ cls := "HistoryJudgeModel", name := "putBack", desc := "()V" } : Jvm.MethodName)),
  (Jvm.Cond.instanceMethod ({ cls := "HistoryJudgeModel", name := "putBack", desc := "()V" } : Jvm.MethodName)),
  (Jvm.Cond.selects "HistoryJudgeModel" ({ cls := "HistoryJudgeModel", name := "putBack", desc := "()V" } : Jvm.MethodName) ({ cls := "HistoryJudgeModel", name := "putBack", desc := "()V" } : Jvm.MethodName)),
  (Jvm.Cond.fieldLink "HistoryJudgeModel" (126 : Nat) "HistoryJudgeModel" "g" "J"),
  (Jvm.Cond.constantLong "HistoryJudgeModel" (130 : Nat) (6364136223846793005 : Int64)),
  (Jvm.Cond.constantLong "HistoryJudgeModel" (132 : Nat) (1442695040888963407 : Int64)),
  (Jvm.Cond.code ({ cls := "HistoryJudgeModel", name := "drawn", desc := "(I)I" } : Jvm.MethodName) prog_9_method_22_code (2 : Nat) (Option.some Jvm.ClassFile.FieldType.int)),
  (Jvm.Cond.methodLink "HistoryJudgeModel" (134 : Nat) ({ cls := "HistoryJudgeModel", name := "drawn", desc := "(I)I" } : Jvm.MethodName)),
  (Jvm.Cond.instanceMethod ({ cls := "HistoryJudgeModel", name := "drawn", desc := "(I)I" } : Jvm.MethodName)),
  (Jvm.Cond.selects "HistoryJudgeModel" ({ cls := "HistoryJudgeModel", name := "drawn", desc := "(I)I" } : Jvm.MethodName) ({ cls := "HistoryJudgeModel", name := "drawn", desc := "(I)I" } : Jvm.MethodName)),
  (Jvm.Cond.code ({ cls := "HistoryJudgeModel", name := "before", desc := "(III)I" } : Jvm.MethodName) prog_9_method_24_code (6 : Nat) (Option.some Jvm.ClassFile.FieldType.int)),
  (Jvm.Cond.methodLink "HistoryJudgeModel" (137 : Nat) ({ cls := "HistoryJudgeModel", name := "before", desc := "(III)I" } : Jvm.MethodName)),
  (Jvm.Cond.instanceMethod ({ cls := "HistoryJudgeModel", name := "before", desc := "(III)I" } : Jvm.MethodName)),
  (Jvm.Cond.selects "HistoryJudgeModel" ({ cls := "HistoryJudgeModel", name := "before", desc := "(III)I" } : Jvm.MethodName) ({ cls := "HistoryJudgeModel", name := "before", desc := "(III)I" } : Jvm.MethodName)),
  (Jvm.Cond.code ({ cls := "HistoryJudgeModel", name := "clear", desc := "()I" } : Jvm.MethodName) prog_9_method_21_code (3 : Nat) (Option.some Jvm.ClassFile.FieldType.int)),
  (Jvm.Cond.methodLink "HistoryJudgeModel" (141 : Nat) ({ cls := "HistoryJudgeModel", name := "clear", desc := "()I" } : Jvm.MethodName)),
  (Jvm.Cond.instanceMethod ({ cls := "HistoryJudgeModel", name := "clear", desc := "()I" } : Jvm.MethodName)),
  (Jvm.Cond.selects "HistoryJudgeModel" ({ cls := "HistoryJudgeModel", name := "clear", desc := "()I" } : Jvm.MethodName) ({ cls := "HistoryJudgeModel", name := "clear", desc := "()I" } : Jvm.MethodName)),
  (Jvm.Cond.code ({ cls := "HistoryJudgeModel", name := "tried", desc := "(I)V" } : Jvm.MethodName) prog_9_method_23_code (12 : Nat) (Option.none : Option Jvm.ClassFile.FieldType)),
  (Jvm.Cond.methodLink "HistoryJudgeModel" (144 : Nat) ({ cls := "HistoryJudgeModel", name := "tried", desc := "(I)V" } : Jvm.MethodName)),
  (Jvm.Cond.instanceMethod ({ cls := "HistoryJudgeModel", name := "tried", desc := "(I)V" } : Jvm.MethodName)),
  (Jvm.Cond.selects "HistoryJudgeModel" ({ cls := "HistoryJudgeModel", name := "tried", desc := "(I)V" } : Jvm.MethodName) ({ cls := "HistoryJudgeModel", name := "tried", desc := "(I)V" } : Jvm.MethodName)),
  (Jvm.Cond.fieldLink "HistoryJudgeModel" (148 : Nat) "HistoryJudgeModel" "flaws" "I"),
  (Jvm.Cond.fieldLink "HistoryJudgeModel" (44 : Nat) "HistoryJudgeModel" "number" "[I"),
  (Jvm.Cond.fieldLink "HistoryJudgeModel" (53 : Nat) "HistoryJudgeModel" "noted" "[I"),
  (Jvm.Cond.fieldLink "HistoryJudgeModel" (41 : Nat) "HistoryJudgeModel" "answer" "[I"),
  (Jvm.Cond.fieldLink "HistoryJudgeModel" (35 : Nat) "HistoryJudgeModel" "has" "[I"),
  (Jvm.Cond.fieldLink "HistoryJudgeModel" (38 : Nat) "HistoryJudgeModel" "isOpen" "[Z"),
  (Jvm.Cond.code ({ cls := "HistoryJudgeModel", name := "isLate", desc := "(I)Z" } : Jvm.MethodName) prog_9_method_28_code (2 : Nat) (Option.some Jvm.ClassFile.FieldType.boolean)),
  (Jvm.Cond.methodLink "HistoryJudgeModel" (151 : Nat) ({ cls := "HistoryJudgeModel", name := "isLate", desc := "(I)Z" } : Jvm.MethodName)),
  (Jvm.Cond.instanceMethod ({ cls := "HistoryJudgeModel", name := "isLate", desc := "(I)Z" } : Jvm.MethodName)),
  (Jvm.Cond.selects "HistoryJudgeModel" ({ cls := "HistoryJudgeModel", name := "isLate", desc := "(I)Z" } : Jvm.MethodName) ({ cls := "HistoryJudgeModel", name := "isLate", desc := "(I)Z" } : Jvm.MethodName)),
  (Jvm.Cond.code ({ cls := "HistoryJudgeModel", name := "twoParts", desc := "(I)Z" } : Jvm.MethodName) prog_9_method_27_code (2 : Nat) (Option.some Jvm.ClassFile.FieldType.boolean)),
  (Jvm.Cond.methodLink "HistoryJudgeModel" (154 : Nat) ({ cls := "HistoryJudgeModel", name := "twoParts", desc := "(I)Z" } : Jvm.MethodName)),
  (Jvm.Cond.instanceMethod ({ cls := "HistoryJudgeModel", name := "twoParts", desc := "(I)Z" } : Jvm.MethodName)),
  (Jvm.Cond.selects "HistoryJudgeModel" ({ cls := "HistoryJudgeModel", name := "twoParts", desc := "(I)Z" } : Jvm.MethodName) ({ cls := "HistoryJudgeModel", name := "twoParts", desc := "(I)Z" } : Jvm.MethodName)),
  (Jvm.Cond.fieldLink "HistoryJudgeModel" (50 : Nat) "HistoryJudgeModel" "back" "[I"),
  (Jvm.Cond.code ({ cls := "HistoryJudgeModel", name := "does", desc := "(I)V" } : Jvm.MethodName) prog_9_method_30_code (5 : Nat) (Option.none : Option Jvm.ClassFile.FieldType)),
  (Jvm.Cond.methodLink "HistoryJudgeModel" (163 : Nat) ({ cls := "HistoryJudgeModel", name := "does", desc := "(I)V" } : Jvm.MethodName)),
  (Jvm.Cond.instanceMethod ({ cls := "HistoryJudgeModel", name := "does", desc := "(I)V" } : Jvm.MethodName)),
  (Jvm.Cond.selects "HistoryJudgeModel" ({ cls := "HistoryJudgeModel", name := "does", desc := "(I)V" } : Jvm.MethodName) ({ cls := "HistoryJudgeModel", name := "does", desc := "(I)V" } : Jvm.MethodName)),
  (Jvm.Cond.code ({ cls := "HistoryJudgeModel", name := "source", desc := "(I)I" } : Jvm.MethodName) prog_9_method_29_code (2 : Nat) (Option.some Jvm.ClassFile.FieldType.int)),
  (Jvm.Cond.methodLink "HistoryJudgeModel" (160 : Nat) ({ cls := "HistoryJudgeModel", name := "source", desc := "(I)I" } : Jvm.MethodName)),
  (Jvm.Cond.instanceMethod ({ cls := "HistoryJudgeModel", name := "source", desc := "(I)I" } : Jvm.MethodName)),
  (Jvm.Cond.selects "HistoryJudgeModel" ({ cls := "HistoryJudgeModel", name := "source", desc := "(I)I" } : Jvm.MethodName) ({ cls := "HistoryJudgeModel", name := "source", desc := "(I)I" } : Jvm.MethodName)),
  (Jvm.Cond.code ({ cls := "HistoryJudgeModel", name := "calls", desc := "(I)V" } : Jvm.MethodName) prog_9_method_31_code (2 : Nat) (Option.none : Option Jvm.ClassFile.FieldType)),
  (Jvm.Cond.methodLink "HistoryJudgeModel" (157 : Nat) ({ cls := "HistoryJudgeModel", name := "calls", desc := "(I)V" } : Jvm.MethodName)),
  (Jvm.Cond.instanceMethod ({ cls := "HistoryJudgeModel", name := "calls", desc := "(I)V" } : Jvm.MethodName))]
def lg_4 : List Jvm.Cond := [(Jvm.Cond.selects "HistoryJudgeModel" ({ cls := "HistoryJudgeModel", name := "calls", desc := "(I)V" } : Jvm.MethodName) ({ cls := "HistoryJudgeModel", name := "calls", desc := "(I)V" } : Jvm.MethodName)),
  (Jvm.Cond.fieldLink "HistoryJudgeModel" (47 : Nat) "HistoryJudgeModel" "call" "[I"),
  (Jvm.Cond.fieldLink "HistoryJudgeModel" (56 : Nat) "HistoryJudgeModel" "at" "[I"),
  (Jvm.Cond.code ({ cls := "HistoryJudgeModel", name := "hasLeft", desc := "(I)Z" } : Jvm.MethodName) prog_9_method_34_code (2 : Nat) (Option.some Jvm.ClassFile.FieldType.boolean)),
  (Jvm.Cond.methodLink "HistoryJudgeModel" (173 : Nat) ({ cls := "HistoryJudgeModel", name := "hasLeft", desc := "(I)Z" } : Jvm.MethodName)),
  (Jvm.Cond.instanceMethod ({ cls := "HistoryJudgeModel", name := "hasLeft", desc := "(I)Z" } : Jvm.MethodName)),
  (Jvm.Cond.selects "HistoryJudgeModel" ({ cls := "HistoryJudgeModel", name := "hasLeft", desc := "(I)Z" } : Jvm.MethodName) ({ cls := "HistoryJudgeModel", name := "hasLeft", desc := "(I)Z" } : Jvm.MethodName)),
  (Jvm.Cond.fieldLink "HistoryJudgeModel" (59 : Nat) "HistoryJudgeModel" "event" "[I"),
  (Jvm.Cond.code ({ cls := "HistoryJudgeModel", name := "happens", desc := "(III)V" } : Jvm.MethodName) prog_9_method_33_code (5 : Nat) (Option.none : Option Jvm.ClassFile.FieldType)),
  (Jvm.Cond.methodLink "HistoryJudgeModel" (169 : Nat) ({ cls := "HistoryJudgeModel", name := "happens", desc := "(III)V" } : Jvm.MethodName)),
  (Jvm.Cond.instanceMethod ({ cls := "HistoryJudgeModel", name := "happens", desc := "(III)V" } : Jvm.MethodName)),
  (Jvm.Cond.selects "HistoryJudgeModel" ({ cls := "HistoryJudgeModel", name := "happens", desc := "(III)V" } : Jvm.MethodName) ({ cls := "HistoryJudgeModel", name := "happens", desc := "(III)V" } : Jvm.MethodName)),
  (Jvm.Cond.code ({ cls := "HistoryJudgeModel", name := "events", desc := "(I)I" } : Jvm.MethodName) prog_9_method_32_code (2 : Nat) (Option.some Jvm.ClassFile.FieldType.int)),
  (Jvm.Cond.methodLink "HistoryJudgeModel" (166 : Nat) ({ cls := "HistoryJudgeModel", name := "events", desc := "(I)I" } : Jvm.MethodName)),
  (Jvm.Cond.instanceMethod ({ cls := "HistoryJudgeModel", name := "events", desc := "(I)I" } : Jvm.MethodName)),
  (Jvm.Cond.selects "HistoryJudgeModel" ({ cls := "HistoryJudgeModel", name := "events", desc := "(I)I" } : Jvm.MethodName) ({ cls := "HistoryJudgeModel", name := "events", desc := "(I)I" } : Jvm.MethodName)),
  (Jvm.Cond.fieldLink "HistoryJudgeModel" (28 : Nat) "HistoryJudgeModel" "holds" "[I"),
  (Jvm.Cond.code ({ cls := "HistoryJudgeModel", name := "right", desc := "(I)I" } : Jvm.MethodName) prog_9_method_36_code (5 : Nat) (Option.some Jvm.ClassFile.FieldType.int)),
  (Jvm.Cond.methodLink "HistoryJudgeModel" (176 : Nat) ({ cls := "HistoryJudgeModel", name := "right", desc := "(I)I" } : Jvm.MethodName)),
  (Jvm.Cond.instanceMethod ({ cls := "HistoryJudgeModel", name := "right", desc := "(I)I" } : Jvm.MethodName)),
  (Jvm.Cond.selects "HistoryJudgeModel" ({ cls := "HistoryJudgeModel", name := "right", desc := "(I)I" } : Jvm.MethodName) ({ cls := "HistoryJudgeModel", name := "right", desc := "(I)I" } : Jvm.MethodName)),
  (Jvm.Cond.code ({ cls := "HistoryJudgeModel", name := "go", desc := "(I)V" } : Jvm.MethodName) prog_9_method_35_code (4 : Nat) (Option.none : Option Jvm.ClassFile.FieldType)),
  (Jvm.Cond.methodLink "HistoryJudgeModel" (179 : Nat) ({ cls := "HistoryJudgeModel", name := "go", desc := "(I)V" } : Jvm.MethodName)),
  (Jvm.Cond.instanceMethod ({ cls := "HistoryJudgeModel", name := "go", desc := "(I)V" } : Jvm.MethodName)),
  (Jvm.Cond.selects "HistoryJudgeModel" ({ cls := "HistoryJudgeModel", name := "go", desc := "(I)V" } : Jvm.MethodName) ({ cls := "HistoryJudgeModel", name := "go", desc := "(I)V" } : Jvm.MethodName)),
  (Jvm.Cond.fieldLink "HistoryJudgeModel" (182 : Nat) "HistoryJudgeModel" "runs" "I"),
  (Jvm.Cond.fieldLink "HistoryJudgeModel" (185 : Nat) "HistoryJudgeModel" "explained" "Z"),
  (Jvm.Cond.fieldLink "HistoryJudgeModel" (194 : Nat) "HistoryJudgeModel" "wrong" "I"),
  (Jvm.Cond.fieldLink "HistoryJudgeModel" (191 : Nat) "HistoryJudgeModel" "witness" "I"),
  (Jvm.Cond.code ({ cls := "HistoryJudgeModel", name := "explains", desc := "(I)Z" } : Jvm.MethodName) prog_9_method_37_code (7 : Nat) (Option.some Jvm.ClassFile.FieldType.boolean)),
  (Jvm.Cond.methodLink "HistoryJudgeModel" (188 : Nat) ({ cls := "HistoryJudgeModel", name := "explains", desc := "(I)Z" } : Jvm.MethodName)),
  (Jvm.Cond.instanceMethod ({ cls := "HistoryJudgeModel", name := "explains", desc := "(I)Z" } : Jvm.MethodName)),
  (Jvm.Cond.selects "HistoryJudgeModel" ({ cls := "HistoryJudgeModel", name := "explains", desc := "(I)Z" } : Jvm.MethodName) ({ cls := "HistoryJudgeModel", name := "explains", desc := "(I)Z" } : Jvm.MethodName)),
  (Jvm.Cond.fieldLink "HistoryJudgeModel" (62 : Nat) "HistoryJudgeModel" "tallies" "[I"),
  (Jvm.Cond.code ({ cls := "HistoryJudgeModel", name := "judged", desc := "(I)Z" } : Jvm.MethodName) prog_9_method_38_code (4 : Nat) (Option.some Jvm.ClassFile.FieldType.boolean)),
  (Jvm.Cond.methodLink "HistoryJudgeModel" (197 : Nat) ({ cls := "HistoryJudgeModel", name := "judged", desc := "(I)Z" } : Jvm.MethodName)),
  (Jvm.Cond.instanceMethod ({ cls := "HistoryJudgeModel", name := "judged", desc := "(I)Z" } : Jvm.MethodName)),
  (Jvm.Cond.selects "HistoryJudgeModel" ({ cls := "HistoryJudgeModel", name := "judged", desc := "(I)Z" } : Jvm.MethodName) ({ cls := "HistoryJudgeModel", name := "judged", desc := "(I)Z" } : Jvm.MethodName)),
  (Jvm.Cond.constant "HistoryJudgeModel" (200 : Nat) (2147483647 : Int32)),
  (Jvm.Cond.fieldLink "HistoryJudgeModel" (201 : Nat) "HistoryJudgeModel" "failing" "I"),
  (Jvm.Cond.code ({ cls := "HistoryJudgeModel", name := "failed", desc := "(JI)I" } : Jvm.MethodName) prog_9_method_40_code (6 : Nat) (Option.some Jvm.ClassFile.FieldType.int)),
  (Jvm.Cond.methodLink "HistoryJudgeModel" (204 : Nat) ({ cls := "HistoryJudgeModel", name := "failed", desc := "(JI)I" } : Jvm.MethodName)),
  (Jvm.Cond.instanceMethod ({ cls := "HistoryJudgeModel", name := "failed", desc := "(JI)I" } : Jvm.MethodName)),
  (Jvm.Cond.selects "HistoryJudgeModel" ({ cls := "HistoryJudgeModel", name := "failed", desc := "(JI)I" } : Jvm.MethodName) ({ cls := "HistoryJudgeModel", name := "failed", desc := "(JI)I" } : Jvm.MethodName)),
  (Jvm.Cond.code ({ cls := "HistoryJudgeModel", name := "takes", desc := "(ZJI)Z" } : Jvm.MethodName) prog_9_method_42_code (5 : Nat) (Option.some Jvm.ClassFile.FieldType.boolean)),
  (Jvm.Cond.methodLink "HistoryJudgeModel" (211 : Nat) ({ cls := "HistoryJudgeModel", name := "takes", desc := "(ZJI)Z" } : Jvm.MethodName)),
  (Jvm.Cond.instanceMethod ({ cls := "HistoryJudgeModel", name := "takes", desc := "(ZJI)Z" } : Jvm.MethodName)),
  (Jvm.Cond.selects "HistoryJudgeModel" ({ cls := "HistoryJudgeModel", name := "takes", desc := "(ZJI)Z" } : Jvm.MethodName) ({ cls := "HistoryJudgeModel", name := "takes", desc := "(ZJI)Z" } : Jvm.MethodName)),
  (Jvm.Cond.code ({ cls := "HistoryJudgeModel", name := "raise", desc := "(I)V" } : Jvm.MethodName) prog_9_method_19_code (9 : Nat) (Option.none : Option Jvm.ClassFile.FieldType)),
  (Jvm.Cond.methodLink "HistoryJudgeModel" (215 : Nat) ({ cls := "HistoryJudgeModel", name := "raise", desc := "(I)V" } : Jvm.MethodName)),
  (Jvm.Cond.instanceMethod ({ cls := "HistoryJudgeModel", name := "raise", desc := "(I)V" } : Jvm.MethodName)),
  (Jvm.Cond.selects "HistoryJudgeModel" ({ cls := "HistoryJudgeModel", name := "raise", desc := "(I)V" } : Jvm.MethodName) ({ cls := "HistoryJudgeModel", name := "raise", desc := "(I)V" } : Jvm.MethodName)),
  (Jvm.Cond.code ({ cls := "HistoryJudgeModel", name := "leaveOut", desc := "(I)Z" } : Jvm.MethodName) prog_9_method_18_code (4 : Nat) (Option.some Jvm.ClassFile.FieldType.boolean)),
  (Jvm.Cond.methodLink "HistoryJudgeModel" (208 : Nat) ({ cls := "HistoryJudgeModel", name := "leaveOut", desc := "(I)Z" } : Jvm.MethodName)),
  (Jvm.Cond.instanceMethod ({ cls := "HistoryJudgeModel", name := "leaveOut", desc := "(I)Z" } : Jvm.MethodName)),
  (Jvm.Cond.selects "HistoryJudgeModel" ({ cls := "HistoryJudgeModel", name := "leaveOut", desc := "(I)Z" } : Jvm.MethodName) ({ cls := "HistoryJudgeModel", name := "leaveOut", desc := "(I)Z" } : Jvm.MethodName)),
  (Jvm.Cond.code ({ cls := "HistoryJudgeModel", name := "smaller", desc := "(JI)Z" } : Jvm.MethodName) prog_9_method_43_code (7 : Nat) (Option.some Jvm.ClassFile.FieldType.boolean)),
  (Jvm.Cond.methodLink "HistoryJudgeModel" (218 : Nat) ({ cls := "HistoryJudgeModel", name := "smaller", desc := "(JI)Z" } : Jvm.MethodName)),
  (Jvm.Cond.instanceMethod ({ cls := "HistoryJudgeModel", name := "smaller", desc := "(JI)Z" } : Jvm.MethodName)),
  (Jvm.Cond.selects "HistoryJudgeModel" ({ cls := "HistoryJudgeModel", name := "smaller", desc := "(JI)Z" } : Jvm.MethodName) ({ cls := "HistoryJudgeModel", name := "smaller", desc := "(JI)Z" } : Jvm.MethodName))]
def lg_5 : List Jvm.Cond := [(Jvm.Cond.fieldLink "HistoryJudgeModel" (222 : Nat) "HistoryJudgeModel" "taken" "I"),
  (Jvm.Cond.fieldLink "HistoryJudge$Tester" (39 : Nat) "HistoryJudge$Tester" "schedule" "I"),
  (Jvm.Cond.fieldLink "HistoryJudge$Tester" (12 : Nat) "HistoryJudge$Tester" "machine" "LHistoryJudge$Machine;"),
  (Jvm.Cond.fieldLink "HistoryJudge$Tester" (29 : Nat) "HistoryJudge$Tester" "flawBits" "I"),
  (Jvm.Cond.fieldLink "HistoryJudge$Machine" (39 : Nat) "HistoryJudge$Machine" "flawBits" "I"),
  (Jvm.Cond.fieldLink "HistoryJudge$Machine" (26 : Nat) "HistoryJudge$Machine" "cells" "I"),
  (Jvm.Cond.methodLink "HistoryJudge$Machine" (48 : Nat) ({ cls := "HistoryJudge$Program", name := "end", desc := "(I)I" } : Jvm.MethodName)),
  (Jvm.Cond.fieldLink "HistoryJudge$Machine" (30 : Nat) "HistoryJudge$Machine" "nextCommand" "[I"),
  (Jvm.Cond.fieldLink "HistoryJudge$Machine" (55 : Nat) "HistoryJudge$Program" "kinds" "[I"),
  (Jvm.Cond.fieldLink "HistoryJudge$Machine" (58 : Nat) "HistoryJudge$Program" "cells" "[I"),
  (Jvm.Cond.fieldLink "HistoryJudge$Machine" (33 : Nat) "HistoryJudge$Machine" "nextEvent" "[I"),
  (Jvm.Cond.fieldLink "HistoryJudge$Machine" (18 : Nat) "HistoryJudge$Machine" "calls" "[I"),
  (Jvm.Cond.fieldLink "HistoryJudge$Machine" (15 : Nat) "HistoryJudge$Machine" "numbers" "[I"),
  (Jvm.Cond.fieldLink "HistoryJudge$Machine" (60 : Nat) "HistoryJudge$Program" "arguments" "[I"),
  (Jvm.Cond.fieldLink "HistoryJudge$Machine" (9 : Nat) "HistoryJudge$Machine" "answers" "[I"),
  (Jvm.Cond.code ({ cls := "HistoryJudge$Machine", name := "numberOf", desc := "(I)I" } : Jvm.MethodName) prog_4_method_4_code (2 : Nat) (Option.some Jvm.ClassFile.FieldType.int)),
  (Jvm.Cond.methodLink "HistoryJudge$Machine" (63 : Nat) ({ cls := "HistoryJudge$Machine", name := "numberOf", desc := "(I)I" } : Jvm.MethodName)),
  (Jvm.Cond.instanceMethod ({ cls := "HistoryJudge$Machine", name := "numberOf", desc := "(I)I" } : Jvm.MethodName)),
  (Jvm.Cond.selects "HistoryJudge$Machine" ({ cls := "HistoryJudge$Machine", name := "numberOf", desc := "(I)I" } : Jvm.MethodName) ({ cls := "HistoryJudge$Machine", name := "numberOf", desc := "(I)I" } : Jvm.MethodName)),
  (Jvm.Cond.initialized "HistoryJudge$Machine"),
  (Jvm.Cond.code ({ cls := "HistoryJudge$Machine", name := "isSplit", desc := "(I)Z" } : Jvm.MethodName) prog_4_method_5_code (2 : Nat) (Option.some Jvm.ClassFile.FieldType.boolean)),
  (Jvm.Cond.methodLink "HistoryJudge$Machine" (66 : Nat) ({ cls := "HistoryJudge$Machine", name := "isSplit", desc := "(I)Z" } : Jvm.MethodName)),
  (Jvm.Cond.instanceMethod ({ cls := "HistoryJudge$Machine", name := "isSplit", desc := "(I)Z" } : Jvm.MethodName)),
  (Jvm.Cond.selects "HistoryJudge$Machine" ({ cls := "HistoryJudge$Machine", name := "isSplit", desc := "(I)Z" } : Jvm.MethodName) ({ cls := "HistoryJudge$Machine", name := "isSplit", desc := "(I)Z" } : Jvm.MethodName)),
  (Jvm.Cond.fieldLink "HistoryJudge$Machine" (36 : Nat) "HistoryJudge$Machine" "noted" "[I"),
  (Jvm.Cond.methodLink "HistoryJudge$Machine" (73 : Nat) ({ cls := "HistoryJudge$Model", name := "held", desc := "(II)I" } : Jvm.MethodName)),
  (Jvm.Cond.methodLink "HistoryJudge$Machine" (70 : Nat) ({ cls := "HistoryJudge$Model", name := "source", desc := "(I)I" } : Jvm.MethodName)),
  (Jvm.Cond.code ({ cls := "HistoryJudge$Model", name := "answer", desc := "(IIII)I" } : Jvm.MethodName) prog_5_method_7_code (4 : Nat) (Option.some Jvm.ClassFile.FieldType.int)),
  (Jvm.Cond.methodLink "HistoryJudge$Machine" (92 : Nat) ({ cls := "HistoryJudge$Model", name := "answer", desc := "(IIII)I" } : Jvm.MethodName)),
  (Jvm.Cond.static ({ cls := "HistoryJudge$Model", name := "answer", desc := "(IIII)I" } : Jvm.MethodName)),
  (Jvm.Cond.code ({ cls := "HistoryJudge$Machine", name := "isLate", desc := "(I)Z" } : Jvm.MethodName) prog_4_method_6_code (2 : Nat) (Option.some Jvm.ClassFile.FieldType.boolean)),
  (Jvm.Cond.methodLink "HistoryJudge$Machine" (85 : Nat) ({ cls := "HistoryJudge$Machine", name := "isLate", desc := "(I)Z" } : Jvm.MethodName)),
  (Jvm.Cond.instanceMethod ({ cls := "HistoryJudge$Machine", name := "isLate", desc := "(I)Z" } : Jvm.MethodName)),
  (Jvm.Cond.selects "HistoryJudge$Machine" ({ cls := "HistoryJudge$Machine", name := "isLate", desc := "(I)Z" } : Jvm.MethodName) ({ cls := "HistoryJudge$Machine", name := "isLate", desc := "(I)Z" } : Jvm.MethodName)),
  (Jvm.Cond.methodLink "HistoryJudge$Machine" (88 : Nat) ({ cls := "HistoryJudge$Model", name := "after", desc := "(IIII)I" } : Jvm.MethodName)),
  (Jvm.Cond.code ({ cls := "HistoryJudge$Machine", name := "act", desc := "(III)V" } : Jvm.MethodName) prog_4_method_7_code (4 : Nat) (Option.none : Option Jvm.ClassFile.FieldType)),
  (Jvm.Cond.methodLink "HistoryJudge$Machine" (81 : Nat) ({ cls := "HistoryJudge$Machine", name := "act", desc := "(III)V" } : Jvm.MethodName)),
  (Jvm.Cond.instanceMethod ({ cls := "HistoryJudge$Machine", name := "act", desc := "(III)V" } : Jvm.MethodName)),
  (Jvm.Cond.selects "HistoryJudge$Machine" ({ cls := "HistoryJudge$Machine", name := "act", desc := "(III)V" } : Jvm.MethodName) ({ cls := "HistoryJudge$Machine", name := "act", desc := "(III)V" } : Jvm.MethodName)),
  (Jvm.Cond.code ({ cls := "HistoryJudge$Machine", name := "actByNote", desc := "(IIII)V" } : Jvm.MethodName) prog_4_method_8_code (6 : Nat) (Option.none : Option Jvm.ClassFile.FieldType)),
  (Jvm.Cond.methodLink "HistoryJudge$Machine" (77 : Nat) ({ cls := "HistoryJudge$Machine", name := "actByNote", desc := "(IIII)V" } : Jvm.MethodName)),
  (Jvm.Cond.instanceMethod ({ cls := "HistoryJudge$Machine", name := "actByNote", desc := "(IIII)V" } : Jvm.MethodName)),
  (Jvm.Cond.selects "HistoryJudge$Machine" ({ cls := "HistoryJudge$Machine", name := "actByNote", desc := "(IIII)V" } : Jvm.MethodName) ({ cls := "HistoryJudge$Machine", name := "actByNote", desc := "(IIII)V" } : Jvm.MethodName)),
  (Jvm.Cond.fieldLink "HistoryJudge$Machine" (21 : Nat) "HistoryJudge$Machine" "returns" "[I"),
  (Jvm.Cond.code ({ cls := "HistoryJudge$Machine", name := "step", desc := "(LHistoryJudge$Program;II)V" } : Jvm.MethodName) prog_4_method_3_code (7 : Nat) (Option.none : Option Jvm.ClassFile.FieldType)),
  (Jvm.Cond.methodLink "HistoryJudge$Machine" (51 : Nat) ({ cls := "HistoryJudge$Machine", name := "step", desc := "(LHistoryJudge$Program;II)V" } : Jvm.MethodName)),
  (Jvm.Cond.instanceMethod ({ cls := "HistoryJudge$Machine", name := "step", desc := "(LHistoryJudge$Program;II)V" } : Jvm.MethodName)),
  (Jvm.Cond.selects "HistoryJudge$Machine" ({ cls := "HistoryJudge$Machine", name := "step", desc := "(LHistoryJudge$Program;II)V" } : Jvm.MethodName) ({ cls := "HistoryJudge$Machine", name := "step", desc := "(LHistoryJudge$Program;II)V" } : Jvm.MethodName)),
  (Jvm.Cond.methodLink "HistoryJudge$Machine" (42 : Nat) ({ cls := "HistoryJudge$Program", name := "start", desc := "(I)I" } : Jvm.MethodName)),
  (Jvm.Cond.code ({ cls := "HistoryJudge$Machine", name := "perform", desc := "(LHistoryJudge$Program;II)V" } : Jvm.MethodName) prog_4_method_2_code (11 : Nat) (Option.none : Option Jvm.ClassFile.FieldType)),
  (Jvm.Cond.methodLink "HistoryJudge$Tester" (53 : Nat) ({ cls := "HistoryJudge$Machine", name := "perform", desc := "(LHistoryJudge$Program;II)V" } : Jvm.MethodName)),
  (Jvm.Cond.instanceMethod ({ cls := "HistoryJudge$Machine", name := "perform", desc := "(LHistoryJudge$Program;II)V" } : Jvm.MethodName)),
  (Jvm.Cond.selects "HistoryJudge$Machine" ({ cls := "HistoryJudge$Machine", name := "perform", desc := "(LHistoryJudge$Program;II)V" } : Jvm.MethodName) ({ cls := "HistoryJudge$Machine", name := "perform", desc := "(LHistoryJudge$Program;II)V" } : Jvm.MethodName)),
  (Jvm.Cond.fieldLink "HistoryJudge$Tester" (21 : Nat) "HistoryJudge$Tester" "judge" "LHistoryJudge$Judge;"),
  (Jvm.Cond.methodLink "HistoryJudge$Judge" (17 : Nat) ({ cls := "HistoryJudge$Program", name := "end", desc := "(I)I" } : Jvm.MethodName)),
  (Jvm.Cond.methodLink "HistoryJudge$Judge" (31 : Nat) ({ cls := "HistoryJudge$Program", name := "start", desc := "(I)I" } : Jvm.MethodName)),
  (Jvm.Cond.fieldLink "HistoryJudge$Judge" (9 : Nat) "HistoryJudge$Judge" "witness" "[I"),
  (Jvm.Cond.fieldLink "HistoryJudge$Judge" (46 : Nat) "HistoryJudge$Program" "kinds" "[I"),
  (Jvm.Cond.fieldLink "HistoryJudge$Judge" (49 : Nat) "HistoryJudge$Program" "cells" "[I"),
  (Jvm.Cond.fieldLink "HistoryJudge$Judge" (52 : Nat) "HistoryJudge$Machine" "numbers" "[I")]
def lg_6 : List Jvm.Cond := [(Jvm.Cond.methodLink "HistoryJudge$Judge" (55 : Nat) ({ cls := "HistoryJudge$Model", name := "answer", desc := "(IIII)I" } : Jvm.MethodName)),
  (Jvm.Cond.fieldLink "HistoryJudge$Judge" (59 : Nat) "HistoryJudge$Machine" "answers" "[I"),
  (Jvm.Cond.code ({ cls := "HistoryJudge$Judge", name := "answersSo", desc := "(LHistoryJudge$Program;LHistoryJudge$Machine;II)Z" } : Jvm.MethodName) prog_3_method_4_code (5 : Nat) (Option.some Jvm.ClassFile.FieldType.boolean)),
  (Jvm.Cond.methodLink "HistoryJudge$Judge" (23 : Nat) ({ cls := "HistoryJudge$Judge", name := "answersSo", desc := "(LHistoryJudge$Program;LHistoryJudge$Machine;II)Z" } : Jvm.MethodName)),
  (Jvm.Cond.static ({ cls := "HistoryJudge$Judge", name := "answersSo", desc := "(LHistoryJudge$Program;LHistoryJudge$Machine;II)Z" } : Jvm.MethodName)),
  (Jvm.Cond.initialized "HistoryJudge$Judge"),
  (Jvm.Cond.methodLink "HistoryJudge$Judge" (62 : Nat) ({ cls := "HistoryJudge$Model", name := "after", desc := "(IIII)I" } : Jvm.MethodName)),
  (Jvm.Cond.code ({ cls := "HistoryJudge$Judge", name := "after", desc := "(LHistoryJudge$Program;LHistoryJudge$Machine;II)I" } : Jvm.MethodName) prog_3_method_5_code (4 : Nat) (Option.some Jvm.ClassFile.FieldType.int)),
  (Jvm.Cond.methodLink "HistoryJudge$Judge" (27 : Nat) ({ cls := "HistoryJudge$Judge", name := "after", desc := "(LHistoryJudge$Program;LHistoryJudge$Machine;II)I" } : Jvm.MethodName)),
  (Jvm.Cond.static ({ cls := "HistoryJudge$Judge", name := "after", desc := "(LHistoryJudge$Program;LHistoryJudge$Machine;II)I" } : Jvm.MethodName)),
  (Jvm.Cond.code ({ cls := "HistoryJudge$Judge", name := "search", desc := "(LHistoryJudge$Program;LHistoryJudge$Machine;IIII)Z" } : Jvm.MethodName) prog_3_method_3_code (12 : Nat) (Option.some Jvm.ClassFile.FieldType.boolean)),
  (Jvm.Cond.methodLink "HistoryJudge$Judge" (34 : Nat) ({ cls := "HistoryJudge$Judge", name := "search", desc := "(LHistoryJudge$Program;LHistoryJudge$Machine;IIII)Z" } : Jvm.MethodName)),
  (Jvm.Cond.instanceMethod ({ cls := "HistoryJudge$Judge", name := "search", desc := "(LHistoryJudge$Program;LHistoryJudge$Machine;IIII)Z" } : Jvm.MethodName)),
  (Jvm.Cond.selects "HistoryJudge$Judge" ({ cls := "HistoryJudge$Judge", name := "search", desc := "(LHistoryJudge$Program;LHistoryJudge$Machine;IIII)Z" } : Jvm.MethodName) ({ cls := "HistoryJudge$Judge", name := "search", desc := "(LHistoryJudge$Program;LHistoryJudge$Machine;IIII)Z" } : Jvm.MethodName)),
  (Jvm.Cond.fieldLink "HistoryJudge$Judge" (38 : Nat) "HistoryJudge$Machine" "returns" "[I"),
  (Jvm.Cond.fieldLink "HistoryJudge$Judge" (43 : Nat) "HistoryJudge$Machine" "calls" "[I"),
  (Jvm.Cond.code ({ cls := "HistoryJudge$Judge", name := "explains", desc := "(LHistoryJudge$Program;LHistoryJudge$Machine;)Z" } : Jvm.MethodName) prog_3_method_2_code (6 : Nat) (Option.some Jvm.ClassFile.FieldType.boolean)),
  (Jvm.Cond.methodLink "HistoryJudge$Tester" (57 : Nat) ({ cls := "HistoryJudge$Judge", name := "explains", desc := "(LHistoryJudge$Program;LHistoryJudge$Machine;)Z" } : Jvm.MethodName)),
  (Jvm.Cond.instanceMethod ({ cls := "HistoryJudge$Judge", name := "explains", desc := "(LHistoryJudge$Program;LHistoryJudge$Machine;)Z" } : Jvm.MethodName)),
  (Jvm.Cond.selects "HistoryJudge$Judge" ({ cls := "HistoryJudge$Judge", name := "explains", desc := "(LHistoryJudge$Program;LHistoryJudge$Machine;)Z" } : Jvm.MethodName) ({ cls := "HistoryJudge$Judge", name := "explains", desc := "(LHistoryJudge$Program;LHistoryJudge$Machine;)Z" } : Jvm.MethodName)),
  (Jvm.Cond.fieldLink "HistoryJudge$Tester" (42 : Nat) "HistoryJudge$Tester" "explained" "Z"),
  (Jvm.Cond.fieldLink "HistoryJudge$Tester" (33 : Nat) "HistoryJudge$Tester" "runs" "I"),
  (Jvm.Cond.methodLink "HistoryJudge$Tester" (61 : Nat) ({ cls := "HistoryJudge$Program", name := "size", desc := "()I" } : Jvm.MethodName)),
  (Jvm.Cond.fieldLink "HistoryJudge$Tester" (25 : Nat) "HistoryJudge$Tester" "tallies" "[I"),
  (Jvm.Cond.fieldLink "HistoryJudge$Tester" (67 : Nat) "HistoryJudge$Program" "kinds" "[I"),
  (Jvm.Cond.fieldLink "HistoryJudge$Tester" (36 : Nat) "HistoryJudge$Tester" "unexplained" "I"),
  (Jvm.Cond.fieldLink "HistoryJudge$Tester" (49 : Nat) "HistoryJudge$Tester" "draws" "LHistoryJudge$Draws;"),
  (Jvm.Cond.code ({ cls := "HistoryJudge$Draws", name := "restart", desc := "(J)V" } : Jvm.MethodName) prog_2_method_2_code (3 : Nat) (Option.none : Option Jvm.ClassFile.FieldType)),
  (Jvm.Cond.methodLink "HistoryJudge$Tester" (70 : Nat) ({ cls := "HistoryJudge$Draws", name := "restart", desc := "(J)V" } : Jvm.MethodName)),
  (Jvm.Cond.instanceMethod ({ cls := "HistoryJudge$Draws", name := "restart", desc := "(J)V" } : Jvm.MethodName)),
  (Jvm.Cond.selects "HistoryJudge$Draws" ({ cls := "HistoryJudge$Draws", name := "restart", desc := "(J)V" } : Jvm.MethodName) ({ cls := "HistoryJudge$Draws", name := "restart", desc := "(J)V" } : Jvm.MethodName)),
  (Jvm.Cond.constant "HistoryJudge$Tester" (74 : Nat) (2147483647 : Int32)),
  (Jvm.Cond.methodLink "HistoryJudge$Tester" (75 : Nat) ({ cls := "HistoryJudge$Draws", name := "below", desc := "(I)I" } : Jvm.MethodName)),
  (Jvm.Cond.code ({ cls := "HistoryJudge$Tester", name := "test", desc := "(LHistoryJudge$Program;I)Z" } : Jvm.MethodName) prog_7_method_2_code (5 : Nat) (Option.some Jvm.ClassFile.FieldType.boolean)),
  (Jvm.Cond.methodLink "HistoryJudge$Tester" (79 : Nat) ({ cls := "HistoryJudge$Tester", name := "test", desc := "(LHistoryJudge$Program;I)Z" } : Jvm.MethodName)),
  (Jvm.Cond.instanceMethod ({ cls := "HistoryJudge$Tester", name := "test", desc := "(LHistoryJudge$Program;I)Z" } : Jvm.MethodName)),
  (Jvm.Cond.selects "HistoryJudge$Tester" ({ cls := "HistoryJudge$Tester", name := "test", desc := "(LHistoryJudge$Program;I)Z" } : Jvm.MethodName) ({ cls := "HistoryJudge$Tester", name := "test", desc := "(LHistoryJudge$Program;I)Z" } : Jvm.MethodName)),
  (Jvm.Cond.initialized "HistoryJudge$Tester"),
  (Jvm.Cond.methodLink "HistoryJudge" (3 : Nat) ({ cls := "java/lang/Object", name := "<init>", desc := "()V" } : Jvm.MethodName)),
  (Jvm.Cond.instanceMethod ({ cls := "java/lang/Object", name := "<init>", desc := "()V" } : Jvm.MethodName)),
  (Jvm.Cond.code ({ cls := "java/lang/Object", name := "<init>", desc := "()V" } : Jvm.MethodName) object_method_1_code (1 : Nat) (Option.none : Option Jvm.ClassFile.FieldType)),
  (Jvm.Cond.classLink "HistoryJudge" (9 : Nat) "HistoryJudge$Program"),
  (Jvm.Cond.instantiable "HistoryJudge$Program" (4 : Nat)),
  (Jvm.Cond.methodLink "HistoryJudge$Program" (3 : Nat) ({ cls := "java/lang/Object", name := "<init>", desc := "()V" } : Jvm.MethodName)),
  (Jvm.Cond.arrayClass Jvm.ClassFile.FieldType.int),
  (Jvm.Cond.instanceMethod ({ cls := "HistoryJudge$Program", name := "<init>", desc := "()V" } : Jvm.MethodName)),
  (Jvm.Cond.code ({ cls := "HistoryJudge$Program", name := "<init>", desc := "()V" } : Jvm.MethodName) prog_6_method_1_code (1 : Nat) (Option.none : Option Jvm.ClassFile.FieldType)),
  (Jvm.Cond.classLink "HistoryJudge" (19 : Nat) "HistoryJudge$Tester"),
  (Jvm.Cond.instantiable "HistoryJudge$Tester" (9 : Nat)),
  (Jvm.Cond.methodLink "HistoryJudge$Tester" (3 : Nat) ({ cls := "java/lang/Object", name := "<init>", desc := "()V" } : Jvm.MethodName)),
  (Jvm.Cond.classLink "HistoryJudge$Tester" (9 : Nat) "HistoryJudge$Machine"),
  (Jvm.Cond.instantiable "HistoryJudge$Machine" (9 : Nat)),
  (Jvm.Cond.methodLink "HistoryJudge$Machine" (3 : Nat) ({ cls := "java/lang/Object", name := "<init>", desc := "()V" } : Jvm.MethodName)),
  (Jvm.Cond.instanceMethod ({ cls := "HistoryJudge$Machine", name := "<init>", desc := "()V" } : Jvm.MethodName)),
  (Jvm.Cond.code ({ cls := "HistoryJudge$Machine", name := "<init>", desc := "()V" } : Jvm.MethodName) prog_4_method_1_code (1 : Nat) (Option.none : Option Jvm.ClassFile.FieldType)),
  (Jvm.Cond.classLink "HistoryJudge$Tester" (18 : Nat) "HistoryJudge$Judge"),
  (Jvm.Cond.instantiable "HistoryJudge$Judge" (1 : Nat)),
  (Jvm.Cond.methodLink "HistoryJudge$Judge" (3 : Nat) ({ cls := "java/lang/Object", name := "<init>", desc := "()V" } : Jvm.MethodName)),
  (Jvm.Cond.instanceMethod ({ cls := "HistoryJudge$Judge", name := "<init>", desc := "()V" } : Jvm.MethodName)),
  (Jvm.Cond.code ({ cls := "HistoryJudge$Judge", name := "<init>", desc := "()V" } : Jvm.MethodName) prog_3_method_1_code (1 : Nat) (Option.none : Option Jvm.ClassFile.FieldType))]
def lg_7 : List Jvm.Cond := [(Jvm.Cond.classLink "HistoryJudge$Tester" (46 : Nat) "HistoryJudge$Draws"),
  (Jvm.Cond.instantiable "HistoryJudge$Draws" (1 : Nat)),
  (Jvm.Cond.methodLink "HistoryJudge$Draws" (1 : Nat) ({ cls := "java/lang/Object", name := "<init>", desc := "()V" } : Jvm.MethodName)),
  (Jvm.Cond.instanceMethod ({ cls := "HistoryJudge$Draws", name := "<init>", desc := "()V" } : Jvm.MethodName)),
  (Jvm.Cond.code ({ cls := "HistoryJudge$Draws", name := "<init>", desc := "()V" } : Jvm.MethodName) prog_2_method_1_code (1 : Nat) (Option.none : Option Jvm.ClassFile.FieldType)),
  (Jvm.Cond.instanceMethod ({ cls := "HistoryJudge$Tester", name := "<init>", desc := "()V" } : Jvm.MethodName)),
  (Jvm.Cond.code ({ cls := "HistoryJudge$Tester", name := "<init>", desc := "()V" } : Jvm.MethodName) prog_7_method_1_code (1 : Nat) (Option.none : Option Jvm.ClassFile.FieldType)),
  (Jvm.Cond.fieldLink "HistoryJudge" (22 : Nat) "HistoryJudge" "tester" "LHistoryJudge$Tester;"),
  (Jvm.Cond.classLink "HistoryJudge" (26 : Nat) "HistoryJudge$Draws"),
  (Jvm.Cond.fieldLink "HistoryJudge" (33 : Nat) "HistoryJudge" "taken" "I"),
  (Jvm.Cond.methodLink "HistoryJudgeModel" (1 : Nat) ({ cls := "java/lang/Object", name := "<init>", desc := "()V" } : Jvm.MethodName)),
  (Jvm.Cond.arrayClass Jvm.ClassFile.FieldType.boolean),
  (Jvm.Cond.laysFinal "HistoryJudge" "HistoryJudge" "program" "LHistoryJudge$Program;"),
  (Jvm.Cond.laysFinal "HistoryJudge" "HistoryJudge" "trial" "LHistoryJudge$Program;"),
  (Jvm.Cond.laysFinal "HistoryJudge" "HistoryJudge" "tester" "LHistoryJudge$Tester;"),
  (Jvm.Cond.laysFinal "HistoryJudge" "HistoryJudge" "draws" "LHistoryJudge$Draws;"),
  (Jvm.Cond.lays "HistoryJudge" "HistoryJudge" "taken" "I"),
  (Jvm.Cond.lays "HistoryJudge" "HistoryJudge" "runIsCurrent" "Z"),
  (Jvm.Cond.laysFinal "HistoryJudge$Program" "HistoryJudge$Program" "sizes" "[I"),
  (Jvm.Cond.laysFinal "HistoryJudge$Program" "HistoryJudge$Program" "kinds" "[I"),
  (Jvm.Cond.laysFinal "HistoryJudge$Program" "HistoryJudge$Program" "cells" "[I"),
  (Jvm.Cond.laysFinal "HistoryJudge$Program" "HistoryJudge$Program" "arguments" "[I"),
  (Jvm.Cond.laysFinal "HistoryJudge$Tester" "HistoryJudge$Tester" "machine" "LHistoryJudge$Machine;"),
  (Jvm.Cond.laysFinal "HistoryJudge$Tester" "HistoryJudge$Tester" "judge" "LHistoryJudge$Judge;"),
  (Jvm.Cond.laysFinal "HistoryJudge$Tester" "HistoryJudge$Tester" "tallies" "[I"),
  (Jvm.Cond.lays "HistoryJudge$Tester" "HistoryJudge$Tester" "flawBits" "I"),
  (Jvm.Cond.lays "HistoryJudge$Tester" "HistoryJudge$Tester" "runs" "I"),
  (Jvm.Cond.lays "HistoryJudge$Tester" "HistoryJudge$Tester" "unexplained" "I"),
  (Jvm.Cond.lays "HistoryJudge$Tester" "HistoryJudge$Tester" "schedule" "I"),
  (Jvm.Cond.lays "HistoryJudge$Tester" "HistoryJudge$Tester" "explained" "Z"),
  (Jvm.Cond.laysFinal "HistoryJudge$Tester" "HistoryJudge$Tester" "draws" "LHistoryJudge$Draws;"),
  (Jvm.Cond.laysFinal "HistoryJudge$Machine" "HistoryJudge$Machine" "answers" "[I"),
  (Jvm.Cond.laysFinal "HistoryJudge$Machine" "HistoryJudge$Machine" "numbers" "[I"),
  (Jvm.Cond.laysFinal "HistoryJudge$Machine" "HistoryJudge$Machine" "calls" "[I"),
  (Jvm.Cond.laysFinal "HistoryJudge$Machine" "HistoryJudge$Machine" "returns" "[I"),
  (Jvm.Cond.lays "HistoryJudge$Machine" "HistoryJudge$Machine" "cells" "I"),
  (Jvm.Cond.laysFinal "HistoryJudge$Machine" "HistoryJudge$Machine" "nextCommand" "[I"),
  (Jvm.Cond.laysFinal "HistoryJudge$Machine" "HistoryJudge$Machine" "nextEvent" "[I"),
  (Jvm.Cond.laysFinal "HistoryJudge$Machine" "HistoryJudge$Machine" "noted" "[I"),
  (Jvm.Cond.lays "HistoryJudge$Machine" "HistoryJudge$Machine" "flawBits" "I"),
  (Jvm.Cond.laysFinal "HistoryJudge$Judge" "HistoryJudge$Judge" "witness" "[I"),
  (Jvm.Cond.lays "HistoryJudge$Draws" "HistoryJudge$Draws" "state" "J"),
  (Jvm.Cond.lays "HistoryJudgeModel" "HistoryJudgeModel" "thrown" "I"),
  (Jvm.Cond.laysFinal "HistoryJudgeModel" "HistoryJudgeModel" "sizes" "[I"),
  (Jvm.Cond.laysFinal "HistoryJudgeModel" "HistoryJudgeModel" "kind" "[I"),
  (Jvm.Cond.laysFinal "HistoryJudgeModel" "HistoryJudgeModel" "cell" "[I"),
  (Jvm.Cond.laysFinal "HistoryJudgeModel" "HistoryJudgeModel" "argument" "[I"),
  (Jvm.Cond.laysFinal "HistoryJudgeModel" "HistoryJudgeModel" "keptSizes" "[I"),
  (Jvm.Cond.laysFinal "HistoryJudgeModel" "HistoryJudgeModel" "kept" "[I"),
  (Jvm.Cond.lays "HistoryJudgeModel" "HistoryJudgeModel" "flaws" "I"),
  (Jvm.Cond.lays "HistoryJudgeModel" "HistoryJudgeModel" "g" "J"),
  (Jvm.Cond.laysFinal "HistoryJudgeModel" "HistoryJudgeModel" "holds" "[I"),
  (Jvm.Cond.laysFinal "HistoryJudgeModel" "HistoryJudgeModel" "open" "[Z"),
  (Jvm.Cond.laysFinal "HistoryJudgeModel" "HistoryJudgeModel" "has" "[I"),
  (Jvm.Cond.laysFinal "HistoryJudgeModel" "HistoryJudgeModel" "isOpen" "[Z"),
  (Jvm.Cond.lays "HistoryJudgeModel" "HistoryJudgeModel" "ran" "Z"),
  (Jvm.Cond.lays "HistoryJudgeModel" "HistoryJudgeModel" "explained" "Z"),
  (Jvm.Cond.laysFinal "HistoryJudgeModel" "HistoryJudgeModel" "answer" "[I"),
  (Jvm.Cond.laysFinal "HistoryJudgeModel" "HistoryJudgeModel" "number" "[I"),
  (Jvm.Cond.laysFinal "HistoryJudgeModel" "HistoryJudgeModel" "call" "[I")]
def lg_8 : List Jvm.Cond := [(Jvm.Cond.laysFinal "HistoryJudgeModel" "HistoryJudgeModel" "back" "[I"),
  (Jvm.Cond.laysFinal "HistoryJudgeModel" "HistoryJudgeModel" "noted" "[I"),
  (Jvm.Cond.laysFinal "HistoryJudgeModel" "HistoryJudgeModel" "at" "[I"),
  (Jvm.Cond.laysFinal "HistoryJudgeModel" "HistoryJudgeModel" "event" "[I"),
  (Jvm.Cond.lays "HistoryJudgeModel" "HistoryJudgeModel" "witness" "I"),
  (Jvm.Cond.lays "HistoryJudgeModel" "HistoryJudgeModel" "runs" "I"),
  (Jvm.Cond.lays "HistoryJudgeModel" "HistoryJudgeModel" "wrong" "I"),
  (Jvm.Cond.lays "HistoryJudgeModel" "HistoryJudgeModel" "taken" "I"),
  (Jvm.Cond.lays "HistoryJudgeModel" "HistoryJudgeModel" "failing" "I"),
  (Jvm.Cond.laysFinal "HistoryJudgeModel" "HistoryJudgeModel" "tallies" "[I")]
def lg : List Jvm.Cond := lg_0 ++ lg_1 ++ lg_2 ++ lg_3 ++ lg_4 ++ lg_5 ++ lg_6 ++ lg_7 ++ lg_8
def gaX : ev_ga := (clX, nwX, lg)
theorem hw_0 : (Jvm.Cond.fieldLink "HistoryJudge" (12 : Nat) "HistoryJudge" "program" "LHistoryJudge$Program;") ∈ lg := List.mem_append_left _ (List.mem_append_left _ (List.mem_append_left _ (List.mem_append_left _ (List.mem_append_left _ (List.mem_append_left _ (List.mem_append_left _ (List.mem_append_left _ (List.mem_of_getElem? (i := 0) rfl))))))))
theorem hw_1 : (Jvm.Cond.fieldLink "HistoryJudge$Program" (9 : Nat) "HistoryJudge$Program" "sizes" "[I") ∈ lg := List.mem_append_left _ (List.mem_append_left _ (List.mem_append_left _ (List.mem_append_left _ (List.mem_append_left _ (List.mem_append_left _ (List.mem_append_left _ (List.mem_append_left _ (List.mem_of_getElem? (i := 1) rfl))))))))
theorem hw_2 : (Jvm.Cond.code ({ cls := "HistoryJudge$Program", name := "size", desc := "()I" } : Jvm.MethodName) prog_6_method_2_code (1 : Nat) (Option.some Jvm.ClassFile.FieldType.int)) ∈ lg := List.mem_append_left _ (List.mem_append_left _ (List.mem_append_left _ (List.mem_append_left _ (List.mem_append_left _ (List.mem_append_left _ (List.mem_append_left _ (List.mem_append_left _ (List.mem_of_getElem? (i := 2) rfl))))))))
theorem hw_3 : (Jvm.Cond.methodLink "HistoryJudge" (79 : Nat) ({ cls := "HistoryJudge$Program", name := "size", desc := "()I" } : Jvm.MethodName)) ∈ lg := List.mem_append_left _ (List.mem_append_left _ (List.mem_append_left _ (List.mem_append_left _ (List.mem_append_left _ (List.mem_append_left _ (List.mem_append_left _ (List.mem_append_left _ (List.mem_of_getElem? (i := 3) rfl))))))))
theorem hw_4 : (Jvm.Cond.instanceMethod ({ cls := "HistoryJudge$Program", name := "size", desc := "()I" } : Jvm.MethodName)) ∈ lg := List.mem_append_left _ (List.mem_append_left _ (List.mem_append_left _ (List.mem_append_left _ (List.mem_append_left _ (List.mem_append_left _ (List.mem_append_left _ (List.mem_append_left _ (List.mem_of_getElem? (i := 4) rfl))))))))
theorem hw_5 : (Jvm.Cond.selects "HistoryJudge$Program" ({ cls := "HistoryJudge$Program", name := "size", desc := "()I" } : Jvm.MethodName) ({ cls := "HistoryJudge$Program", name := "size", desc := "()I" } : Jvm.MethodName)) ∈ lg := List.mem_append_left _ (List.mem_append_left _ (List.mem_append_left _ (List.mem_append_left _ (List.mem_append_left _ (List.mem_append_left _ (List.mem_append_left _ (List.mem_append_left _ (List.mem_of_getElem? (i := 5) rfl))))))))
theorem hw_6 : (Jvm.Cond.initialized "HistoryJudge$Program") ∈ lg := List.mem_append_left _ (List.mem_append_left _ (List.mem_append_left _ (List.mem_append_left _ (List.mem_append_left _ (List.mem_append_left _ (List.mem_append_left _ (List.mem_append_left _ (List.mem_of_getElem? (i := 6) rfl))))))))
theorem hw_7 : (Jvm.Cond.code ({ cls := "HistoryJudge$Program", name := "empty", desc := "()V" } : Jvm.MethodName) prog_6_method_10_code (2 : Nat) (Option.none : Option Jvm.ClassFile.FieldType)) ∈ lg := List.mem_append_left _ (List.mem_append_left _ (List.mem_append_left _ (List.mem_append_left _ (List.mem_append_left _ (List.mem_append_left _ (List.mem_append_left _ (List.mem_append_left _ (List.mem_of_getElem? (i := 7) rfl))))))))
theorem hw_8 : (Jvm.Cond.methodLink "HistoryJudge" (83 : Nat) ({ cls := "HistoryJudge$Program", name := "empty", desc := "()V" } : Jvm.MethodName)) ∈ lg := List.mem_append_left _ (List.mem_append_left _ (List.mem_append_left _ (List.mem_append_left _ (List.mem_append_left _ (List.mem_append_left _ (List.mem_append_left _ (List.mem_append_left _ (List.mem_of_getElem? (i := 8) rfl))))))))
theorem hw_9 : (Jvm.Cond.instanceMethod ({ cls := "HistoryJudge$Program", name := "empty", desc := "()V" } : Jvm.MethodName)) ∈ lg := List.mem_append_left _ (List.mem_append_left _ (List.mem_append_left _ (List.mem_append_left _ (List.mem_append_left _ (List.mem_append_left _ (List.mem_append_left _ (List.mem_append_left _ (List.mem_of_getElem? (i := 9) rfl))))))))
theorem hw_10 : (Jvm.Cond.selects "HistoryJudge$Program" ({ cls := "HistoryJudge$Program", name := "empty", desc := "()V" } : Jvm.MethodName) ({ cls := "HistoryJudge$Program", name := "empty", desc := "()V" } : Jvm.MethodName)) ∈ lg := List.mem_append_left _ (List.mem_append_left _ (List.mem_append_left _ (List.mem_append_left _ (List.mem_append_left _ (List.mem_append_left _ (List.mem_append_left _ (List.mem_append_left _ (List.mem_of_getElem? (i := 10) rfl))))))))
theorem hw_11 : (Jvm.Cond.fieldLink "HistoryJudge" (37 : Nat) "HistoryJudge" "runIsCurrent" "Z") ∈ lg := List.mem_append_left _ (List.mem_append_left _ (List.mem_append_left _ (List.mem_append_left _ (List.mem_append_left _ (List.mem_append_left _ (List.mem_append_left _ (List.mem_append_left _ (List.mem_of_getElem? (i := 11) rfl))))))))
theorem hw_12 : (Jvm.Cond.fieldLink "HistoryJudge" (16 : Nat) "HistoryJudge" "trial" "LHistoryJudge$Program;") ∈ lg := List.mem_append_left _ (List.mem_append_left _ (List.mem_append_left _ (List.mem_append_left _ (List.mem_append_left _ (List.mem_append_left _ (List.mem_append_left _ (List.mem_append_left _ (List.mem_of_getElem? (i := 12) rfl))))))))
theorem hw_13 : (Jvm.Cond.methodLink "HistoryJudge$Program" (31 : Nat) ({ cls := "HistoryJudge$Program", name := "size", desc := "()I" } : Jvm.MethodName)) ∈ lg := List.mem_append_left _ (List.mem_append_left _ (List.mem_append_left _ (List.mem_append_left _ (List.mem_append_left _ (List.mem_append_left _ (List.mem_append_left _ (List.mem_append_left _ (List.mem_of_getElem? (i := 13) rfl))))))))
theorem hw_14 : (Jvm.Cond.fieldLink "HistoryJudge$Program" (15 : Nat) "HistoryJudge$Program" "kinds" "[I") ∈ lg := List.mem_append_left _ (List.mem_append_left _ (List.mem_append_left _ (List.mem_append_left _ (List.mem_append_left _ (List.mem_append_left _ (List.mem_append_left _ (List.mem_append_left _ (List.mem_of_getElem? (i := 14) rfl))))))))
theorem hw_15 : (Jvm.Cond.methodLink "HistoryJudge$Program" (35 : Nat) ({ cls := "java/lang/System", name := "arraycopy", desc := "(Ljava/lang/Object;ILjava/lang/Object;II)V" } : Jvm.MethodName)) ∈ lg := List.mem_append_left _ (List.mem_append_left _ (List.mem_append_left _ (List.mem_append_left _ (List.mem_append_left _ (List.mem_append_left _ (List.mem_append_left _ (List.mem_append_left _ (List.mem_of_getElem? (i := 15) rfl))))))))
theorem hw_16 : (Jvm.Cond.native ({ cls := "java/lang/System", name := "arraycopy", desc := "(Ljava/lang/Object;ILjava/lang/Object;II)V" } : Jvm.MethodName)) ∈ lg := List.mem_append_left _ (List.mem_append_left _ (List.mem_append_left _ (List.mem_append_left _ (List.mem_append_left _ (List.mem_append_left _ (List.mem_append_left _ (List.mem_append_left _ (List.mem_of_getElem? (i := 16) rfl))))))))
theorem hw_17 : (Jvm.Cond.static ({ cls := "java/lang/System", name := "arraycopy", desc := "(Ljava/lang/Object;ILjava/lang/Object;II)V" } : Jvm.MethodName)) ∈ lg := List.mem_append_left _ (List.mem_append_left _ (List.mem_append_left _ (List.mem_append_left _ (List.mem_append_left _ (List.mem_append_left _ (List.mem_append_left _ (List.mem_append_left _ (List.mem_of_getElem? (i := 17) rfl))))))))
theorem hw_18 : (Jvm.Cond.initialized "java/lang/System") ∈ lg := List.mem_append_left _ (List.mem_append_left _ (List.mem_append_left _ (List.mem_append_left _ (List.mem_append_left _ (List.mem_append_left _ (List.mem_append_left _ (List.mem_append_left _ (List.mem_of_getElem? (i := 18) rfl))))))))
theorem hw_19 : (Jvm.Cond.fieldLink "HistoryJudge$Program" (18 : Nat) "HistoryJudge$Program" "cells" "[I") ∈ lg := List.mem_append_left _ (List.mem_append_left _ (List.mem_append_left _ (List.mem_append_left _ (List.mem_append_left _ (List.mem_append_left _ (List.mem_append_left _ (List.mem_append_left _ (List.mem_of_getElem? (i := 19) rfl))))))))
theorem hw_20 : (Jvm.Cond.fieldLink "HistoryJudge$Program" (21 : Nat) "HistoryJudge$Program" "arguments" "[I") ∈ lg := List.mem_append_left _ (List.mem_append_left _ (List.mem_append_left _ (List.mem_append_left _ (List.mem_append_left _ (List.mem_append_left _ (List.mem_append_left _ (List.mem_append_left _ (List.mem_of_getElem? (i := 20) rfl))))))))
theorem hw_21 : (Jvm.Cond.code ({ cls := "HistoryJudge$Program", name := "copyFrom", desc := "(LHistoryJudge$Program;)V" } : Jvm.MethodName) prog_6_method_11_code (3 : Nat) (Option.none : Option Jvm.ClassFile.FieldType)) ∈ lg := List.mem_append_left _ (List.mem_append_left _ (List.mem_append_left _ (List.mem_append_left _ (List.mem_append_left _ (List.mem_append_left _ (List.mem_append_left _ (List.mem_append_left _ (List.mem_of_getElem? (i := 21) rfl))))))))
theorem hw_22 : (Jvm.Cond.methodLink "HistoryJudge" (125 : Nat) ({ cls := "HistoryJudge$Program", name := "copyFrom", desc := "(LHistoryJudge$Program;)V" } : Jvm.MethodName)) ∈ lg := List.mem_append_left _ (List.mem_append_left _ (List.mem_append_left _ (List.mem_append_left _ (List.mem_append_left _ (List.mem_append_left _ (List.mem_append_left _ (List.mem_append_left _ (List.mem_of_getElem? (i := 22) rfl))))))))
theorem hw_23 : (Jvm.Cond.instanceMethod ({ cls := "HistoryJudge$Program", name := "copyFrom", desc := "(LHistoryJudge$Program;)V" } : Jvm.MethodName)) ∈ lg := List.mem_append_left _ (List.mem_append_left _ (List.mem_append_left _ (List.mem_append_left _ (List.mem_append_left _ (List.mem_append_left _ (List.mem_append_left _ (List.mem_append_left _ (List.mem_of_getElem? (i := 23) rfl))))))))
theorem hw_24 : (Jvm.Cond.selects "HistoryJudge$Program" ({ cls := "HistoryJudge$Program", name := "copyFrom", desc := "(LHistoryJudge$Program;)V" } : Jvm.MethodName) ({ cls := "HistoryJudge$Program", name := "copyFrom", desc := "(LHistoryJudge$Program;)V" } : Jvm.MethodName)) ∈ lg := List.mem_append_left _ (List.mem_append_left _ (List.mem_append_left _ (List.mem_append_left _ (List.mem_append_left _ (List.mem_append_left _ (List.mem_append_left _ (List.mem_append_left _ (List.mem_of_getElem? (i := 24) rfl))))))))
theorem hw_25 : (Jvm.Cond.code ({ cls := "HistoryJudge$Program", name := "start", desc := "(I)I" } : Jvm.MethodName) prog_6_method_3_code (2 : Nat) (Option.some Jvm.ClassFile.FieldType.int)) ∈ lg := List.mem_append_left _ (List.mem_append_left _ (List.mem_append_left _ (List.mem_append_left _ (List.mem_append_left _ (List.mem_append_left _ (List.mem_append_left _ (List.mem_append_left _ (List.mem_of_getElem? (i := 25) rfl))))))))
theorem hw_26 : (Jvm.Cond.methodLink "HistoryJudge$Program" (24 : Nat) ({ cls := "HistoryJudge$Program", name := "start", desc := "(I)I" } : Jvm.MethodName)) ∈ lg := List.mem_append_left _ (List.mem_append_left _ (List.mem_append_left _ (List.mem_append_left _ (List.mem_append_left _ (List.mem_append_left _ (List.mem_append_left _ (List.mem_append_left _ (List.mem_of_getElem? (i := 26) rfl))))))))
theorem hw_27 : (Jvm.Cond.instanceMethod ({ cls := "HistoryJudge$Program", name := "start", desc := "(I)I" } : Jvm.MethodName)) ∈ lg := List.mem_append_left _ (List.mem_append_left _ (List.mem_append_left _ (List.mem_append_left _ (List.mem_append_left _ (List.mem_append_left _ (List.mem_append_left _ (List.mem_append_left _ (List.mem_of_getElem? (i := 27) rfl))))))))
theorem hw_28 : (Jvm.Cond.selects "HistoryJudge$Program" ({ cls := "HistoryJudge$Program", name := "start", desc := "(I)I" } : Jvm.MethodName) ({ cls := "HistoryJudge$Program", name := "start", desc := "(I)I" } : Jvm.MethodName)) ∈ lg := List.mem_append_left _ (List.mem_append_left _ (List.mem_append_left _ (List.mem_append_left _ (List.mem_append_left _ (List.mem_append_left _ (List.mem_append_left _ (List.mem_append_left _ (List.mem_of_getElem? (i := 28) rfl))))))))
theorem hw_29 : (Jvm.Cond.code ({ cls := "HistoryJudge$Program", name := "end", desc := "(I)I" } : Jvm.MethodName) prog_6_method_4_code (2 : Nat) (Option.some Jvm.ClassFile.FieldType.int)) ∈ lg := List.mem_append_left _ (List.mem_append_left _ (List.mem_append_left _ (List.mem_append_left _ (List.mem_append_left _ (List.mem_append_left _ (List.mem_append_left _ (List.mem_append_left _ (List.mem_of_getElem? (i := 29) rfl))))))))
theorem hw_30 : (Jvm.Cond.methodLink "HistoryJudge$Program" (28 : Nat) ({ cls := "HistoryJudge$Program", name := "end", desc := "(I)I" } : Jvm.MethodName)) ∈ lg := List.mem_append_left _ (List.mem_append_left _ (List.mem_append_left _ (List.mem_append_left _ (List.mem_append_left _ (List.mem_append_left _ (List.mem_append_left _ (List.mem_append_left _ (List.mem_of_getElem? (i := 30) rfl))))))))
theorem hw_31 : (Jvm.Cond.instanceMethod ({ cls := "HistoryJudge$Program", name := "end", desc := "(I)I" } : Jvm.MethodName)) ∈ lg := List.mem_append_left _ (List.mem_append_left _ (List.mem_append_left _ (List.mem_append_left _ (List.mem_append_left _ (List.mem_append_left _ (List.mem_append_left _ (List.mem_append_left _ (List.mem_of_getElem? (i := 31) rfl))))))))
theorem hw_32 : (Jvm.Cond.selects "HistoryJudge$Program" ({ cls := "HistoryJudge$Program", name := "end", desc := "(I)I" } : Jvm.MethodName) ({ cls := "HistoryJudge$Program", name := "end", desc := "(I)I" } : Jvm.MethodName)) ∈ lg := List.mem_append_left _ (List.mem_append_left _ (List.mem_append_left _ (List.mem_append_left _ (List.mem_append_left _ (List.mem_append_left _ (List.mem_append_left _ (List.mem_append_left _ (List.mem_of_getElem? (i := 32) rfl))))))))
theorem hw_33 : (Jvm.Cond.code ({ cls := "HistoryJudge$Program", name := "put", desc := "(IIII)V" } : Jvm.MethodName) prog_6_method_19_code (5 : Nat) (Option.none : Option Jvm.ClassFile.FieldType)) ∈ lg := List.mem_append_left _ (List.mem_append_left _ (List.mem_append_left _ (List.mem_append_left _ (List.mem_append_left _ (List.mem_append_left _ (List.mem_append_left _ (List.mem_append_left _ (List.mem_of_getElem? (i := 33) rfl))))))))
theorem hw_34 : (Jvm.Cond.methodLink "HistoryJudge$Program" (48 : Nat) ({ cls := "HistoryJudge$Program", name := "put", desc := "(IIII)V" } : Jvm.MethodName)) ∈ lg := List.mem_append_left _ (List.mem_append_left _ (List.mem_append_left _ (List.mem_append_left _ (List.mem_append_left _ (List.mem_append_left _ (List.mem_append_left _ (List.mem_append_left _ (List.mem_of_getElem? (i := 34) rfl))))))))
theorem hw_35 : (Jvm.Cond.instanceMethod ({ cls := "HistoryJudge$Program", name := "put", desc := "(IIII)V" } : Jvm.MethodName)) ∈ lg := List.mem_append_left _ (List.mem_append_left _ (List.mem_append_left _ (List.mem_append_left _ (List.mem_append_left _ (List.mem_append_left _ (List.mem_append_left _ (List.mem_append_left _ (List.mem_of_getElem? (i := 35) rfl))))))))
theorem hw_36 : (Jvm.Cond.selects "HistoryJudge$Program" ({ cls := "HistoryJudge$Program", name := "put", desc := "(IIII)V" } : Jvm.MethodName) ({ cls := "HistoryJudge$Program", name := "put", desc := "(IIII)V" } : Jvm.MethodName)) ∈ lg := List.mem_append_left _ (List.mem_append_left _ (List.mem_append_left _ (List.mem_append_left _ (List.mem_append_left _ (List.mem_append_left _ (List.mem_append_left _ (List.mem_append_left _ (List.mem_of_getElem? (i := 36) rfl))))))))
theorem hw_37 : (Jvm.Cond.code ({ cls := "HistoryJudge$Program", name := "shiftUp", desc := "(II)V" } : Jvm.MethodName) prog_6_method_20_code (4 : Nat) (Option.none : Option Jvm.ClassFile.FieldType)) ∈ lg := List.mem_append_left _ (List.mem_append_left _ (List.mem_append_left _ (List.mem_append_left _ (List.mem_append_left _ (List.mem_append_left _ (List.mem_append_left _ (List.mem_append_left _ (List.mem_of_getElem? (i := 37) rfl))))))))
theorem hw_38 : (Jvm.Cond.methodLink "HistoryJudge$Program" (41 : Nat) ({ cls := "HistoryJudge$Program", name := "shiftUp", desc := "(II)V" } : Jvm.MethodName)) ∈ lg := List.mem_append_left _ (List.mem_append_left _ (List.mem_append_left _ (List.mem_append_left _ (List.mem_append_left _ (List.mem_append_left _ (List.mem_append_left _ (List.mem_append_left _ (List.mem_of_getElem? (i := 38) rfl))))))))
theorem hw_39 : (Jvm.Cond.instanceMethod ({ cls := "HistoryJudge$Program", name := "shiftUp", desc := "(II)V" } : Jvm.MethodName)) ∈ lg := List.mem_append_left _ (List.mem_append_left _ (List.mem_append_left _ (List.mem_append_left _ (List.mem_append_left _ (List.mem_append_left _ (List.mem_append_left _ (List.mem_append_left _ (List.mem_of_getElem? (i := 39) rfl))))))))
theorem hw_40 : (Jvm.Cond.selects "HistoryJudge$Program" ({ cls := "HistoryJudge$Program", name := "shiftUp", desc := "(II)V" } : Jvm.MethodName) ({ cls := "HistoryJudge$Program", name := "shiftUp", desc := "(II)V" } : Jvm.MethodName)) ∈ lg := List.mem_append_left _ (List.mem_append_left _ (List.mem_append_left _ (List.mem_append_left _ (List.mem_append_left _ (List.mem_append_left _ (List.mem_append_left _ (List.mem_append_left _ (List.mem_of_getElem? (i := 40) rfl))))))))
theorem hw_41 : (Jvm.Cond.code ({ cls := "HistoryJudge$Program", name := "renumber", desc := "(II)V" } : Jvm.MethodName) prog_6_method_21_code (5 : Nat) (Option.none : Option Jvm.ClassFile.FieldType)) ∈ lg := List.mem_append_left _ (List.mem_append_left _ (List.mem_append_left _ (List.mem_append_left _ (List.mem_append_left _ (List.mem_append_left _ (List.mem_append_left _ (List.mem_append_left _ (List.mem_of_getElem? (i := 41) rfl))))))))
theorem hw_42 : (Jvm.Cond.methodLink "HistoryJudge$Program" (45 : Nat) ({ cls := "HistoryJudge$Program", name := "renumber", desc := "(II)V" } : Jvm.MethodName)) ∈ lg := List.mem_append_left _ (List.mem_append_left _ (List.mem_append_left _ (List.mem_append_left _ (List.mem_append_left _ (List.mem_append_left _ (List.mem_append_left _ (List.mem_append_left _ (List.mem_of_getElem? (i := 42) rfl))))))))
theorem hw_43 : (Jvm.Cond.instanceMethod ({ cls := "HistoryJudge$Program", name := "renumber", desc := "(II)V" } : Jvm.MethodName)) ∈ lg := List.mem_append_left _ (List.mem_append_left _ (List.mem_append_left _ (List.mem_append_left _ (List.mem_append_left _ (List.mem_append_left _ (List.mem_append_left _ (List.mem_append_left _ (List.mem_of_getElem? (i := 43) rfl))))))))
theorem hw_44 : (Jvm.Cond.selects "HistoryJudge$Program" ({ cls := "HistoryJudge$Program", name := "renumber", desc := "(II)V" } : Jvm.MethodName) ({ cls := "HistoryJudge$Program", name := "renumber", desc := "(II)V" } : Jvm.MethodName)) ∈ lg := List.mem_append_left _ (List.mem_append_left _ (List.mem_append_left _ (List.mem_append_left _ (List.mem_append_left _ (List.mem_append_left _ (List.mem_append_left _ (List.mem_append_left _ (List.mem_of_getElem? (i := 44) rfl))))))))
theorem hw_45 : (Jvm.Cond.code ({ cls := "HistoryJudge$Program", name := "append", desc := "(IIII)V" } : Jvm.MethodName) prog_6_method_12_code (6 : Nat) (Option.none : Option Jvm.ClassFile.FieldType)) ∈ lg := List.mem_append_left _ (List.mem_append_left _ (List.mem_append_left _ (List.mem_append_left _ (List.mem_append_left _ (List.mem_append_left _ (List.mem_append_left _ (List.mem_append_left _ (List.mem_of_getElem? (i := 45) rfl))))))))
theorem hw_46 : (Jvm.Cond.methodLink "HistoryJudge" (212 : Nat) ({ cls := "HistoryJudge$Program", name := "append", desc := "(IIII)V" } : Jvm.MethodName)) ∈ lg := List.mem_append_left _ (List.mem_append_left _ (List.mem_append_left _ (List.mem_append_left _ (List.mem_append_left _ (List.mem_append_left _ (List.mem_append_left _ (List.mem_append_left _ (List.mem_of_getElem? (i := 46) rfl))))))))
theorem hw_47 : (Jvm.Cond.instanceMethod ({ cls := "HistoryJudge$Program", name := "append", desc := "(IIII)V" } : Jvm.MethodName)) ∈ lg := List.mem_append_left _ (List.mem_append_left _ (List.mem_append_left _ (List.mem_append_left _ (List.mem_append_left _ (List.mem_append_left _ (List.mem_append_left _ (List.mem_append_left _ (List.mem_of_getElem? (i := 47) rfl))))))))
theorem hw_48 : (Jvm.Cond.selects "HistoryJudge$Program" ({ cls := "HistoryJudge$Program", name := "append", desc := "(IIII)V" } : Jvm.MethodName) ({ cls := "HistoryJudge$Program", name := "append", desc := "(IIII)V" } : Jvm.MethodName)) ∈ lg := List.mem_append_left _ (List.mem_append_left _ (List.mem_append_left _ (List.mem_append_left _ (List.mem_append_left _ (List.mem_append_left _ (List.mem_append_left _ (List.mem_append_left _ (List.mem_of_getElem? (i := 48) rfl))))))))
theorem hw_49 : (Jvm.Cond.code ({ cls := "HistoryJudge$Model", name := "isOpen", desc := "(II)Z" } : Jvm.MethodName) prog_5_method_4_code (2 : Nat) (Option.some Jvm.ClassFile.FieldType.boolean)) ∈ lg := List.mem_append_left _ (List.mem_append_left _ (List.mem_append_left _ (List.mem_append_left _ (List.mem_append_left _ (List.mem_append_left _ (List.mem_append_left _ (List.mem_append_left _ (List.mem_of_getElem? (i := 49) rfl))))))))
theorem hw_50 : (Jvm.Cond.methodLink "HistoryJudge$Model" (11 : Nat) ({ cls := "HistoryJudge$Model", name := "isOpen", desc := "(II)Z" } : Jvm.MethodName)) ∈ lg := List.mem_append_left _ (List.mem_append_left _ (List.mem_append_left _ (List.mem_append_left _ (List.mem_append_left _ (List.mem_append_left _ (List.mem_append_left _ (List.mem_append_left _ (List.mem_of_getElem? (i := 50) rfl))))))))
theorem hw_51 : (Jvm.Cond.static ({ cls := "HistoryJudge$Model", name := "isOpen", desc := "(II)Z" } : Jvm.MethodName)) ∈ lg := List.mem_append_left _ (List.mem_append_left _ (List.mem_append_left _ (List.mem_append_left _ (List.mem_append_left _ (List.mem_append_left _ (List.mem_append_left _ (List.mem_append_left _ (List.mem_of_getElem? (i := 51) rfl))))))))
theorem hw_52 : (Jvm.Cond.initialized "HistoryJudge$Model") ∈ lg := List.mem_append_left _ (List.mem_append_left _ (List.mem_append_left _ (List.mem_append_left _ (List.mem_append_left _ (List.mem_append_left _ (List.mem_append_left _ (List.mem_append_left _ (List.mem_of_getElem? (i := 52) rfl))))))))
theorem hw_53 : (Jvm.Cond.code ({ cls := "HistoryJudge$Model", name := "source", desc := "(I)I" } : Jvm.MethodName) prog_5_method_5_code (1 : Nat) (Option.some Jvm.ClassFile.FieldType.int)) ∈ lg := List.mem_append_left _ (List.mem_append_left _ (List.mem_append_left _ (List.mem_append_left _ (List.mem_append_left _ (List.mem_append_left _ (List.mem_append_left _ (List.mem_append_left _ (List.mem_of_getElem? (i := 53) rfl))))))))
theorem hw_54 : (Jvm.Cond.methodLink "HistoryJudge$Model" (15 : Nat) ({ cls := "HistoryJudge$Model", name := "source", desc := "(I)I" } : Jvm.MethodName)) ∈ lg := List.mem_append_left _ (List.mem_append_left _ (List.mem_append_left _ (List.mem_append_left _ (List.mem_append_left _ (List.mem_append_left _ (List.mem_append_left _ (List.mem_append_left _ (List.mem_of_getElem? (i := 54) rfl))))))))
theorem hw_55 : (Jvm.Cond.static ({ cls := "HistoryJudge$Model", name := "source", desc := "(I)I" } : Jvm.MethodName)) ∈ lg := List.mem_append_left _ (List.mem_append_left _ (List.mem_append_left _ (List.mem_append_left _ (List.mem_append_left _ (List.mem_append_left _ (List.mem_append_left _ (List.mem_append_left _ (List.mem_of_getElem? (i := 55) rfl))))))))
theorem hw_56 : (Jvm.Cond.code ({ cls := "HistoryJudge$Model", name := "allows", desc := "(III)Z" } : Jvm.MethodName) prog_5_method_6_code (3 : Nat) (Option.some Jvm.ClassFile.FieldType.boolean)) ∈ lg := List.mem_append_left _ (List.mem_append_left _ (List.mem_append_left _ (List.mem_append_left _ (List.mem_append_left _ (List.mem_append_left _ (List.mem_append_left _ (List.mem_append_left _ (List.mem_of_getElem? (i := 56) rfl))))))))
theorem hw_57 : (Jvm.Cond.methodLink "HistoryJudge$Program" (64 : Nat) ({ cls := "HistoryJudge$Model", name := "allows", desc := "(III)Z" } : Jvm.MethodName)) ∈ lg := List.mem_append_left _ (List.mem_append_left _ (List.mem_append_left _ (List.mem_append_left _ (List.mem_append_left _ (List.mem_append_left _ (List.mem_append_left _ (List.mem_append_left _ (List.mem_of_getElem? (i := 57) rfl))))))))
theorem hw_58 : (Jvm.Cond.static ({ cls := "HistoryJudge$Model", name := "allows", desc := "(III)Z" } : Jvm.MethodName)) ∈ lg := List.mem_append_left _ (List.mem_append_left _ (List.mem_append_left _ (List.mem_append_left _ (List.mem_append_left _ (List.mem_append_left _ (List.mem_append_left _ (List.mem_append_left _ (List.mem_of_getElem? (i := 58) rfl))))))))
theorem hw_59 : (Jvm.Cond.code ({ cls := "HistoryJudge$Model", name := "content", desc := "(II)I" } : Jvm.MethodName) prog_5_method_2_code (2 : Nat) (Option.some Jvm.ClassFile.FieldType.int)) ∈ lg := List.mem_append_left _ (List.mem_append_left _ (List.mem_append_left _ (List.mem_append_left _ (List.mem_append_left _ (List.mem_append_left _ (List.mem_append_left _ (List.mem_append_left _ (List.mem_of_getElem? (i := 59) rfl))))))))
theorem hw_60 : (Jvm.Cond.methodLink "HistoryJudge$Model" (23 : Nat) ({ cls := "HistoryJudge$Model", name := "content", desc := "(II)I" } : Jvm.MethodName)) ∈ lg := List.mem_append_left _ (List.mem_append_left _ (List.mem_append_left _ (List.mem_append_left _ (List.mem_append_left _ (List.mem_append_left _ (List.mem_append_left _ (List.mem_append_right _ (List.mem_of_getElem? (i := 0) rfl))))))))
theorem hw_61 : (Jvm.Cond.static ({ cls := "HistoryJudge$Model", name := "content", desc := "(II)I" } : Jvm.MethodName)) ∈ lg := List.mem_append_left _ (List.mem_append_left _ (List.mem_append_left _ (List.mem_append_left _ (List.mem_append_left _ (List.mem_append_left _ (List.mem_append_left _ (List.mem_append_right _ (List.mem_of_getElem? (i := 1) rfl))))))))
theorem hw_62 : (Jvm.Cond.code ({ cls := "HistoryJudge$Model", name := "held", desc := "(II)I" } : Jvm.MethodName) prog_5_method_3_code (2 : Nat) (Option.some Jvm.ClassFile.FieldType.int)) ∈ lg := List.mem_append_left _ (List.mem_append_left _ (List.mem_append_left _ (List.mem_append_left _ (List.mem_append_left _ (List.mem_append_left _ (List.mem_append_left _ (List.mem_append_right _ (List.mem_of_getElem? (i := 2) rfl))))))))
theorem hw_63 : (Jvm.Cond.methodLink "HistoryJudge$Model" (19 : Nat) ({ cls := "HistoryJudge$Model", name := "held", desc := "(II)I" } : Jvm.MethodName)) ∈ lg := List.mem_append_left _ (List.mem_append_left _ (List.mem_append_left _ (List.mem_append_left _ (List.mem_append_left _ (List.mem_append_left _ (List.mem_append_left _ (List.mem_append_right _ (List.mem_of_getElem? (i := 3) rfl))))))))
theorem hw_64 : (Jvm.Cond.static ({ cls := "HistoryJudge$Model", name := "held", desc := "(II)I" } : Jvm.MethodName)) ∈ lg := List.mem_append_left _ (List.mem_append_left _ (List.mem_append_left _ (List.mem_append_left _ (List.mem_append_left _ (List.mem_append_left _ (List.mem_append_left _ (List.mem_append_right _ (List.mem_of_getElem? (i := 4) rfl))))))))
theorem hw_65 : (Jvm.Cond.code ({ cls := "HistoryJudge$Model", name := "after", desc := "(IIII)I" } : Jvm.MethodName) prog_5_method_8_code (7 : Nat) (Option.some Jvm.ClassFile.FieldType.int)) ∈ lg := List.mem_append_left _ (List.mem_append_left _ (List.mem_append_left _ (List.mem_append_left _ (List.mem_append_left _ (List.mem_append_left _ (List.mem_append_left _ (List.mem_append_right _ (List.mem_of_getElem? (i := 5) rfl))))))))
theorem hw_66 : (Jvm.Cond.methodLink "HistoryJudge$Program" (68 : Nat) ({ cls := "HistoryJudge$Model", name := "after", desc := "(IIII)I" } : Jvm.MethodName)) ∈ lg := List.mem_append_left _ (List.mem_append_left _ (List.mem_append_left _ (List.mem_append_left _ (List.mem_append_left _ (List.mem_append_left _ (List.mem_append_left _ (List.mem_append_right _ (List.mem_of_getElem? (i := 6) rfl))))))))
theorem hw_67 : (Jvm.Cond.static ({ cls := "HistoryJudge$Model", name := "after", desc := "(IIII)I" } : Jvm.MethodName)) ∈ lg := List.mem_append_left _ (List.mem_append_left _ (List.mem_append_left _ (List.mem_append_left _ (List.mem_append_left _ (List.mem_append_left _ (List.mem_append_left _ (List.mem_append_right _ (List.mem_of_getElem? (i := 7) rfl))))))))
theorem hw_68 : (Jvm.Cond.code ({ cls := "HistoryJudge$Program", name := "isValidBeside", desc := "(II)Z" } : Jvm.MethodName) prog_6_method_17_code (6 : Nat) (Option.some Jvm.ClassFile.FieldType.boolean)) ∈ lg := List.mem_append_left _ (List.mem_append_left _ (List.mem_append_left _ (List.mem_append_left _ (List.mem_append_left _ (List.mem_append_left _ (List.mem_append_left _ (List.mem_append_right _ (List.mem_of_getElem? (i := 8) rfl))))))))
theorem hw_69 : (Jvm.Cond.methodLink "HistoryJudge$Program" (72 : Nat) ({ cls := "HistoryJudge$Program", name := "isValidBeside", desc := "(II)Z" } : Jvm.MethodName)) ∈ lg := List.mem_append_left _ (List.mem_append_left _ (List.mem_append_left _ (List.mem_append_left _ (List.mem_append_left _ (List.mem_append_left _ (List.mem_append_left _ (List.mem_append_right _ (List.mem_of_getElem? (i := 9) rfl))))))))
theorem hw_70 : (Jvm.Cond.instanceMethod ({ cls := "HistoryJudge$Program", name := "isValidBeside", desc := "(II)Z" } : Jvm.MethodName)) ∈ lg := List.mem_append_left _ (List.mem_append_left _ (List.mem_append_left _ (List.mem_append_left _ (List.mem_append_left _ (List.mem_append_left _ (List.mem_append_left _ (List.mem_append_right _ (List.mem_of_getElem? (i := 10) rfl))))))))
theorem hw_71 : (Jvm.Cond.selects "HistoryJudge$Program" ({ cls := "HistoryJudge$Program", name := "isValidBeside", desc := "(II)Z" } : Jvm.MethodName) ({ cls := "HistoryJudge$Program", name := "isValidBeside", desc := "(II)Z" } : Jvm.MethodName)) ∈ lg := List.mem_append_left _ (List.mem_append_left _ (List.mem_append_left _ (List.mem_append_left _ (List.mem_append_left _ (List.mem_append_left _ (List.mem_append_left _ (List.mem_append_right _ (List.mem_of_getElem? (i := 11) rfl))))))))
theorem hw_72 : (Jvm.Cond.code ({ cls := "HistoryJudge$Program", name := "isValid", desc := "()Z" } : Jvm.MethodName) prog_6_method_16_code (5 : Nat) (Option.some Jvm.ClassFile.FieldType.boolean)) ∈ lg := List.mem_append_left _ (List.mem_append_left _ (List.mem_append_left _ (List.mem_append_left _ (List.mem_append_left _ (List.mem_append_left _ (List.mem_append_left _ (List.mem_append_right _ (List.mem_of_getElem? (i := 12) rfl))))))))
theorem hw_73 : (Jvm.Cond.methodLink "HistoryJudge" (121 : Nat) ({ cls := "HistoryJudge$Program", name := "isValid", desc := "()Z" } : Jvm.MethodName)) ∈ lg := List.mem_append_left _ (List.mem_append_left _ (List.mem_append_left _ (List.mem_append_left _ (List.mem_append_left _ (List.mem_append_left _ (List.mem_append_left _ (List.mem_append_right _ (List.mem_of_getElem? (i := 13) rfl))))))))
theorem hw_74 : (Jvm.Cond.instanceMethod ({ cls := "HistoryJudge$Program", name := "isValid", desc := "()Z" } : Jvm.MethodName)) ∈ lg := List.mem_append_left _ (List.mem_append_left _ (List.mem_append_left _ (List.mem_append_left _ (List.mem_append_left _ (List.mem_append_left _ (List.mem_append_left _ (List.mem_append_right _ (List.mem_of_getElem? (i := 14) rfl))))))))
theorem hw_75 : (Jvm.Cond.selects "HistoryJudge$Program" ({ cls := "HistoryJudge$Program", name := "isValid", desc := "()Z" } : Jvm.MethodName) ({ cls := "HistoryJudge$Program", name := "isValid", desc := "()Z" } : Jvm.MethodName)) ∈ lg := List.mem_append_left _ (List.mem_append_left _ (List.mem_append_left _ (List.mem_append_left _ (List.mem_append_left _ (List.mem_append_left _ (List.mem_append_left _ (List.mem_append_right _ (List.mem_of_getElem? (i := 15) rfl))))))))
theorem hw_76 : (Jvm.Cond.fieldLink "HistoryJudge" (29 : Nat) "HistoryJudge" "draws" "LHistoryJudge$Draws;") ∈ lg := List.mem_append_left _ (List.mem_append_left _ (List.mem_append_left _ (List.mem_append_left _ (List.mem_append_left _ (List.mem_append_left _ (List.mem_append_left _ (List.mem_append_right _ (List.mem_of_getElem? (i := 16) rfl))))))))
theorem hw_77 : (Jvm.Cond.fieldLink "HistoryJudge$Draws" (7 : Nat) "HistoryJudge$Draws" "state" "J") ∈ lg := List.mem_append_left _ (List.mem_append_left _ (List.mem_append_left _ (List.mem_append_left _ (List.mem_append_left _ (List.mem_append_left _ (List.mem_append_left _ (List.mem_append_right _ (List.mem_of_getElem? (i := 17) rfl))))))))
theorem hw_78 : (Jvm.Cond.constantLong "HistoryJudge$Draws" (13 : Nat) (6364136223846793005 : Int64)) ∈ lg := List.mem_append_left _ (List.mem_append_left _ (List.mem_append_left _ (List.mem_append_left _ (List.mem_append_left _ (List.mem_append_left _ (List.mem_append_left _ (List.mem_append_right _ (List.mem_of_getElem? (i := 18) rfl))))))))
theorem hw_79 : (Jvm.Cond.constantLong "HistoryJudge$Draws" (15 : Nat) (1442695040888963407 : Int64)) ∈ lg := List.mem_append_left _ (List.mem_append_left _ (List.mem_append_left _ (List.mem_append_left _ (List.mem_append_left _ (List.mem_append_left _ (List.mem_append_left _ (List.mem_append_right _ (List.mem_of_getElem? (i := 19) rfl))))))))
theorem hw_80 : (Jvm.Cond.code ({ cls := "HistoryJudge$Draws", name := "below", desc := "(I)I" } : Jvm.MethodName) prog_2_method_3_code (3 : Nat) (Option.some Jvm.ClassFile.FieldType.int)) ∈ lg := List.mem_append_left _ (List.mem_append_left _ (List.mem_append_left _ (List.mem_append_left _ (List.mem_append_left _ (List.mem_append_left _ (List.mem_append_left _ (List.mem_append_right _ (List.mem_of_getElem? (i := 20) rfl))))))))
theorem hw_81 : (Jvm.Cond.methodLink "HistoryJudge" (219 : Nat) ({ cls := "HistoryJudge$Draws", name := "below", desc := "(I)I" } : Jvm.MethodName)) ∈ lg := List.mem_append_left _ (List.mem_append_left _ (List.mem_append_left _ (List.mem_append_left _ (List.mem_append_left _ (List.mem_append_left _ (List.mem_append_left _ (List.mem_append_right _ (List.mem_of_getElem? (i := 21) rfl))))))))
theorem hw_82 : (Jvm.Cond.instanceMethod ({ cls := "HistoryJudge$Draws", name := "below", desc := "(I)I" } : Jvm.MethodName)) ∈ lg := List.mem_append_left _ (List.mem_append_left _ (List.mem_append_left _ (List.mem_append_left _ (List.mem_append_left _ (List.mem_append_left _ (List.mem_append_left _ (List.mem_append_right _ (List.mem_of_getElem? (i := 22) rfl))))))))
theorem hw_83 : (Jvm.Cond.selects "HistoryJudge$Draws" ({ cls := "HistoryJudge$Draws", name := "below", desc := "(I)I" } : Jvm.MethodName) ({ cls := "HistoryJudge$Draws", name := "below", desc := "(I)I" } : Jvm.MethodName)) ∈ lg := List.mem_append_left _ (List.mem_append_left _ (List.mem_append_left _ (List.mem_append_left _ (List.mem_append_left _ (List.mem_append_left _ (List.mem_append_left _ (List.mem_append_right _ (List.mem_of_getElem? (i := 23) rfl))))))))
theorem hw_84 : (Jvm.Cond.initialized "HistoryJudge$Draws") ∈ lg := List.mem_append_left _ (List.mem_append_left _ (List.mem_append_left _ (List.mem_append_left _ (List.mem_append_left _ (List.mem_append_left _ (List.mem_append_left _ (List.mem_append_right _ (List.mem_of_getElem? (i := 24) rfl))))))))
theorem hw_85 : (Jvm.Cond.code ({ cls := "HistoryJudge$Program", name := "known", desc := "(I)I" } : Jvm.MethodName) prog_6_method_7_code (2 : Nat) (Option.some Jvm.ClassFile.FieldType.int)) ∈ lg := List.mem_append_left _ (List.mem_append_left _ (List.mem_append_left _ (List.mem_append_left _ (List.mem_append_left _ (List.mem_append_left _ (List.mem_append_left _ (List.mem_append_right _ (List.mem_of_getElem? (i := 25) rfl))))))))
theorem hw_86 : (Jvm.Cond.methodLink "HistoryJudge" (222 : Nat) ({ cls := "HistoryJudge$Program", name := "known", desc := "(I)I" } : Jvm.MethodName)) ∈ lg := List.mem_append_left _ (List.mem_append_left _ (List.mem_append_left _ (List.mem_append_left _ (List.mem_append_left _ (List.mem_append_left _ (List.mem_append_left _ (List.mem_append_right _ (List.mem_of_getElem? (i := 26) rfl))))))))
theorem hw_87 : (Jvm.Cond.instanceMethod ({ cls := "HistoryJudge$Program", name := "known", desc := "(I)I" } : Jvm.MethodName)) ∈ lg := List.mem_append_left _ (List.mem_append_left _ (List.mem_append_left _ (List.mem_append_left _ (List.mem_append_left _ (List.mem_append_left _ (List.mem_append_left _ (List.mem_append_right _ (List.mem_of_getElem? (i := 27) rfl))))))))
theorem hw_88 : (Jvm.Cond.selects "HistoryJudge$Program" ({ cls := "HistoryJudge$Program", name := "known", desc := "(I)I" } : Jvm.MethodName) ({ cls := "HistoryJudge$Program", name := "known", desc := "(I)I" } : Jvm.MethodName)) ∈ lg := List.mem_append_left _ (List.mem_append_left _ (List.mem_append_left _ (List.mem_append_left _ (List.mem_append_left _ (List.mem_append_left _ (List.mem_append_left _ (List.mem_append_right _ (List.mem_of_getElem? (i := 28) rfl))))))))
theorem hw_89 : (Jvm.Cond.code ({ cls := "HistoryJudge", name := "appendIfValid", desc := "(IIII)Z" } : Jvm.MethodName) prog_1_method_16_code (5 : Nat) (Option.some Jvm.ClassFile.FieldType.boolean)) ∈ lg := List.mem_append_left _ (List.mem_append_left _ (List.mem_append_left _ (List.mem_append_left _ (List.mem_append_left _ (List.mem_append_left _ (List.mem_append_left _ (List.mem_append_right _ (List.mem_of_getElem? (i := 29) rfl))))))))
theorem hw_90 : (Jvm.Cond.methodLink "HistoryJudge" (70 : Nat) ({ cls := "HistoryJudge", name := "appendIfValid", desc := "(IIII)Z" } : Jvm.MethodName)) ∈ lg := List.mem_append_left _ (List.mem_append_left _ (List.mem_append_left _ (List.mem_append_left _ (List.mem_append_left _ (List.mem_append_left _ (List.mem_append_left _ (List.mem_append_right _ (List.mem_of_getElem? (i := 30) rfl))))))))
theorem hw_91 : (Jvm.Cond.instanceMethod ({ cls := "HistoryJudge", name := "appendIfValid", desc := "(IIII)Z" } : Jvm.MethodName)) ∈ lg := List.mem_append_left _ (List.mem_append_left _ (List.mem_append_left _ (List.mem_append_left _ (List.mem_append_left _ (List.mem_append_left _ (List.mem_append_left _ (List.mem_append_right _ (List.mem_of_getElem? (i := 31) rfl))))))))
theorem hw_92 : (Jvm.Cond.selects "HistoryJudge" ({ cls := "HistoryJudge", name := "appendIfValid", desc := "(IIII)Z" } : Jvm.MethodName) ({ cls := "HistoryJudge", name := "appendIfValid", desc := "(IIII)Z" } : Jvm.MethodName)) ∈ lg := List.mem_append_left _ (List.mem_append_left _ (List.mem_append_left _ (List.mem_append_left _ (List.mem_append_left _ (List.mem_append_left _ (List.mem_append_left _ (List.mem_append_right _ (List.mem_of_getElem? (i := 32) rfl))))))))
theorem hw_93 : (Jvm.Cond.initialized "HistoryJudge") ∈ lg := List.mem_append_left _ (List.mem_append_left _ (List.mem_append_left _ (List.mem_append_left _ (List.mem_append_left _ (List.mem_append_left _ (List.mem_append_left _ (List.mem_append_right _ (List.mem_of_getElem? (i := 33) rfl))))))))
theorem hw_94 : (Jvm.Cond.code ({ cls := "HistoryJudge$Program", name := "knownAt", desc := "(II)I" } : Jvm.MethodName) prog_6_method_8_code (3 : Nat) (Option.some Jvm.ClassFile.FieldType.int)) ∈ lg := List.mem_append_left _ (List.mem_append_left _ (List.mem_append_left _ (List.mem_append_left _ (List.mem_append_left _ (List.mem_append_left _ (List.mem_append_left _ (List.mem_append_right _ (List.mem_of_getElem? (i := 34) rfl))))))))
theorem hw_95 : (Jvm.Cond.methodLink "HistoryJudge" (225 : Nat) ({ cls := "HistoryJudge$Program", name := "knownAt", desc := "(II)I" } : Jvm.MethodName)) ∈ lg := List.mem_append_left _ (List.mem_append_left _ (List.mem_append_left _ (List.mem_append_left _ (List.mem_append_left _ (List.mem_append_left _ (List.mem_append_left _ (List.mem_append_right _ (List.mem_of_getElem? (i := 35) rfl))))))))
theorem hw_96 : (Jvm.Cond.instanceMethod ({ cls := "HistoryJudge$Program", name := "knownAt", desc := "(II)I" } : Jvm.MethodName)) ∈ lg := List.mem_append_left _ (List.mem_append_left _ (List.mem_append_left _ (List.mem_append_left _ (List.mem_append_left _ (List.mem_append_left _ (List.mem_append_left _ (List.mem_append_right _ (List.mem_of_getElem? (i := 36) rfl))))))))
theorem hw_97 : (Jvm.Cond.selects "HistoryJudge$Program" ({ cls := "HistoryJudge$Program", name := "knownAt", desc := "(II)I" } : Jvm.MethodName) ({ cls := "HistoryJudge$Program", name := "knownAt", desc := "(II)I" } : Jvm.MethodName)) ∈ lg := List.mem_append_left _ (List.mem_append_left _ (List.mem_append_left _ (List.mem_append_left _ (List.mem_append_left _ (List.mem_append_left _ (List.mem_append_left _ (List.mem_append_right _ (List.mem_of_getElem? (i := 37) rfl))))))))
theorem hw_98 : (Jvm.Cond.code ({ cls := "HistoryJudge", name := "drawCommand", desc := "(I)Z" } : Jvm.MethodName) prog_1_method_18_code (7 : Nat) (Option.some Jvm.ClassFile.FieldType.boolean)) ∈ lg := List.mem_append_left _ (List.mem_append_left _ (List.mem_append_left _ (List.mem_append_left _ (List.mem_append_left _ (List.mem_append_left _ (List.mem_append_left _ (List.mem_append_right _ (List.mem_of_getElem? (i := 38) rfl))))))))
theorem hw_99 : (Jvm.Cond.methodLink "HistoryJudge" (216 : Nat) ({ cls := "HistoryJudge", name := "drawCommand", desc := "(I)Z" } : Jvm.MethodName)) ∈ lg := List.mem_append_left _ (List.mem_append_left _ (List.mem_append_left _ (List.mem_append_left _ (List.mem_append_left _ (List.mem_append_left _ (List.mem_append_left _ (List.mem_append_right _ (List.mem_of_getElem? (i := 39) rfl))))))))
theorem hw_100 : (Jvm.Cond.instanceMethod ({ cls := "HistoryJudge", name := "drawCommand", desc := "(I)Z" } : Jvm.MethodName)) ∈ lg := List.mem_append_left _ (List.mem_append_left _ (List.mem_append_left _ (List.mem_append_left _ (List.mem_append_left _ (List.mem_append_left _ (List.mem_append_left _ (List.mem_append_right _ (List.mem_of_getElem? (i := 40) rfl))))))))
theorem hw_101 : (Jvm.Cond.selects "HistoryJudge" ({ cls := "HistoryJudge", name := "drawCommand", desc := "(I)Z" } : Jvm.MethodName) ({ cls := "HistoryJudge", name := "drawCommand", desc := "(I)Z" } : Jvm.MethodName)) ∈ lg := List.mem_append_left _ (List.mem_append_left _ (List.mem_append_left _ (List.mem_append_left _ (List.mem_append_left _ (List.mem_append_left _ (List.mem_append_left _ (List.mem_append_right _ (List.mem_of_getElem? (i := 41) rfl))))))))
theorem hw_102 : (Jvm.Cond.code ({ cls := "HistoryJudge$Program", name := "lower", desc := "(IZ)Z" } : Jvm.MethodName) prog_6_method_15_code (4 : Nat) (Option.some Jvm.ClassFile.FieldType.boolean)) ∈ lg := List.mem_append_left _ (List.mem_append_left _ (List.mem_append_left _ (List.mem_append_left _ (List.mem_append_left _ (List.mem_append_left _ (List.mem_append_left _ (List.mem_append_right _ (List.mem_of_getElem? (i := 42) rfl))))))))
theorem hw_103 : (Jvm.Cond.methodLink "HistoryJudge" (234 : Nat) ({ cls := "HistoryJudge$Program", name := "lower", desc := "(IZ)Z" } : Jvm.MethodName)) ∈ lg := List.mem_append_left _ (List.mem_append_left _ (List.mem_append_left _ (List.mem_append_left _ (List.mem_append_left _ (List.mem_append_left _ (List.mem_append_left _ (List.mem_append_right _ (List.mem_of_getElem? (i := 43) rfl))))))))
theorem hw_104 : (Jvm.Cond.instanceMethod ({ cls := "HistoryJudge$Program", name := "lower", desc := "(IZ)Z" } : Jvm.MethodName)) ∈ lg := List.mem_append_left _ (List.mem_append_left _ (List.mem_append_left _ (List.mem_append_left _ (List.mem_append_left _ (List.mem_append_left _ (List.mem_append_left _ (List.mem_append_right _ (List.mem_of_getElem? (i := 44) rfl))))))))
theorem hw_105 : (Jvm.Cond.selects "HistoryJudge$Program" ({ cls := "HistoryJudge$Program", name := "lower", desc := "(IZ)Z" } : Jvm.MethodName) ({ cls := "HistoryJudge$Program", name := "lower", desc := "(IZ)Z" } : Jvm.MethodName)) ∈ lg := List.mem_append_left _ (List.mem_append_left _ (List.mem_append_left _ (List.mem_append_left _ (List.mem_append_left _ (List.mem_append_left _ (List.mem_append_left _ (List.mem_append_right _ (List.mem_of_getElem? (i := 45) rfl))))))))
theorem hw_106 : (Jvm.Cond.code ({ cls := "HistoryJudge$Program", name := "hasRoom", desc := "(I)Z" } : Jvm.MethodName) prog_6_method_6_code (2 : Nat) (Option.some Jvm.ClassFile.FieldType.boolean)) ∈ lg := List.mem_append_left _ (List.mem_append_left _ (List.mem_append_left _ (List.mem_append_left _ (List.mem_append_left _ (List.mem_append_left _ (List.mem_append_left _ (List.mem_append_right _ (List.mem_of_getElem? (i := 46) rfl))))))))
theorem hw_107 : (Jvm.Cond.methodLink "HistoryJudge$Program" (59 : Nat) ({ cls := "HistoryJudge$Program", name := "hasRoom", desc := "(I)Z" } : Jvm.MethodName)) ∈ lg := List.mem_append_left _ (List.mem_append_left _ (List.mem_append_left _ (List.mem_append_left _ (List.mem_append_left _ (List.mem_append_left _ (List.mem_append_left _ (List.mem_append_right _ (List.mem_of_getElem? (i := 47) rfl))))))))
theorem hw_108 : (Jvm.Cond.instanceMethod ({ cls := "HistoryJudge$Program", name := "hasRoom", desc := "(I)Z" } : Jvm.MethodName)) ∈ lg := List.mem_append_left _ (List.mem_append_left _ (List.mem_append_left _ (List.mem_append_left _ (List.mem_append_left _ (List.mem_append_left _ (List.mem_append_left _ (List.mem_append_right _ (List.mem_of_getElem? (i := 48) rfl))))))))
theorem hw_109 : (Jvm.Cond.selects "HistoryJudge$Program" ({ cls := "HistoryJudge$Program", name := "hasRoom", desc := "(I)Z" } : Jvm.MethodName) ({ cls := "HistoryJudge$Program", name := "hasRoom", desc := "(I)Z" } : Jvm.MethodName)) ∈ lg := List.mem_append_left _ (List.mem_append_left _ (List.mem_append_left _ (List.mem_append_left _ (List.mem_append_left _ (List.mem_append_left _ (List.mem_append_left _ (List.mem_append_right _ (List.mem_of_getElem? (i := 49) rfl))))))))
theorem hw_110 : (Jvm.Cond.code ({ cls := "HistoryJudge$Program", name := "promote", desc := "(I)Z" } : Jvm.MethodName) prog_6_method_14_code (10 : Nat) (Option.some Jvm.ClassFile.FieldType.boolean)) ∈ lg := List.mem_append_left _ (List.mem_append_left _ (List.mem_append_left _ (List.mem_append_left _ (List.mem_append_left _ (List.mem_append_left _ (List.mem_append_left _ (List.mem_append_right _ (List.mem_of_getElem? (i := 50) rfl))))))))
theorem hw_111 : (Jvm.Cond.methodLink "HistoryJudge" (231 : Nat) ({ cls := "HistoryJudge$Program", name := "promote", desc := "(I)Z" } : Jvm.MethodName)) ∈ lg := List.mem_append_left _ (List.mem_append_left _ (List.mem_append_left _ (List.mem_append_left _ (List.mem_append_left _ (List.mem_append_left _ (List.mem_append_left _ (List.mem_append_right _ (List.mem_of_getElem? (i := 51) rfl))))))))
theorem hw_112 : (Jvm.Cond.instanceMethod ({ cls := "HistoryJudge$Program", name := "promote", desc := "(I)Z" } : Jvm.MethodName)) ∈ lg := List.mem_append_left _ (List.mem_append_left _ (List.mem_append_left _ (List.mem_append_left _ (List.mem_append_left _ (List.mem_append_left _ (List.mem_append_left _ (List.mem_append_right _ (List.mem_of_getElem? (i := 52) rfl))))))))
theorem hw_113 : (Jvm.Cond.selects "HistoryJudge$Program" ({ cls := "HistoryJudge$Program", name := "promote", desc := "(I)Z" } : Jvm.MethodName) ({ cls := "HistoryJudge$Program", name := "promote", desc := "(I)Z" } : Jvm.MethodName)) ∈ lg := List.mem_append_left _ (List.mem_append_left _ (List.mem_append_left _ (List.mem_append_left _ (List.mem_append_left _ (List.mem_append_left _ (List.mem_append_left _ (List.mem_append_right _ (List.mem_of_getElem? (i := 53) rfl))))))))
theorem hw_114 : (Jvm.Cond.code ({ cls := "HistoryJudge$Program", name := "isNeeded", desc := "(I)Z" } : Jvm.MethodName) prog_6_method_18_code (4 : Nat) (Option.some Jvm.ClassFile.FieldType.boolean)) ∈ lg := List.mem_append_left _ (List.mem_append_left _ (List.mem_append_left _ (List.mem_append_left _ (List.mem_append_left _ (List.mem_append_left _ (List.mem_append_left _ (List.mem_append_right _ (List.mem_of_getElem? (i := 54) rfl))))))))
theorem hw_115 : (Jvm.Cond.methodLink "HistoryJudge$Program" (52 : Nat) ({ cls := "HistoryJudge$Program", name := "isNeeded", desc := "(I)Z" } : Jvm.MethodName)) ∈ lg := List.mem_append_left _ (List.mem_append_left _ (List.mem_append_left _ (List.mem_append_left _ (List.mem_append_left _ (List.mem_append_left _ (List.mem_append_left _ (List.mem_append_right _ (List.mem_of_getElem? (i := 55) rfl))))))))
theorem hw_116 : (Jvm.Cond.instanceMethod ({ cls := "HistoryJudge$Program", name := "isNeeded", desc := "(I)Z" } : Jvm.MethodName)) ∈ lg := List.mem_append_left _ (List.mem_append_left _ (List.mem_append_left _ (List.mem_append_left _ (List.mem_append_left _ (List.mem_append_left _ (List.mem_append_left _ (List.mem_append_right _ (List.mem_of_getElem? (i := 56) rfl))))))))
theorem hw_117 : (Jvm.Cond.selects "HistoryJudge$Program" ({ cls := "HistoryJudge$Program", name := "isNeeded", desc := "(I)Z" } : Jvm.MethodName) ({ cls := "HistoryJudge$Program", name := "isNeeded", desc := "(I)Z" } : Jvm.MethodName)) ∈ lg := List.mem_append_left _ (List.mem_append_left _ (List.mem_append_left _ (List.mem_append_left _ (List.mem_append_left _ (List.mem_append_left _ (List.mem_append_left _ (List.mem_append_right _ (List.mem_of_getElem? (i := 57) rfl))))))))
theorem hw_118 : (Jvm.Cond.code ({ cls := "HistoryJudge$Program", name := "branchOf", desc := "(I)I" } : Jvm.MethodName) prog_6_method_5_code (2 : Nat) (Option.some Jvm.ClassFile.FieldType.int)) ∈ lg := List.mem_append_left _ (List.mem_append_left _ (List.mem_append_left _ (List.mem_append_left _ (List.mem_append_left _ (List.mem_append_left _ (List.mem_append_left _ (List.mem_append_right _ (List.mem_of_getElem? (i := 58) rfl))))))))
theorem hw_119 : (Jvm.Cond.methodLink "HistoryJudge$Program" (56 : Nat) ({ cls := "HistoryJudge$Program", name := "branchOf", desc := "(I)I" } : Jvm.MethodName)) ∈ lg := List.mem_append_left _ (List.mem_append_left _ (List.mem_append_left _ (List.mem_append_left _ (List.mem_append_left _ (List.mem_append_left _ (List.mem_append_left _ (List.mem_append_right _ (List.mem_of_getElem? (i := 59) rfl))))))))
theorem hw_120 : (Jvm.Cond.instanceMethod ({ cls := "HistoryJudge$Program", name := "branchOf", desc := "(I)I" } : Jvm.MethodName)) ∈ lg := List.mem_append_left _ (List.mem_append_left _ (List.mem_append_left _ (List.mem_append_left _ (List.mem_append_left _ (List.mem_append_left _ (List.mem_append_right _ (List.mem_of_getElem? (i := 0) rfl)))))))
theorem hw_121 : (Jvm.Cond.selects "HistoryJudge$Program" ({ cls := "HistoryJudge$Program", name := "branchOf", desc := "(I)I" } : Jvm.MethodName) ({ cls := "HistoryJudge$Program", name := "branchOf", desc := "(I)I" } : Jvm.MethodName)) ∈ lg := List.mem_append_left _ (List.mem_append_left _ (List.mem_append_left _ (List.mem_append_left _ (List.mem_append_left _ (List.mem_append_left _ (List.mem_append_right _ (List.mem_of_getElem? (i := 1) rfl)))))))
theorem hw_122 : (Jvm.Cond.code ({ cls := "HistoryJudge$Program", name := "remove", desc := "(I)Z" } : Jvm.MethodName) prog_6_method_13_code (4 : Nat) (Option.some Jvm.ClassFile.FieldType.boolean)) ∈ lg := List.mem_append_left _ (List.mem_append_left _ (List.mem_append_left _ (List.mem_append_left _ (List.mem_append_left _ (List.mem_append_left _ (List.mem_append_right _ (List.mem_of_getElem? (i := 2) rfl)))))))
theorem hw_123 : (Jvm.Cond.methodLink "HistoryJudge" (228 : Nat) ({ cls := "HistoryJudge$Program", name := "remove", desc := "(I)Z" } : Jvm.MethodName)) ∈ lg := List.mem_append_left _ (List.mem_append_left _ (List.mem_append_left _ (List.mem_append_left _ (List.mem_append_left _ (List.mem_append_left _ (List.mem_append_right _ (List.mem_of_getElem? (i := 3) rfl)))))))
theorem hw_124 : (Jvm.Cond.instanceMethod ({ cls := "HistoryJudge$Program", name := "remove", desc := "(I)Z" } : Jvm.MethodName)) ∈ lg := List.mem_append_left _ (List.mem_append_left _ (List.mem_append_left _ (List.mem_append_left _ (List.mem_append_left _ (List.mem_append_left _ (List.mem_append_right _ (List.mem_of_getElem? (i := 4) rfl)))))))
theorem hw_125 : (Jvm.Cond.selects "HistoryJudge$Program" ({ cls := "HistoryJudge$Program", name := "remove", desc := "(I)Z" } : Jvm.MethodName) ({ cls := "HistoryJudge$Program", name := "remove", desc := "(I)Z" } : Jvm.MethodName)) ∈ lg := List.mem_append_left _ (List.mem_append_left _ (List.mem_append_left _ (List.mem_append_left _ (List.mem_append_left _ (List.mem_append_left _ (List.mem_append_right _ (List.mem_of_getElem? (i := 5) rfl)))))))
theorem hw_126 : (Jvm.Cond.fieldLink "HistoryJudgeModel" (65 : Nat) "HistoryJudgeModel" "thrown" "I") ∈ lg := List.mem_append_left _ (List.mem_append_left _ (List.mem_append_left _ (List.mem_append_left _ (List.mem_append_left _ (List.mem_append_left _ (List.mem_append_right _ (List.mem_of_getElem? (i := 6) rfl)))))))
theorem hw_127 : (Jvm.Cond.fieldLink "HistoryJudgeModel" (7 : Nat) "HistoryJudgeModel" "sizes" "[I") ∈ lg := List.mem_append_left _ (List.mem_append_left _ (List.mem_append_left _ (List.mem_append_left _ (List.mem_append_left _ (List.mem_append_left _ (List.mem_append_right _ (List.mem_of_getElem? (i := 7) rfl)))))))
theorem hw_128 : (Jvm.Cond.code ({ cls := "HistoryJudgeModel", name := "branch", desc := "(I)I" } : Jvm.MethodName) prog_9_method_6_code (2 : Nat) (Option.some Jvm.ClassFile.FieldType.int)) ∈ lg := List.mem_append_left _ (List.mem_append_left _ (List.mem_append_left _ (List.mem_append_left _ (List.mem_append_left _ (List.mem_append_left _ (List.mem_append_right _ (List.mem_of_getElem? (i := 8) rfl)))))))
theorem hw_129 : (Jvm.Cond.methodLink "HistoryJudgeModel" (69 : Nat) ({ cls := "HistoryJudgeModel", name := "branch", desc := "(I)I" } : Jvm.MethodName)) ∈ lg := List.mem_append_left _ (List.mem_append_left _ (List.mem_append_left _ (List.mem_append_left _ (List.mem_append_left _ (List.mem_append_left _ (List.mem_append_right _ (List.mem_of_getElem? (i := 9) rfl)))))))
theorem hw_130 : (Jvm.Cond.instanceMethod ({ cls := "HistoryJudgeModel", name := "branch", desc := "(I)I" } : Jvm.MethodName)) ∈ lg := List.mem_append_left _ (List.mem_append_left _ (List.mem_append_left _ (List.mem_append_left _ (List.mem_append_left _ (List.mem_append_left _ (List.mem_append_right _ (List.mem_of_getElem? (i := 10) rfl)))))))
theorem hw_131 : (Jvm.Cond.selects "HistoryJudgeModel" ({ cls := "HistoryJudgeModel", name := "branch", desc := "(I)I" } : Jvm.MethodName) ({ cls := "HistoryJudgeModel", name := "branch", desc := "(I)I" } : Jvm.MethodName)) ∈ lg := List.mem_append_left _ (List.mem_append_left _ (List.mem_append_left _ (List.mem_append_left _ (List.mem_append_left _ (List.mem_append_left _ (List.mem_append_right _ (List.mem_of_getElem? (i := 11) rfl)))))))
theorem hw_132 : (Jvm.Cond.initialized "HistoryJudgeModel") ∈ lg := List.mem_append_left _ (List.mem_append_left _ (List.mem_append_left _ (List.mem_append_left _ (List.mem_append_left _ (List.mem_append_left _ (List.mem_append_right _ (List.mem_of_getElem? (i := 12) rfl)))))))
theorem hw_133 : (Jvm.Cond.code ({ cls := "HistoryJudgeModel", name := "first", desc := "(I)I" } : Jvm.MethodName) prog_9_method_7_code (2 : Nat) (Option.some Jvm.ClassFile.FieldType.int)) ∈ lg := List.mem_append_left _ (List.mem_append_left _ (List.mem_append_left _ (List.mem_append_left _ (List.mem_append_left _ (List.mem_append_left _ (List.mem_append_right _ (List.mem_of_getElem? (i := 13) rfl)))))))
theorem hw_134 : (Jvm.Cond.methodLink "HistoryJudgeModel" (73 : Nat) ({ cls := "HistoryJudgeModel", name := "first", desc := "(I)I" } : Jvm.MethodName)) ∈ lg := List.mem_append_left _ (List.mem_append_left _ (List.mem_append_left _ (List.mem_append_left _ (List.mem_append_left _ (List.mem_append_left _ (List.mem_append_right _ (List.mem_of_getElem? (i := 14) rfl)))))))
theorem hw_135 : (Jvm.Cond.instanceMethod ({ cls := "HistoryJudgeModel", name := "first", desc := "(I)I" } : Jvm.MethodName)) ∈ lg := List.mem_append_left _ (List.mem_append_left _ (List.mem_append_left _ (List.mem_append_left _ (List.mem_append_left _ (List.mem_append_left _ (List.mem_append_right _ (List.mem_of_getElem? (i := 15) rfl)))))))
theorem hw_136 : (Jvm.Cond.selects "HistoryJudgeModel" ({ cls := "HistoryJudgeModel", name := "first", desc := "(I)I" } : Jvm.MethodName) ({ cls := "HistoryJudgeModel", name := "first", desc := "(I)I" } : Jvm.MethodName)) ∈ lg := List.mem_append_left _ (List.mem_append_left _ (List.mem_append_left _ (List.mem_append_left _ (List.mem_append_left _ (List.mem_append_left _ (List.mem_append_right _ (List.mem_of_getElem? (i := 16) rfl)))))))
theorem hw_137 : (Jvm.Cond.fieldLink "HistoryJudgeModel" (16 : Nat) "HistoryJudgeModel" "cell" "[I") ∈ lg := List.mem_append_left _ (List.mem_append_left _ (List.mem_append_left _ (List.mem_append_left _ (List.mem_append_left _ (List.mem_append_left _ (List.mem_append_right _ (List.mem_of_getElem? (i := 17) rfl)))))))
theorem hw_138 : (Jvm.Cond.fieldLink "HistoryJudgeModel" (13 : Nat) "HistoryJudgeModel" "kind" "[I") ∈ lg := List.mem_append_left _ (List.mem_append_left _ (List.mem_append_left _ (List.mem_append_left _ (List.mem_append_left _ (List.mem_append_left _ (List.mem_append_right _ (List.mem_of_getElem? (i := 18) rfl)))))))
theorem hw_139 : (Jvm.Cond.fieldLink "HistoryJudgeModel" (31 : Nat) "HistoryJudgeModel" "open" "[Z") ∈ lg := List.mem_append_left _ (List.mem_append_left _ (List.mem_append_left _ (List.mem_append_left _ (List.mem_append_left _ (List.mem_append_left _ (List.mem_append_right _ (List.mem_of_getElem? (i := 19) rfl)))))))
theorem hw_140 : (Jvm.Cond.code ({ cls := "HistoryJudgeModel", name := "placed", desc := "(II)I" } : Jvm.MethodName) prog_9_method_9_code (6 : Nat) (Option.some Jvm.ClassFile.FieldType.int)) ∈ lg := List.mem_append_left _ (List.mem_append_left _ (List.mem_append_left _ (List.mem_append_left _ (List.mem_append_left _ (List.mem_append_left _ (List.mem_append_right _ (List.mem_of_getElem? (i := 20) rfl)))))))
theorem hw_141 : (Jvm.Cond.methodLink "HistoryJudgeModel" (80 : Nat) ({ cls := "HistoryJudgeModel", name := "placed", desc := "(II)I" } : Jvm.MethodName)) ∈ lg := List.mem_append_left _ (List.mem_append_left _ (List.mem_append_left _ (List.mem_append_left _ (List.mem_append_left _ (List.mem_append_left _ (List.mem_append_right _ (List.mem_of_getElem? (i := 21) rfl)))))))
theorem hw_142 : (Jvm.Cond.instanceMethod ({ cls := "HistoryJudgeModel", name := "placed", desc := "(II)I" } : Jvm.MethodName)) ∈ lg := List.mem_append_left _ (List.mem_append_left _ (List.mem_append_left _ (List.mem_append_left _ (List.mem_append_left _ (List.mem_append_left _ (List.mem_append_right _ (List.mem_of_getElem? (i := 22) rfl)))))))
theorem hw_143 : (Jvm.Cond.selects "HistoryJudgeModel" ({ cls := "HistoryJudgeModel", name := "placed", desc := "(II)I" } : Jvm.MethodName) ({ cls := "HistoryJudgeModel", name := "placed", desc := "(II)I" } : Jvm.MethodName)) ∈ lg := List.mem_append_left _ (List.mem_append_left _ (List.mem_append_left _ (List.mem_append_left _ (List.mem_append_left _ (List.mem_append_left _ (List.mem_append_right _ (List.mem_of_getElem? (i := 23) rfl)))))))
theorem hw_144 : (Jvm.Cond.code ({ cls := "HistoryJudgeModel", name := "finds", desc := "(I)Z" } : Jvm.MethodName) prog_9_method_11_code (4 : Nat) (Option.some Jvm.ClassFile.FieldType.boolean)) ∈ lg := List.mem_append_left _ (List.mem_append_left _ (List.mem_append_left _ (List.mem_append_left _ (List.mem_append_left _ (List.mem_append_left _ (List.mem_append_right _ (List.mem_of_getElem? (i := 24) rfl)))))))
theorem hw_145 : (Jvm.Cond.methodLink "HistoryJudgeModel" (76 : Nat) ({ cls := "HistoryJudgeModel", name := "finds", desc := "(I)Z" } : Jvm.MethodName)) ∈ lg := List.mem_append_left _ (List.mem_append_left _ (List.mem_append_left _ (List.mem_append_left _ (List.mem_append_left _ (List.mem_append_left _ (List.mem_append_right _ (List.mem_of_getElem? (i := 25) rfl)))))))
theorem hw_146 : (Jvm.Cond.instanceMethod ({ cls := "HistoryJudgeModel", name := "finds", desc := "(I)Z" } : Jvm.MethodName)) ∈ lg := List.mem_append_left _ (List.mem_append_left _ (List.mem_append_left _ (List.mem_append_left _ (List.mem_append_left _ (List.mem_append_left _ (List.mem_append_right _ (List.mem_of_getElem? (i := 26) rfl)))))))
theorem hw_147 : (Jvm.Cond.selects "HistoryJudgeModel" ({ cls := "HistoryJudgeModel", name := "finds", desc := "(I)Z" } : Jvm.MethodName) ({ cls := "HistoryJudgeModel", name := "finds", desc := "(I)Z" } : Jvm.MethodName)) ∈ lg := List.mem_append_left _ (List.mem_append_left _ (List.mem_append_left _ (List.mem_append_left _ (List.mem_append_left _ (List.mem_append_left _ (List.mem_append_right _ (List.mem_of_getElem? (i := 27) rfl)))))))
theorem hw_148 : (Jvm.Cond.code ({ cls := "HistoryJudgeModel", name := "many", desc := "()I" } : Jvm.MethodName) prog_9_method_5_code (1 : Nat) (Option.some Jvm.ClassFile.FieldType.int)) ∈ lg := List.mem_append_left _ (List.mem_append_left _ (List.mem_append_left _ (List.mem_append_left _ (List.mem_append_left _ (List.mem_append_left _ (List.mem_append_right _ (List.mem_of_getElem? (i := 28) rfl)))))))
theorem hw_149 : (Jvm.Cond.methodLink "HistoryJudgeModel" (84 : Nat) ({ cls := "HistoryJudgeModel", name := "many", desc := "()I" } : Jvm.MethodName)) ∈ lg := List.mem_append_left _ (List.mem_append_left _ (List.mem_append_left _ (List.mem_append_left _ (List.mem_append_left _ (List.mem_append_left _ (List.mem_append_right _ (List.mem_of_getElem? (i := 29) rfl)))))))
theorem hw_150 : (Jvm.Cond.instanceMethod ({ cls := "HistoryJudgeModel", name := "many", desc := "()I" } : Jvm.MethodName)) ∈ lg := List.mem_append_left _ (List.mem_append_left _ (List.mem_append_left _ (List.mem_append_left _ (List.mem_append_left _ (List.mem_append_left _ (List.mem_append_right _ (List.mem_of_getElem? (i := 30) rfl)))))))
theorem hw_151 : (Jvm.Cond.selects "HistoryJudgeModel" ({ cls := "HistoryJudgeModel", name := "many", desc := "()I" } : Jvm.MethodName) ({ cls := "HistoryJudgeModel", name := "many", desc := "()I" } : Jvm.MethodName)) ∈ lg := List.mem_append_left _ (List.mem_append_left _ (List.mem_append_left _ (List.mem_append_left _ (List.mem_append_left _ (List.mem_append_left _ (List.mem_append_right _ (List.mem_of_getElem? (i := 31) rfl)))))))
theorem hw_152 : (Jvm.Cond.code ({ cls := "HistoryJudgeModel", name := "isOrder", desc := "(I)Z" } : Jvm.MethodName) prog_9_method_10_code (4 : Nat) (Option.some Jvm.ClassFile.FieldType.boolean)) ∈ lg := List.mem_append_left _ (List.mem_append_left _ (List.mem_append_left _ (List.mem_append_left _ (List.mem_append_left _ (List.mem_append_left _ (List.mem_append_right _ (List.mem_of_getElem? (i := 32) rfl)))))))
theorem hw_153 : (Jvm.Cond.methodLink "HistoryJudgeModel" (92 : Nat) ({ cls := "HistoryJudgeModel", name := "isOrder", desc := "(I)Z" } : Jvm.MethodName)) ∈ lg := List.mem_append_left _ (List.mem_append_left _ (List.mem_append_left _ (List.mem_append_left _ (List.mem_append_left _ (List.mem_append_left _ (List.mem_append_right _ (List.mem_of_getElem? (i := 33) rfl)))))))
theorem hw_154 : (Jvm.Cond.instanceMethod ({ cls := "HistoryJudgeModel", name := "isOrder", desc := "(I)Z" } : Jvm.MethodName)) ∈ lg := List.mem_append_left _ (List.mem_append_left _ (List.mem_append_left _ (List.mem_append_left _ (List.mem_append_left _ (List.mem_append_left _ (List.mem_append_right _ (List.mem_of_getElem? (i := 34) rfl)))))))
theorem hw_155 : (Jvm.Cond.selects "HistoryJudgeModel" ({ cls := "HistoryJudgeModel", name := "isOrder", desc := "(I)Z" } : Jvm.MethodName) ({ cls := "HistoryJudgeModel", name := "isOrder", desc := "(I)Z" } : Jvm.MethodName)) ∈ lg := List.mem_append_left _ (List.mem_append_left _ (List.mem_append_left _ (List.mem_append_left _ (List.mem_append_left _ (List.mem_append_left _ (List.mem_append_right _ (List.mem_of_getElem? (i := 35) rfl)))))))
theorem hw_156 : (Jvm.Cond.code ({ cls := "HistoryJudgeModel", name := "fits", desc := "(I)Z" } : Jvm.MethodName) prog_9_method_12_code (4 : Nat) (Option.some Jvm.ClassFile.FieldType.boolean)) ∈ lg := List.mem_append_left _ (List.mem_append_left _ (List.mem_append_left _ (List.mem_append_left _ (List.mem_append_left _ (List.mem_append_left _ (List.mem_append_right _ (List.mem_of_getElem? (i := 36) rfl)))))))
theorem hw_157 : (Jvm.Cond.methodLink "HistoryJudgeModel" (95 : Nat) ({ cls := "HistoryJudgeModel", name := "fits", desc := "(I)Z" } : Jvm.MethodName)) ∈ lg := List.mem_append_left _ (List.mem_append_left _ (List.mem_append_left _ (List.mem_append_left _ (List.mem_append_left _ (List.mem_append_left _ (List.mem_append_right _ (List.mem_of_getElem? (i := 37) rfl)))))))
theorem hw_158 : (Jvm.Cond.instanceMethod ({ cls := "HistoryJudgeModel", name := "fits", desc := "(I)Z" } : Jvm.MethodName)) ∈ lg := List.mem_append_left _ (List.mem_append_left _ (List.mem_append_left _ (List.mem_append_left _ (List.mem_append_left _ (List.mem_append_left _ (List.mem_append_right _ (List.mem_of_getElem? (i := 38) rfl)))))))
theorem hw_159 : (Jvm.Cond.selects "HistoryJudgeModel" ({ cls := "HistoryJudgeModel", name := "fits", desc := "(I)Z" } : Jvm.MethodName) ({ cls := "HistoryJudgeModel", name := "fits", desc := "(I)Z" } : Jvm.MethodName)) ∈ lg := List.mem_append_left _ (List.mem_append_left _ (List.mem_append_left _ (List.mem_append_left _ (List.mem_append_left _ (List.mem_append_left _ (List.mem_append_right _ (List.mem_of_getElem? (i := 39) rfl)))))))
theorem hw_160 : (Jvm.Cond.fieldLink "HistoryJudgeModel" (19 : Nat) "HistoryJudgeModel" "argument" "[I") ∈ lg := List.mem_append_left _ (List.mem_append_left _ (List.mem_append_left _ (List.mem_append_left _ (List.mem_append_left _ (List.mem_append_left _ (List.mem_append_right _ (List.mem_of_getElem? (i := 40) rfl)))))))
theorem hw_161 : (Jvm.Cond.code ({ cls := "HistoryJudgeModel", name := "mayStand", desc := "(III)Z" } : Jvm.MethodName) prog_9_method_8_code (4 : Nat) (Option.some Jvm.ClassFile.FieldType.boolean)) ∈ lg := List.mem_append_left _ (List.mem_append_left _ (List.mem_append_left _ (List.mem_append_left _ (List.mem_append_left _ (List.mem_append_left _ (List.mem_append_right _ (List.mem_of_getElem? (i := 41) rfl)))))))
theorem hw_162 : (Jvm.Cond.methodLink "HistoryJudgeModel" (88 : Nat) ({ cls := "HistoryJudgeModel", name := "mayStand", desc := "(III)Z" } : Jvm.MethodName)) ∈ lg := List.mem_append_left _ (List.mem_append_left _ (List.mem_append_left _ (List.mem_append_left _ (List.mem_append_left _ (List.mem_append_left _ (List.mem_append_right _ (List.mem_of_getElem? (i := 42) rfl)))))))
theorem hw_163 : (Jvm.Cond.instanceMethod ({ cls := "HistoryJudgeModel", name := "mayStand", desc := "(III)Z" } : Jvm.MethodName)) ∈ lg := List.mem_append_left _ (List.mem_append_left _ (List.mem_append_left _ (List.mem_append_left _ (List.mem_append_left _ (List.mem_append_left _ (List.mem_append_right _ (List.mem_of_getElem? (i := 43) rfl)))))))
theorem hw_164 : (Jvm.Cond.selects "HistoryJudgeModel" ({ cls := "HistoryJudgeModel", name := "mayStand", desc := "(III)Z" } : Jvm.MethodName) ({ cls := "HistoryJudgeModel", name := "mayStand", desc := "(III)Z" } : Jvm.MethodName)) ∈ lg := List.mem_append_left _ (List.mem_append_left _ (List.mem_append_left _ (List.mem_append_left _ (List.mem_append_left _ (List.mem_append_left _ (List.mem_append_right _ (List.mem_of_getElem? (i := 44) rfl)))))))
theorem hw_165 : (Jvm.Cond.fieldLink "HistoryJudgeModel" (25 : Nat) "HistoryJudgeModel" "kept" "[I") ∈ lg := List.mem_append_left _ (List.mem_append_left _ (List.mem_append_left _ (List.mem_append_left _ (List.mem_append_left _ (List.mem_append_left _ (List.mem_append_right _ (List.mem_of_getElem? (i := 45) rfl)))))))
theorem hw_166 : (Jvm.Cond.fieldLink "HistoryJudgeModel" (22 : Nat) "HistoryJudgeModel" "keptSizes" "[I") ∈ lg := List.mem_append_left _ (List.mem_append_left _ (List.mem_append_left _ (List.mem_append_left _ (List.mem_append_left _ (List.mem_append_left _ (List.mem_append_right _ (List.mem_of_getElem? (i := 46) rfl)))))))
theorem hw_167 : (Jvm.Cond.code ({ cls := "HistoryJudgeModel", name := "copy", desc := "(II)V" } : Jvm.MethodName) prog_9_method_16_code (3 : Nat) (Option.none : Option Jvm.ClassFile.FieldType)) ∈ lg := List.mem_append_left _ (List.mem_append_left _ (List.mem_append_left _ (List.mem_append_left _ (List.mem_append_left _ (List.mem_append_left _ (List.mem_append_right _ (List.mem_of_getElem? (i := 47) rfl)))))))
theorem hw_168 : (Jvm.Cond.methodLink "HistoryJudgeModel" (98 : Nat) ({ cls := "HistoryJudgeModel", name := "copy", desc := "(II)V" } : Jvm.MethodName)) ∈ lg := List.mem_append_left _ (List.mem_append_left _ (List.mem_append_left _ (List.mem_append_left _ (List.mem_append_left _ (List.mem_append_left _ (List.mem_append_right _ (List.mem_of_getElem? (i := 48) rfl)))))))
theorem hw_169 : (Jvm.Cond.instanceMethod ({ cls := "HistoryJudgeModel", name := "copy", desc := "(II)V" } : Jvm.MethodName)) ∈ lg := List.mem_append_left _ (List.mem_append_left _ (List.mem_append_left _ (List.mem_append_left _ (List.mem_append_left _ (List.mem_append_left _ (List.mem_append_right _ (List.mem_of_getElem? (i := 49) rfl)))))))
theorem hw_170 : (Jvm.Cond.selects "HistoryJudgeModel" ({ cls := "HistoryJudgeModel", name := "copy", desc := "(II)V" } : Jvm.MethodName) ({ cls := "HistoryJudgeModel", name := "copy", desc := "(II)V" } : Jvm.MethodName)) ∈ lg := List.mem_append_left _ (List.mem_append_left _ (List.mem_append_left _ (List.mem_append_left _ (List.mem_append_left _ (List.mem_append_left _ (List.mem_append_right _ (List.mem_of_getElem? (i := 50) rfl)))))))
theorem hw_171 : (Jvm.Cond.code ({ cls := "HistoryJudgeModel", name := "within", desc := "(III)Z" } : Jvm.MethodName) prog_9_method_4_code (3 : Nat) (Option.some Jvm.ClassFile.FieldType.boolean)) ∈ lg := List.mem_append_left _ (List.mem_append_left _ (List.mem_append_left _ (List.mem_append_left _ (List.mem_append_left _ (List.mem_append_left _ (List.mem_append_right _ (List.mem_of_getElem? (i := 51) rfl)))))))
theorem hw_172 : (Jvm.Cond.methodLink "HistoryJudgeModel" (102 : Nat) ({ cls := "HistoryJudgeModel", name := "within", desc := "(III)Z" } : Jvm.MethodName)) ∈ lg := List.mem_append_left _ (List.mem_append_left _ (List.mem_append_left _ (List.mem_append_left _ (List.mem_append_left _ (List.mem_append_left _ (List.mem_append_right _ (List.mem_of_getElem? (i := 52) rfl)))))))
theorem hw_173 : (Jvm.Cond.static ({ cls := "HistoryJudgeModel", name := "within", desc := "(III)Z" } : Jvm.MethodName)) ∈ lg := List.mem_append_left _ (List.mem_append_left _ (List.mem_append_left _ (List.mem_append_left _ (List.mem_append_left _ (List.mem_append_left _ (List.mem_append_right _ (List.mem_of_getElem? (i := 53) rfl)))))))
theorem hw_174 : (Jvm.Cond.code ({ cls := "HistoryJudgeModel", name := "fail", desc := "(I)I" } : Jvm.MethodName) prog_9_method_3_code (2 : Nat) (Option.some Jvm.ClassFile.FieldType.int)) ∈ lg := List.mem_append_left _ (List.mem_append_left _ (List.mem_append_left _ (List.mem_append_left _ (List.mem_append_left _ (List.mem_append_left _ (List.mem_append_right _ (List.mem_of_getElem? (i := 54) rfl)))))))
theorem hw_175 : (Jvm.Cond.methodLink "HistoryJudgeModel" (105 : Nat) ({ cls := "HistoryJudgeModel", name := "fail", desc := "(I)I" } : Jvm.MethodName)) ∈ lg := List.mem_append_left _ (List.mem_append_left _ (List.mem_append_left _ (List.mem_append_left _ (List.mem_append_left _ (List.mem_append_left _ (List.mem_append_right _ (List.mem_of_getElem? (i := 55) rfl)))))))
theorem hw_176 : (Jvm.Cond.instanceMethod ({ cls := "HistoryJudgeModel", name := "fail", desc := "(I)I" } : Jvm.MethodName)) ∈ lg := List.mem_append_left _ (List.mem_append_left _ (List.mem_append_left _ (List.mem_append_left _ (List.mem_append_left _ (List.mem_append_left _ (List.mem_append_right _ (List.mem_of_getElem? (i := 56) rfl)))))))
theorem hw_177 : (Jvm.Cond.selects "HistoryJudgeModel" ({ cls := "HistoryJudgeModel", name := "fail", desc := "(I)I" } : Jvm.MethodName) ({ cls := "HistoryJudgeModel", name := "fail", desc := "(I)I" } : Jvm.MethodName)) ∈ lg := List.mem_append_left _ (List.mem_append_left _ (List.mem_append_left _ (List.mem_append_left _ (List.mem_append_left _ (List.mem_append_left _ (List.mem_append_right _ (List.mem_of_getElem? (i := 57) rfl)))))))
theorem hw_178 : (Jvm.Cond.code ({ cls := "HistoryJudgeModel", name := "keep", desc := "()V" } : Jvm.MethodName) prog_9_method_14_code (2 : Nat) (Option.none : Option Jvm.ClassFile.FieldType)) ∈ lg := List.mem_append_left _ (List.mem_append_left _ (List.mem_append_left _ (List.mem_append_left _ (List.mem_append_left _ (List.mem_append_left _ (List.mem_append_right _ (List.mem_of_getElem? (i := 58) rfl)))))))
theorem hw_179 : (Jvm.Cond.methodLink "HistoryJudgeModel" (108 : Nat) ({ cls := "HistoryJudgeModel", name := "keep", desc := "()V" } : Jvm.MethodName)) ∈ lg := List.mem_append_left _ (List.mem_append_left _ (List.mem_append_left _ (List.mem_append_left _ (List.mem_append_left _ (List.mem_append_left _ (List.mem_append_right _ (List.mem_of_getElem? (i := 59) rfl)))))))
theorem hw_180 : (Jvm.Cond.instanceMethod ({ cls := "HistoryJudgeModel", name := "keep", desc := "()V" } : Jvm.MethodName)) ∈ lg := List.mem_append_left _ (List.mem_append_left _ (List.mem_append_left _ (List.mem_append_left _ (List.mem_append_left _ (List.mem_append_right _ (List.mem_of_getElem? (i := 0) rfl))))))
theorem hw_181 : (Jvm.Cond.selects "HistoryJudgeModel" ({ cls := "HistoryJudgeModel", name := "keep", desc := "()V" } : Jvm.MethodName) ({ cls := "HistoryJudgeModel", name := "keep", desc := "()V" } : Jvm.MethodName)) ∈ lg := List.mem_append_left _ (List.mem_append_left _ (List.mem_append_left _ (List.mem_append_left _ (List.mem_append_left _ (List.mem_append_right _ (List.mem_of_getElem? (i := 1) rfl))))))
theorem hw_182 : (Jvm.Cond.code ({ cls := "HistoryJudgeModel", name := "insert", desc := "(IIII)I" } : Jvm.MethodName) prog_9_method_17_code (7 : Nat) (Option.some Jvm.ClassFile.FieldType.int)) ∈ lg := List.mem_append_left _ (List.mem_append_left _ (List.mem_append_left _ (List.mem_append_left _ (List.mem_append_left _ (List.mem_append_right _ (List.mem_of_getElem? (i := 2) rfl))))))
theorem hw_183 : (Jvm.Cond.methodLink "HistoryJudgeModel" (111 : Nat) ({ cls := "HistoryJudgeModel", name := "insert", desc := "(IIII)I" } : Jvm.MethodName)) ∈ lg := List.mem_append_left _ (List.mem_append_left _ (List.mem_append_left _ (List.mem_append_left _ (List.mem_append_left _ (List.mem_append_right _ (List.mem_of_getElem? (i := 3) rfl))))))
theorem hw_184 : (Jvm.Cond.instanceMethod ({ cls := "HistoryJudgeModel", name := "insert", desc := "(IIII)I" } : Jvm.MethodName)) ∈ lg := List.mem_append_left _ (List.mem_append_left _ (List.mem_append_left _ (List.mem_append_left _ (List.mem_append_left _ (List.mem_append_right _ (List.mem_of_getElem? (i := 4) rfl))))))
theorem hw_185 : (Jvm.Cond.selects "HistoryJudgeModel" ({ cls := "HistoryJudgeModel", name := "insert", desc := "(IIII)I" } : Jvm.MethodName) ({ cls := "HistoryJudgeModel", name := "insert", desc := "(IIII)I" } : Jvm.MethodName)) ∈ lg := List.mem_append_left _ (List.mem_append_left _ (List.mem_append_left _ (List.mem_append_left _ (List.mem_append_left _ (List.mem_append_right _ (List.mem_of_getElem? (i := 5) rfl))))))
theorem hw_186 : (Jvm.Cond.code ({ cls := "HistoryJudgeModel", name := "valid", desc := "()Z" } : Jvm.MethodName) prog_9_method_13_code (4 : Nat) (Option.some Jvm.ClassFile.FieldType.boolean)) ∈ lg := List.mem_append_left _ (List.mem_append_left _ (List.mem_append_left _ (List.mem_append_left _ (List.mem_append_left _ (List.mem_append_right _ (List.mem_of_getElem? (i := 6) rfl))))))
theorem hw_187 : (Jvm.Cond.methodLink "HistoryJudgeModel" (115 : Nat) ({ cls := "HistoryJudgeModel", name := "valid", desc := "()Z" } : Jvm.MethodName)) ∈ lg := List.mem_append_left _ (List.mem_append_left _ (List.mem_append_left _ (List.mem_append_left _ (List.mem_append_left _ (List.mem_append_right _ (List.mem_of_getElem? (i := 7) rfl))))))
theorem hw_188 : (Jvm.Cond.instanceMethod ({ cls := "HistoryJudgeModel", name := "valid", desc := "()Z" } : Jvm.MethodName)) ∈ lg := List.mem_append_left _ (List.mem_append_left _ (List.mem_append_left _ (List.mem_append_left _ (List.mem_append_left _ (List.mem_append_right _ (List.mem_of_getElem? (i := 8) rfl))))))
theorem hw_189 : (Jvm.Cond.selects "HistoryJudgeModel" ({ cls := "HistoryJudgeModel", name := "valid", desc := "()Z" } : Jvm.MethodName) ({ cls := "HistoryJudgeModel", name := "valid", desc := "()Z" } : Jvm.MethodName)) ∈ lg := List.mem_append_left _ (List.mem_append_left _ (List.mem_append_left _ (List.mem_append_left _ (List.mem_append_left _ (List.mem_append_right _ (List.mem_of_getElem? (i := 9) rfl))))))
theorem hw_190 : (Jvm.Cond.fieldLink "HistoryJudgeModel" (122 : Nat) "HistoryJudgeModel" "ran" "Z") ∈ lg := List.mem_append_left _ (List.mem_append_left _ (List.mem_append_left _ (List.mem_append_left _ (List.mem_append_left _ (List.mem_append_right _ (List.mem_of_getElem? (i := 10) rfl))))))
theorem hw_191 : (Jvm.Cond.code ({ cls := "HistoryJudgeModel", name := "putBack", desc := "()V" } : Jvm.MethodName) prog_9_method_15_code (2 : Nat) (Option.none : Option Jvm.ClassFile.FieldType)) ∈ lg := List.mem_append_left _ (List.mem_append_left _ (List.mem_append_left _ (List.mem_append_left _ (List.mem_append_left _ (List.mem_append_right _ (List.mem_of_getElem? (i := 11) rfl))))))
theorem hw_192 : (Jvm.Cond.methodLink "HistoryJudgeModel" (119 : Nat) ({ cls := "HistoryJudgeModel", name := "putBack", desc := "()V" } : Jvm.MethodName)) ∈ lg := List.mem_append_left _ (List.mem_append_left _ (List.mem_append_left _ (List.mem_append_left _ (List.mem_append_left _ (List.mem_append_right _ (List.mem_of_getElem? (i := 12) rfl))))))
theorem hw_193 : (Jvm.Cond.instanceMethod ({ cls := "HistoryJudgeModel", name := "putBack", desc := "()V" } : Jvm.MethodName)) ∈ lg := List.mem_append_left _ (List.mem_append_left _ (List.mem_append_left _ (List.mem_append_left _ (List.mem_append_left _ (List.mem_append_right _ (List.mem_of_getElem? (i := 13) rfl))))))
theorem hw_194 : (Jvm.Cond.selects "HistoryJudgeModel" ({ cls := "HistoryJudgeModel", name := "putBack", desc := "()V" } : Jvm.MethodName) ({ cls := "HistoryJudgeModel", name := "putBack", desc := "()V" } : Jvm.MethodName)) ∈ lg := List.mem_append_left _ (List.mem_append_left _ (List.mem_append_left _ (List.mem_append_left _ (List.mem_append_left _ (List.mem_append_right _ (List.mem_of_getElem? (i := 14) rfl))))))
theorem hw_195 : (Jvm.Cond.fieldLink "HistoryJudgeModel" (126 : Nat) "HistoryJudgeModel" "g" "J") ∈ lg := List.mem_append_left _ (List.mem_append_left _ (List.mem_append_left _ (List.mem_append_left _ (List.mem_append_left _ (List.mem_append_right _ (List.mem_of_getElem? (i := 15) rfl))))))
theorem hw_196 : (Jvm.Cond.constantLong "HistoryJudgeModel" (130 : Nat) (6364136223846793005 : Int64)) ∈ lg := List.mem_append_left _ (List.mem_append_left _ (List.mem_append_left _ (List.mem_append_left _ (List.mem_append_left _ (List.mem_append_right _ (List.mem_of_getElem? (i := 16) rfl))))))
theorem hw_197 : (Jvm.Cond.constantLong "HistoryJudgeModel" (132 : Nat) (1442695040888963407 : Int64)) ∈ lg := List.mem_append_left _ (List.mem_append_left _ (List.mem_append_left _ (List.mem_append_left _ (List.mem_append_left _ (List.mem_append_right _ (List.mem_of_getElem? (i := 17) rfl))))))
theorem hw_198 : (Jvm.Cond.code ({ cls := "HistoryJudgeModel", name := "drawn", desc := "(I)I" } : Jvm.MethodName) prog_9_method_22_code (2 : Nat) (Option.some Jvm.ClassFile.FieldType.int)) ∈ lg := List.mem_append_left _ (List.mem_append_left _ (List.mem_append_left _ (List.mem_append_left _ (List.mem_append_left _ (List.mem_append_right _ (List.mem_of_getElem? (i := 18) rfl))))))
theorem hw_199 : (Jvm.Cond.methodLink "HistoryJudgeModel" (134 : Nat) ({ cls := "HistoryJudgeModel", name := "drawn", desc := "(I)I" } : Jvm.MethodName)) ∈ lg := List.mem_append_left _ (List.mem_append_left _ (List.mem_append_left _ (List.mem_append_left _ (List.mem_append_left _ (List.mem_append_right _ (List.mem_of_getElem? (i := 19) rfl))))))
theorem hw_200 : (Jvm.Cond.instanceMethod ({ cls := "HistoryJudgeModel", name := "drawn", desc := "(I)I" } : Jvm.MethodName)) ∈ lg := List.mem_append_left _ (List.mem_append_left _ (List.mem_append_left _ (List.mem_append_left _ (List.mem_append_left _ (List.mem_append_right _ (List.mem_of_getElem? (i := 20) rfl))))))
theorem hw_201 : (Jvm.Cond.selects "HistoryJudgeModel" ({ cls := "HistoryJudgeModel", name := "drawn", desc := "(I)I" } : Jvm.MethodName) ({ cls := "HistoryJudgeModel", name := "drawn", desc := "(I)I" } : Jvm.MethodName)) ∈ lg := List.mem_append_left _ (List.mem_append_left _ (List.mem_append_left _ (List.mem_append_left _ (List.mem_append_left _ (List.mem_append_right _ (List.mem_of_getElem? (i := 21) rfl))))))
theorem hw_202 : (Jvm.Cond.code ({ cls := "HistoryJudgeModel", name := "before", desc := "(III)I" } : Jvm.MethodName) prog_9_method_24_code (6 : Nat) (Option.some Jvm.ClassFile.FieldType.int)) ∈ lg := List.mem_append_left _ (List.mem_append_left _ (List.mem_append_left _ (List.mem_append_left _ (List.mem_append_left _ (List.mem_append_right _ (List.mem_of_getElem? (i := 22) rfl))))))
theorem hw_203 : (Jvm.Cond.methodLink "HistoryJudgeModel" (137 : Nat) ({ cls := "HistoryJudgeModel", name := "before", desc := "(III)I" } : Jvm.MethodName)) ∈ lg := List.mem_append_left _ (List.mem_append_left _ (List.mem_append_left _ (List.mem_append_left _ (List.mem_append_left _ (List.mem_append_right _ (List.mem_of_getElem? (i := 23) rfl))))))
theorem hw_204 : (Jvm.Cond.instanceMethod ({ cls := "HistoryJudgeModel", name := "before", desc := "(III)I" } : Jvm.MethodName)) ∈ lg := List.mem_append_left _ (List.mem_append_left _ (List.mem_append_left _ (List.mem_append_left _ (List.mem_append_left _ (List.mem_append_right _ (List.mem_of_getElem? (i := 24) rfl))))))
theorem hw_205 : (Jvm.Cond.selects "HistoryJudgeModel" ({ cls := "HistoryJudgeModel", name := "before", desc := "(III)I" } : Jvm.MethodName) ({ cls := "HistoryJudgeModel", name := "before", desc := "(III)I" } : Jvm.MethodName)) ∈ lg := List.mem_append_left _ (List.mem_append_left _ (List.mem_append_left _ (List.mem_append_left _ (List.mem_append_left _ (List.mem_append_right _ (List.mem_of_getElem? (i := 25) rfl))))))
theorem hw_206 : (Jvm.Cond.code ({ cls := "HistoryJudgeModel", name := "clear", desc := "()I" } : Jvm.MethodName) prog_9_method_21_code (3 : Nat) (Option.some Jvm.ClassFile.FieldType.int)) ∈ lg := List.mem_append_left _ (List.mem_append_left _ (List.mem_append_left _ (List.mem_append_left _ (List.mem_append_left _ (List.mem_append_right _ (List.mem_of_getElem? (i := 26) rfl))))))
theorem hw_207 : (Jvm.Cond.methodLink "HistoryJudgeModel" (141 : Nat) ({ cls := "HistoryJudgeModel", name := "clear", desc := "()I" } : Jvm.MethodName)) ∈ lg := List.mem_append_left _ (List.mem_append_left _ (List.mem_append_left _ (List.mem_append_left _ (List.mem_append_left _ (List.mem_append_right _ (List.mem_of_getElem? (i := 27) rfl))))))
theorem hw_208 : (Jvm.Cond.instanceMethod ({ cls := "HistoryJudgeModel", name := "clear", desc := "()I" } : Jvm.MethodName)) ∈ lg := List.mem_append_left _ (List.mem_append_left _ (List.mem_append_left _ (List.mem_append_left _ (List.mem_append_left _ (List.mem_append_right _ (List.mem_of_getElem? (i := 28) rfl))))))
theorem hw_209 : (Jvm.Cond.selects "HistoryJudgeModel" ({ cls := "HistoryJudgeModel", name := "clear", desc := "()I" } : Jvm.MethodName) ({ cls := "HistoryJudgeModel", name := "clear", desc := "()I" } : Jvm.MethodName)) ∈ lg := List.mem_append_left _ (List.mem_append_left _ (List.mem_append_left _ (List.mem_append_left _ (List.mem_append_left _ (List.mem_append_right _ (List.mem_of_getElem? (i := 29) rfl))))))
theorem hw_210 : (Jvm.Cond.code ({ cls := "HistoryJudgeModel", name := "tried", desc := "(I)V" } : Jvm.MethodName) prog_9_method_23_code (12 : Nat) (Option.none : Option Jvm.ClassFile.FieldType)) ∈ lg := List.mem_append_left _ (List.mem_append_left _ (List.mem_append_left _ (List.mem_append_left _ (List.mem_append_left _ (List.mem_append_right _ (List.mem_of_getElem? (i := 30) rfl))))))
theorem hw_211 : (Jvm.Cond.methodLink "HistoryJudgeModel" (144 : Nat) ({ cls := "HistoryJudgeModel", name := "tried", desc := "(I)V" } : Jvm.MethodName)) ∈ lg := List.mem_append_left _ (List.mem_append_left _ (List.mem_append_left _ (List.mem_append_left _ (List.mem_append_left _ (List.mem_append_right _ (List.mem_of_getElem? (i := 31) rfl))))))
theorem hw_212 : (Jvm.Cond.instanceMethod ({ cls := "HistoryJudgeModel", name := "tried", desc := "(I)V" } : Jvm.MethodName)) ∈ lg := List.mem_append_left _ (List.mem_append_left _ (List.mem_append_left _ (List.mem_append_left _ (List.mem_append_left _ (List.mem_append_right _ (List.mem_of_getElem? (i := 32) rfl))))))
theorem hw_213 : (Jvm.Cond.selects "HistoryJudgeModel" ({ cls := "HistoryJudgeModel", name := "tried", desc := "(I)V" } : Jvm.MethodName) ({ cls := "HistoryJudgeModel", name := "tried", desc := "(I)V" } : Jvm.MethodName)) ∈ lg := List.mem_append_left _ (List.mem_append_left _ (List.mem_append_left _ (List.mem_append_left _ (List.mem_append_left _ (List.mem_append_right _ (List.mem_of_getElem? (i := 33) rfl))))))
theorem hw_214 : (Jvm.Cond.fieldLink "HistoryJudgeModel" (148 : Nat) "HistoryJudgeModel" "flaws" "I") ∈ lg := List.mem_append_left _ (List.mem_append_left _ (List.mem_append_left _ (List.mem_append_left _ (List.mem_append_left _ (List.mem_append_right _ (List.mem_of_getElem? (i := 34) rfl))))))
theorem hw_215 : (Jvm.Cond.fieldLink "HistoryJudgeModel" (44 : Nat) "HistoryJudgeModel" "number" "[I") ∈ lg := List.mem_append_left _ (List.mem_append_left _ (List.mem_append_left _ (List.mem_append_left _ (List.mem_append_left _ (List.mem_append_right _ (List.mem_of_getElem? (i := 35) rfl))))))
theorem hw_216 : (Jvm.Cond.fieldLink "HistoryJudgeModel" (53 : Nat) "HistoryJudgeModel" "noted" "[I") ∈ lg := List.mem_append_left _ (List.mem_append_left _ (List.mem_append_left _ (List.mem_append_left _ (List.mem_append_left _ (List.mem_append_right _ (List.mem_of_getElem? (i := 36) rfl))))))
theorem hw_217 : (Jvm.Cond.fieldLink "HistoryJudgeModel" (41 : Nat) "HistoryJudgeModel" "answer" "[I") ∈ lg := List.mem_append_left _ (List.mem_append_left _ (List.mem_append_left _ (List.mem_append_left _ (List.mem_append_left _ (List.mem_append_right _ (List.mem_of_getElem? (i := 37) rfl))))))
theorem hw_218 : (Jvm.Cond.fieldLink "HistoryJudgeModel" (35 : Nat) "HistoryJudgeModel" "has" "[I") ∈ lg := List.mem_append_left _ (List.mem_append_left _ (List.mem_append_left _ (List.mem_append_left _ (List.mem_append_left _ (List.mem_append_right _ (List.mem_of_getElem? (i := 38) rfl))))))
theorem hw_219 : (Jvm.Cond.fieldLink "HistoryJudgeModel" (38 : Nat) "HistoryJudgeModel" "isOpen" "[Z") ∈ lg := List.mem_append_left _ (List.mem_append_left _ (List.mem_append_left _ (List.mem_append_left _ (List.mem_append_left _ (List.mem_append_right _ (List.mem_of_getElem? (i := 39) rfl))))))
theorem hw_220 : (Jvm.Cond.code ({ cls := "HistoryJudgeModel", name := "isLate", desc := "(I)Z" } : Jvm.MethodName) prog_9_method_28_code (2 : Nat) (Option.some Jvm.ClassFile.FieldType.boolean)) ∈ lg := List.mem_append_left _ (List.mem_append_left _ (List.mem_append_left _ (List.mem_append_left _ (List.mem_append_left _ (List.mem_append_right _ (List.mem_of_getElem? (i := 40) rfl))))))
theorem hw_221 : (Jvm.Cond.methodLink "HistoryJudgeModel" (151 : Nat) ({ cls := "HistoryJudgeModel", name := "isLate", desc := "(I)Z" } : Jvm.MethodName)) ∈ lg := List.mem_append_left _ (List.mem_append_left _ (List.mem_append_left _ (List.mem_append_left _ (List.mem_append_left _ (List.mem_append_right _ (List.mem_of_getElem? (i := 41) rfl))))))
theorem hw_222 : (Jvm.Cond.instanceMethod ({ cls := "HistoryJudgeModel", name := "isLate", desc := "(I)Z" } : Jvm.MethodName)) ∈ lg := List.mem_append_left _ (List.mem_append_left _ (List.mem_append_left _ (List.mem_append_left _ (List.mem_append_left _ (List.mem_append_right _ (List.mem_of_getElem? (i := 42) rfl))))))
theorem hw_223 : (Jvm.Cond.selects "HistoryJudgeModel" ({ cls := "HistoryJudgeModel", name := "isLate", desc := "(I)Z" } : Jvm.MethodName) ({ cls := "HistoryJudgeModel", name := "isLate", desc := "(I)Z" } : Jvm.MethodName)) ∈ lg := List.mem_append_left _ (List.mem_append_left _ (List.mem_append_left _ (List.mem_append_left _ (List.mem_append_left _ (List.mem_append_right _ (List.mem_of_getElem? (i := 43) rfl))))))
theorem hw_224 : (Jvm.Cond.code ({ cls := "HistoryJudgeModel", name := "twoParts", desc := "(I)Z" } : Jvm.MethodName) prog_9_method_27_code (2 : Nat) (Option.some Jvm.ClassFile.FieldType.boolean)) ∈ lg := List.mem_append_left _ (List.mem_append_left _ (List.mem_append_left _ (List.mem_append_left _ (List.mem_append_left _ (List.mem_append_right _ (List.mem_of_getElem? (i := 44) rfl))))))
theorem hw_225 : (Jvm.Cond.methodLink "HistoryJudgeModel" (154 : Nat) ({ cls := "HistoryJudgeModel", name := "twoParts", desc := "(I)Z" } : Jvm.MethodName)) ∈ lg := List.mem_append_left _ (List.mem_append_left _ (List.mem_append_left _ (List.mem_append_left _ (List.mem_append_left _ (List.mem_append_right _ (List.mem_of_getElem? (i := 45) rfl))))))
theorem hw_226 : (Jvm.Cond.instanceMethod ({ cls := "HistoryJudgeModel", name := "twoParts", desc := "(I)Z" } : Jvm.MethodName)) ∈ lg := List.mem_append_left _ (List.mem_append_left _ (List.mem_append_left _ (List.mem_append_left _ (List.mem_append_left _ (List.mem_append_right _ (List.mem_of_getElem? (i := 46) rfl))))))
theorem hw_227 : (Jvm.Cond.selects "HistoryJudgeModel" ({ cls := "HistoryJudgeModel", name := "twoParts", desc := "(I)Z" } : Jvm.MethodName) ({ cls := "HistoryJudgeModel", name := "twoParts", desc := "(I)Z" } : Jvm.MethodName)) ∈ lg := List.mem_append_left _ (List.mem_append_left _ (List.mem_append_left _ (List.mem_append_left _ (List.mem_append_left _ (List.mem_append_right _ (List.mem_of_getElem? (i := 47) rfl))))))
theorem hw_228 : (Jvm.Cond.fieldLink "HistoryJudgeModel" (50 : Nat) "HistoryJudgeModel" "back" "[I") ∈ lg := List.mem_append_left _ (List.mem_append_left _ (List.mem_append_left _ (List.mem_append_left _ (List.mem_append_left _ (List.mem_append_right _ (List.mem_of_getElem? (i := 48) rfl))))))
theorem hw_229 : (Jvm.Cond.code ({ cls := "HistoryJudgeModel", name := "does", desc := "(I)V" } : Jvm.MethodName) prog_9_method_30_code (5 : Nat) (Option.none : Option Jvm.ClassFile.FieldType)) ∈ lg := List.mem_append_left _ (List.mem_append_left _ (List.mem_append_left _ (List.mem_append_left _ (List.mem_append_left _ (List.mem_append_right _ (List.mem_of_getElem? (i := 49) rfl))))))
theorem hw_230 : (Jvm.Cond.methodLink "HistoryJudgeModel" (163 : Nat) ({ cls := "HistoryJudgeModel", name := "does", desc := "(I)V" } : Jvm.MethodName)) ∈ lg := List.mem_append_left _ (List.mem_append_left _ (List.mem_append_left _ (List.mem_append_left _ (List.mem_append_left _ (List.mem_append_right _ (List.mem_of_getElem? (i := 50) rfl))))))
theorem hw_231 : (Jvm.Cond.instanceMethod ({ cls := "HistoryJudgeModel", name := "does", desc := "(I)V" } : Jvm.MethodName)) ∈ lg := List.mem_append_left _ (List.mem_append_left _ (List.mem_append_left _ (List.mem_append_left _ (List.mem_append_left _ (List.mem_append_right _ (List.mem_of_getElem? (i := 51) rfl))))))
theorem hw_232 : (Jvm.Cond.selects "HistoryJudgeModel" ({ cls := "HistoryJudgeModel", name := "does", desc := "(I)V" } : Jvm.MethodName) ({ cls := "HistoryJudgeModel", name := "does", desc := "(I)V" } : Jvm.MethodName)) ∈ lg := List.mem_append_left _ (List.mem_append_left _ (List.mem_append_left _ (List.mem_append_left _ (List.mem_append_left _ (List.mem_append_right _ (List.mem_of_getElem? (i := 52) rfl))))))
theorem hw_233 : (Jvm.Cond.code ({ cls := "HistoryJudgeModel", name := "source", desc := "(I)I" } : Jvm.MethodName) prog_9_method_29_code (2 : Nat) (Option.some Jvm.ClassFile.FieldType.int)) ∈ lg := List.mem_append_left _ (List.mem_append_left _ (List.mem_append_left _ (List.mem_append_left _ (List.mem_append_left _ (List.mem_append_right _ (List.mem_of_getElem? (i := 53) rfl))))))
theorem hw_234 : (Jvm.Cond.methodLink "HistoryJudgeModel" (160 : Nat) ({ cls := "HistoryJudgeModel", name := "source", desc := "(I)I" } : Jvm.MethodName)) ∈ lg := List.mem_append_left _ (List.mem_append_left _ (List.mem_append_left _ (List.mem_append_left _ (List.mem_append_left _ (List.mem_append_right _ (List.mem_of_getElem? (i := 54) rfl))))))
theorem hw_235 : (Jvm.Cond.instanceMethod ({ cls := "HistoryJudgeModel", name := "source", desc := "(I)I" } : Jvm.MethodName)) ∈ lg := List.mem_append_left _ (List.mem_append_left _ (List.mem_append_left _ (List.mem_append_left _ (List.mem_append_left _ (List.mem_append_right _ (List.mem_of_getElem? (i := 55) rfl))))))
theorem hw_236 : (Jvm.Cond.selects "HistoryJudgeModel" ({ cls := "HistoryJudgeModel", name := "source", desc := "(I)I" } : Jvm.MethodName) ({ cls := "HistoryJudgeModel", name := "source", desc := "(I)I" } : Jvm.MethodName)) ∈ lg := List.mem_append_left _ (List.mem_append_left _ (List.mem_append_left _ (List.mem_append_left _ (List.mem_append_left _ (List.mem_append_right _ (List.mem_of_getElem? (i := 56) rfl))))))
theorem hw_237 : (Jvm.Cond.code ({ cls := "HistoryJudgeModel", name := "calls", desc := "(I)V" } : Jvm.MethodName) prog_9_method_31_code (2 : Nat) (Option.none : Option Jvm.ClassFile.FieldType)) ∈ lg := List.mem_append_left _ (List.mem_append_left _ (List.mem_append_left _ (List.mem_append_left _ (List.mem_append_left _ (List.mem_append_right _ (List.mem_of_getElem? (i := 57) rfl))))))
theorem hw_238 : (Jvm.Cond.methodLink "HistoryJudgeModel" (157 : Nat) ({ cls := "HistoryJudgeModel", name := "calls", desc := "(I)V" } : Jvm.MethodName)) ∈ lg := List.mem_append_left _ (List.mem_append_left _ (List.mem_append_left _ (List.mem_append_left _ (List.mem_append_left _ (List.mem_append_right _ (List.mem_of_getElem? (i := 58) rfl))))))
theorem hw_239 : (Jvm.Cond.instanceMethod ({ cls := "HistoryJudgeModel", name := "calls", desc := "(I)V" } : Jvm.MethodName)) ∈ lg := List.mem_append_left _ (List.mem_append_left _ (List.mem_append_left _ (List.mem_append_left _ (List.mem_append_left _ (List.mem_append_right _ (List.mem_of_getElem? (i := 59) rfl))))))
theorem hw_240 : (Jvm.Cond.selects "HistoryJudgeModel" ({ cls := "HistoryJudgeModel", name := "calls", desc := "(I)V" } : Jvm.MethodName) ({ cls := "HistoryJudgeModel", name := "calls", desc := "(I)V" } : Jvm.MethodName)) ∈ lg := List.mem_append_left _ (List.mem_append_left _ (List.mem_append_left _ (List.mem_append_left _ (List.mem_append_right _ (List.mem_of_getElem? (i := 0) rfl)))))
theorem hw_241 : (Jvm.Cond.fieldLink "HistoryJudgeModel" (47 : Nat) "HistoryJudgeModel" "call" "[I") ∈ lg := List.mem_append_left _ (List.mem_append_left _ (List.mem_append_left _ (List.mem_append_left _ (List.mem_append_right _ (List.mem_of_getElem? (i := 1) rfl)))))
theorem hw_242 : (Jvm.Cond.fieldLink "HistoryJudgeModel" (56 : Nat) "HistoryJudgeModel" "at" "[I") ∈ lg := List.mem_append_left _ (List.mem_append_left _ (List.mem_append_left _ (List.mem_append_left _ (List.mem_append_right _ (List.mem_of_getElem? (i := 2) rfl)))))
theorem hw_243 : (Jvm.Cond.code ({ cls := "HistoryJudgeModel", name := "hasLeft", desc := "(I)Z" } : Jvm.MethodName) prog_9_method_34_code (2 : Nat) (Option.some Jvm.ClassFile.FieldType.boolean)) ∈ lg := List.mem_append_left _ (List.mem_append_left _ (List.mem_append_left _ (List.mem_append_left _ (List.mem_append_right _ (List.mem_of_getElem? (i := 3) rfl)))))
theorem hw_244 : (Jvm.Cond.methodLink "HistoryJudgeModel" (173 : Nat) ({ cls := "HistoryJudgeModel", name := "hasLeft", desc := "(I)Z" } : Jvm.MethodName)) ∈ lg := List.mem_append_left _ (List.mem_append_left _ (List.mem_append_left _ (List.mem_append_left _ (List.mem_append_right _ (List.mem_of_getElem? (i := 4) rfl)))))
theorem hw_245 : (Jvm.Cond.instanceMethod ({ cls := "HistoryJudgeModel", name := "hasLeft", desc := "(I)Z" } : Jvm.MethodName)) ∈ lg := List.mem_append_left _ (List.mem_append_left _ (List.mem_append_left _ (List.mem_append_left _ (List.mem_append_right _ (List.mem_of_getElem? (i := 5) rfl)))))
theorem hw_246 : (Jvm.Cond.selects "HistoryJudgeModel" ({ cls := "HistoryJudgeModel", name := "hasLeft", desc := "(I)Z" } : Jvm.MethodName) ({ cls := "HistoryJudgeModel", name := "hasLeft", desc := "(I)Z" } : Jvm.MethodName)) ∈ lg := List.mem_append_left _ (List.mem_append_left _ (List.mem_append_left _ (List.mem_append_left _ (List.mem_append_right _ (List.mem_of_getElem? (i := 6) rfl)))))
theorem hw_247 : (Jvm.Cond.fieldLink "HistoryJudgeModel" (59 : Nat) "HistoryJudgeModel" "event" "[I") ∈ lg := List.mem_append_left _ (List.mem_append_left _ (List.mem_append_left _ (List.mem_append_left _ (List.mem_append_right _ (List.mem_of_getElem? (i := 7) rfl)))))
theorem hw_248 : (Jvm.Cond.code ({ cls := "HistoryJudgeModel", name := "happens", desc := "(III)V" } : Jvm.MethodName) prog_9_method_33_code (5 : Nat) (Option.none : Option Jvm.ClassFile.FieldType)) ∈ lg := List.mem_append_left _ (List.mem_append_left _ (List.mem_append_left _ (List.mem_append_left _ (List.mem_append_right _ (List.mem_of_getElem? (i := 8) rfl)))))
theorem hw_249 : (Jvm.Cond.methodLink "HistoryJudgeModel" (169 : Nat) ({ cls := "HistoryJudgeModel", name := "happens", desc := "(III)V" } : Jvm.MethodName)) ∈ lg := List.mem_append_left _ (List.mem_append_left _ (List.mem_append_left _ (List.mem_append_left _ (List.mem_append_right _ (List.mem_of_getElem? (i := 9) rfl)))))
theorem hw_250 : (Jvm.Cond.instanceMethod ({ cls := "HistoryJudgeModel", name := "happens", desc := "(III)V" } : Jvm.MethodName)) ∈ lg := List.mem_append_left _ (List.mem_append_left _ (List.mem_append_left _ (List.mem_append_left _ (List.mem_append_right _ (List.mem_of_getElem? (i := 10) rfl)))))
theorem hw_251 : (Jvm.Cond.selects "HistoryJudgeModel" ({ cls := "HistoryJudgeModel", name := "happens", desc := "(III)V" } : Jvm.MethodName) ({ cls := "HistoryJudgeModel", name := "happens", desc := "(III)V" } : Jvm.MethodName)) ∈ lg := List.mem_append_left _ (List.mem_append_left _ (List.mem_append_left _ (List.mem_append_left _ (List.mem_append_right _ (List.mem_of_getElem? (i := 11) rfl)))))
theorem hw_252 : (Jvm.Cond.code ({ cls := "HistoryJudgeModel", name := "events", desc := "(I)I" } : Jvm.MethodName) prog_9_method_32_code (2 : Nat) (Option.some Jvm.ClassFile.FieldType.int)) ∈ lg := List.mem_append_left _ (List.mem_append_left _ (List.mem_append_left _ (List.mem_append_left _ (List.mem_append_right _ (List.mem_of_getElem? (i := 12) rfl)))))
theorem hw_253 : (Jvm.Cond.methodLink "HistoryJudgeModel" (166 : Nat) ({ cls := "HistoryJudgeModel", name := "events", desc := "(I)I" } : Jvm.MethodName)) ∈ lg := List.mem_append_left _ (List.mem_append_left _ (List.mem_append_left _ (List.mem_append_left _ (List.mem_append_right _ (List.mem_of_getElem? (i := 13) rfl)))))
theorem hw_254 : (Jvm.Cond.instanceMethod ({ cls := "HistoryJudgeModel", name := "events", desc := "(I)I" } : Jvm.MethodName)) ∈ lg := List.mem_append_left _ (List.mem_append_left _ (List.mem_append_left _ (List.mem_append_left _ (List.mem_append_right _ (List.mem_of_getElem? (i := 14) rfl)))))
theorem hw_255 : (Jvm.Cond.selects "HistoryJudgeModel" ({ cls := "HistoryJudgeModel", name := "events", desc := "(I)I" } : Jvm.MethodName) ({ cls := "HistoryJudgeModel", name := "events", desc := "(I)I" } : Jvm.MethodName)) ∈ lg := List.mem_append_left _ (List.mem_append_left _ (List.mem_append_left _ (List.mem_append_left _ (List.mem_append_right _ (List.mem_of_getElem? (i := 15) rfl)))))
theorem hw_256 : (Jvm.Cond.fieldLink "HistoryJudgeModel" (28 : Nat) "HistoryJudgeModel" "holds" "[I") ∈ lg := List.mem_append_left _ (List.mem_append_left _ (List.mem_append_left _ (List.mem_append_left _ (List.mem_append_right _ (List.mem_of_getElem? (i := 16) rfl)))))
theorem hw_257 : (Jvm.Cond.code ({ cls := "HistoryJudgeModel", name := "right", desc := "(I)I" } : Jvm.MethodName) prog_9_method_36_code (5 : Nat) (Option.some Jvm.ClassFile.FieldType.int)) ∈ lg := List.mem_append_left _ (List.mem_append_left _ (List.mem_append_left _ (List.mem_append_left _ (List.mem_append_right _ (List.mem_of_getElem? (i := 17) rfl)))))
theorem hw_258 : (Jvm.Cond.methodLink "HistoryJudgeModel" (176 : Nat) ({ cls := "HistoryJudgeModel", name := "right", desc := "(I)I" } : Jvm.MethodName)) ∈ lg := List.mem_append_left _ (List.mem_append_left _ (List.mem_append_left _ (List.mem_append_left _ (List.mem_append_right _ (List.mem_of_getElem? (i := 18) rfl)))))
theorem hw_259 : (Jvm.Cond.instanceMethod ({ cls := "HistoryJudgeModel", name := "right", desc := "(I)I" } : Jvm.MethodName)) ∈ lg := List.mem_append_left _ (List.mem_append_left _ (List.mem_append_left _ (List.mem_append_left _ (List.mem_append_right _ (List.mem_of_getElem? (i := 19) rfl)))))
theorem hw_260 : (Jvm.Cond.selects "HistoryJudgeModel" ({ cls := "HistoryJudgeModel", name := "right", desc := "(I)I" } : Jvm.MethodName) ({ cls := "HistoryJudgeModel", name := "right", desc := "(I)I" } : Jvm.MethodName)) ∈ lg := List.mem_append_left _ (List.mem_append_left _ (List.mem_append_left _ (List.mem_append_left _ (List.mem_append_right _ (List.mem_of_getElem? (i := 20) rfl)))))
theorem hw_261 : (Jvm.Cond.code ({ cls := "HistoryJudgeModel", name := "go", desc := "(I)V" } : Jvm.MethodName) prog_9_method_35_code (4 : Nat) (Option.none : Option Jvm.ClassFile.FieldType)) ∈ lg := List.mem_append_left _ (List.mem_append_left _ (List.mem_append_left _ (List.mem_append_left _ (List.mem_append_right _ (List.mem_of_getElem? (i := 21) rfl)))))
theorem hw_262 : (Jvm.Cond.methodLink "HistoryJudgeModel" (179 : Nat) ({ cls := "HistoryJudgeModel", name := "go", desc := "(I)V" } : Jvm.MethodName)) ∈ lg := List.mem_append_left _ (List.mem_append_left _ (List.mem_append_left _ (List.mem_append_left _ (List.mem_append_right _ (List.mem_of_getElem? (i := 22) rfl)))))
theorem hw_263 : (Jvm.Cond.instanceMethod ({ cls := "HistoryJudgeModel", name := "go", desc := "(I)V" } : Jvm.MethodName)) ∈ lg := List.mem_append_left _ (List.mem_append_left _ (List.mem_append_left _ (List.mem_append_left _ (List.mem_append_right _ (List.mem_of_getElem? (i := 23) rfl)))))
theorem hw_264 : (Jvm.Cond.selects "HistoryJudgeModel" ({ cls := "HistoryJudgeModel", name := "go", desc := "(I)V" } : Jvm.MethodName) ({ cls := "HistoryJudgeModel", name := "go", desc := "(I)V" } : Jvm.MethodName)) ∈ lg := List.mem_append_left _ (List.mem_append_left _ (List.mem_append_left _ (List.mem_append_left _ (List.mem_append_right _ (List.mem_of_getElem? (i := 24) rfl)))))
theorem hw_265 : (Jvm.Cond.fieldLink "HistoryJudgeModel" (182 : Nat) "HistoryJudgeModel" "runs" "I") ∈ lg := List.mem_append_left _ (List.mem_append_left _ (List.mem_append_left _ (List.mem_append_left _ (List.mem_append_right _ (List.mem_of_getElem? (i := 25) rfl)))))
theorem hw_266 : (Jvm.Cond.fieldLink "HistoryJudgeModel" (185 : Nat) "HistoryJudgeModel" "explained" "Z") ∈ lg := List.mem_append_left _ (List.mem_append_left _ (List.mem_append_left _ (List.mem_append_left _ (List.mem_append_right _ (List.mem_of_getElem? (i := 26) rfl)))))
theorem hw_267 : (Jvm.Cond.fieldLink "HistoryJudgeModel" (194 : Nat) "HistoryJudgeModel" "wrong" "I") ∈ lg := List.mem_append_left _ (List.mem_append_left _ (List.mem_append_left _ (List.mem_append_left _ (List.mem_append_right _ (List.mem_of_getElem? (i := 27) rfl)))))
theorem hw_268 : (Jvm.Cond.fieldLink "HistoryJudgeModel" (191 : Nat) "HistoryJudgeModel" "witness" "I") ∈ lg := List.mem_append_left _ (List.mem_append_left _ (List.mem_append_left _ (List.mem_append_left _ (List.mem_append_right _ (List.mem_of_getElem? (i := 28) rfl)))))
theorem hw_269 : (Jvm.Cond.code ({ cls := "HistoryJudgeModel", name := "explains", desc := "(I)Z" } : Jvm.MethodName) prog_9_method_37_code (7 : Nat) (Option.some Jvm.ClassFile.FieldType.boolean)) ∈ lg := List.mem_append_left _ (List.mem_append_left _ (List.mem_append_left _ (List.mem_append_left _ (List.mem_append_right _ (List.mem_of_getElem? (i := 29) rfl)))))
theorem hw_270 : (Jvm.Cond.methodLink "HistoryJudgeModel" (188 : Nat) ({ cls := "HistoryJudgeModel", name := "explains", desc := "(I)Z" } : Jvm.MethodName)) ∈ lg := List.mem_append_left _ (List.mem_append_left _ (List.mem_append_left _ (List.mem_append_left _ (List.mem_append_right _ (List.mem_of_getElem? (i := 30) rfl)))))
theorem hw_271 : (Jvm.Cond.instanceMethod ({ cls := "HistoryJudgeModel", name := "explains", desc := "(I)Z" } : Jvm.MethodName)) ∈ lg := List.mem_append_left _ (List.mem_append_left _ (List.mem_append_left _ (List.mem_append_left _ (List.mem_append_right _ (List.mem_of_getElem? (i := 31) rfl)))))
theorem hw_272 : (Jvm.Cond.selects "HistoryJudgeModel" ({ cls := "HistoryJudgeModel", name := "explains", desc := "(I)Z" } : Jvm.MethodName) ({ cls := "HistoryJudgeModel", name := "explains", desc := "(I)Z" } : Jvm.MethodName)) ∈ lg := List.mem_append_left _ (List.mem_append_left _ (List.mem_append_left _ (List.mem_append_left _ (List.mem_append_right _ (List.mem_of_getElem? (i := 32) rfl)))))
theorem hw_273 : (Jvm.Cond.fieldLink "HistoryJudgeModel" (62 : Nat) "HistoryJudgeModel" "tallies" "[I") ∈ lg := List.mem_append_left _ (List.mem_append_left _ (List.mem_append_left _ (List.mem_append_left _ (List.mem_append_right _ (List.mem_of_getElem? (i := 33) rfl)))))
theorem hw_274 : (Jvm.Cond.code ({ cls := "HistoryJudgeModel", name := "judged", desc := "(I)Z" } : Jvm.MethodName) prog_9_method_38_code (4 : Nat) (Option.some Jvm.ClassFile.FieldType.boolean)) ∈ lg := List.mem_append_left _ (List.mem_append_left _ (List.mem_append_left _ (List.mem_append_left _ (List.mem_append_right _ (List.mem_of_getElem? (i := 34) rfl)))))
theorem hw_275 : (Jvm.Cond.methodLink "HistoryJudgeModel" (197 : Nat) ({ cls := "HistoryJudgeModel", name := "judged", desc := "(I)Z" } : Jvm.MethodName)) ∈ lg := List.mem_append_left _ (List.mem_append_left _ (List.mem_append_left _ (List.mem_append_left _ (List.mem_append_right _ (List.mem_of_getElem? (i := 35) rfl)))))
theorem hw_276 : (Jvm.Cond.instanceMethod ({ cls := "HistoryJudgeModel", name := "judged", desc := "(I)Z" } : Jvm.MethodName)) ∈ lg := List.mem_append_left _ (List.mem_append_left _ (List.mem_append_left _ (List.mem_append_left _ (List.mem_append_right _ (List.mem_of_getElem? (i := 36) rfl)))))
theorem hw_277 : (Jvm.Cond.selects "HistoryJudgeModel" ({ cls := "HistoryJudgeModel", name := "judged", desc := "(I)Z" } : Jvm.MethodName) ({ cls := "HistoryJudgeModel", name := "judged", desc := "(I)Z" } : Jvm.MethodName)) ∈ lg := List.mem_append_left _ (List.mem_append_left _ (List.mem_append_left _ (List.mem_append_left _ (List.mem_append_right _ (List.mem_of_getElem? (i := 37) rfl)))))
theorem hw_278 : (Jvm.Cond.constant "HistoryJudgeModel" (200 : Nat) (2147483647 : Int32)) ∈ lg := List.mem_append_left _ (List.mem_append_left _ (List.mem_append_left _ (List.mem_append_left _ (List.mem_append_right _ (List.mem_of_getElem? (i := 38) rfl)))))
theorem hw_279 : (Jvm.Cond.fieldLink "HistoryJudgeModel" (201 : Nat) "HistoryJudgeModel" "failing" "I") ∈ lg := List.mem_append_left _ (List.mem_append_left _ (List.mem_append_left _ (List.mem_append_left _ (List.mem_append_right _ (List.mem_of_getElem? (i := 39) rfl)))))
theorem hw_280 : (Jvm.Cond.code ({ cls := "HistoryJudgeModel", name := "failed", desc := "(JI)I" } : Jvm.MethodName) prog_9_method_40_code (6 : Nat) (Option.some Jvm.ClassFile.FieldType.int)) ∈ lg := List.mem_append_left _ (List.mem_append_left _ (List.mem_append_left _ (List.mem_append_left _ (List.mem_append_right _ (List.mem_of_getElem? (i := 40) rfl)))))
theorem hw_281 : (Jvm.Cond.methodLink "HistoryJudgeModel" (204 : Nat) ({ cls := "HistoryJudgeModel", name := "failed", desc := "(JI)I" } : Jvm.MethodName)) ∈ lg := List.mem_append_left _ (List.mem_append_left _ (List.mem_append_left _ (List.mem_append_left _ (List.mem_append_right _ (List.mem_of_getElem? (i := 41) rfl)))))
theorem hw_282 : (Jvm.Cond.instanceMethod ({ cls := "HistoryJudgeModel", name := "failed", desc := "(JI)I" } : Jvm.MethodName)) ∈ lg := List.mem_append_left _ (List.mem_append_left _ (List.mem_append_left _ (List.mem_append_left _ (List.mem_append_right _ (List.mem_of_getElem? (i := 42) rfl)))))
theorem hw_283 : (Jvm.Cond.selects "HistoryJudgeModel" ({ cls := "HistoryJudgeModel", name := "failed", desc := "(JI)I" } : Jvm.MethodName) ({ cls := "HistoryJudgeModel", name := "failed", desc := "(JI)I" } : Jvm.MethodName)) ∈ lg := List.mem_append_left _ (List.mem_append_left _ (List.mem_append_left _ (List.mem_append_left _ (List.mem_append_right _ (List.mem_of_getElem? (i := 43) rfl)))))
theorem hw_284 : (Jvm.Cond.code ({ cls := "HistoryJudgeModel", name := "takes", desc := "(ZJI)Z" } : Jvm.MethodName) prog_9_method_42_code (5 : Nat) (Option.some Jvm.ClassFile.FieldType.boolean)) ∈ lg := List.mem_append_left _ (List.mem_append_left _ (List.mem_append_left _ (List.mem_append_left _ (List.mem_append_right _ (List.mem_of_getElem? (i := 44) rfl)))))
theorem hw_285 : (Jvm.Cond.methodLink "HistoryJudgeModel" (211 : Nat) ({ cls := "HistoryJudgeModel", name := "takes", desc := "(ZJI)Z" } : Jvm.MethodName)) ∈ lg := List.mem_append_left _ (List.mem_append_left _ (List.mem_append_left _ (List.mem_append_left _ (List.mem_append_right _ (List.mem_of_getElem? (i := 45) rfl)))))
theorem hw_286 : (Jvm.Cond.instanceMethod ({ cls := "HistoryJudgeModel", name := "takes", desc := "(ZJI)Z" } : Jvm.MethodName)) ∈ lg := List.mem_append_left _ (List.mem_append_left _ (List.mem_append_left _ (List.mem_append_left _ (List.mem_append_right _ (List.mem_of_getElem? (i := 46) rfl)))))
theorem hw_287 : (Jvm.Cond.selects "HistoryJudgeModel" ({ cls := "HistoryJudgeModel", name := "takes", desc := "(ZJI)Z" } : Jvm.MethodName) ({ cls := "HistoryJudgeModel", name := "takes", desc := "(ZJI)Z" } : Jvm.MethodName)) ∈ lg := List.mem_append_left _ (List.mem_append_left _ (List.mem_append_left _ (List.mem_append_left _ (List.mem_append_right _ (List.mem_of_getElem? (i := 47) rfl)))))
theorem hw_288 : (Jvm.Cond.code ({ cls := "HistoryJudgeModel", name := "raise", desc := "(I)V" } : Jvm.MethodName) prog_9_method_19_code (9 : Nat) (Option.none : Option Jvm.ClassFile.FieldType)) ∈ lg := List.mem_append_left _ (List.mem_append_left _ (List.mem_append_left _ (List.mem_append_left _ (List.mem_append_right _ (List.mem_of_getElem? (i := 48) rfl)))))
theorem hw_289 : (Jvm.Cond.methodLink "HistoryJudgeModel" (215 : Nat) ({ cls := "HistoryJudgeModel", name := "raise", desc := "(I)V" } : Jvm.MethodName)) ∈ lg := List.mem_append_left _ (List.mem_append_left _ (List.mem_append_left _ (List.mem_append_left _ (List.mem_append_right _ (List.mem_of_getElem? (i := 49) rfl)))))
theorem hw_290 : (Jvm.Cond.instanceMethod ({ cls := "HistoryJudgeModel", name := "raise", desc := "(I)V" } : Jvm.MethodName)) ∈ lg := List.mem_append_left _ (List.mem_append_left _ (List.mem_append_left _ (List.mem_append_left _ (List.mem_append_right _ (List.mem_of_getElem? (i := 50) rfl)))))
theorem hw_291 : (Jvm.Cond.selects "HistoryJudgeModel" ({ cls := "HistoryJudgeModel", name := "raise", desc := "(I)V" } : Jvm.MethodName) ({ cls := "HistoryJudgeModel", name := "raise", desc := "(I)V" } : Jvm.MethodName)) ∈ lg := List.mem_append_left _ (List.mem_append_left _ (List.mem_append_left _ (List.mem_append_left _ (List.mem_append_right _ (List.mem_of_getElem? (i := 51) rfl)))))
theorem hw_292 : (Jvm.Cond.code ({ cls := "HistoryJudgeModel", name := "leaveOut", desc := "(I)Z" } : Jvm.MethodName) prog_9_method_18_code (4 : Nat) (Option.some Jvm.ClassFile.FieldType.boolean)) ∈ lg := List.mem_append_left _ (List.mem_append_left _ (List.mem_append_left _ (List.mem_append_left _ (List.mem_append_right _ (List.mem_of_getElem? (i := 52) rfl)))))
theorem hw_293 : (Jvm.Cond.methodLink "HistoryJudgeModel" (208 : Nat) ({ cls := "HistoryJudgeModel", name := "leaveOut", desc := "(I)Z" } : Jvm.MethodName)) ∈ lg := List.mem_append_left _ (List.mem_append_left _ (List.mem_append_left _ (List.mem_append_left _ (List.mem_append_right _ (List.mem_of_getElem? (i := 53) rfl)))))
theorem hw_294 : (Jvm.Cond.instanceMethod ({ cls := "HistoryJudgeModel", name := "leaveOut", desc := "(I)Z" } : Jvm.MethodName)) ∈ lg := List.mem_append_left _ (List.mem_append_left _ (List.mem_append_left _ (List.mem_append_left _ (List.mem_append_right _ (List.mem_of_getElem? (i := 54) rfl)))))
theorem hw_295 : (Jvm.Cond.selects "HistoryJudgeModel" ({ cls := "HistoryJudgeModel", name := "leaveOut", desc := "(I)Z" } : Jvm.MethodName) ({ cls := "HistoryJudgeModel", name := "leaveOut", desc := "(I)Z" } : Jvm.MethodName)) ∈ lg := List.mem_append_left _ (List.mem_append_left _ (List.mem_append_left _ (List.mem_append_left _ (List.mem_append_right _ (List.mem_of_getElem? (i := 55) rfl)))))
theorem hw_296 : (Jvm.Cond.code ({ cls := "HistoryJudgeModel", name := "smaller", desc := "(JI)Z" } : Jvm.MethodName) prog_9_method_43_code (7 : Nat) (Option.some Jvm.ClassFile.FieldType.boolean)) ∈ lg := List.mem_append_left _ (List.mem_append_left _ (List.mem_append_left _ (List.mem_append_left _ (List.mem_append_right _ (List.mem_of_getElem? (i := 56) rfl)))))
theorem hw_297 : (Jvm.Cond.methodLink "HistoryJudgeModel" (218 : Nat) ({ cls := "HistoryJudgeModel", name := "smaller", desc := "(JI)Z" } : Jvm.MethodName)) ∈ lg := List.mem_append_left _ (List.mem_append_left _ (List.mem_append_left _ (List.mem_append_left _ (List.mem_append_right _ (List.mem_of_getElem? (i := 57) rfl)))))
theorem hw_298 : (Jvm.Cond.instanceMethod ({ cls := "HistoryJudgeModel", name := "smaller", desc := "(JI)Z" } : Jvm.MethodName)) ∈ lg := List.mem_append_left _ (List.mem_append_left _ (List.mem_append_left _ (List.mem_append_left _ (List.mem_append_right _ (List.mem_of_getElem? (i := 58) rfl)))))
theorem hw_299 : (Jvm.Cond.selects "HistoryJudgeModel" ({ cls := "HistoryJudgeModel", name := "smaller", desc := "(JI)Z" } : Jvm.MethodName) ({ cls := "HistoryJudgeModel", name := "smaller", desc := "(JI)Z" } : Jvm.MethodName)) ∈ lg := List.mem_append_left _ (List.mem_append_left _ (List.mem_append_left _ (List.mem_append_left _ (List.mem_append_right _ (List.mem_of_getElem? (i := 59) rfl)))))
theorem hw_300 : (Jvm.Cond.fieldLink "HistoryJudgeModel" (222 : Nat) "HistoryJudgeModel" "taken" "I") ∈ lg := List.mem_append_left _ (List.mem_append_left _ (List.mem_append_left _ (List.mem_append_right _ (List.mem_of_getElem? (i := 0) rfl))))
theorem hw_301 : (Jvm.Cond.fieldLink "HistoryJudge$Tester" (39 : Nat) "HistoryJudge$Tester" "schedule" "I") ∈ lg := List.mem_append_left _ (List.mem_append_left _ (List.mem_append_left _ (List.mem_append_right _ (List.mem_of_getElem? (i := 1) rfl))))
theorem hw_302 : (Jvm.Cond.fieldLink "HistoryJudge$Tester" (12 : Nat) "HistoryJudge$Tester" "machine" "LHistoryJudge$Machine;") ∈ lg := List.mem_append_left _ (List.mem_append_left _ (List.mem_append_left _ (List.mem_append_right _ (List.mem_of_getElem? (i := 2) rfl))))
theorem hw_303 : (Jvm.Cond.fieldLink "HistoryJudge$Tester" (29 : Nat) "HistoryJudge$Tester" "flawBits" "I") ∈ lg := List.mem_append_left _ (List.mem_append_left _ (List.mem_append_left _ (List.mem_append_right _ (List.mem_of_getElem? (i := 3) rfl))))
theorem hw_304 : (Jvm.Cond.fieldLink "HistoryJudge$Machine" (39 : Nat) "HistoryJudge$Machine" "flawBits" "I") ∈ lg := List.mem_append_left _ (List.mem_append_left _ (List.mem_append_left _ (List.mem_append_right _ (List.mem_of_getElem? (i := 4) rfl))))
theorem hw_305 : (Jvm.Cond.fieldLink "HistoryJudge$Machine" (26 : Nat) "HistoryJudge$Machine" "cells" "I") ∈ lg := List.mem_append_left _ (List.mem_append_left _ (List.mem_append_left _ (List.mem_append_right _ (List.mem_of_getElem? (i := 5) rfl))))
theorem hw_306 : (Jvm.Cond.methodLink "HistoryJudge$Machine" (48 : Nat) ({ cls := "HistoryJudge$Program", name := "end", desc := "(I)I" } : Jvm.MethodName)) ∈ lg := List.mem_append_left _ (List.mem_append_left _ (List.mem_append_left _ (List.mem_append_right _ (List.mem_of_getElem? (i := 6) rfl))))
theorem hw_307 : (Jvm.Cond.fieldLink "HistoryJudge$Machine" (30 : Nat) "HistoryJudge$Machine" "nextCommand" "[I") ∈ lg := List.mem_append_left _ (List.mem_append_left _ (List.mem_append_left _ (List.mem_append_right _ (List.mem_of_getElem? (i := 7) rfl))))
theorem hw_308 : (Jvm.Cond.fieldLink "HistoryJudge$Machine" (55 : Nat) "HistoryJudge$Program" "kinds" "[I") ∈ lg := List.mem_append_left _ (List.mem_append_left _ (List.mem_append_left _ (List.mem_append_right _ (List.mem_of_getElem? (i := 8) rfl))))
theorem hw_309 : (Jvm.Cond.fieldLink "HistoryJudge$Machine" (58 : Nat) "HistoryJudge$Program" "cells" "[I") ∈ lg := List.mem_append_left _ (List.mem_append_left _ (List.mem_append_left _ (List.mem_append_right _ (List.mem_of_getElem? (i := 9) rfl))))
theorem hw_310 : (Jvm.Cond.fieldLink "HistoryJudge$Machine" (33 : Nat) "HistoryJudge$Machine" "nextEvent" "[I") ∈ lg := List.mem_append_left _ (List.mem_append_left _ (List.mem_append_left _ (List.mem_append_right _ (List.mem_of_getElem? (i := 10) rfl))))
theorem hw_311 : (Jvm.Cond.fieldLink "HistoryJudge$Machine" (18 : Nat) "HistoryJudge$Machine" "calls" "[I") ∈ lg := List.mem_append_left _ (List.mem_append_left _ (List.mem_append_left _ (List.mem_append_right _ (List.mem_of_getElem? (i := 11) rfl))))
theorem hw_312 : (Jvm.Cond.fieldLink "HistoryJudge$Machine" (15 : Nat) "HistoryJudge$Machine" "numbers" "[I") ∈ lg := List.mem_append_left _ (List.mem_append_left _ (List.mem_append_left _ (List.mem_append_right _ (List.mem_of_getElem? (i := 12) rfl))))
theorem hw_313 : (Jvm.Cond.fieldLink "HistoryJudge$Machine" (60 : Nat) "HistoryJudge$Program" "arguments" "[I") ∈ lg := List.mem_append_left _ (List.mem_append_left _ (List.mem_append_left _ (List.mem_append_right _ (List.mem_of_getElem? (i := 13) rfl))))
theorem hw_314 : (Jvm.Cond.fieldLink "HistoryJudge$Machine" (9 : Nat) "HistoryJudge$Machine" "answers" "[I") ∈ lg := List.mem_append_left _ (List.mem_append_left _ (List.mem_append_left _ (List.mem_append_right _ (List.mem_of_getElem? (i := 14) rfl))))
theorem hw_315 : (Jvm.Cond.code ({ cls := "HistoryJudge$Machine", name := "numberOf", desc := "(I)I" } : Jvm.MethodName) prog_4_method_4_code (2 : Nat) (Option.some Jvm.ClassFile.FieldType.int)) ∈ lg := List.mem_append_left _ (List.mem_append_left _ (List.mem_append_left _ (List.mem_append_right _ (List.mem_of_getElem? (i := 15) rfl))))
theorem hw_316 : (Jvm.Cond.methodLink "HistoryJudge$Machine" (63 : Nat) ({ cls := "HistoryJudge$Machine", name := "numberOf", desc := "(I)I" } : Jvm.MethodName)) ∈ lg := List.mem_append_left _ (List.mem_append_left _ (List.mem_append_left _ (List.mem_append_right _ (List.mem_of_getElem? (i := 16) rfl))))
theorem hw_317 : (Jvm.Cond.instanceMethod ({ cls := "HistoryJudge$Machine", name := "numberOf", desc := "(I)I" } : Jvm.MethodName)) ∈ lg := List.mem_append_left _ (List.mem_append_left _ (List.mem_append_left _ (List.mem_append_right _ (List.mem_of_getElem? (i := 17) rfl))))
theorem hw_318 : (Jvm.Cond.selects "HistoryJudge$Machine" ({ cls := "HistoryJudge$Machine", name := "numberOf", desc := "(I)I" } : Jvm.MethodName) ({ cls := "HistoryJudge$Machine", name := "numberOf", desc := "(I)I" } : Jvm.MethodName)) ∈ lg := List.mem_append_left _ (List.mem_append_left _ (List.mem_append_left _ (List.mem_append_right _ (List.mem_of_getElem? (i := 18) rfl))))
theorem hw_319 : (Jvm.Cond.initialized "HistoryJudge$Machine") ∈ lg := List.mem_append_left _ (List.mem_append_left _ (List.mem_append_left _ (List.mem_append_right _ (List.mem_of_getElem? (i := 19) rfl))))
theorem hw_320 : (Jvm.Cond.code ({ cls := "HistoryJudge$Machine", name := "isSplit", desc := "(I)Z" } : Jvm.MethodName) prog_4_method_5_code (2 : Nat) (Option.some Jvm.ClassFile.FieldType.boolean)) ∈ lg := List.mem_append_left _ (List.mem_append_left _ (List.mem_append_left _ (List.mem_append_right _ (List.mem_of_getElem? (i := 20) rfl))))
theorem hw_321 : (Jvm.Cond.methodLink "HistoryJudge$Machine" (66 : Nat) ({ cls := "HistoryJudge$Machine", name := "isSplit", desc := "(I)Z" } : Jvm.MethodName)) ∈ lg := List.mem_append_left _ (List.mem_append_left _ (List.mem_append_left _ (List.mem_append_right _ (List.mem_of_getElem? (i := 21) rfl))))
theorem hw_322 : (Jvm.Cond.instanceMethod ({ cls := "HistoryJudge$Machine", name := "isSplit", desc := "(I)Z" } : Jvm.MethodName)) ∈ lg := List.mem_append_left _ (List.mem_append_left _ (List.mem_append_left _ (List.mem_append_right _ (List.mem_of_getElem? (i := 22) rfl))))
theorem hw_323 : (Jvm.Cond.selects "HistoryJudge$Machine" ({ cls := "HistoryJudge$Machine", name := "isSplit", desc := "(I)Z" } : Jvm.MethodName) ({ cls := "HistoryJudge$Machine", name := "isSplit", desc := "(I)Z" } : Jvm.MethodName)) ∈ lg := List.mem_append_left _ (List.mem_append_left _ (List.mem_append_left _ (List.mem_append_right _ (List.mem_of_getElem? (i := 23) rfl))))
theorem hw_324 : (Jvm.Cond.fieldLink "HistoryJudge$Machine" (36 : Nat) "HistoryJudge$Machine" "noted" "[I") ∈ lg := List.mem_append_left _ (List.mem_append_left _ (List.mem_append_left _ (List.mem_append_right _ (List.mem_of_getElem? (i := 24) rfl))))
theorem hw_325 : (Jvm.Cond.methodLink "HistoryJudge$Machine" (73 : Nat) ({ cls := "HistoryJudge$Model", name := "held", desc := "(II)I" } : Jvm.MethodName)) ∈ lg := List.mem_append_left _ (List.mem_append_left _ (List.mem_append_left _ (List.mem_append_right _ (List.mem_of_getElem? (i := 25) rfl))))
theorem hw_326 : (Jvm.Cond.methodLink "HistoryJudge$Machine" (70 : Nat) ({ cls := "HistoryJudge$Model", name := "source", desc := "(I)I" } : Jvm.MethodName)) ∈ lg := List.mem_append_left _ (List.mem_append_left _ (List.mem_append_left _ (List.mem_append_right _ (List.mem_of_getElem? (i := 26) rfl))))
theorem hw_327 : (Jvm.Cond.code ({ cls := "HistoryJudge$Model", name := "answer", desc := "(IIII)I" } : Jvm.MethodName) prog_5_method_7_code (4 : Nat) (Option.some Jvm.ClassFile.FieldType.int)) ∈ lg := List.mem_append_left _ (List.mem_append_left _ (List.mem_append_left _ (List.mem_append_right _ (List.mem_of_getElem? (i := 27) rfl))))
theorem hw_328 : (Jvm.Cond.methodLink "HistoryJudge$Machine" (92 : Nat) ({ cls := "HistoryJudge$Model", name := "answer", desc := "(IIII)I" } : Jvm.MethodName)) ∈ lg := List.mem_append_left _ (List.mem_append_left _ (List.mem_append_left _ (List.mem_append_right _ (List.mem_of_getElem? (i := 28) rfl))))
theorem hw_329 : (Jvm.Cond.static ({ cls := "HistoryJudge$Model", name := "answer", desc := "(IIII)I" } : Jvm.MethodName)) ∈ lg := List.mem_append_left _ (List.mem_append_left _ (List.mem_append_left _ (List.mem_append_right _ (List.mem_of_getElem? (i := 29) rfl))))
theorem hw_330 : (Jvm.Cond.code ({ cls := "HistoryJudge$Machine", name := "isLate", desc := "(I)Z" } : Jvm.MethodName) prog_4_method_6_code (2 : Nat) (Option.some Jvm.ClassFile.FieldType.boolean)) ∈ lg := List.mem_append_left _ (List.mem_append_left _ (List.mem_append_left _ (List.mem_append_right _ (List.mem_of_getElem? (i := 30) rfl))))
theorem hw_331 : (Jvm.Cond.methodLink "HistoryJudge$Machine" (85 : Nat) ({ cls := "HistoryJudge$Machine", name := "isLate", desc := "(I)Z" } : Jvm.MethodName)) ∈ lg := List.mem_append_left _ (List.mem_append_left _ (List.mem_append_left _ (List.mem_append_right _ (List.mem_of_getElem? (i := 31) rfl))))
theorem hw_332 : (Jvm.Cond.instanceMethod ({ cls := "HistoryJudge$Machine", name := "isLate", desc := "(I)Z" } : Jvm.MethodName)) ∈ lg := List.mem_append_left _ (List.mem_append_left _ (List.mem_append_left _ (List.mem_append_right _ (List.mem_of_getElem? (i := 32) rfl))))
theorem hw_333 : (Jvm.Cond.selects "HistoryJudge$Machine" ({ cls := "HistoryJudge$Machine", name := "isLate", desc := "(I)Z" } : Jvm.MethodName) ({ cls := "HistoryJudge$Machine", name := "isLate", desc := "(I)Z" } : Jvm.MethodName)) ∈ lg := List.mem_append_left _ (List.mem_append_left _ (List.mem_append_left _ (List.mem_append_right _ (List.mem_of_getElem? (i := 33) rfl))))
theorem hw_334 : (Jvm.Cond.methodLink "HistoryJudge$Machine" (88 : Nat) ({ cls := "HistoryJudge$Model", name := "after", desc := "(IIII)I" } : Jvm.MethodName)) ∈ lg := List.mem_append_left _ (List.mem_append_left _ (List.mem_append_left _ (List.mem_append_right _ (List.mem_of_getElem? (i := 34) rfl))))
theorem hw_335 : (Jvm.Cond.code ({ cls := "HistoryJudge$Machine", name := "act", desc := "(III)V" } : Jvm.MethodName) prog_4_method_7_code (4 : Nat) (Option.none : Option Jvm.ClassFile.FieldType)) ∈ lg := List.mem_append_left _ (List.mem_append_left _ (List.mem_append_left _ (List.mem_append_right _ (List.mem_of_getElem? (i := 35) rfl))))
theorem hw_336 : (Jvm.Cond.methodLink "HistoryJudge$Machine" (81 : Nat) ({ cls := "HistoryJudge$Machine", name := "act", desc := "(III)V" } : Jvm.MethodName)) ∈ lg := List.mem_append_left _ (List.mem_append_left _ (List.mem_append_left _ (List.mem_append_right _ (List.mem_of_getElem? (i := 36) rfl))))
theorem hw_337 : (Jvm.Cond.instanceMethod ({ cls := "HistoryJudge$Machine", name := "act", desc := "(III)V" } : Jvm.MethodName)) ∈ lg := List.mem_append_left _ (List.mem_append_left _ (List.mem_append_left _ (List.mem_append_right _ (List.mem_of_getElem? (i := 37) rfl))))
theorem hw_338 : (Jvm.Cond.selects "HistoryJudge$Machine" ({ cls := "HistoryJudge$Machine", name := "act", desc := "(III)V" } : Jvm.MethodName) ({ cls := "HistoryJudge$Machine", name := "act", desc := "(III)V" } : Jvm.MethodName)) ∈ lg := List.mem_append_left _ (List.mem_append_left _ (List.mem_append_left _ (List.mem_append_right _ (List.mem_of_getElem? (i := 38) rfl))))
theorem hw_339 : (Jvm.Cond.code ({ cls := "HistoryJudge$Machine", name := "actByNote", desc := "(IIII)V" } : Jvm.MethodName) prog_4_method_8_code (6 : Nat) (Option.none : Option Jvm.ClassFile.FieldType)) ∈ lg := List.mem_append_left _ (List.mem_append_left _ (List.mem_append_left _ (List.mem_append_right _ (List.mem_of_getElem? (i := 39) rfl))))
theorem hw_340 : (Jvm.Cond.methodLink "HistoryJudge$Machine" (77 : Nat) ({ cls := "HistoryJudge$Machine", name := "actByNote", desc := "(IIII)V" } : Jvm.MethodName)) ∈ lg := List.mem_append_left _ (List.mem_append_left _ (List.mem_append_left _ (List.mem_append_right _ (List.mem_of_getElem? (i := 40) rfl))))
theorem hw_341 : (Jvm.Cond.instanceMethod ({ cls := "HistoryJudge$Machine", name := "actByNote", desc := "(IIII)V" } : Jvm.MethodName)) ∈ lg := List.mem_append_left _ (List.mem_append_left _ (List.mem_append_left _ (List.mem_append_right _ (List.mem_of_getElem? (i := 41) rfl))))
theorem hw_342 : (Jvm.Cond.selects "HistoryJudge$Machine" ({ cls := "HistoryJudge$Machine", name := "actByNote", desc := "(IIII)V" } : Jvm.MethodName) ({ cls := "HistoryJudge$Machine", name := "actByNote", desc := "(IIII)V" } : Jvm.MethodName)) ∈ lg := List.mem_append_left _ (List.mem_append_left _ (List.mem_append_left _ (List.mem_append_right _ (List.mem_of_getElem? (i := 42) rfl))))
theorem hw_343 : (Jvm.Cond.fieldLink "HistoryJudge$Machine" (21 : Nat) "HistoryJudge$Machine" "returns" "[I") ∈ lg := List.mem_append_left _ (List.mem_append_left _ (List.mem_append_left _ (List.mem_append_right _ (List.mem_of_getElem? (i := 43) rfl))))
theorem hw_344 : (Jvm.Cond.code ({ cls := "HistoryJudge$Machine", name := "step", desc := "(LHistoryJudge$Program;II)V" } : Jvm.MethodName) prog_4_method_3_code (7 : Nat) (Option.none : Option Jvm.ClassFile.FieldType)) ∈ lg := List.mem_append_left _ (List.mem_append_left _ (List.mem_append_left _ (List.mem_append_right _ (List.mem_of_getElem? (i := 44) rfl))))
theorem hw_345 : (Jvm.Cond.methodLink "HistoryJudge$Machine" (51 : Nat) ({ cls := "HistoryJudge$Machine", name := "step", desc := "(LHistoryJudge$Program;II)V" } : Jvm.MethodName)) ∈ lg := List.mem_append_left _ (List.mem_append_left _ (List.mem_append_left _ (List.mem_append_right _ (List.mem_of_getElem? (i := 45) rfl))))
theorem hw_346 : (Jvm.Cond.instanceMethod ({ cls := "HistoryJudge$Machine", name := "step", desc := "(LHistoryJudge$Program;II)V" } : Jvm.MethodName)) ∈ lg := List.mem_append_left _ (List.mem_append_left _ (List.mem_append_left _ (List.mem_append_right _ (List.mem_of_getElem? (i := 46) rfl))))
theorem hw_347 : (Jvm.Cond.selects "HistoryJudge$Machine" ({ cls := "HistoryJudge$Machine", name := "step", desc := "(LHistoryJudge$Program;II)V" } : Jvm.MethodName) ({ cls := "HistoryJudge$Machine", name := "step", desc := "(LHistoryJudge$Program;II)V" } : Jvm.MethodName)) ∈ lg := List.mem_append_left _ (List.mem_append_left _ (List.mem_append_left _ (List.mem_append_right _ (List.mem_of_getElem? (i := 47) rfl))))
theorem hw_348 : (Jvm.Cond.methodLink "HistoryJudge$Machine" (42 : Nat) ({ cls := "HistoryJudge$Program", name := "start", desc := "(I)I" } : Jvm.MethodName)) ∈ lg := List.mem_append_left _ (List.mem_append_left _ (List.mem_append_left _ (List.mem_append_right _ (List.mem_of_getElem? (i := 48) rfl))))
theorem hw_349 : (Jvm.Cond.code ({ cls := "HistoryJudge$Machine", name := "perform", desc := "(LHistoryJudge$Program;II)V" } : Jvm.MethodName) prog_4_method_2_code (11 : Nat) (Option.none : Option Jvm.ClassFile.FieldType)) ∈ lg := List.mem_append_left _ (List.mem_append_left _ (List.mem_append_left _ (List.mem_append_right _ (List.mem_of_getElem? (i := 49) rfl))))
theorem hw_350 : (Jvm.Cond.methodLink "HistoryJudge$Tester" (53 : Nat) ({ cls := "HistoryJudge$Machine", name := "perform", desc := "(LHistoryJudge$Program;II)V" } : Jvm.MethodName)) ∈ lg := List.mem_append_left _ (List.mem_append_left _ (List.mem_append_left _ (List.mem_append_right _ (List.mem_of_getElem? (i := 50) rfl))))
theorem hw_351 : (Jvm.Cond.instanceMethod ({ cls := "HistoryJudge$Machine", name := "perform", desc := "(LHistoryJudge$Program;II)V" } : Jvm.MethodName)) ∈ lg := List.mem_append_left _ (List.mem_append_left _ (List.mem_append_left _ (List.mem_append_right _ (List.mem_of_getElem? (i := 51) rfl))))
theorem hw_352 : (Jvm.Cond.selects "HistoryJudge$Machine" ({ cls := "HistoryJudge$Machine", name := "perform", desc := "(LHistoryJudge$Program;II)V" } : Jvm.MethodName) ({ cls := "HistoryJudge$Machine", name := "perform", desc := "(LHistoryJudge$Program;II)V" } : Jvm.MethodName)) ∈ lg := List.mem_append_left _ (List.mem_append_left _ (List.mem_append_left _ (List.mem_append_right _ (List.mem_of_getElem? (i := 52) rfl))))
theorem hw_353 : (Jvm.Cond.fieldLink "HistoryJudge$Tester" (21 : Nat) "HistoryJudge$Tester" "judge" "LHistoryJudge$Judge;") ∈ lg := List.mem_append_left _ (List.mem_append_left _ (List.mem_append_left _ (List.mem_append_right _ (List.mem_of_getElem? (i := 53) rfl))))
theorem hw_354 : (Jvm.Cond.methodLink "HistoryJudge$Judge" (17 : Nat) ({ cls := "HistoryJudge$Program", name := "end", desc := "(I)I" } : Jvm.MethodName)) ∈ lg := List.mem_append_left _ (List.mem_append_left _ (List.mem_append_left _ (List.mem_append_right _ (List.mem_of_getElem? (i := 54) rfl))))
theorem hw_355 : (Jvm.Cond.methodLink "HistoryJudge$Judge" (31 : Nat) ({ cls := "HistoryJudge$Program", name := "start", desc := "(I)I" } : Jvm.MethodName)) ∈ lg := List.mem_append_left _ (List.mem_append_left _ (List.mem_append_left _ (List.mem_append_right _ (List.mem_of_getElem? (i := 55) rfl))))
theorem hw_356 : (Jvm.Cond.fieldLink "HistoryJudge$Judge" (9 : Nat) "HistoryJudge$Judge" "witness" "[I") ∈ lg := List.mem_append_left _ (List.mem_append_left _ (List.mem_append_left _ (List.mem_append_right _ (List.mem_of_getElem? (i := 56) rfl))))
theorem hw_357 : (Jvm.Cond.fieldLink "HistoryJudge$Judge" (46 : Nat) "HistoryJudge$Program" "kinds" "[I") ∈ lg := List.mem_append_left _ (List.mem_append_left _ (List.mem_append_left _ (List.mem_append_right _ (List.mem_of_getElem? (i := 57) rfl))))
theorem hw_358 : (Jvm.Cond.fieldLink "HistoryJudge$Judge" (49 : Nat) "HistoryJudge$Program" "cells" "[I") ∈ lg := List.mem_append_left _ (List.mem_append_left _ (List.mem_append_left _ (List.mem_append_right _ (List.mem_of_getElem? (i := 58) rfl))))
theorem hw_359 : (Jvm.Cond.fieldLink "HistoryJudge$Judge" (52 : Nat) "HistoryJudge$Machine" "numbers" "[I") ∈ lg := List.mem_append_left _ (List.mem_append_left _ (List.mem_append_left _ (List.mem_append_right _ (List.mem_of_getElem? (i := 59) rfl))))
theorem hw_360 : (Jvm.Cond.methodLink "HistoryJudge$Judge" (55 : Nat) ({ cls := "HistoryJudge$Model", name := "answer", desc := "(IIII)I" } : Jvm.MethodName)) ∈ lg := List.mem_append_left _ (List.mem_append_left _ (List.mem_append_right _ (List.mem_of_getElem? (i := 0) rfl)))
theorem hw_361 : (Jvm.Cond.fieldLink "HistoryJudge$Judge" (59 : Nat) "HistoryJudge$Machine" "answers" "[I") ∈ lg := List.mem_append_left _ (List.mem_append_left _ (List.mem_append_right _ (List.mem_of_getElem? (i := 1) rfl)))
theorem hw_362 : (Jvm.Cond.code ({ cls := "HistoryJudge$Judge", name := "answersSo", desc := "(LHistoryJudge$Program;LHistoryJudge$Machine;II)Z" } : Jvm.MethodName) prog_3_method_4_code (5 : Nat) (Option.some Jvm.ClassFile.FieldType.boolean)) ∈ lg := List.mem_append_left _ (List.mem_append_left _ (List.mem_append_right _ (List.mem_of_getElem? (i := 2) rfl)))
theorem hw_363 : (Jvm.Cond.methodLink "HistoryJudge$Judge" (23 : Nat) ({ cls := "HistoryJudge$Judge", name := "answersSo", desc := "(LHistoryJudge$Program;LHistoryJudge$Machine;II)Z" } : Jvm.MethodName)) ∈ lg := List.mem_append_left _ (List.mem_append_left _ (List.mem_append_right _ (List.mem_of_getElem? (i := 3) rfl)))
theorem hw_364 : (Jvm.Cond.static ({ cls := "HistoryJudge$Judge", name := "answersSo", desc := "(LHistoryJudge$Program;LHistoryJudge$Machine;II)Z" } : Jvm.MethodName)) ∈ lg := List.mem_append_left _ (List.mem_append_left _ (List.mem_append_right _ (List.mem_of_getElem? (i := 4) rfl)))
theorem hw_365 : (Jvm.Cond.initialized "HistoryJudge$Judge") ∈ lg := List.mem_append_left _ (List.mem_append_left _ (List.mem_append_right _ (List.mem_of_getElem? (i := 5) rfl)))
theorem hw_366 : (Jvm.Cond.methodLink "HistoryJudge$Judge" (62 : Nat) ({ cls := "HistoryJudge$Model", name := "after", desc := "(IIII)I" } : Jvm.MethodName)) ∈ lg := List.mem_append_left _ (List.mem_append_left _ (List.mem_append_right _ (List.mem_of_getElem? (i := 6) rfl)))
theorem hw_367 : (Jvm.Cond.code ({ cls := "HistoryJudge$Judge", name := "after", desc := "(LHistoryJudge$Program;LHistoryJudge$Machine;II)I" } : Jvm.MethodName) prog_3_method_5_code (4 : Nat) (Option.some Jvm.ClassFile.FieldType.int)) ∈ lg := List.mem_append_left _ (List.mem_append_left _ (List.mem_append_right _ (List.mem_of_getElem? (i := 7) rfl)))
theorem hw_368 : (Jvm.Cond.methodLink "HistoryJudge$Judge" (27 : Nat) ({ cls := "HistoryJudge$Judge", name := "after", desc := "(LHistoryJudge$Program;LHistoryJudge$Machine;II)I" } : Jvm.MethodName)) ∈ lg := List.mem_append_left _ (List.mem_append_left _ (List.mem_append_right _ (List.mem_of_getElem? (i := 8) rfl)))
theorem hw_369 : (Jvm.Cond.static ({ cls := "HistoryJudge$Judge", name := "after", desc := "(LHistoryJudge$Program;LHistoryJudge$Machine;II)I" } : Jvm.MethodName)) ∈ lg := List.mem_append_left _ (List.mem_append_left _ (List.mem_append_right _ (List.mem_of_getElem? (i := 9) rfl)))
theorem hw_370 : (Jvm.Cond.code ({ cls := "HistoryJudge$Judge", name := "search", desc := "(LHistoryJudge$Program;LHistoryJudge$Machine;IIII)Z" } : Jvm.MethodName) prog_3_method_3_code (12 : Nat) (Option.some Jvm.ClassFile.FieldType.boolean)) ∈ lg := List.mem_append_left _ (List.mem_append_left _ (List.mem_append_right _ (List.mem_of_getElem? (i := 10) rfl)))
theorem hw_371 : (Jvm.Cond.methodLink "HistoryJudge$Judge" (34 : Nat) ({ cls := "HistoryJudge$Judge", name := "search", desc := "(LHistoryJudge$Program;LHistoryJudge$Machine;IIII)Z" } : Jvm.MethodName)) ∈ lg := List.mem_append_left _ (List.mem_append_left _ (List.mem_append_right _ (List.mem_of_getElem? (i := 11) rfl)))
theorem hw_372 : (Jvm.Cond.instanceMethod ({ cls := "HistoryJudge$Judge", name := "search", desc := "(LHistoryJudge$Program;LHistoryJudge$Machine;IIII)Z" } : Jvm.MethodName)) ∈ lg := List.mem_append_left _ (List.mem_append_left _ (List.mem_append_right _ (List.mem_of_getElem? (i := 12) rfl)))
theorem hw_373 : (Jvm.Cond.selects "HistoryJudge$Judge" ({ cls := "HistoryJudge$Judge", name := "search", desc := "(LHistoryJudge$Program;LHistoryJudge$Machine;IIII)Z" } : Jvm.MethodName) ({ cls := "HistoryJudge$Judge", name := "search", desc := "(LHistoryJudge$Program;LHistoryJudge$Machine;IIII)Z" } : Jvm.MethodName)) ∈ lg := List.mem_append_left _ (List.mem_append_left _ (List.mem_append_right _ (List.mem_of_getElem? (i := 13) rfl)))
theorem hw_374 : (Jvm.Cond.fieldLink "HistoryJudge$Judge" (38 : Nat) "HistoryJudge$Machine" "returns" "[I") ∈ lg := List.mem_append_left _ (List.mem_append_left _ (List.mem_append_right _ (List.mem_of_getElem? (i := 14) rfl)))
theorem hw_375 : (Jvm.Cond.fieldLink "HistoryJudge$Judge" (43 : Nat) "HistoryJudge$Machine" "calls" "[I") ∈ lg := List.mem_append_left _ (List.mem_append_left _ (List.mem_append_right _ (List.mem_of_getElem? (i := 15) rfl)))
theorem hw_376 : (Jvm.Cond.code ({ cls := "HistoryJudge$Judge", name := "explains", desc := "(LHistoryJudge$Program;LHistoryJudge$Machine;)Z" } : Jvm.MethodName) prog_3_method_2_code (6 : Nat) (Option.some Jvm.ClassFile.FieldType.boolean)) ∈ lg := List.mem_append_left _ (List.mem_append_left _ (List.mem_append_right _ (List.mem_of_getElem? (i := 16) rfl)))
theorem hw_377 : (Jvm.Cond.methodLink "HistoryJudge$Tester" (57 : Nat) ({ cls := "HistoryJudge$Judge", name := "explains", desc := "(LHistoryJudge$Program;LHistoryJudge$Machine;)Z" } : Jvm.MethodName)) ∈ lg := List.mem_append_left _ (List.mem_append_left _ (List.mem_append_right _ (List.mem_of_getElem? (i := 17) rfl)))
theorem hw_378 : (Jvm.Cond.instanceMethod ({ cls := "HistoryJudge$Judge", name := "explains", desc := "(LHistoryJudge$Program;LHistoryJudge$Machine;)Z" } : Jvm.MethodName)) ∈ lg := List.mem_append_left _ (List.mem_append_left _ (List.mem_append_right _ (List.mem_of_getElem? (i := 18) rfl)))
theorem hw_379 : (Jvm.Cond.selects "HistoryJudge$Judge" ({ cls := "HistoryJudge$Judge", name := "explains", desc := "(LHistoryJudge$Program;LHistoryJudge$Machine;)Z" } : Jvm.MethodName) ({ cls := "HistoryJudge$Judge", name := "explains", desc := "(LHistoryJudge$Program;LHistoryJudge$Machine;)Z" } : Jvm.MethodName)) ∈ lg := List.mem_append_left _ (List.mem_append_left _ (List.mem_append_right _ (List.mem_of_getElem? (i := 19) rfl)))
theorem hw_380 : (Jvm.Cond.fieldLink "HistoryJudge$Tester" (42 : Nat) "HistoryJudge$Tester" "explained" "Z") ∈ lg := List.mem_append_left _ (List.mem_append_left _ (List.mem_append_right _ (List.mem_of_getElem? (i := 20) rfl)))
theorem hw_381 : (Jvm.Cond.fieldLink "HistoryJudge$Tester" (33 : Nat) "HistoryJudge$Tester" "runs" "I") ∈ lg := List.mem_append_left _ (List.mem_append_left _ (List.mem_append_right _ (List.mem_of_getElem? (i := 21) rfl)))
theorem hw_382 : (Jvm.Cond.methodLink "HistoryJudge$Tester" (61 : Nat) ({ cls := "HistoryJudge$Program", name := "size", desc := "()I" } : Jvm.MethodName)) ∈ lg := List.mem_append_left _ (List.mem_append_left _ (List.mem_append_right _ (List.mem_of_getElem? (i := 22) rfl)))
theorem hw_383 : (Jvm.Cond.fieldLink "HistoryJudge$Tester" (25 : Nat) "HistoryJudge$Tester" "tallies" "[I") ∈ lg := List.mem_append_left _ (List.mem_append_left _ (List.mem_append_right _ (List.mem_of_getElem? (i := 23) rfl)))
theorem hw_384 : (Jvm.Cond.fieldLink "HistoryJudge$Tester" (67 : Nat) "HistoryJudge$Program" "kinds" "[I") ∈ lg := List.mem_append_left _ (List.mem_append_left _ (List.mem_append_right _ (List.mem_of_getElem? (i := 24) rfl)))
theorem hw_385 : (Jvm.Cond.fieldLink "HistoryJudge$Tester" (36 : Nat) "HistoryJudge$Tester" "unexplained" "I") ∈ lg := List.mem_append_left _ (List.mem_append_left _ (List.mem_append_right _ (List.mem_of_getElem? (i := 25) rfl)))
theorem hw_386 : (Jvm.Cond.fieldLink "HistoryJudge$Tester" (49 : Nat) "HistoryJudge$Tester" "draws" "LHistoryJudge$Draws;") ∈ lg := List.mem_append_left _ (List.mem_append_left _ (List.mem_append_right _ (List.mem_of_getElem? (i := 26) rfl)))
theorem hw_387 : (Jvm.Cond.code ({ cls := "HistoryJudge$Draws", name := "restart", desc := "(J)V" } : Jvm.MethodName) prog_2_method_2_code (3 : Nat) (Option.none : Option Jvm.ClassFile.FieldType)) ∈ lg := List.mem_append_left _ (List.mem_append_left _ (List.mem_append_right _ (List.mem_of_getElem? (i := 27) rfl)))
theorem hw_388 : (Jvm.Cond.methodLink "HistoryJudge$Tester" (70 : Nat) ({ cls := "HistoryJudge$Draws", name := "restart", desc := "(J)V" } : Jvm.MethodName)) ∈ lg := List.mem_append_left _ (List.mem_append_left _ (List.mem_append_right _ (List.mem_of_getElem? (i := 28) rfl)))
theorem hw_389 : (Jvm.Cond.instanceMethod ({ cls := "HistoryJudge$Draws", name := "restart", desc := "(J)V" } : Jvm.MethodName)) ∈ lg := List.mem_append_left _ (List.mem_append_left _ (List.mem_append_right _ (List.mem_of_getElem? (i := 29) rfl)))
theorem hw_390 : (Jvm.Cond.selects "HistoryJudge$Draws" ({ cls := "HistoryJudge$Draws", name := "restart", desc := "(J)V" } : Jvm.MethodName) ({ cls := "HistoryJudge$Draws", name := "restart", desc := "(J)V" } : Jvm.MethodName)) ∈ lg := List.mem_append_left _ (List.mem_append_left _ (List.mem_append_right _ (List.mem_of_getElem? (i := 30) rfl)))
theorem hw_391 : (Jvm.Cond.constant "HistoryJudge$Tester" (74 : Nat) (2147483647 : Int32)) ∈ lg := List.mem_append_left _ (List.mem_append_left _ (List.mem_append_right _ (List.mem_of_getElem? (i := 31) rfl)))
theorem hw_392 : (Jvm.Cond.methodLink "HistoryJudge$Tester" (75 : Nat) ({ cls := "HistoryJudge$Draws", name := "below", desc := "(I)I" } : Jvm.MethodName)) ∈ lg := List.mem_append_left _ (List.mem_append_left _ (List.mem_append_right _ (List.mem_of_getElem? (i := 32) rfl)))
theorem hw_393 : (Jvm.Cond.code ({ cls := "HistoryJudge$Tester", name := "test", desc := "(LHistoryJudge$Program;I)Z" } : Jvm.MethodName) prog_7_method_2_code (5 : Nat) (Option.some Jvm.ClassFile.FieldType.boolean)) ∈ lg := List.mem_append_left _ (List.mem_append_left _ (List.mem_append_right _ (List.mem_of_getElem? (i := 33) rfl)))
theorem hw_394 : (Jvm.Cond.methodLink "HistoryJudge$Tester" (79 : Nat) ({ cls := "HistoryJudge$Tester", name := "test", desc := "(LHistoryJudge$Program;I)Z" } : Jvm.MethodName)) ∈ lg := List.mem_append_left _ (List.mem_append_left _ (List.mem_append_right _ (List.mem_of_getElem? (i := 34) rfl)))
theorem hw_395 : (Jvm.Cond.instanceMethod ({ cls := "HistoryJudge$Tester", name := "test", desc := "(LHistoryJudge$Program;I)Z" } : Jvm.MethodName)) ∈ lg := List.mem_append_left _ (List.mem_append_left _ (List.mem_append_right _ (List.mem_of_getElem? (i := 35) rfl)))
theorem hw_396 : (Jvm.Cond.selects "HistoryJudge$Tester" ({ cls := "HistoryJudge$Tester", name := "test", desc := "(LHistoryJudge$Program;I)Z" } : Jvm.MethodName) ({ cls := "HistoryJudge$Tester", name := "test", desc := "(LHistoryJudge$Program;I)Z" } : Jvm.MethodName)) ∈ lg := List.mem_append_left _ (List.mem_append_left _ (List.mem_append_right _ (List.mem_of_getElem? (i := 36) rfl)))
theorem hw_397 : (Jvm.Cond.initialized "HistoryJudge$Tester") ∈ lg := List.mem_append_left _ (List.mem_append_left _ (List.mem_append_right _ (List.mem_of_getElem? (i := 37) rfl)))
theorem hw_398 : (Jvm.Cond.methodLink "HistoryJudge" (3 : Nat) ({ cls := "java/lang/Object", name := "<init>", desc := "()V" } : Jvm.MethodName)) ∈ lg := List.mem_append_left _ (List.mem_append_left _ (List.mem_append_right _ (List.mem_of_getElem? (i := 38) rfl)))
theorem hw_399 : (Jvm.Cond.instanceMethod ({ cls := "java/lang/Object", name := "<init>", desc := "()V" } : Jvm.MethodName)) ∈ lg := List.mem_append_left _ (List.mem_append_left _ (List.mem_append_right _ (List.mem_of_getElem? (i := 39) rfl)))
theorem hw_400 : (Jvm.Cond.code ({ cls := "java/lang/Object", name := "<init>", desc := "()V" } : Jvm.MethodName) object_method_1_code (1 : Nat) (Option.none : Option Jvm.ClassFile.FieldType)) ∈ lg := List.mem_append_left _ (List.mem_append_left _ (List.mem_append_right _ (List.mem_of_getElem? (i := 40) rfl)))
theorem hw_401 : (Jvm.Cond.classLink "HistoryJudge" (9 : Nat) "HistoryJudge$Program") ∈ lg := List.mem_append_left _ (List.mem_append_left _ (List.mem_append_right _ (List.mem_of_getElem? (i := 41) rfl)))
theorem hw_402 : (Jvm.Cond.instantiable "HistoryJudge$Program" (4 : Nat)) ∈ lg := List.mem_append_left _ (List.mem_append_left _ (List.mem_append_right _ (List.mem_of_getElem? (i := 42) rfl)))
theorem hw_403 : (Jvm.Cond.methodLink "HistoryJudge$Program" (3 : Nat) ({ cls := "java/lang/Object", name := "<init>", desc := "()V" } : Jvm.MethodName)) ∈ lg := List.mem_append_left _ (List.mem_append_left _ (List.mem_append_right _ (List.mem_of_getElem? (i := 43) rfl)))
theorem hw_404 : (Jvm.Cond.arrayClass Jvm.ClassFile.FieldType.int) ∈ lg := List.mem_append_left _ (List.mem_append_left _ (List.mem_append_right _ (List.mem_of_getElem? (i := 44) rfl)))
theorem hw_405 : (Jvm.Cond.instanceMethod ({ cls := "HistoryJudge$Program", name := "<init>", desc := "()V" } : Jvm.MethodName)) ∈ lg := List.mem_append_left _ (List.mem_append_left _ (List.mem_append_right _ (List.mem_of_getElem? (i := 45) rfl)))
theorem hw_406 : (Jvm.Cond.code ({ cls := "HistoryJudge$Program", name := "<init>", desc := "()V" } : Jvm.MethodName) prog_6_method_1_code (1 : Nat) (Option.none : Option Jvm.ClassFile.FieldType)) ∈ lg := List.mem_append_left _ (List.mem_append_left _ (List.mem_append_right _ (List.mem_of_getElem? (i := 46) rfl)))
theorem hw_407 : (Jvm.Cond.classLink "HistoryJudge" (19 : Nat) "HistoryJudge$Tester") ∈ lg := List.mem_append_left _ (List.mem_append_left _ (List.mem_append_right _ (List.mem_of_getElem? (i := 47) rfl)))
theorem hw_408 : (Jvm.Cond.instantiable "HistoryJudge$Tester" (9 : Nat)) ∈ lg := List.mem_append_left _ (List.mem_append_left _ (List.mem_append_right _ (List.mem_of_getElem? (i := 48) rfl)))
theorem hw_409 : (Jvm.Cond.methodLink "HistoryJudge$Tester" (3 : Nat) ({ cls := "java/lang/Object", name := "<init>", desc := "()V" } : Jvm.MethodName)) ∈ lg := List.mem_append_left _ (List.mem_append_left _ (List.mem_append_right _ (List.mem_of_getElem? (i := 49) rfl)))
theorem hw_410 : (Jvm.Cond.classLink "HistoryJudge$Tester" (9 : Nat) "HistoryJudge$Machine") ∈ lg := List.mem_append_left _ (List.mem_append_left _ (List.mem_append_right _ (List.mem_of_getElem? (i := 50) rfl)))
theorem hw_411 : (Jvm.Cond.instantiable "HistoryJudge$Machine" (9 : Nat)) ∈ lg := List.mem_append_left _ (List.mem_append_left _ (List.mem_append_right _ (List.mem_of_getElem? (i := 51) rfl)))
theorem hw_412 : (Jvm.Cond.methodLink "HistoryJudge$Machine" (3 : Nat) ({ cls := "java/lang/Object", name := "<init>", desc := "()V" } : Jvm.MethodName)) ∈ lg := List.mem_append_left _ (List.mem_append_left _ (List.mem_append_right _ (List.mem_of_getElem? (i := 52) rfl)))
theorem hw_413 : (Jvm.Cond.instanceMethod ({ cls := "HistoryJudge$Machine", name := "<init>", desc := "()V" } : Jvm.MethodName)) ∈ lg := List.mem_append_left _ (List.mem_append_left _ (List.mem_append_right _ (List.mem_of_getElem? (i := 53) rfl)))
theorem hw_414 : (Jvm.Cond.code ({ cls := "HistoryJudge$Machine", name := "<init>", desc := "()V" } : Jvm.MethodName) prog_4_method_1_code (1 : Nat) (Option.none : Option Jvm.ClassFile.FieldType)) ∈ lg := List.mem_append_left _ (List.mem_append_left _ (List.mem_append_right _ (List.mem_of_getElem? (i := 54) rfl)))
theorem hw_415 : (Jvm.Cond.classLink "HistoryJudge$Tester" (18 : Nat) "HistoryJudge$Judge") ∈ lg := List.mem_append_left _ (List.mem_append_left _ (List.mem_append_right _ (List.mem_of_getElem? (i := 55) rfl)))
theorem hw_416 : (Jvm.Cond.instantiable "HistoryJudge$Judge" (1 : Nat)) ∈ lg := List.mem_append_left _ (List.mem_append_left _ (List.mem_append_right _ (List.mem_of_getElem? (i := 56) rfl)))
theorem hw_417 : (Jvm.Cond.methodLink "HistoryJudge$Judge" (3 : Nat) ({ cls := "java/lang/Object", name := "<init>", desc := "()V" } : Jvm.MethodName)) ∈ lg := List.mem_append_left _ (List.mem_append_left _ (List.mem_append_right _ (List.mem_of_getElem? (i := 57) rfl)))
theorem hw_418 : (Jvm.Cond.instanceMethod ({ cls := "HistoryJudge$Judge", name := "<init>", desc := "()V" } : Jvm.MethodName)) ∈ lg := List.mem_append_left _ (List.mem_append_left _ (List.mem_append_right _ (List.mem_of_getElem? (i := 58) rfl)))
theorem hw_419 : (Jvm.Cond.code ({ cls := "HistoryJudge$Judge", name := "<init>", desc := "()V" } : Jvm.MethodName) prog_3_method_1_code (1 : Nat) (Option.none : Option Jvm.ClassFile.FieldType)) ∈ lg := List.mem_append_left _ (List.mem_append_left _ (List.mem_append_right _ (List.mem_of_getElem? (i := 59) rfl)))
theorem hw_420 : (Jvm.Cond.classLink "HistoryJudge$Tester" (46 : Nat) "HistoryJudge$Draws") ∈ lg := List.mem_append_left _ (List.mem_append_right _ (List.mem_of_getElem? (i := 0) rfl))
theorem hw_421 : (Jvm.Cond.instantiable "HistoryJudge$Draws" (1 : Nat)) ∈ lg := List.mem_append_left _ (List.mem_append_right _ (List.mem_of_getElem? (i := 1) rfl))
theorem hw_422 : (Jvm.Cond.methodLink "HistoryJudge$Draws" (1 : Nat) ({ cls := "java/lang/Object", name := "<init>", desc := "()V" } : Jvm.MethodName)) ∈ lg := List.mem_append_left _ (List.mem_append_right _ (List.mem_of_getElem? (i := 2) rfl))
theorem hw_423 : (Jvm.Cond.instanceMethod ({ cls := "HistoryJudge$Draws", name := "<init>", desc := "()V" } : Jvm.MethodName)) ∈ lg := List.mem_append_left _ (List.mem_append_right _ (List.mem_of_getElem? (i := 3) rfl))
theorem hw_424 : (Jvm.Cond.code ({ cls := "HistoryJudge$Draws", name := "<init>", desc := "()V" } : Jvm.MethodName) prog_2_method_1_code (1 : Nat) (Option.none : Option Jvm.ClassFile.FieldType)) ∈ lg := List.mem_append_left _ (List.mem_append_right _ (List.mem_of_getElem? (i := 4) rfl))
theorem hw_425 : (Jvm.Cond.instanceMethod ({ cls := "HistoryJudge$Tester", name := "<init>", desc := "()V" } : Jvm.MethodName)) ∈ lg := List.mem_append_left _ (List.mem_append_right _ (List.mem_of_getElem? (i := 5) rfl))
theorem hw_426 : (Jvm.Cond.code ({ cls := "HistoryJudge$Tester", name := "<init>", desc := "()V" } : Jvm.MethodName) prog_7_method_1_code (1 : Nat) (Option.none : Option Jvm.ClassFile.FieldType)) ∈ lg := List.mem_append_left _ (List.mem_append_right _ (List.mem_of_getElem? (i := 6) rfl))
theorem hw_427 : (Jvm.Cond.fieldLink "HistoryJudge" (22 : Nat) "HistoryJudge" "tester" "LHistoryJudge$Tester;") ∈ lg := List.mem_append_left _ (List.mem_append_right _ (List.mem_of_getElem? (i := 7) rfl))
theorem hw_428 : (Jvm.Cond.classLink "HistoryJudge" (26 : Nat) "HistoryJudge$Draws") ∈ lg := List.mem_append_left _ (List.mem_append_right _ (List.mem_of_getElem? (i := 8) rfl))
theorem hw_429 : (Jvm.Cond.fieldLink "HistoryJudge" (33 : Nat) "HistoryJudge" "taken" "I") ∈ lg := List.mem_append_left _ (List.mem_append_right _ (List.mem_of_getElem? (i := 9) rfl))
theorem hw_430 : (Jvm.Cond.methodLink "HistoryJudgeModel" (1 : Nat) ({ cls := "java/lang/Object", name := "<init>", desc := "()V" } : Jvm.MethodName)) ∈ lg := List.mem_append_left _ (List.mem_append_right _ (List.mem_of_getElem? (i := 10) rfl))
theorem hw_431 : (Jvm.Cond.arrayClass Jvm.ClassFile.FieldType.boolean) ∈ lg := List.mem_append_left _ (List.mem_append_right _ (List.mem_of_getElem? (i := 11) rfl))
theorem hw_432 : (Jvm.Cond.laysFinal "HistoryJudge" "HistoryJudge" "program" "LHistoryJudge$Program;") ∈ lg := List.mem_append_left _ (List.mem_append_right _ (List.mem_of_getElem? (i := 12) rfl))
theorem hw_433 : (Jvm.Cond.laysFinal "HistoryJudge" "HistoryJudge" "trial" "LHistoryJudge$Program;") ∈ lg := List.mem_append_left _ (List.mem_append_right _ (List.mem_of_getElem? (i := 13) rfl))
theorem hw_434 : (Jvm.Cond.laysFinal "HistoryJudge" "HistoryJudge" "tester" "LHistoryJudge$Tester;") ∈ lg := List.mem_append_left _ (List.mem_append_right _ (List.mem_of_getElem? (i := 14) rfl))
theorem hw_435 : (Jvm.Cond.laysFinal "HistoryJudge" "HistoryJudge" "draws" "LHistoryJudge$Draws;") ∈ lg := List.mem_append_left _ (List.mem_append_right _ (List.mem_of_getElem? (i := 15) rfl))
theorem hw_436 : (Jvm.Cond.lays "HistoryJudge" "HistoryJudge" "taken" "I") ∈ lg := List.mem_append_left _ (List.mem_append_right _ (List.mem_of_getElem? (i := 16) rfl))
theorem hw_437 : (Jvm.Cond.lays "HistoryJudge" "HistoryJudge" "runIsCurrent" "Z") ∈ lg := List.mem_append_left _ (List.mem_append_right _ (List.mem_of_getElem? (i := 17) rfl))
theorem hw_438 : (Jvm.Cond.laysFinal "HistoryJudge$Program" "HistoryJudge$Program" "sizes" "[I") ∈ lg := List.mem_append_left _ (List.mem_append_right _ (List.mem_of_getElem? (i := 18) rfl))
theorem hw_439 : (Jvm.Cond.laysFinal "HistoryJudge$Program" "HistoryJudge$Program" "kinds" "[I") ∈ lg := List.mem_append_left _ (List.mem_append_right _ (List.mem_of_getElem? (i := 19) rfl))
theorem hw_440 : (Jvm.Cond.laysFinal "HistoryJudge$Program" "HistoryJudge$Program" "cells" "[I") ∈ lg := List.mem_append_left _ (List.mem_append_right _ (List.mem_of_getElem? (i := 20) rfl))
theorem hw_441 : (Jvm.Cond.laysFinal "HistoryJudge$Program" "HistoryJudge$Program" "arguments" "[I") ∈ lg := List.mem_append_left _ (List.mem_append_right _ (List.mem_of_getElem? (i := 21) rfl))
theorem hw_442 : (Jvm.Cond.laysFinal "HistoryJudge$Tester" "HistoryJudge$Tester" "machine" "LHistoryJudge$Machine;") ∈ lg := List.mem_append_left _ (List.mem_append_right _ (List.mem_of_getElem? (i := 22) rfl))
theorem hw_443 : (Jvm.Cond.laysFinal "HistoryJudge$Tester" "HistoryJudge$Tester" "judge" "LHistoryJudge$Judge;") ∈ lg := List.mem_append_left _ (List.mem_append_right _ (List.mem_of_getElem? (i := 23) rfl))
theorem hw_444 : (Jvm.Cond.laysFinal "HistoryJudge$Tester" "HistoryJudge$Tester" "tallies" "[I") ∈ lg := List.mem_append_left _ (List.mem_append_right _ (List.mem_of_getElem? (i := 24) rfl))
theorem hw_445 : (Jvm.Cond.lays "HistoryJudge$Tester" "HistoryJudge$Tester" "flawBits" "I") ∈ lg := List.mem_append_left _ (List.mem_append_right _ (List.mem_of_getElem? (i := 25) rfl))
theorem hw_446 : (Jvm.Cond.lays "HistoryJudge$Tester" "HistoryJudge$Tester" "runs" "I") ∈ lg := List.mem_append_left _ (List.mem_append_right _ (List.mem_of_getElem? (i := 26) rfl))
theorem hw_447 : (Jvm.Cond.lays "HistoryJudge$Tester" "HistoryJudge$Tester" "unexplained" "I") ∈ lg := List.mem_append_left _ (List.mem_append_right _ (List.mem_of_getElem? (i := 27) rfl))
theorem hw_448 : (Jvm.Cond.lays "HistoryJudge$Tester" "HistoryJudge$Tester" "schedule" "I") ∈ lg := List.mem_append_left _ (List.mem_append_right _ (List.mem_of_getElem? (i := 28) rfl))
theorem hw_449 : (Jvm.Cond.lays "HistoryJudge$Tester" "HistoryJudge$Tester" "explained" "Z") ∈ lg := List.mem_append_left _ (List.mem_append_right _ (List.mem_of_getElem? (i := 29) rfl))
theorem hw_450 : (Jvm.Cond.laysFinal "HistoryJudge$Tester" "HistoryJudge$Tester" "draws" "LHistoryJudge$Draws;") ∈ lg := List.mem_append_left _ (List.mem_append_right _ (List.mem_of_getElem? (i := 30) rfl))
theorem hw_451 : (Jvm.Cond.laysFinal "HistoryJudge$Machine" "HistoryJudge$Machine" "answers" "[I") ∈ lg := List.mem_append_left _ (List.mem_append_right _ (List.mem_of_getElem? (i := 31) rfl))
theorem hw_452 : (Jvm.Cond.laysFinal "HistoryJudge$Machine" "HistoryJudge$Machine" "numbers" "[I") ∈ lg := List.mem_append_left _ (List.mem_append_right _ (List.mem_of_getElem? (i := 32) rfl))
theorem hw_453 : (Jvm.Cond.laysFinal "HistoryJudge$Machine" "HistoryJudge$Machine" "calls" "[I") ∈ lg := List.mem_append_left _ (List.mem_append_right _ (List.mem_of_getElem? (i := 33) rfl))
theorem hw_454 : (Jvm.Cond.laysFinal "HistoryJudge$Machine" "HistoryJudge$Machine" "returns" "[I") ∈ lg := List.mem_append_left _ (List.mem_append_right _ (List.mem_of_getElem? (i := 34) rfl))
theorem hw_455 : (Jvm.Cond.lays "HistoryJudge$Machine" "HistoryJudge$Machine" "cells" "I") ∈ lg := List.mem_append_left _ (List.mem_append_right _ (List.mem_of_getElem? (i := 35) rfl))
theorem hw_456 : (Jvm.Cond.laysFinal "HistoryJudge$Machine" "HistoryJudge$Machine" "nextCommand" "[I") ∈ lg := List.mem_append_left _ (List.mem_append_right _ (List.mem_of_getElem? (i := 36) rfl))
theorem hw_457 : (Jvm.Cond.laysFinal "HistoryJudge$Machine" "HistoryJudge$Machine" "nextEvent" "[I") ∈ lg := List.mem_append_left _ (List.mem_append_right _ (List.mem_of_getElem? (i := 37) rfl))
theorem hw_458 : (Jvm.Cond.laysFinal "HistoryJudge$Machine" "HistoryJudge$Machine" "noted" "[I") ∈ lg := List.mem_append_left _ (List.mem_append_right _ (List.mem_of_getElem? (i := 38) rfl))
theorem hw_459 : (Jvm.Cond.lays "HistoryJudge$Machine" "HistoryJudge$Machine" "flawBits" "I") ∈ lg := List.mem_append_left _ (List.mem_append_right _ (List.mem_of_getElem? (i := 39) rfl))
theorem hw_460 : (Jvm.Cond.laysFinal "HistoryJudge$Judge" "HistoryJudge$Judge" "witness" "[I") ∈ lg := List.mem_append_left _ (List.mem_append_right _ (List.mem_of_getElem? (i := 40) rfl))
theorem hw_461 : (Jvm.Cond.lays "HistoryJudge$Draws" "HistoryJudge$Draws" "state" "J") ∈ lg := List.mem_append_left _ (List.mem_append_right _ (List.mem_of_getElem? (i := 41) rfl))
theorem hw_462 : (Jvm.Cond.lays "HistoryJudgeModel" "HistoryJudgeModel" "thrown" "I") ∈ lg := List.mem_append_left _ (List.mem_append_right _ (List.mem_of_getElem? (i := 42) rfl))
theorem hw_463 : (Jvm.Cond.laysFinal "HistoryJudgeModel" "HistoryJudgeModel" "sizes" "[I") ∈ lg := List.mem_append_left _ (List.mem_append_right _ (List.mem_of_getElem? (i := 43) rfl))
theorem hw_464 : (Jvm.Cond.laysFinal "HistoryJudgeModel" "HistoryJudgeModel" "kind" "[I") ∈ lg := List.mem_append_left _ (List.mem_append_right _ (List.mem_of_getElem? (i := 44) rfl))
theorem hw_465 : (Jvm.Cond.laysFinal "HistoryJudgeModel" "HistoryJudgeModel" "cell" "[I") ∈ lg := List.mem_append_left _ (List.mem_append_right _ (List.mem_of_getElem? (i := 45) rfl))
theorem hw_466 : (Jvm.Cond.laysFinal "HistoryJudgeModel" "HistoryJudgeModel" "argument" "[I") ∈ lg := List.mem_append_left _ (List.mem_append_right _ (List.mem_of_getElem? (i := 46) rfl))
theorem hw_467 : (Jvm.Cond.laysFinal "HistoryJudgeModel" "HistoryJudgeModel" "keptSizes" "[I") ∈ lg := List.mem_append_left _ (List.mem_append_right _ (List.mem_of_getElem? (i := 47) rfl))
theorem hw_468 : (Jvm.Cond.laysFinal "HistoryJudgeModel" "HistoryJudgeModel" "kept" "[I") ∈ lg := List.mem_append_left _ (List.mem_append_right _ (List.mem_of_getElem? (i := 48) rfl))
theorem hw_469 : (Jvm.Cond.lays "HistoryJudgeModel" "HistoryJudgeModel" "flaws" "I") ∈ lg := List.mem_append_left _ (List.mem_append_right _ (List.mem_of_getElem? (i := 49) rfl))
theorem hw_470 : (Jvm.Cond.lays "HistoryJudgeModel" "HistoryJudgeModel" "g" "J") ∈ lg := List.mem_append_left _ (List.mem_append_right _ (List.mem_of_getElem? (i := 50) rfl))
theorem hw_471 : (Jvm.Cond.laysFinal "HistoryJudgeModel" "HistoryJudgeModel" "holds" "[I") ∈ lg := List.mem_append_left _ (List.mem_append_right _ (List.mem_of_getElem? (i := 51) rfl))
theorem hw_472 : (Jvm.Cond.laysFinal "HistoryJudgeModel" "HistoryJudgeModel" "open" "[Z") ∈ lg := List.mem_append_left _ (List.mem_append_right _ (List.mem_of_getElem? (i := 52) rfl))
theorem hw_473 : (Jvm.Cond.laysFinal "HistoryJudgeModel" "HistoryJudgeModel" "has" "[I") ∈ lg := List.mem_append_left _ (List.mem_append_right _ (List.mem_of_getElem? (i := 53) rfl))
theorem hw_474 : (Jvm.Cond.laysFinal "HistoryJudgeModel" "HistoryJudgeModel" "isOpen" "[Z") ∈ lg := List.mem_append_left _ (List.mem_append_right _ (List.mem_of_getElem? (i := 54) rfl))
theorem hw_475 : (Jvm.Cond.lays "HistoryJudgeModel" "HistoryJudgeModel" "ran" "Z") ∈ lg := List.mem_append_left _ (List.mem_append_right _ (List.mem_of_getElem? (i := 55) rfl))
theorem hw_476 : (Jvm.Cond.lays "HistoryJudgeModel" "HistoryJudgeModel" "explained" "Z") ∈ lg := List.mem_append_left _ (List.mem_append_right _ (List.mem_of_getElem? (i := 56) rfl))
theorem hw_477 : (Jvm.Cond.laysFinal "HistoryJudgeModel" "HistoryJudgeModel" "answer" "[I") ∈ lg := List.mem_append_left _ (List.mem_append_right _ (List.mem_of_getElem? (i := 57) rfl))
theorem hw_478 : (Jvm.Cond.laysFinal "HistoryJudgeModel" "HistoryJudgeModel" "number" "[I") ∈ lg := List.mem_append_left _ (List.mem_append_right _ (List.mem_of_getElem? (i := 58) rfl))
theorem hw_479 : (Jvm.Cond.laysFinal "HistoryJudgeModel" "HistoryJudgeModel" "call" "[I") ∈ lg := List.mem_append_left _ (List.mem_append_right _ (List.mem_of_getElem? (i := 59) rfl))
theorem hw_480 : (Jvm.Cond.laysFinal "HistoryJudgeModel" "HistoryJudgeModel" "back" "[I") ∈ lg := List.mem_append_right _ (List.mem_of_getElem? (i := 0) rfl)
theorem hw_481 : (Jvm.Cond.laysFinal "HistoryJudgeModel" "HistoryJudgeModel" "noted" "[I") ∈ lg := List.mem_append_right _ (List.mem_of_getElem? (i := 1) rfl)
theorem hw_482 : (Jvm.Cond.laysFinal "HistoryJudgeModel" "HistoryJudgeModel" "at" "[I") ∈ lg := List.mem_append_right _ (List.mem_of_getElem? (i := 2) rfl)
theorem hw_483 : (Jvm.Cond.laysFinal "HistoryJudgeModel" "HistoryJudgeModel" "event" "[I") ∈ lg := List.mem_append_right _ (List.mem_of_getElem? (i := 3) rfl)
theorem hw_484 : (Jvm.Cond.lays "HistoryJudgeModel" "HistoryJudgeModel" "witness" "I") ∈ lg := List.mem_append_right _ (List.mem_of_getElem? (i := 4) rfl)
theorem hw_485 : (Jvm.Cond.lays "HistoryJudgeModel" "HistoryJudgeModel" "runs" "I") ∈ lg := List.mem_append_right _ (List.mem_of_getElem? (i := 5) rfl)
theorem hw_486 : (Jvm.Cond.lays "HistoryJudgeModel" "HistoryJudgeModel" "wrong" "I") ∈ lg := List.mem_append_right _ (List.mem_of_getElem? (i := 6) rfl)
theorem hw_487 : (Jvm.Cond.lays "HistoryJudgeModel" "HistoryJudgeModel" "taken" "I") ∈ lg := List.mem_append_right _ (List.mem_of_getElem? (i := 7) rfl)
theorem hw_488 : (Jvm.Cond.lays "HistoryJudgeModel" "HistoryJudgeModel" "failing" "I") ∈ lg := List.mem_append_right _ (List.mem_of_getElem? (i := 8) rfl)
theorem hw_489 : (Jvm.Cond.laysFinal "HistoryJudgeModel" "HistoryJudgeModel" "tallies" "[I") ∈ lg := List.mem_append_right _ (List.mem_of_getElem? (i := 9) rfl)
theorem lg_all : lg.all goodWord = true := by decide +kernel
theorem lg_good (w : Jvm.Cond) (h : w ∈ lg) : (w.onTables && w.keeps) = true ∨ ∃ ty, w = .arrayClass ty := by
  have h1 := List.all_eq_true.mp lg_all w h
  unfold goodWord at h1
  split at h1
  · exact Or.inr ⟨_, rfl⟩
  · exact Or.inl h1
theorem ev_good1 {w : Jvm.Cond} (h : w ∈ lg) : w ∈ lg ∧ ((w.onTables && w.keeps) = true ∨ ∃ ty, w = .arrayClass ty) := ⟨h, lg_good w h⟩
theorem ev_goodI {cw : Jvm.Cond} (h : cw ∈ lg) : GoodIn lg (cw :: lg) := by
  intro w hw
  rcases List.mem_cons.mp hw with rfl | hw
  · exact ev_good1 h
  · exact ev_good1 hw
theorem ev_goodV {cw : Jvm.Cond} {own : String} {idx : Nat} {C : String} {y : MethodName} (h1 : Jvm.Cond.methodLink own idx y ∈ lg) (h2 : Jvm.Cond.instanceMethod y ∈ lg) (h3 : Jvm.Cond.selects C y y ∈ lg) (h4 : Jvm.Cond.initialized C ∈ lg) (h5 : cw ∈ lg) : GoodIn lg (wsV own idx C y (cw :: lg)) := by
  intro w hw
  unfold wsV at hw
  rcases List.mem_append.mp hw with hw | hw
  · simp only [List.mem_cons, List.not_mem_nil, or_false] at hw
    rcases hw with rfl | rfl | rfl | rfl
    · exact ev_good1 h1
    · exact ev_good1 h2
    · exact ev_good1 h3
    · exact ev_good1 h4
  · exact ev_goodI h5 w hw
theorem ev_goodS {cw : Jvm.Cond} {own : String} {idx : Nat} {y : MethodName} (h1 : Jvm.Cond.methodLink own idx y ∈ lg) (h2 : Jvm.Cond.static y ∈ lg) (h4 : Jvm.Cond.initialized y.cls ∈ lg) (h5 : cw ∈ lg) : GoodIn lg (va_wsS own idx y (cw :: lg)) := by
  intro w hw
  unfold va_wsS at hw
  rcases List.mem_append.mp hw with hw | hw
  · simp only [List.mem_cons, List.not_mem_nil, or_false] at hw
    rcases hw with rfl | rfl | rfl
    · exact ev_good1 h1
    · exact ev_good1 h2
    · exact ev_good1 h4
  · exact ev_goodI h5 w hw
theorem hCw_H : ∀ w ∈ u_ws RX_H TX_H 6, w ∈ lg := List.forall_mem_cons.mpr ⟨hw_432, List.forall_mem_cons.mpr ⟨hw_433, List.forall_mem_cons.mpr ⟨hw_434, List.forall_mem_cons.mpr ⟨hw_435, List.forall_mem_cons.mpr ⟨hw_436, List.forall_mem_cons.mpr ⟨hw_437, fun _ h => nomatch h⟩⟩⟩⟩⟩⟩
theorem hC_H : ev_C gaX 0 RX_H TX_H 6 tyX_H := ⟨rfl, hCw_H, by decide +kernel, by decide +kernel⟩
theorem hCw_P : ∀ w ∈ u_ws RX_P TX_P 4, w ∈ lg := List.forall_mem_cons.mpr ⟨hw_438, List.forall_mem_cons.mpr ⟨hw_439, List.forall_mem_cons.mpr ⟨hw_440, List.forall_mem_cons.mpr ⟨hw_441, fun _ h => nomatch h⟩⟩⟩⟩
theorem hC_P : ev_C gaX 1 RX_P TX_P 4 tyX_P := ⟨rfl, hCw_P, by decide +kernel, by decide +kernel⟩
theorem hCw_T : ∀ w ∈ u_ws RX_T TX_T 9, w ∈ lg := List.forall_mem_cons.mpr ⟨hw_442, List.forall_mem_cons.mpr ⟨hw_443, List.forall_mem_cons.mpr ⟨hw_444, List.forall_mem_cons.mpr ⟨hw_445, List.forall_mem_cons.mpr ⟨hw_446, List.forall_mem_cons.mpr ⟨hw_447, List.forall_mem_cons.mpr ⟨hw_448, List.forall_mem_cons.mpr ⟨hw_449, List.forall_mem_cons.mpr ⟨hw_450, fun _ h => nomatch h⟩⟩⟩⟩⟩⟩⟩⟩⟩
theorem hC_T : ev_C gaX 2 RX_T TX_T 9 tyX_T := ⟨rfl, hCw_T, by decide +kernel, by decide +kernel⟩
theorem hCw_M : ∀ w ∈ u_ws RX_M TX_M 9, w ∈ lg := List.forall_mem_cons.mpr ⟨hw_451, List.forall_mem_cons.mpr ⟨hw_452, List.forall_mem_cons.mpr ⟨hw_453, List.forall_mem_cons.mpr ⟨hw_454, List.forall_mem_cons.mpr ⟨hw_455, List.forall_mem_cons.mpr ⟨hw_456, List.forall_mem_cons.mpr ⟨hw_457, List.forall_mem_cons.mpr ⟨hw_458, List.forall_mem_cons.mpr ⟨hw_459, fun _ h => nomatch h⟩⟩⟩⟩⟩⟩⟩⟩⟩
theorem hC_M : ev_C gaX 3 RX_M TX_M 9 tyX_M := ⟨rfl, hCw_M, by decide +kernel, by decide +kernel⟩
theorem hCw_J : ∀ w ∈ u_ws RX_J TX_J 1, w ∈ lg := List.forall_mem_cons.mpr ⟨hw_460, fun _ h => nomatch h⟩
theorem hC_J : ev_C gaX 4 RX_J TX_J 1 tyX_J := ⟨rfl, hCw_J, by decide +kernel, by decide +kernel⟩
theorem hCw_D : ∀ w ∈ u_ws RX_D TX_D 1, w ∈ lg := List.forall_mem_cons.mpr ⟨hw_461, fun _ h => nomatch h⟩
theorem hC_D : ev_C gaX 5 RX_D TX_D 1 tyX_D := ⟨rfl, hCw_D, by decide +kernel, by decide +kernel⟩
theorem hCw_R : ∀ w ∈ u_ws RX_R TX_R 28, w ∈ lg := List.forall_mem_cons.mpr ⟨hw_462, List.forall_mem_cons.mpr ⟨hw_463, List.forall_mem_cons.mpr ⟨hw_464, List.forall_mem_cons.mpr ⟨hw_465, List.forall_mem_cons.mpr ⟨hw_466, List.forall_mem_cons.mpr ⟨hw_467, List.forall_mem_cons.mpr ⟨hw_468, List.forall_mem_cons.mpr ⟨hw_469, List.forall_mem_cons.mpr ⟨hw_470, List.forall_mem_cons.mpr ⟨hw_471, List.forall_mem_cons.mpr ⟨hw_472, List.forall_mem_cons.mpr ⟨hw_473, List.forall_mem_cons.mpr ⟨hw_474, List.forall_mem_cons.mpr ⟨hw_475, List.forall_mem_cons.mpr ⟨hw_476, List.forall_mem_cons.mpr ⟨hw_477, List.forall_mem_cons.mpr ⟨hw_478, List.forall_mem_cons.mpr ⟨hw_479, List.forall_mem_cons.mpr ⟨hw_480, List.forall_mem_cons.mpr ⟨hw_481, List.forall_mem_cons.mpr ⟨hw_482, List.forall_mem_cons.mpr ⟨hw_483, List.forall_mem_cons.mpr ⟨hw_484, List.forall_mem_cons.mpr ⟨hw_485, List.forall_mem_cons.mpr ⟨hw_486, List.forall_mem_cons.mpr ⟨hw_487, List.forall_mem_cons.mpr ⟨hw_488, List.forall_mem_cons.mpr ⟨hw_489, fun _ h => nomatch h⟩⟩⟩⟩⟩⟩⟩⟩⟩⟩⟩⟩⟩⟩⟩⟩⟩⟩⟩⟩⟩⟩⟩⟩⟩⟩⟩⟩
theorem hC_R : ev_C gaX 6 RX_R TX_R 28 tyX_R := ⟨rfl, hCw_R, by decide +kernel, by decide +kernel⟩
theorem hy_P_size : y_P_size.cls = "HistoryJudge$Program" ∧ y_P_size.cls ≠ "java/lang/invoke/MethodHandle" ∧ y_P_size.cls ≠ "java/lang/invoke/VarHandle" ∧ (parseMethodDescriptor y_P_size.desc).map (fun d => d.parameters.length) = some 0 := by decide +kernel
theorem hy_P_empty : y_P_empty.cls = "HistoryJudge$Program" ∧ y_P_empty.cls ≠ "java/lang/invoke/MethodHandle" ∧ y_P_empty.cls ≠ "java/lang/invoke/VarHandle" ∧ (parseMethodDescriptor y_P_empty.desc).map (fun d => d.parameters.length) = some 0 := by decide +kernel
theorem hy_H_clear : y_H_clear.cls = "HistoryJudge" ∧ y_H_clear.cls ≠ "java/lang/invoke/MethodHandle" ∧ y_H_clear.cls ≠ "java/lang/invoke/VarHandle" ∧ (parseMethodDescriptor y_H_clear.desc).map (fun d => d.parameters.length) = some 0 := by decide +kernel
theorem hy_H_isBelow : y_H_isBelow.cls = "HistoryJudge" ∧ y_H_isBelow.cls ≠ "java/lang/invoke/MethodHandle" ∧ y_H_isBelow.cls ≠ "java/lang/invoke/VarHandle" ∧ (parseMethodDescriptor y_H_isBelow.desc).map (fun d => d.parameters.length) = some 2 := by decide +kernel
theorem hy_P_copyFrom : y_P_copyFrom.cls = "HistoryJudge$Program" ∧ y_P_copyFrom.cls ≠ "java/lang/invoke/MethodHandle" ∧ y_P_copyFrom.cls ≠ "java/lang/invoke/VarHandle" ∧ (parseMethodDescriptor y_P_copyFrom.desc).map (fun d => d.parameters.length) = some 1 := by decide +kernel
theorem hy_P_start : y_P_start.cls = "HistoryJudge$Program" ∧ y_P_start.cls ≠ "java/lang/invoke/MethodHandle" ∧ y_P_start.cls ≠ "java/lang/invoke/VarHandle" ∧ (parseMethodDescriptor y_P_start.desc).map (fun d => d.parameters.length) = some 1 := by decide +kernel
theorem hy_P_end : y_P_end.cls = "HistoryJudge$Program" ∧ y_P_end.cls ≠ "java/lang/invoke/MethodHandle" ∧ y_P_end.cls ≠ "java/lang/invoke/VarHandle" ∧ (parseMethodDescriptor y_P_end.desc).map (fun d => d.parameters.length) = some 1 := by decide +kernel
theorem hy_P_put : y_P_put.cls = "HistoryJudge$Program" ∧ y_P_put.cls ≠ "java/lang/invoke/MethodHandle" ∧ y_P_put.cls ≠ "java/lang/invoke/VarHandle" ∧ (parseMethodDescriptor y_P_put.desc).map (fun d => d.parameters.length) = some 4 := by decide +kernel
theorem hy_P_shiftUp : y_P_shiftUp.cls = "HistoryJudge$Program" ∧ y_P_shiftUp.cls ≠ "java/lang/invoke/MethodHandle" ∧ y_P_shiftUp.cls ≠ "java/lang/invoke/VarHandle" ∧ (parseMethodDescriptor y_P_shiftUp.desc).map (fun d => d.parameters.length) = some 2 := by decide +kernel
theorem hy_P_renumber : y_P_renumber.cls = "HistoryJudge$Program" ∧ y_P_renumber.cls ≠ "java/lang/invoke/MethodHandle" ∧ y_P_renumber.cls ≠ "java/lang/invoke/VarHandle" ∧ (parseMethodDescriptor y_P_renumber.desc).map (fun d => d.parameters.length) = some 2 := by decide +kernel
theorem hy_P_append : y_P_append.cls = "HistoryJudge$Program" ∧ y_P_append.cls ≠ "java/lang/invoke/MethodHandle" ∧ y_P_append.cls ≠ "java/lang/invoke/VarHandle" ∧ (parseMethodDescriptor y_P_append.desc).map (fun d => d.parameters.length) = some 4 := by decide +kernel
theorem hy_O_isOpen : y_O_isOpen.cls = "HistoryJudge$Model" ∧ y_O_isOpen.cls ≠ "java/lang/invoke/MethodHandle" ∧ y_O_isOpen.cls ≠ "java/lang/invoke/VarHandle" ∧ (parseMethodDescriptor y_O_isOpen.desc).map (fun d => d.parameters.length) = some 2 := by decide +kernel
theorem hy_O_source : y_O_source.cls = "HistoryJudge$Model" ∧ y_O_source.cls ≠ "java/lang/invoke/MethodHandle" ∧ y_O_source.cls ≠ "java/lang/invoke/VarHandle" ∧ (parseMethodDescriptor y_O_source.desc).map (fun d => d.parameters.length) = some 1 := by decide +kernel
theorem hy_O_allows : y_O_allows.cls = "HistoryJudge$Model" ∧ y_O_allows.cls ≠ "java/lang/invoke/MethodHandle" ∧ y_O_allows.cls ≠ "java/lang/invoke/VarHandle" ∧ (parseMethodDescriptor y_O_allows.desc).map (fun d => d.parameters.length) = some 3 := by decide +kernel
theorem hy_O_content : y_O_content.cls = "HistoryJudge$Model" ∧ y_O_content.cls ≠ "java/lang/invoke/MethodHandle" ∧ y_O_content.cls ≠ "java/lang/invoke/VarHandle" ∧ (parseMethodDescriptor y_O_content.desc).map (fun d => d.parameters.length) = some 2 := by decide +kernel
theorem hy_O_held : y_O_held.cls = "HistoryJudge$Model" ∧ y_O_held.cls ≠ "java/lang/invoke/MethodHandle" ∧ y_O_held.cls ≠ "java/lang/invoke/VarHandle" ∧ (parseMethodDescriptor y_O_held.desc).map (fun d => d.parameters.length) = some 2 := by decide +kernel
theorem hy_O_after : y_O_after.cls = "HistoryJudge$Model" ∧ y_O_after.cls ≠ "java/lang/invoke/MethodHandle" ∧ y_O_after.cls ≠ "java/lang/invoke/VarHandle" ∧ (parseMethodDescriptor y_O_after.desc).map (fun d => d.parameters.length) = some 4 := by decide +kernel
theorem hy_P_isValidBeside : y_P_isValidBeside.cls = "HistoryJudge$Program" ∧ y_P_isValidBeside.cls ≠ "java/lang/invoke/MethodHandle" ∧ y_P_isValidBeside.cls ≠ "java/lang/invoke/VarHandle" ∧ (parseMethodDescriptor y_P_isValidBeside.desc).map (fun d => d.parameters.length) = some 2 := by decide +kernel
theorem hy_P_isValid : y_P_isValid.cls = "HistoryJudge$Program" ∧ y_P_isValid.cls ≠ "java/lang/invoke/MethodHandle" ∧ y_P_isValid.cls ≠ "java/lang/invoke/VarHandle" ∧ (parseMethodDescriptor y_P_isValid.desc).map (fun d => d.parameters.length) = some 0 := by decide +kernel
theorem hy_H_appendIfValid : y_H_appendIfValid.cls = "HistoryJudge" ∧ y_H_appendIfValid.cls ≠ "java/lang/invoke/MethodHandle" ∧ y_H_appendIfValid.cls ≠ "java/lang/invoke/VarHandle" ∧ (parseMethodDescriptor y_H_appendIfValid.desc).map (fun d => d.parameters.length) = some 4 := by decide +kernel
theorem hy_D_below : y_D_below.cls = "HistoryJudge$Draws" ∧ y_D_below.cls ≠ "java/lang/invoke/MethodHandle" ∧ y_D_below.cls ≠ "java/lang/invoke/VarHandle" ∧ (parseMethodDescriptor y_D_below.desc).map (fun d => d.parameters.length) = some 1 := by decide +kernel
theorem hy_P_known : y_P_known.cls = "HistoryJudge$Program" ∧ y_P_known.cls ≠ "java/lang/invoke/MethodHandle" ∧ y_P_known.cls ≠ "java/lang/invoke/VarHandle" ∧ (parseMethodDescriptor y_P_known.desc).map (fun d => d.parameters.length) = some 1 := by decide +kernel
theorem hy_P_knownAt : y_P_knownAt.cls = "HistoryJudge$Program" ∧ y_P_knownAt.cls ≠ "java/lang/invoke/MethodHandle" ∧ y_P_knownAt.cls ≠ "java/lang/invoke/VarHandle" ∧ (parseMethodDescriptor y_P_knownAt.desc).map (fun d => d.parameters.length) = some 2 := by decide +kernel
theorem hy_H_drawCommand : y_H_drawCommand.cls = "HistoryJudge" ∧ y_H_drawCommand.cls ≠ "java/lang/invoke/MethodHandle" ∧ y_H_drawCommand.cls ≠ "java/lang/invoke/VarHandle" ∧ (parseMethodDescriptor y_H_drawCommand.desc).map (fun d => d.parameters.length) = some 1 := by decide +kernel
theorem hy_H_drawBranch : y_H_drawBranch.cls = "HistoryJudge" ∧ y_H_drawBranch.cls ≠ "java/lang/invoke/MethodHandle" ∧ y_H_drawBranch.cls ≠ "java/lang/invoke/VarHandle" ∧ (parseMethodDescriptor y_H_drawBranch.desc).map (fun d => d.parameters.length) = some 2 := by decide +kernel
theorem hy_P_lower : y_P_lower.cls = "HistoryJudge$Program" ∧ y_P_lower.cls ≠ "java/lang/invoke/MethodHandle" ∧ y_P_lower.cls ≠ "java/lang/invoke/VarHandle" ∧ (parseMethodDescriptor y_P_lower.desc).map (fun d => d.parameters.length) = some 2 := by decide +kernel
theorem hy_P_hasRoom : y_P_hasRoom.cls = "HistoryJudge$Program" ∧ y_P_hasRoom.cls ≠ "java/lang/invoke/MethodHandle" ∧ y_P_hasRoom.cls ≠ "java/lang/invoke/VarHandle" ∧ (parseMethodDescriptor y_P_hasRoom.desc).map (fun d => d.parameters.length) = some 1 := by decide +kernel
theorem hy_P_promote : y_P_promote.cls = "HistoryJudge$Program" ∧ y_P_promote.cls ≠ "java/lang/invoke/MethodHandle" ∧ y_P_promote.cls ≠ "java/lang/invoke/VarHandle" ∧ (parseMethodDescriptor y_P_promote.desc).map (fun d => d.parameters.length) = some 1 := by decide +kernel
theorem hy_P_isNeeded : y_P_isNeeded.cls = "HistoryJudge$Program" ∧ y_P_isNeeded.cls ≠ "java/lang/invoke/MethodHandle" ∧ y_P_isNeeded.cls ≠ "java/lang/invoke/VarHandle" ∧ (parseMethodDescriptor y_P_isNeeded.desc).map (fun d => d.parameters.length) = some 1 := by decide +kernel
theorem hy_P_branchOf : y_P_branchOf.cls = "HistoryJudge$Program" ∧ y_P_branchOf.cls ≠ "java/lang/invoke/MethodHandle" ∧ y_P_branchOf.cls ≠ "java/lang/invoke/VarHandle" ∧ (parseMethodDescriptor y_P_branchOf.desc).map (fun d => d.parameters.length) = some 1 := by decide +kernel
theorem hy_P_remove : y_P_remove.cls = "HistoryJudge$Program" ∧ y_P_remove.cls ≠ "java/lang/invoke/MethodHandle" ∧ y_P_remove.cls ≠ "java/lang/invoke/VarHandle" ∧ (parseMethodDescriptor y_P_remove.desc).map (fun d => d.parameters.length) = some 1 := by decide +kernel
theorem hy_H_prepareCandidate : y_H_prepareCandidate.cls = "HistoryJudge" ∧ y_H_prepareCandidate.cls ≠ "java/lang/invoke/MethodHandle" ∧ y_H_prepareCandidate.cls ≠ "java/lang/invoke/VarHandle" ∧ (parseMethodDescriptor y_H_prepareCandidate.desc).map (fun d => d.parameters.length) = some 1 := by decide +kernel
theorem hy_P_mayTake : y_P_mayTake.cls = "HistoryJudge$Program" ∧ y_P_mayTake.cls ≠ "java/lang/invoke/MethodHandle" ∧ y_P_mayTake.cls ≠ "java/lang/invoke/VarHandle" ∧ (parseMethodDescriptor y_P_mayTake.desc).map (fun d => d.parameters.length) = some 2 := by decide +kernel
theorem hy_O_answer : y_O_answer.cls = "HistoryJudge$Model" ∧ y_O_answer.cls ≠ "java/lang/invoke/MethodHandle" ∧ y_O_answer.cls ≠ "java/lang/invoke/VarHandle" ∧ (parseMethodDescriptor y_O_answer.desc).map (fun d => d.parameters.length) = some 4 := by decide +kernel
theorem hy_R_thrown : y_R_thrown.cls = "HistoryJudgeModel" ∧ y_R_thrown.cls ≠ "java/lang/invoke/MethodHandle" ∧ y_R_thrown.cls ≠ "java/lang/invoke/VarHandle" ∧ (parseMethodDescriptor y_R_thrown.desc).map (fun d => d.parameters.length) = some 0 := by decide +kernel
theorem hy_R_fail : y_R_fail.cls = "HistoryJudgeModel" ∧ y_R_fail.cls ≠ "java/lang/invoke/MethodHandle" ∧ y_R_fail.cls ≠ "java/lang/invoke/VarHandle" ∧ (parseMethodDescriptor y_R_fail.desc).map (fun d => d.parameters.length) = some 1 := by decide +kernel
theorem hy_R_within : y_R_within.cls = "HistoryJudgeModel" ∧ y_R_within.cls ≠ "java/lang/invoke/MethodHandle" ∧ y_R_within.cls ≠ "java/lang/invoke/VarHandle" ∧ (parseMethodDescriptor y_R_within.desc).map (fun d => d.parameters.length) = some 3 := by decide +kernel
theorem hy_R_many : y_R_many.cls = "HistoryJudgeModel" ∧ y_R_many.cls ≠ "java/lang/invoke/MethodHandle" ∧ y_R_many.cls ≠ "java/lang/invoke/VarHandle" ∧ (parseMethodDescriptor y_R_many.desc).map (fun d => d.parameters.length) = some 0 := by decide +kernel
theorem hy_R_branch : y_R_branch.cls = "HistoryJudgeModel" ∧ y_R_branch.cls ≠ "java/lang/invoke/MethodHandle" ∧ y_R_branch.cls ≠ "java/lang/invoke/VarHandle" ∧ (parseMethodDescriptor y_R_branch.desc).map (fun d => d.parameters.length) = some 1 := by decide +kernel
theorem hy_R_first : y_R_first.cls = "HistoryJudgeModel" ∧ y_R_first.cls ≠ "java/lang/invoke/MethodHandle" ∧ y_R_first.cls ≠ "java/lang/invoke/VarHandle" ∧ (parseMethodDescriptor y_R_first.desc).map (fun d => d.parameters.length) = some 1 := by decide +kernel
theorem hy_R_mayStand : y_R_mayStand.cls = "HistoryJudgeModel" ∧ y_R_mayStand.cls ≠ "java/lang/invoke/MethodHandle" ∧ y_R_mayStand.cls ≠ "java/lang/invoke/VarHandle" ∧ (parseMethodDescriptor y_R_mayStand.desc).map (fun d => d.parameters.length) = some 3 := by decide +kernel
theorem hy_R_placed : y_R_placed.cls = "HistoryJudgeModel" ∧ y_R_placed.cls ≠ "java/lang/invoke/MethodHandle" ∧ y_R_placed.cls ≠ "java/lang/invoke/VarHandle" ∧ (parseMethodDescriptor y_R_placed.desc).map (fun d => d.parameters.length) = some 2 := by decide +kernel
theorem hy_R_isOrder : y_R_isOrder.cls = "HistoryJudgeModel" ∧ y_R_isOrder.cls ≠ "java/lang/invoke/MethodHandle" ∧ y_R_isOrder.cls ≠ "java/lang/invoke/VarHandle" ∧ (parseMethodDescriptor y_R_isOrder.desc).map (fun d => d.parameters.length) = some 1 := by decide +kernel
theorem hy_R_finds : y_R_finds.cls = "HistoryJudgeModel" ∧ y_R_finds.cls ≠ "java/lang/invoke/MethodHandle" ∧ y_R_finds.cls ≠ "java/lang/invoke/VarHandle" ∧ (parseMethodDescriptor y_R_finds.desc).map (fun d => d.parameters.length) = some 1 := by decide +kernel
theorem hy_R_fits : y_R_fits.cls = "HistoryJudgeModel" ∧ y_R_fits.cls ≠ "java/lang/invoke/MethodHandle" ∧ y_R_fits.cls ≠ "java/lang/invoke/VarHandle" ∧ (parseMethodDescriptor y_R_fits.desc).map (fun d => d.parameters.length) = some 1 := by decide +kernel
theorem hy_R_valid : y_R_valid.cls = "HistoryJudgeModel" ∧ y_R_valid.cls ≠ "java/lang/invoke/MethodHandle" ∧ y_R_valid.cls ≠ "java/lang/invoke/VarHandle" ∧ (parseMethodDescriptor y_R_valid.desc).map (fun d => d.parameters.length) = some 0 := by decide +kernel
theorem hy_R_keep : y_R_keep.cls = "HistoryJudgeModel" ∧ y_R_keep.cls ≠ "java/lang/invoke/MethodHandle" ∧ y_R_keep.cls ≠ "java/lang/invoke/VarHandle" ∧ (parseMethodDescriptor y_R_keep.desc).map (fun d => d.parameters.length) = some 0 := by decide +kernel
theorem hy_R_putBack : y_R_putBack.cls = "HistoryJudgeModel" ∧ y_R_putBack.cls ≠ "java/lang/invoke/MethodHandle" ∧ y_R_putBack.cls ≠ "java/lang/invoke/VarHandle" ∧ (parseMethodDescriptor y_R_putBack.desc).map (fun d => d.parameters.length) = some 0 := by decide +kernel
theorem hy_R_copy : y_R_copy.cls = "HistoryJudgeModel" ∧ y_R_copy.cls ≠ "java/lang/invoke/MethodHandle" ∧ y_R_copy.cls ≠ "java/lang/invoke/VarHandle" ∧ (parseMethodDescriptor y_R_copy.desc).map (fun d => d.parameters.length) = some 2 := by decide +kernel
theorem hy_R_insert : y_R_insert.cls = "HistoryJudgeModel" ∧ y_R_insert.cls ≠ "java/lang/invoke/MethodHandle" ∧ y_R_insert.cls ≠ "java/lang/invoke/VarHandle" ∧ (parseMethodDescriptor y_R_insert.desc).map (fun d => d.parameters.length) = some 4 := by decide +kernel
theorem hy_R_leaveOut : y_R_leaveOut.cls = "HistoryJudgeModel" ∧ y_R_leaveOut.cls ≠ "java/lang/invoke/MethodHandle" ∧ y_R_leaveOut.cls ≠ "java/lang/invoke/VarHandle" ∧ (parseMethodDescriptor y_R_leaveOut.desc).map (fun d => d.parameters.length) = some 1 := by decide +kernel
theorem hy_R_raise : y_R_raise.cls = "HistoryJudgeModel" ∧ y_R_raise.cls ≠ "java/lang/invoke/MethodHandle" ∧ y_R_raise.cls ≠ "java/lang/invoke/VarHandle" ∧ (parseMethodDescriptor y_R_raise.desc).map (fun d => d.parameters.length) = some 1 := by decide +kernel
theorem hy_R_add : y_R_add.cls = "HistoryJudgeModel" ∧ y_R_add.cls ≠ "java/lang/invoke/MethodHandle" ∧ y_R_add.cls ≠ "java/lang/invoke/VarHandle" ∧ (parseMethodDescriptor y_R_add.desc).map (fun d => d.parameters.length) = some 4 := by decide +kernel
theorem hy_R_clear : y_R_clear.cls = "HistoryJudgeModel" ∧ y_R_clear.cls ≠ "java/lang/invoke/MethodHandle" ∧ y_R_clear.cls ≠ "java/lang/invoke/VarHandle" ∧ (parseMethodDescriptor y_R_clear.desc).map (fun d => d.parameters.length) = some 0 := by decide +kernel
theorem hy_R_drawn : y_R_drawn.cls = "HistoryJudgeModel" ∧ y_R_drawn.cls ≠ "java/lang/invoke/MethodHandle" ∧ y_R_drawn.cls ≠ "java/lang/invoke/VarHandle" ∧ (parseMethodDescriptor y_R_drawn.desc).map (fun d => d.parameters.length) = some 1 := by decide +kernel
theorem hy_R_before : y_R_before.cls = "HistoryJudgeModel" ∧ y_R_before.cls ≠ "java/lang/invoke/MethodHandle" ∧ y_R_before.cls ≠ "java/lang/invoke/VarHandle" ∧ (parseMethodDescriptor y_R_before.desc).map (fun d => d.parameters.length) = some 3 := by decide +kernel
theorem hy_R_tried : y_R_tried.cls = "HistoryJudgeModel" ∧ y_R_tried.cls ≠ "java/lang/invoke/MethodHandle" ∧ y_R_tried.cls ≠ "java/lang/invoke/VarHandle" ∧ (parseMethodDescriptor y_R_tried.desc).map (fun d => d.parameters.length) = some 1 := by decide +kernel
theorem hy_R_make : y_R_make.cls = "HistoryJudgeModel" ∧ y_R_make.cls ≠ "java/lang/invoke/MethodHandle" ∧ y_R_make.cls ≠ "java/lang/invoke/VarHandle" ∧ (parseMethodDescriptor y_R_make.desc).map (fun d => d.parameters.length) = some 4 := by decide +kernel
theorem hy_R_flaws : y_R_flaws.cls = "HistoryJudgeModel" ∧ y_R_flaws.cls ≠ "java/lang/invoke/MethodHandle" ∧ y_R_flaws.cls ≠ "java/lang/invoke/VarHandle" ∧ (parseMethodDescriptor y_R_flaws.desc).map (fun d => d.parameters.length) = some 1 := by decide +kernel
theorem hy_R_twoParts : y_R_twoParts.cls = "HistoryJudgeModel" ∧ y_R_twoParts.cls ≠ "java/lang/invoke/MethodHandle" ∧ y_R_twoParts.cls ≠ "java/lang/invoke/VarHandle" ∧ (parseMethodDescriptor y_R_twoParts.desc).map (fun d => d.parameters.length) = some 1 := by decide +kernel
theorem hy_R_isLate : y_R_isLate.cls = "HistoryJudgeModel" ∧ y_R_isLate.cls ≠ "java/lang/invoke/MethodHandle" ∧ y_R_isLate.cls ≠ "java/lang/invoke/VarHandle" ∧ (parseMethodDescriptor y_R_isLate.desc).map (fun d => d.parameters.length) = some 1 := by decide +kernel
theorem hy_R_source : y_R_source.cls = "HistoryJudgeModel" ∧ y_R_source.cls ≠ "java/lang/invoke/MethodHandle" ∧ y_R_source.cls ≠ "java/lang/invoke/VarHandle" ∧ (parseMethodDescriptor y_R_source.desc).map (fun d => d.parameters.length) = some 1 := by decide +kernel
theorem hy_R_does : y_R_does.cls = "HistoryJudgeModel" ∧ y_R_does.cls ≠ "java/lang/invoke/MethodHandle" ∧ y_R_does.cls ≠ "java/lang/invoke/VarHandle" ∧ (parseMethodDescriptor y_R_does.desc).map (fun d => d.parameters.length) = some 1 := by decide +kernel
theorem hy_R_calls : y_R_calls.cls = "HistoryJudgeModel" ∧ y_R_calls.cls ≠ "java/lang/invoke/MethodHandle" ∧ y_R_calls.cls ≠ "java/lang/invoke/VarHandle" ∧ (parseMethodDescriptor y_R_calls.desc).map (fun d => d.parameters.length) = some 1 := by decide +kernel
theorem hy_R_events : y_R_events.cls = "HistoryJudgeModel" ∧ y_R_events.cls ≠ "java/lang/invoke/MethodHandle" ∧ y_R_events.cls ≠ "java/lang/invoke/VarHandle" ∧ (parseMethodDescriptor y_R_events.desc).map (fun d => d.parameters.length) = some 1 := by decide +kernel
theorem hy_R_happens : y_R_happens.cls = "HistoryJudgeModel" ∧ y_R_happens.cls ≠ "java/lang/invoke/MethodHandle" ∧ y_R_happens.cls ≠ "java/lang/invoke/VarHandle" ∧ (parseMethodDescriptor y_R_happens.desc).map (fun d => d.parameters.length) = some 3 := by decide +kernel
theorem hy_R_hasLeft : y_R_hasLeft.cls = "HistoryJudgeModel" ∧ y_R_hasLeft.cls ≠ "java/lang/invoke/MethodHandle" ∧ y_R_hasLeft.cls ≠ "java/lang/invoke/VarHandle" ∧ (parseMethodDescriptor y_R_hasLeft.desc).map (fun d => d.parameters.length) = some 1 := by decide +kernel
theorem hy_R_go : y_R_go.cls = "HistoryJudgeModel" ∧ y_R_go.cls ≠ "java/lang/invoke/MethodHandle" ∧ y_R_go.cls ≠ "java/lang/invoke/VarHandle" ∧ (parseMethodDescriptor y_R_go.desc).map (fun d => d.parameters.length) = some 1 := by decide +kernel
theorem hy_R_right : y_R_right.cls = "HistoryJudgeModel" ∧ y_R_right.cls ≠ "java/lang/invoke/MethodHandle" ∧ y_R_right.cls ≠ "java/lang/invoke/VarHandle" ∧ (parseMethodDescriptor y_R_right.desc).map (fun d => d.parameters.length) = some 1 := by decide +kernel
theorem hy_R_explains : y_R_explains.cls = "HistoryJudgeModel" ∧ y_R_explains.cls ≠ "java/lang/invoke/MethodHandle" ∧ y_R_explains.cls ≠ "java/lang/invoke/VarHandle" ∧ (parseMethodDescriptor y_R_explains.desc).map (fun d => d.parameters.length) = some 1 := by decide +kernel
theorem hy_R_judged : y_R_judged.cls = "HistoryJudgeModel" ∧ y_R_judged.cls ≠ "java/lang/invoke/MethodHandle" ∧ y_R_judged.cls ≠ "java/lang/invoke/VarHandle" ∧ (parseMethodDescriptor y_R_judged.desc).map (fun d => d.parameters.length) = some 1 := by decide +kernel
theorem hy_R_run : y_R_run.cls = "HistoryJudgeModel" ∧ y_R_run.cls ≠ "java/lang/invoke/MethodHandle" ∧ y_R_run.cls ≠ "java/lang/invoke/VarHandle" ∧ (parseMethodDescriptor y_R_run.desc).map (fun d => d.parameters.length) = some 1 := by decide +kernel
theorem hy_R_failed : y_R_failed.cls = "HistoryJudgeModel" ∧ y_R_failed.cls ≠ "java/lang/invoke/MethodHandle" ∧ y_R_failed.cls ≠ "java/lang/invoke/VarHandle" ∧ (parseMethodDescriptor y_R_failed.desc).map (fun d => d.parameters.length) = some 2 := by decide +kernel
theorem hy_R_fails : y_R_fails.cls = "HistoryJudgeModel" ∧ y_R_fails.cls ≠ "java/lang/invoke/MethodHandle" ∧ y_R_fails.cls ≠ "java/lang/invoke/VarHandle" ∧ (parseMethodDescriptor y_R_fails.desc).map (fun d => d.parameters.length) = some 2 := by decide +kernel
theorem hy_R_takes : y_R_takes.cls = "HistoryJudgeModel" ∧ y_R_takes.cls ≠ "java/lang/invoke/MethodHandle" ∧ y_R_takes.cls ≠ "java/lang/invoke/VarHandle" ∧ (parseMethodDescriptor y_R_takes.desc).map (fun d => d.parameters.length) = some 3 := by decide +kernel
theorem hy_R_smaller : y_R_smaller.cls = "HistoryJudgeModel" ∧ y_R_smaller.cls ≠ "java/lang/invoke/MethodHandle" ∧ y_R_smaller.cls ≠ "java/lang/invoke/VarHandle" ∧ (parseMethodDescriptor y_R_smaller.desc).map (fun d => d.parameters.length) = some 2 := by decide +kernel
theorem hy_R_shrink : y_R_shrink.cls = "HistoryJudgeModel" ∧ y_R_shrink.cls ≠ "java/lang/invoke/MethodHandle" ∧ y_R_shrink.cls ≠ "java/lang/invoke/VarHandle" ∧ (parseMethodDescriptor y_R_shrink.desc).map (fun d => d.parameters.length) = some 2 := by decide +kernel
theorem hy_R_command : y_R_command.cls = "HistoryJudgeModel" ∧ y_R_command.cls ≠ "java/lang/invoke/MethodHandle" ∧ y_R_command.cls ≠ "java/lang/invoke/VarHandle" ∧ (parseMethodDescriptor y_R_command.desc).map (fun d => d.parameters.length) = some 2 := by decide +kernel
theorem hy_R_event : y_R_event.cls = "HistoryJudgeModel" ∧ y_R_event.cls ≠ "java/lang/invoke/MethodHandle" ∧ y_R_event.cls ≠ "java/lang/invoke/VarHandle" ∧ (parseMethodDescriptor y_R_event.desc).map (fun d => d.parameters.length) = some 2 := by decide +kernel
theorem hy_R_order : y_R_order.cls = "HistoryJudgeModel" ∧ y_R_order.cls ≠ "java/lang/invoke/MethodHandle" ∧ y_R_order.cls ≠ "java/lang/invoke/VarHandle" ∧ (parseMethodDescriptor y_R_order.desc).map (fun d => d.parameters.length) = some 1 := by decide +kernel
theorem hy_R_cell : y_R_cell.cls = "HistoryJudgeModel" ∧ y_R_cell.cls ≠ "java/lang/invoke/MethodHandle" ∧ y_R_cell.cls ≠ "java/lang/invoke/VarHandle" ∧ (parseMethodDescriptor y_R_cell.desc).map (fun d => d.parameters.length) = some 1 := by decide +kernel
theorem hy_R_count : y_R_count.cls = "HistoryJudgeModel" ∧ y_R_count.cls ≠ "java/lang/invoke/MethodHandle" ∧ y_R_count.cls ≠ "java/lang/invoke/VarHandle" ∧ (parseMethodDescriptor y_R_count.desc).map (fun d => d.parameters.length) = some 1 := by decide +kernel
theorem hy_R_tally : y_R_tally.cls = "HistoryJudgeModel" ∧ y_R_tally.cls ≠ "java/lang/invoke/MethodHandle" ∧ y_R_tally.cls ≠ "java/lang/invoke/VarHandle" ∧ (parseMethodDescriptor y_R_tally.desc).map (fun d => d.parameters.length) = some 1 := by decide +kernel
theorem hy_M_numberOf : y_M_numberOf.cls = "HistoryJudge$Machine" ∧ y_M_numberOf.cls ≠ "java/lang/invoke/MethodHandle" ∧ y_M_numberOf.cls ≠ "java/lang/invoke/VarHandle" ∧ (parseMethodDescriptor y_M_numberOf.desc).map (fun d => d.parameters.length) = some 1 := by decide +kernel
theorem hy_M_isSplit : y_M_isSplit.cls = "HistoryJudge$Machine" ∧ y_M_isSplit.cls ≠ "java/lang/invoke/MethodHandle" ∧ y_M_isSplit.cls ≠ "java/lang/invoke/VarHandle" ∧ (parseMethodDescriptor y_M_isSplit.desc).map (fun d => d.parameters.length) = some 1 := by decide +kernel
theorem hy_M_isLate : y_M_isLate.cls = "HistoryJudge$Machine" ∧ y_M_isLate.cls ≠ "java/lang/invoke/MethodHandle" ∧ y_M_isLate.cls ≠ "java/lang/invoke/VarHandle" ∧ (parseMethodDescriptor y_M_isLate.desc).map (fun d => d.parameters.length) = some 1 := by decide +kernel
theorem hy_M_act : y_M_act.cls = "HistoryJudge$Machine" ∧ y_M_act.cls ≠ "java/lang/invoke/MethodHandle" ∧ y_M_act.cls ≠ "java/lang/invoke/VarHandle" ∧ (parseMethodDescriptor y_M_act.desc).map (fun d => d.parameters.length) = some 3 := by decide +kernel
theorem hy_M_actByNote : y_M_actByNote.cls = "HistoryJudge$Machine" ∧ y_M_actByNote.cls ≠ "java/lang/invoke/MethodHandle" ∧ y_M_actByNote.cls ≠ "java/lang/invoke/VarHandle" ∧ (parseMethodDescriptor y_M_actByNote.desc).map (fun d => d.parameters.length) = some 4 := by decide +kernel
theorem hy_M_step : y_M_step.cls = "HistoryJudge$Machine" ∧ y_M_step.cls ≠ "java/lang/invoke/MethodHandle" ∧ y_M_step.cls ≠ "java/lang/invoke/VarHandle" ∧ (parseMethodDescriptor y_M_step.desc).map (fun d => d.parameters.length) = some 3 := by decide +kernel
theorem hy_M_perform : y_M_perform.cls = "HistoryJudge$Machine" ∧ y_M_perform.cls ≠ "java/lang/invoke/MethodHandle" ∧ y_M_perform.cls ≠ "java/lang/invoke/VarHandle" ∧ (parseMethodDescriptor y_M_perform.desc).map (fun d => d.parameters.length) = some 3 := by decide +kernel
theorem hy_J_answersSo : y_J_answersSo.cls = "HistoryJudge$Judge" ∧ y_J_answersSo.cls ≠ "java/lang/invoke/MethodHandle" ∧ y_J_answersSo.cls ≠ "java/lang/invoke/VarHandle" ∧ (parseMethodDescriptor y_J_answersSo.desc).map (fun d => d.parameters.length) = some 4 := by decide +kernel
theorem hy_J_after : y_J_after.cls = "HistoryJudge$Judge" ∧ y_J_after.cls ≠ "java/lang/invoke/MethodHandle" ∧ y_J_after.cls ≠ "java/lang/invoke/VarHandle" ∧ (parseMethodDescriptor y_J_after.desc).map (fun d => d.parameters.length) = some 4 := by decide +kernel
theorem hy_J_search : y_J_search.cls = "HistoryJudge$Judge" ∧ y_J_search.cls ≠ "java/lang/invoke/MethodHandle" ∧ y_J_search.cls ≠ "java/lang/invoke/VarHandle" ∧ (parseMethodDescriptor y_J_search.desc).map (fun d => d.parameters.length) = some 6 := by decide +kernel
theorem hy_J_explains : y_J_explains.cls = "HistoryJudge$Judge" ∧ y_J_explains.cls ≠ "java/lang/invoke/MethodHandle" ∧ y_J_explains.cls ≠ "java/lang/invoke/VarHandle" ∧ (parseMethodDescriptor y_J_explains.desc).map (fun d => d.parameters.length) = some 2 := by decide +kernel
theorem hy_T_test : y_T_test.cls = "HistoryJudge$Tester" ∧ y_T_test.cls ≠ "java/lang/invoke/MethodHandle" ∧ y_T_test.cls ≠ "java/lang/invoke/VarHandle" ∧ (parseMethodDescriptor y_T_test.desc).map (fun d => d.parameters.length) = some 2 := by decide +kernel
theorem hy_D_restart : y_D_restart.cls = "HistoryJudge$Draws" ∧ y_D_restart.cls ≠ "java/lang/invoke/MethodHandle" ∧ y_D_restart.cls ≠ "java/lang/invoke/VarHandle" ∧ (parseMethodDescriptor y_D_restart.desc).map (fun d => d.parameters.length) = some 1 := by decide +kernel
theorem hy_T_firstFailure : y_T_firstFailure.cls = "HistoryJudge$Tester" ∧ y_T_firstFailure.cls ≠ "java/lang/invoke/MethodHandle" ∧ y_T_firstFailure.cls ≠ "java/lang/invoke/VarHandle" ∧ (parseMethodDescriptor y_T_firstFailure.desc).map (fun d => d.parameters.length) = some 3 := by decide +kernel
theorem hy_H_init : y_H_init.cls = "HistoryJudge" ∧ y_H_init.cls ≠ "java/lang/invoke/MethodHandle" ∧ y_H_init.cls ≠ "java/lang/invoke/VarHandle" ∧ (parseMethodDescriptor y_H_init.desc).map (fun d => d.parameters.length) = some 0 := by decide +kernel
theorem hy_P_init : y_P_init.cls = "HistoryJudge$Program" ∧ y_P_init.cls ≠ "java/lang/invoke/MethodHandle" ∧ y_P_init.cls ≠ "java/lang/invoke/VarHandle" ∧ (parseMethodDescriptor y_P_init.desc).map (fun d => d.parameters.length) = some 0 := by decide +kernel
theorem hy_T_init : y_T_init.cls = "HistoryJudge$Tester" ∧ y_T_init.cls ≠ "java/lang/invoke/MethodHandle" ∧ y_T_init.cls ≠ "java/lang/invoke/VarHandle" ∧ (parseMethodDescriptor y_T_init.desc).map (fun d => d.parameters.length) = some 0 := by decide +kernel
theorem hy_M_init : y_M_init.cls = "HistoryJudge$Machine" ∧ y_M_init.cls ≠ "java/lang/invoke/MethodHandle" ∧ y_M_init.cls ≠ "java/lang/invoke/VarHandle" ∧ (parseMethodDescriptor y_M_init.desc).map (fun d => d.parameters.length) = some 0 := by decide +kernel
theorem hy_J_init : y_J_init.cls = "HistoryJudge$Judge" ∧ y_J_init.cls ≠ "java/lang/invoke/MethodHandle" ∧ y_J_init.cls ≠ "java/lang/invoke/VarHandle" ∧ (parseMethodDescriptor y_J_init.desc).map (fun d => d.parameters.length) = some 0 := by decide +kernel
theorem hy_D_init : y_D_init.cls = "HistoryJudge$Draws" ∧ y_D_init.cls ≠ "java/lang/invoke/MethodHandle" ∧ y_D_init.cls ≠ "java/lang/invoke/VarHandle" ∧ (parseMethodDescriptor y_D_init.desc).map (fun d => d.parameters.length) = some 0 := by decide +kernel
theorem hy_R_init : y_R_init.cls = "HistoryJudgeModel" ∧ y_R_init.cls ≠ "java/lang/invoke/MethodHandle" ∧ y_R_init.cls ≠ "java/lang/invoke/VarHandle" ∧ (parseMethodDescriptor y_R_init.desc).map (fun d => d.parameters.length) = some 0 := by decide +kernel
theorem gV_H_79 : GoodIn lg (wsV "HistoryJudge" 79 "HistoryJudge$Program" y_P_size (Jvm.Cond.code y_P_size prog_6_method_2_code 1 (some .int) :: lg)) := ev_goodV hw_3 hw_4 hw_5 hw_6 hw_2
theorem gV_H_83 : GoodIn lg (wsV "HistoryJudge" 83 "HistoryJudge$Program" y_P_empty (Jvm.Cond.code y_P_empty prog_6_method_10_code 2 none :: lg)) := ev_goodV hw_8 hw_9 hw_10 hw_6 hw_7
theorem gV_P_31 : GoodIn lg (wsV "HistoryJudge$Program" 31 "HistoryJudge$Program" y_P_size (Jvm.Cond.code y_P_size prog_6_method_2_code 1 (some .int) :: lg)) := ev_goodV hw_13 hw_4 hw_5 hw_6 hw_2
theorem gV_H_125 : GoodIn lg (wsV "HistoryJudge" 125 "HistoryJudge$Program" y_P_copyFrom (Jvm.Cond.code y_P_copyFrom prog_6_method_11_code 3 none :: lg)) := ev_goodV hw_22 hw_23 hw_24 hw_6 hw_21
theorem gV_P_24 : GoodIn lg (wsV "HistoryJudge$Program" 24 "HistoryJudge$Program" y_P_start (Jvm.Cond.code y_P_start prog_6_method_3_code 2 (some .int) :: lg)) := ev_goodV hw_26 hw_27 hw_28 hw_6 hw_25
theorem gV_P_28 : GoodIn lg (wsV "HistoryJudge$Program" 28 "HistoryJudge$Program" y_P_end (Jvm.Cond.code y_P_end prog_6_method_4_code 2 (some .int) :: lg)) := ev_goodV hw_30 hw_31 hw_32 hw_6 hw_29
theorem gV_P_48 : GoodIn lg (wsV "HistoryJudge$Program" 48 "HistoryJudge$Program" y_P_put (Jvm.Cond.code y_P_put prog_6_method_19_code 5 none :: lg)) := ev_goodV hw_34 hw_35 hw_36 hw_6 hw_33
theorem gV_P_41 : GoodIn lg (wsV "HistoryJudge$Program" 41 "HistoryJudge$Program" y_P_shiftUp (Jvm.Cond.code y_P_shiftUp prog_6_method_20_code 4 none :: lg)) := ev_goodV hw_38 hw_39 hw_40 hw_6 hw_37
theorem gV_P_45 : GoodIn lg (wsV "HistoryJudge$Program" 45 "HistoryJudge$Program" y_P_renumber (Jvm.Cond.code y_P_renumber prog_6_method_21_code 5 none :: lg)) := ev_goodV hw_42 hw_43 hw_44 hw_6 hw_41
theorem gV_H_212 : GoodIn lg (wsV "HistoryJudge" 212 "HistoryJudge$Program" y_P_append (Jvm.Cond.code y_P_append prog_6_method_12_code 6 none :: lg)) := ev_goodV hw_46 hw_47 hw_48 hw_6 hw_45
theorem gS_O_11 : GoodIn lg (va_wsS "HistoryJudge$Model" 11 y_O_isOpen (Jvm.Cond.code y_O_isOpen prog_5_method_4_code 2 (some .boolean) :: lg)) := ev_goodS hw_50 hw_51 hw_52 hw_49
theorem gS_O_15 : GoodIn lg (va_wsS "HistoryJudge$Model" 15 y_O_source (Jvm.Cond.code y_O_source prog_5_method_5_code 1 (some .int) :: lg)) := ev_goodS hw_54 hw_55 hw_52 hw_53
theorem gS_P_64 : GoodIn lg (va_wsS "HistoryJudge$Program" 64 y_O_allows (Jvm.Cond.code y_O_allows prog_5_method_6_code 3 (some .boolean) :: lg)) := ev_goodS hw_57 hw_58 hw_52 hw_56
theorem gS_O_23 : GoodIn lg (va_wsS "HistoryJudge$Model" 23 y_O_content (Jvm.Cond.code y_O_content prog_5_method_2_code 2 (some .int) :: lg)) := ev_goodS hw_60 hw_61 hw_52 hw_59
theorem gS_O_19 : GoodIn lg (va_wsS "HistoryJudge$Model" 19 y_O_held (Jvm.Cond.code y_O_held prog_5_method_3_code 2 (some .int) :: lg)) := ev_goodS hw_63 hw_64 hw_52 hw_62
theorem gS_P_68 : GoodIn lg (va_wsS "HistoryJudge$Program" 68 y_O_after (Jvm.Cond.code y_O_after prog_5_method_8_code 7 (some .int) :: lg)) := ev_goodS hw_66 hw_67 hw_52 hw_65
theorem gV_P_72 : GoodIn lg (wsV "HistoryJudge$Program" 72 "HistoryJudge$Program" y_P_isValidBeside (Jvm.Cond.code y_P_isValidBeside prog_6_method_17_code 6 (some .boolean) :: lg)) := ev_goodV hw_69 hw_70 hw_71 hw_6 hw_68
theorem gV_H_121 : GoodIn lg (wsV "HistoryJudge" 121 "HistoryJudge$Program" y_P_isValid (Jvm.Cond.code y_P_isValid prog_6_method_16_code 5 (some .boolean) :: lg)) := ev_goodV hw_73 hw_74 hw_75 hw_6 hw_72
theorem gV_H_219 : GoodIn lg (wsV "HistoryJudge" 219 "HistoryJudge$Draws" y_D_below (Jvm.Cond.code y_D_below prog_2_method_3_code 3 (some .int) :: lg)) := ev_goodV hw_81 hw_82 hw_83 hw_84 hw_80
theorem gV_H_222 : GoodIn lg (wsV "HistoryJudge" 222 "HistoryJudge$Program" y_P_known (Jvm.Cond.code y_P_known prog_6_method_7_code 2 (some .int) :: lg)) := ev_goodV hw_86 hw_87 hw_88 hw_6 hw_85
theorem gV_H_70 : GoodIn lg (wsV "HistoryJudge" 70 "HistoryJudge" y_H_appendIfValid (Jvm.Cond.code y_H_appendIfValid prog_1_method_16_code 5 (some .boolean) :: lg)) := ev_goodV hw_90 hw_91 hw_92 hw_93 hw_89
theorem gV_H_225 : GoodIn lg (wsV "HistoryJudge" 225 "HistoryJudge$Program" y_P_knownAt (Jvm.Cond.code y_P_knownAt prog_6_method_8_code 3 (some .int) :: lg)) := ev_goodV hw_95 hw_96 hw_97 hw_6 hw_94
theorem gV_H_216 : GoodIn lg (wsV "HistoryJudge" 216 "HistoryJudge" y_H_drawCommand (Jvm.Cond.code y_H_drawCommand prog_1_method_18_code 7 (some .boolean) :: lg)) := ev_goodV hw_99 hw_100 hw_101 hw_93 hw_98
theorem gV_H_234 : GoodIn lg (wsV "HistoryJudge" 234 "HistoryJudge$Program" y_P_lower (Jvm.Cond.code y_P_lower prog_6_method_15_code 4 (some .boolean) :: lg)) := ev_goodV hw_103 hw_104 hw_105 hw_6 hw_102
theorem gV_P_59 : GoodIn lg (wsV "HistoryJudge$Program" 59 "HistoryJudge$Program" y_P_hasRoom (Jvm.Cond.code y_P_hasRoom prog_6_method_6_code 2 (some .boolean) :: lg)) := ev_goodV hw_107 hw_108 hw_109 hw_6 hw_106
theorem gV_H_231 : GoodIn lg (wsV "HistoryJudge" 231 "HistoryJudge$Program" y_P_promote (Jvm.Cond.code y_P_promote prog_6_method_14_code 10 (some .boolean) :: lg)) := ev_goodV hw_111 hw_112 hw_113 hw_6 hw_110
theorem gV_P_52 : GoodIn lg (wsV "HistoryJudge$Program" 52 "HistoryJudge$Program" y_P_isNeeded (Jvm.Cond.code y_P_isNeeded prog_6_method_18_code 4 (some .boolean) :: lg)) := ev_goodV hw_115 hw_116 hw_117 hw_6 hw_114
theorem gV_P_56 : GoodIn lg (wsV "HistoryJudge$Program" 56 "HistoryJudge$Program" y_P_branchOf (Jvm.Cond.code y_P_branchOf prog_6_method_5_code 2 (some .int) :: lg)) := ev_goodV hw_119 hw_120 hw_121 hw_6 hw_118
theorem gV_H_228 : GoodIn lg (wsV "HistoryJudge" 228 "HistoryJudge$Program" y_P_remove (Jvm.Cond.code y_P_remove prog_6_method_13_code 4 (some .boolean) :: lg)) := ev_goodV hw_123 hw_124 hw_125 hw_6 hw_122
theorem gV_R_69 : GoodIn lg (wsV "HistoryJudgeModel" 69 "HistoryJudgeModel" y_R_branch (Jvm.Cond.code y_R_branch prog_9_method_6_code 2 (some .int) :: lg)) := ev_goodV hw_129 hw_130 hw_131 hw_132 hw_128
theorem gV_R_73 : GoodIn lg (wsV "HistoryJudgeModel" 73 "HistoryJudgeModel" y_R_first (Jvm.Cond.code y_R_first prog_9_method_7_code 2 (some .int) :: lg)) := ev_goodV hw_134 hw_135 hw_136 hw_132 hw_133
theorem gV_R_80 : GoodIn lg (wsV "HistoryJudgeModel" 80 "HistoryJudgeModel" y_R_placed (Jvm.Cond.code y_R_placed prog_9_method_9_code 6 (some .int) :: lg)) := ev_goodV hw_141 hw_142 hw_143 hw_132 hw_140
theorem gV_R_76 : GoodIn lg (wsV "HistoryJudgeModel" 76 "HistoryJudgeModel" y_R_finds (Jvm.Cond.code y_R_finds prog_9_method_11_code 4 (some .boolean) :: lg)) := ev_goodV hw_145 hw_146 hw_147 hw_132 hw_144
theorem gV_R_84 : GoodIn lg (wsV "HistoryJudgeModel" 84 "HistoryJudgeModel" y_R_many (Jvm.Cond.code y_R_many prog_9_method_5_code 1 (some .int) :: lg)) := ev_goodV hw_149 hw_150 hw_151 hw_132 hw_148
theorem gV_R_92 : GoodIn lg (wsV "HistoryJudgeModel" 92 "HistoryJudgeModel" y_R_isOrder (Jvm.Cond.code y_R_isOrder prog_9_method_10_code 4 (some .boolean) :: lg)) := ev_goodV hw_153 hw_154 hw_155 hw_132 hw_152
theorem gV_R_95 : GoodIn lg (wsV "HistoryJudgeModel" 95 "HistoryJudgeModel" y_R_fits (Jvm.Cond.code y_R_fits prog_9_method_12_code 4 (some .boolean) :: lg)) := ev_goodV hw_157 hw_158 hw_159 hw_132 hw_156
theorem gV_R_88 : GoodIn lg (wsV "HistoryJudgeModel" 88 "HistoryJudgeModel" y_R_mayStand (Jvm.Cond.code y_R_mayStand prog_9_method_8_code 4 (some .boolean) :: lg)) := ev_goodV hw_162 hw_163 hw_164 hw_132 hw_161
theorem gV_R_98 : GoodIn lg (wsV "HistoryJudgeModel" 98 "HistoryJudgeModel" y_R_copy (Jvm.Cond.code y_R_copy prog_9_method_16_code 3 none :: lg)) := ev_goodV hw_168 hw_169 hw_170 hw_132 hw_167
theorem gS_R_102 : GoodIn lg (va_wsS "HistoryJudgeModel" 102 y_R_within (Jvm.Cond.code y_R_within prog_9_method_4_code 3 (some .boolean) :: lg)) := ev_goodS hw_172 hw_173 hw_132 hw_171
theorem gV_R_105 : GoodIn lg (wsV "HistoryJudgeModel" 105 "HistoryJudgeModel" y_R_fail (Jvm.Cond.code y_R_fail prog_9_method_3_code 2 (some .int) :: lg)) := ev_goodV hw_175 hw_176 hw_177 hw_132 hw_174
theorem gV_R_108 : GoodIn lg (wsV "HistoryJudgeModel" 108 "HistoryJudgeModel" y_R_keep (Jvm.Cond.code y_R_keep prog_9_method_14_code 2 none :: lg)) := ev_goodV hw_179 hw_180 hw_181 hw_132 hw_178
theorem gV_R_111 : GoodIn lg (wsV "HistoryJudgeModel" 111 "HistoryJudgeModel" y_R_insert (Jvm.Cond.code y_R_insert prog_9_method_17_code 7 (some .int) :: lg)) := ev_goodV hw_183 hw_184 hw_185 hw_132 hw_182
theorem gV_R_115 : GoodIn lg (wsV "HistoryJudgeModel" 115 "HistoryJudgeModel" y_R_valid (Jvm.Cond.code y_R_valid prog_9_method_13_code 4 (some .boolean) :: lg)) := ev_goodV hw_187 hw_188 hw_189 hw_132 hw_186
theorem gV_R_119 : GoodIn lg (wsV "HistoryJudgeModel" 119 "HistoryJudgeModel" y_R_putBack (Jvm.Cond.code y_R_putBack prog_9_method_15_code 2 none :: lg)) := ev_goodV hw_192 hw_193 hw_194 hw_132 hw_191
theorem gV_R_134 : GoodIn lg (wsV "HistoryJudgeModel" 134 "HistoryJudgeModel" y_R_drawn (Jvm.Cond.code y_R_drawn prog_9_method_22_code 2 (some .int) :: lg)) := ev_goodV hw_199 hw_200 hw_201 hw_132 hw_198
theorem gV_R_137 : GoodIn lg (wsV "HistoryJudgeModel" 137 "HistoryJudgeModel" y_R_before (Jvm.Cond.code y_R_before prog_9_method_24_code 6 (some .int) :: lg)) := ev_goodV hw_203 hw_204 hw_205 hw_132 hw_202
theorem gV_R_141 : GoodIn lg (wsV "HistoryJudgeModel" 141 "HistoryJudgeModel" y_R_clear (Jvm.Cond.code y_R_clear prog_9_method_21_code 3 (some .int) :: lg)) := ev_goodV hw_207 hw_208 hw_209 hw_132 hw_206
theorem gV_R_144 : GoodIn lg (wsV "HistoryJudgeModel" 144 "HistoryJudgeModel" y_R_tried (Jvm.Cond.code y_R_tried prog_9_method_23_code 12 none :: lg)) := ev_goodV hw_211 hw_212 hw_213 hw_132 hw_210
theorem gV_R_151 : GoodIn lg (wsV "HistoryJudgeModel" 151 "HistoryJudgeModel" y_R_isLate (Jvm.Cond.code y_R_isLate prog_9_method_28_code 2 (some .boolean) :: lg)) := ev_goodV hw_221 hw_222 hw_223 hw_132 hw_220
theorem gV_R_154 : GoodIn lg (wsV "HistoryJudgeModel" 154 "HistoryJudgeModel" y_R_twoParts (Jvm.Cond.code y_R_twoParts prog_9_method_27_code 2 (some .boolean) :: lg)) := ev_goodV hw_225 hw_226 hw_227 hw_132 hw_224
theorem gV_R_163 : GoodIn lg (wsV "HistoryJudgeModel" 163 "HistoryJudgeModel" y_R_does (Jvm.Cond.code y_R_does prog_9_method_30_code 5 none :: lg)) := ev_goodV hw_230 hw_231 hw_232 hw_132 hw_229
theorem gV_R_160 : GoodIn lg (wsV "HistoryJudgeModel" 160 "HistoryJudgeModel" y_R_source (Jvm.Cond.code y_R_source prog_9_method_29_code 2 (some .int) :: lg)) := ev_goodV hw_234 hw_235 hw_236 hw_132 hw_233
theorem gV_R_157 : GoodIn lg (wsV "HistoryJudgeModel" 157 "HistoryJudgeModel" y_R_calls (Jvm.Cond.code y_R_calls prog_9_method_31_code 2 none :: lg)) := ev_goodV hw_238 hw_239 hw_240 hw_132 hw_237
theorem gV_R_173 : GoodIn lg (wsV "HistoryJudgeModel" 173 "HistoryJudgeModel" y_R_hasLeft (Jvm.Cond.code y_R_hasLeft prog_9_method_34_code 2 (some .boolean) :: lg)) := ev_goodV hw_244 hw_245 hw_246 hw_132 hw_243
theorem gV_R_169 : GoodIn lg (wsV "HistoryJudgeModel" 169 "HistoryJudgeModel" y_R_happens (Jvm.Cond.code y_R_happens prog_9_method_33_code 5 none :: lg)) := ev_goodV hw_249 hw_250 hw_251 hw_132 hw_248
theorem gV_R_166 : GoodIn lg (wsV "HistoryJudgeModel" 166 "HistoryJudgeModel" y_R_events (Jvm.Cond.code y_R_events prog_9_method_32_code 2 (some .int) :: lg)) := ev_goodV hw_253 hw_254 hw_255 hw_132 hw_252
theorem gV_R_176 : GoodIn lg (wsV "HistoryJudgeModel" 176 "HistoryJudgeModel" y_R_right (Jvm.Cond.code y_R_right prog_9_method_36_code 5 (some .int) :: lg)) := ev_goodV hw_258 hw_259 hw_260 hw_132 hw_257
theorem gV_R_179 : GoodIn lg (wsV "HistoryJudgeModel" 179 "HistoryJudgeModel" y_R_go (Jvm.Cond.code y_R_go prog_9_method_35_code 4 none :: lg)) := ev_goodV hw_262 hw_263 hw_264 hw_132 hw_261
theorem gV_R_188 : GoodIn lg (wsV "HistoryJudgeModel" 188 "HistoryJudgeModel" y_R_explains (Jvm.Cond.code y_R_explains prog_9_method_37_code 7 (some .boolean) :: lg)) := ev_goodV hw_270 hw_271 hw_272 hw_132 hw_269
theorem gV_R_197 : GoodIn lg (wsV "HistoryJudgeModel" 197 "HistoryJudgeModel" y_R_judged (Jvm.Cond.code y_R_judged prog_9_method_38_code 4 (some .boolean) :: lg)) := ev_goodV hw_275 hw_276 hw_277 hw_132 hw_274
theorem gV_R_204 : GoodIn lg (wsV "HistoryJudgeModel" 204 "HistoryJudgeModel" y_R_failed (Jvm.Cond.code y_R_failed prog_9_method_40_code 6 (some .int) :: lg)) := ev_goodV hw_281 hw_282 hw_283 hw_132 hw_280
theorem gV_R_211 : GoodIn lg (wsV "HistoryJudgeModel" 211 "HistoryJudgeModel" y_R_takes (Jvm.Cond.code y_R_takes prog_9_method_42_code 5 (some .boolean) :: lg)) := ev_goodV hw_285 hw_286 hw_287 hw_132 hw_284
theorem gV_R_215 : GoodIn lg (wsV "HistoryJudgeModel" 215 "HistoryJudgeModel" y_R_raise (Jvm.Cond.code y_R_raise prog_9_method_19_code 9 none :: lg)) := ev_goodV hw_289 hw_290 hw_291 hw_132 hw_288
theorem gV_R_208 : GoodIn lg (wsV "HistoryJudgeModel" 208 "HistoryJudgeModel" y_R_leaveOut (Jvm.Cond.code y_R_leaveOut prog_9_method_18_code 4 (some .boolean) :: lg)) := ev_goodV hw_293 hw_294 hw_295 hw_132 hw_292
theorem gV_R_218 : GoodIn lg (wsV "HistoryJudgeModel" 218 "HistoryJudgeModel" y_R_smaller (Jvm.Cond.code y_R_smaller prog_9_method_43_code 7 (some .boolean) :: lg)) := ev_goodV hw_297 hw_298 hw_299 hw_132 hw_296
theorem gV_M_48 : GoodIn lg (wsV "HistoryJudge$Machine" 48 "HistoryJudge$Program" y_P_end (Jvm.Cond.code y_P_end prog_6_method_4_code 2 (some .int) :: lg)) := ev_goodV hw_306 hw_31 hw_32 hw_6 hw_29
theorem gV_M_63 : GoodIn lg (wsV "HistoryJudge$Machine" 63 "HistoryJudge$Machine" y_M_numberOf (Jvm.Cond.code y_M_numberOf prog_4_method_4_code 2 (some .int) :: lg)) := ev_goodV hw_316 hw_317 hw_318 hw_319 hw_315
theorem gV_M_66 : GoodIn lg (wsV "HistoryJudge$Machine" 66 "HistoryJudge$Machine" y_M_isSplit (Jvm.Cond.code y_M_isSplit prog_4_method_5_code 2 (some .boolean) :: lg)) := ev_goodV hw_321 hw_322 hw_323 hw_319 hw_320
theorem gS_M_73 : GoodIn lg (va_wsS "HistoryJudge$Machine" 73 y_O_held (Jvm.Cond.code y_O_held prog_5_method_3_code 2 (some .int) :: lg)) := ev_goodS hw_325 hw_64 hw_52 hw_62
theorem gS_M_70 : GoodIn lg (va_wsS "HistoryJudge$Machine" 70 y_O_source (Jvm.Cond.code y_O_source prog_5_method_5_code 1 (some .int) :: lg)) := ev_goodS hw_326 hw_55 hw_52 hw_53
theorem gS_M_92 : GoodIn lg (va_wsS "HistoryJudge$Machine" 92 y_O_answer (Jvm.Cond.code y_O_answer prog_5_method_7_code 4 (some .int) :: lg)) := ev_goodS hw_328 hw_329 hw_52 hw_327
theorem gV_M_85 : GoodIn lg (wsV "HistoryJudge$Machine" 85 "HistoryJudge$Machine" y_M_isLate (Jvm.Cond.code y_M_isLate prog_4_method_6_code 2 (some .boolean) :: lg)) := ev_goodV hw_331 hw_332 hw_333 hw_319 hw_330
theorem gS_M_88 : GoodIn lg (va_wsS "HistoryJudge$Machine" 88 y_O_after (Jvm.Cond.code y_O_after prog_5_method_8_code 7 (some .int) :: lg)) := ev_goodS hw_334 hw_67 hw_52 hw_65
theorem gV_M_81 : GoodIn lg (wsV "HistoryJudge$Machine" 81 "HistoryJudge$Machine" y_M_act (Jvm.Cond.code y_M_act prog_4_method_7_code 4 none :: lg)) := ev_goodV hw_336 hw_337 hw_338 hw_319 hw_335
theorem gV_M_77 : GoodIn lg (wsV "HistoryJudge$Machine" 77 "HistoryJudge$Machine" y_M_actByNote (Jvm.Cond.code y_M_actByNote prog_4_method_8_code 6 none :: lg)) := ev_goodV hw_340 hw_341 hw_342 hw_319 hw_339
theorem gV_M_51 : GoodIn lg (wsV "HistoryJudge$Machine" 51 "HistoryJudge$Machine" y_M_step (Jvm.Cond.code y_M_step prog_4_method_3_code 7 none :: lg)) := ev_goodV hw_345 hw_346 hw_347 hw_319 hw_344
theorem gV_M_42 : GoodIn lg (wsV "HistoryJudge$Machine" 42 "HistoryJudge$Program" y_P_start (Jvm.Cond.code y_P_start prog_6_method_3_code 2 (some .int) :: lg)) := ev_goodV hw_348 hw_27 hw_28 hw_6 hw_25
theorem gV_T_53 : GoodIn lg (wsV "HistoryJudge$Tester" 53 "HistoryJudge$Machine" y_M_perform (Jvm.Cond.code y_M_perform prog_4_method_2_code 11 none :: lg)) := ev_goodV hw_350 hw_351 hw_352 hw_319 hw_349
theorem gV_J_17 : GoodIn lg (wsV "HistoryJudge$Judge" 17 "HistoryJudge$Program" y_P_end (Jvm.Cond.code y_P_end prog_6_method_4_code 2 (some .int) :: lg)) := ev_goodV hw_354 hw_31 hw_32 hw_6 hw_29
theorem gV_J_31 : GoodIn lg (wsV "HistoryJudge$Judge" 31 "HistoryJudge$Program" y_P_start (Jvm.Cond.code y_P_start prog_6_method_3_code 2 (some .int) :: lg)) := ev_goodV hw_355 hw_27 hw_28 hw_6 hw_25
theorem gS_J_55 : GoodIn lg (va_wsS "HistoryJudge$Judge" 55 y_O_answer (Jvm.Cond.code y_O_answer prog_5_method_7_code 4 (some .int) :: lg)) := ev_goodS hw_360 hw_329 hw_52 hw_327
theorem gS_J_23 : GoodIn lg (va_wsS "HistoryJudge$Judge" 23 y_J_answersSo (Jvm.Cond.code y_J_answersSo prog_3_method_4_code 5 (some .boolean) :: lg)) := ev_goodS hw_363 hw_364 hw_365 hw_362
theorem gS_J_62 : GoodIn lg (va_wsS "HistoryJudge$Judge" 62 y_O_after (Jvm.Cond.code y_O_after prog_5_method_8_code 7 (some .int) :: lg)) := ev_goodS hw_366 hw_67 hw_52 hw_65
theorem gS_J_27 : GoodIn lg (va_wsS "HistoryJudge$Judge" 27 y_J_after (Jvm.Cond.code y_J_after prog_3_method_5_code 4 (some .int) :: lg)) := ev_goodS hw_368 hw_369 hw_365 hw_367
theorem gV_J_34 : GoodIn lg (wsV "HistoryJudge$Judge" 34 "HistoryJudge$Judge" y_J_search (Jvm.Cond.code y_J_search prog_3_method_3_code 12 (some .boolean) :: lg)) := ev_goodV hw_371 hw_372 hw_373 hw_365 hw_370
theorem gV_T_57 : GoodIn lg (wsV "HistoryJudge$Tester" 57 "HistoryJudge$Judge" y_J_explains (Jvm.Cond.code y_J_explains prog_3_method_2_code 6 (some .boolean) :: lg)) := ev_goodV hw_377 hw_378 hw_379 hw_365 hw_376
theorem gV_T_61 : GoodIn lg (wsV "HistoryJudge$Tester" 61 "HistoryJudge$Program" y_P_size (Jvm.Cond.code y_P_size prog_6_method_2_code 1 (some .int) :: lg)) := ev_goodV hw_382 hw_4 hw_5 hw_6 hw_2
theorem gV_T_70 : GoodIn lg (wsV "HistoryJudge$Tester" 70 "HistoryJudge$Draws" y_D_restart (Jvm.Cond.code y_D_restart prog_2_method_2_code 3 none :: lg)) := ev_goodV hw_388 hw_389 hw_390 hw_84 hw_387
theorem gV_T_75 : GoodIn lg (wsV "HistoryJudge$Tester" 75 "HistoryJudge$Draws" y_D_below (Jvm.Cond.code y_D_below prog_2_method_3_code 3 (some .int) :: lg)) := ev_goodV hw_392 hw_82 hw_83 hw_84 hw_80
theorem gV_T_79 : GoodIn lg (wsV "HistoryJudge$Tester" 79 "HistoryJudge$Tester" y_T_test (Jvm.Cond.code y_T_test prog_7_method_2_code 5 (some .boolean) :: lg)) := ev_goodV hw_394 hw_395 hw_396 hw_397 hw_393
theorem gI_P_init : GoodIn lg (Jvm.Cond.code y_P_init prog_6_method_1_code 1 none :: lg) := ev_goodI hw_406
theorem gI_M_init : GoodIn lg (Jvm.Cond.code y_M_init prog_4_method_1_code 1 none :: lg) := ev_goodI hw_414
theorem gI_J_init : GoodIn lg (Jvm.Cond.code y_J_init prog_3_method_1_code 1 none :: lg) := ev_goodI hw_419
theorem gI_D_init : GoodIn lg (Jvm.Cond.code y_D_init prog_2_method_1_code 1 none :: lg) := ev_goodI hw_424
theorem gI_T_init : GoodIn lg (Jvm.Cond.code y_T_init prog_7_method_1_code 1 none :: lg) := ev_goodI hw_426
abbrev mu_P_size : ev_mu := (prog_6_method_2_code, 1, (some .int), y_P_size, { frames := 0, cells := 0, slots := 0, locals := 0 }, 0, 0)
abbrev mu_P_empty : ev_mu := (prog_6_method_10_code, 2, none, y_P_empty, { frames := 0, cells := 0, slots := 0, locals := 0 }, 0, 0)
abbrev mu_H_clear : ev_mu := (prog_1_method_3_code, 2, (some .int), y_H_clear, { frames := 1, cells := 0, slots := 0, locals := 21 }, 0, 0)
abbrev mu_H_isBelow : ev_mu := (prog_1_method_15_code, 2, (some .boolean), y_H_isBelow, { frames := 0, cells := 0, slots := 0, locals := 0 }, 0, 0)
abbrev mu_P_copyFrom : ev_mu := (prog_6_method_11_code, 3, none, y_P_copyFrom, { frames := 1, cells := 0, slots := 0, locals := 60 }, 0, 0)
abbrev mu_P_start : ev_mu := (prog_6_method_3_code, 2, (some .int), y_P_start, { frames := 0, cells := 0, slots := 0, locals := 0 }, 0, 0)
abbrev mu_P_end : ev_mu := (prog_6_method_4_code, 2, (some .int), y_P_end, { frames := 1, cells := 0, slots := 0, locals := 21 }, 0, 0)
abbrev mu_P_put : ev_mu := (prog_6_method_19_code, 5, none, y_P_put, { frames := 0, cells := 0, slots := 0, locals := 0 }, 0, 0)
abbrev mu_P_shiftUp : ev_mu := (prog_6_method_20_code, 4, none, y_P_shiftUp, { frames := 1, cells := 0, slots := 0, locals := 24 }, 0, 0)
abbrev mu_P_renumber : ev_mu := (prog_6_method_21_code, 5, none, y_P_renumber, { frames := 1, cells := 0, slots := 0, locals := 20 }, 0, 0)
abbrev mu_P_append : ev_mu := (prog_6_method_12_code, 6, none, y_P_append, { frames := 2, cells := 0, slots := 0, locals := 47 }, 0, 0)
abbrev mu_O_isOpen : ev_mu := (prog_5_method_4_code, 2, (some .boolean), y_O_isOpen, { frames := 0, cells := 0, slots := 0, locals := 0 }, 0, 0)
abbrev mu_O_source : ev_mu := (prog_5_method_5_code, 1, (some .int), y_O_source, { frames := 0, cells := 0, slots := 0, locals := 0 }, 0, 0)
abbrev mu_O_allows : ev_mu := (prog_5_method_6_code, 3, (some .boolean), y_O_allows, { frames := 1, cells := 0, slots := 0, locals := 21 }, 0, 0)
abbrev mu_O_content : ev_mu := (prog_5_method_2_code, 2, (some .int), y_O_content, { frames := 0, cells := 0, slots := 0, locals := 0 }, 0, 0)
abbrev mu_O_held : ev_mu := (prog_5_method_3_code, 2, (some .int), y_O_held, { frames := 0, cells := 0, slots := 0, locals := 0 }, 0, 0)
abbrev mu_O_after : ev_mu := (prog_5_method_8_code, 7, (some .int), y_O_after, { frames := 1, cells := 0, slots := 0, locals := 21 }, 0, 0)
abbrev mu_P_isValidBeside : ev_mu := (prog_6_method_17_code, 6, (some .boolean), y_P_isValidBeside, { frames := 2, cells := 0, slots := 0, locals := 47 }, 0, 0)
abbrev mu_P_isValid : ev_mu := (prog_6_method_16_code, 5, (some .boolean), y_P_isValid, { frames := 3, cells := 0, slots := 0, locals := 72 }, 0, 0)
abbrev mu_H_appendIfValid : ev_mu := (prog_1_method_16_code, 5, (some .boolean), y_H_appendIfValid, { frames := 4, cells := 0, slots := 0, locals := 96 }, 0, 0)
abbrev mu_D_below : ev_mu := (prog_2_method_3_code, 3, (some .int), y_D_below, { frames := 0, cells := 0, slots := 0, locals := 0 }, 0, 0)
abbrev mu_P_known : ev_mu := (prog_6_method_7_code, 2, (some .int), y_P_known, { frames := 0, cells := 0, slots := 0, locals := 0 }, 0, 0)
abbrev mu_P_knownAt : ev_mu := (prog_6_method_8_code, 3, (some .int), y_P_knownAt, { frames := 1, cells := 0, slots := 0, locals := 21 }, 0, 0)
abbrev mu_H_drawCommand : ev_mu := (prog_1_method_18_code, 7, (some .boolean), y_H_drawCommand, { frames := 5, cells := 0, slots := 0, locals := 120 }, 0, 0)
abbrev mu_H_drawBranch : ev_mu := (prog_1_method_17_code, 6, none, y_H_drawBranch, { frames := 6, cells := 0, slots := 0, locals := 146 }, 0, 0)
abbrev mu_P_lower : ev_mu := (prog_6_method_15_code, 4, (some .boolean), y_P_lower, { frames := 1, cells := 0, slots := 0, locals := 20 }, 0, 0)
abbrev mu_P_hasRoom : ev_mu := (prog_6_method_6_code, 2, (some .boolean), y_P_hasRoom, { frames := 0, cells := 0, slots := 0, locals := 0 }, 0, 0)
abbrev mu_P_promote : ev_mu := (prog_6_method_14_code, 10, (some .boolean), y_P_promote, { frames := 2, cells := 0, slots := 0, locals := 47 }, 0, 0)
abbrev mu_P_isNeeded : ev_mu := (prog_6_method_18_code, 4, (some .boolean), y_P_isNeeded, { frames := 1, cells := 0, slots := 0, locals := 20 }, 0, 0)
abbrev mu_P_branchOf : ev_mu := (prog_6_method_5_code, 2, (some .int), y_P_branchOf, { frames := 1, cells := 0, slots := 0, locals := 21 }, 0, 0)
abbrev mu_P_remove : ev_mu := (prog_6_method_13_code, 4, (some .boolean), y_P_remove, { frames := 2, cells := 0, slots := 0, locals := 44 }, 0, 0)
abbrev mu_H_prepareCandidate : ev_mu := (prog_1_method_19_code, 3, (some .boolean), y_H_prepareCandidate, { frames := 3, cells := 0, slots := 0, locals := 82 }, 0, 0)
abbrev mu_P_mayTake : ev_mu := (prog_6_method_9_code, 4, (some .boolean), y_P_mayTake, { frames := 2, cells := 0, slots := 0, locals := 42 }, 0, 0)
abbrev mu_O_answer : ev_mu := (prog_5_method_7_code, 4, (some .int), y_O_answer, { frames := 1, cells := 0, slots := 0, locals := 21 }, 0, 0)
abbrev mu_R_thrown : ev_mu := (prog_9_method_2_code, 1, (some .int), y_R_thrown, { frames := 0, cells := 0, slots := 0, locals := 0 }, 0, 0)
abbrev mu_R_fail : ev_mu := (prog_9_method_3_code, 2, (some .int), y_R_fail, { frames := 0, cells := 0, slots := 0, locals := 0 }, 0, 0)
abbrev mu_R_within : ev_mu := (prog_9_method_4_code, 3, (some .boolean), y_R_within, { frames := 0, cells := 0, slots := 0, locals := 0 }, 0, 0)
abbrev mu_R_many : ev_mu := (prog_9_method_5_code, 1, (some .int), y_R_many, { frames := 0, cells := 0, slots := 0, locals := 0 }, 0, 0)
abbrev mu_R_branch : ev_mu := (prog_9_method_6_code, 2, (some .int), y_R_branch, { frames := 0, cells := 0, slots := 0, locals := 0 }, 0, 0)
abbrev mu_R_first : ev_mu := (prog_9_method_7_code, 2, (some .int), y_R_first, { frames := 0, cells := 0, slots := 0, locals := 0 }, 0, 0)
abbrev mu_R_mayStand : ev_mu := (prog_9_method_8_code, 4, (some .boolean), y_R_mayStand, { frames := 1, cells := 0, slots := 0, locals := 21 }, 0, 0)
abbrev mu_R_placed : ev_mu := (prog_9_method_9_code, 6, (some .int), y_R_placed, { frames := 1, cells := 0, slots := 0, locals := 21 }, 0, 0)
abbrev mu_R_isOrder : ev_mu := (prog_9_method_10_code, 4, (some .boolean), y_R_isOrder, { frames := 0, cells := 0, slots := 0, locals := 0 }, 0, 0)
abbrev mu_R_finds : ev_mu := (prog_9_method_11_code, 4, (some .boolean), y_R_finds, { frames := 0, cells := 0, slots := 0, locals := 0 }, 0, 0)
abbrev mu_R_fits : ev_mu := (prog_9_method_12_code, 4, (some .boolean), y_R_fits, { frames := 2, cells := 0, slots := 0, locals := 46 }, 0, 0)
abbrev mu_R_valid : ev_mu := (prog_9_method_13_code, 4, (some .boolean), y_R_valid, { frames := 3, cells := 0, slots := 0, locals := 69 }, 0, 0)
abbrev mu_R_keep : ev_mu := (prog_9_method_14_code, 2, none, y_R_keep, { frames := 0, cells := 0, slots := 0, locals := 0 }, 0, 0)
abbrev mu_R_putBack : ev_mu := (prog_9_method_15_code, 2, none, y_R_putBack, { frames := 0, cells := 0, slots := 0, locals := 0 }, 0, 0)
abbrev mu_R_copy : ev_mu := (prog_9_method_16_code, 3, none, y_R_copy, { frames := 0, cells := 0, slots := 0, locals := 0 }, 0, 0)
abbrev mu_R_insert : ev_mu := (prog_9_method_17_code, 7, (some .int), y_R_insert, { frames := 1, cells := 0, slots := 0, locals := 22 }, 0, 0)
abbrev mu_R_leaveOut : ev_mu := (prog_9_method_18_code, 4, (some .boolean), y_R_leaveOut, { frames := 1, cells := 0, slots := 0, locals := 22 }, 0, 0)
abbrev mu_R_raise : ev_mu := (prog_9_method_19_code, 9, none, y_R_raise, { frames := 1, cells := 0, slots := 0, locals := 22 }, 0, 0)
abbrev mu_R_add : ev_mu := (prog_9_method_20_code, 6, (some .int), y_R_add, { frames := 4, cells := 0, slots := 0, locals := 92 }, 0, 0)
abbrev mu_R_clear : ev_mu := (prog_9_method_21_code, 3, (some .int), y_R_clear, { frames := 1, cells := 0, slots := 0, locals := 20 }, 0, 0)
abbrev mu_R_drawn : ev_mu := (prog_9_method_22_code, 2, (some .int), y_R_drawn, { frames := 0, cells := 0, slots := 0, locals := 0 }, 0, 0)
abbrev mu_R_before : ev_mu := (prog_9_method_24_code, 6, (some .int), y_R_before, { frames := 2, cells := 0, slots := 0, locals := 44 }, 0, 0)
abbrev mu_R_tried : ev_mu := (prog_9_method_23_code, 12, none, y_R_tried, { frames := 4, cells := 0, slots := 0, locals := 92 }, 0, 0)
abbrev mu_R_make : ev_mu := (prog_9_method_25_code, 7, (some .int), y_R_make, { frames := 5, cells := 0, slots := 0, locals := 123 }, 0, 0)
abbrev mu_R_flaws : ev_mu := (prog_9_method_26_code, 3, (some .int), y_R_flaws, { frames := 1, cells := 0, slots := 0, locals := 22 }, 0, 0)
abbrev mu_R_twoParts : ev_mu := (prog_9_method_27_code, 2, (some .boolean), y_R_twoParts, { frames := 0, cells := 0, slots := 0, locals := 0 }, 0, 0)
abbrev mu_R_isLate : ev_mu := (prog_9_method_28_code, 2, (some .boolean), y_R_isLate, { frames := 0, cells := 0, slots := 0, locals := 0 }, 0, 0)
abbrev mu_R_source : ev_mu := (prog_9_method_29_code, 2, (some .int), y_R_source, { frames := 0, cells := 0, slots := 0, locals := 0 }, 0, 0)
abbrev mu_R_does : ev_mu := (prog_9_method_30_code, 5, none, y_R_does, { frames := 1, cells := 0, slots := 0, locals := 21 }, 0, 0)
abbrev mu_R_calls : ev_mu := (prog_9_method_31_code, 2, none, y_R_calls, { frames := 0, cells := 0, slots := 0, locals := 0 }, 0, 0)
abbrev mu_R_events : ev_mu := (prog_9_method_32_code, 2, (some .int), y_R_events, { frames := 1, cells := 0, slots := 0, locals := 21 }, 0, 0)
abbrev mu_R_happens : ev_mu := (prog_9_method_33_code, 5, none, y_R_happens, { frames := 2, cells := 0, slots := 0, locals := 45 }, 0, 0)
abbrev mu_R_hasLeft : ev_mu := (prog_9_method_34_code, 2, (some .boolean), y_R_hasLeft, { frames := 1, cells := 0, slots := 0, locals := 21 }, 0, 0)
abbrev mu_R_go : ev_mu := (prog_9_method_35_code, 4, none, y_R_go, { frames := 3, cells := 0, slots := 0, locals := 69 }, 0, 0)
abbrev mu_R_right : ev_mu := (prog_9_method_36_code, 5, (some .int), y_R_right, { frames := 0, cells := 0, slots := 0, locals := 0 }, 0, 0)
abbrev mu_R_explains : ev_mu := (prog_9_method_37_code, 7, (some .boolean), y_R_explains, { frames := 2, cells := 0, slots := 0, locals := 46 }, 0, 0)
abbrev mu_R_judged : ev_mu := (prog_9_method_38_code, 4, (some .boolean), y_R_judged, { frames := 4, cells := 0, slots := 0, locals := 92 }, 0, 0)
abbrev mu_R_run : ev_mu := (prog_9_method_39_code, 2, (some .boolean), y_R_run, { frames := 5, cells := 0, slots := 0, locals := 115 }, 0, 0)
abbrev mu_R_failed : ev_mu := (prog_9_method_40_code, 6, (some .int), y_R_failed, { frames := 5, cells := 0, slots := 0, locals := 115 }, 0, 0)
abbrev mu_R_fails : ev_mu := (prog_9_method_41_code, 4, (some .int), y_R_fails, { frames := 6, cells := 0, slots := 0, locals := 140 }, 0, 0)
abbrev mu_R_takes : ev_mu := (prog_9_method_42_code, 5, (some .boolean), y_R_takes, { frames := 6, cells := 0, slots := 0, locals := 140 }, 0, 0)
abbrev mu_R_smaller : ev_mu := (prog_9_method_43_code, 7, (some .boolean), y_R_smaller, { frames := 7, cells := 0, slots := 0, locals := 164 }, 0, 0)
abbrev mu_R_shrink : ev_mu := (prog_9_method_44_code, 5, (some .int), y_R_shrink, { frames := 8, cells := 0, slots := 0, locals := 190 }, 0, 0)
abbrev mu_R_command : ev_mu := (prog_9_method_45_code, 3, (some .int), y_R_command, { frames := 1, cells := 0, slots := 0, locals := 22 }, 0, 0)
abbrev mu_R_event : ev_mu := (prog_9_method_46_code, 3, (some .int), y_R_event, { frames := 1, cells := 0, slots := 0, locals := 22 }, 0, 0)
abbrev mu_R_order : ev_mu := (prog_9_method_47_code, 2, (some .int), y_R_order, { frames := 2, cells := 0, slots := 0, locals := 46 }, 0, 0)
abbrev mu_R_cell : ev_mu := (prog_9_method_48_code, 2, (some .int), y_R_cell, { frames := 1, cells := 0, slots := 0, locals := 22 }, 0, 0)
abbrev mu_R_count : ev_mu := (prog_9_method_49_code, 2, (some .int), y_R_count, { frames := 1, cells := 0, slots := 0, locals := 22 }, 0, 0)
abbrev mu_R_tally : ev_mu := (prog_9_method_50_code, 2, (some .int), y_R_tally, { frames := 1, cells := 0, slots := 0, locals := 22 }, 0, 0)
abbrev mu_M_numberOf : ev_mu := (prog_4_method_4_code, 2, (some .int), y_M_numberOf, { frames := 0, cells := 0, slots := 0, locals := 0 }, 0, 0)
abbrev mu_M_isSplit : ev_mu := (prog_4_method_5_code, 2, (some .boolean), y_M_isSplit, { frames := 0, cells := 0, slots := 0, locals := 0 }, 0, 0)
abbrev mu_M_isLate : ev_mu := (prog_4_method_6_code, 2, (some .boolean), y_M_isLate, { frames := 0, cells := 0, slots := 0, locals := 0 }, 0, 0)
abbrev mu_M_act : ev_mu := (prog_4_method_7_code, 4, none, y_M_act, { frames := 2, cells := 0, slots := 0, locals := 47 }, 0, 0)
abbrev mu_M_actByNote : ev_mu := (prog_4_method_8_code, 6, none, y_M_actByNote, { frames := 2, cells := 0, slots := 0, locals := 47 }, 0, 0)
abbrev mu_M_step : ev_mu := (prog_4_method_3_code, 7, none, y_M_step, { frames := 3, cells := 0, slots := 0, locals := 72 }, 0, 0)
abbrev mu_M_perform : ev_mu := (prog_4_method_2_code, 11, none, y_M_perform, { frames := 4, cells := 0, slots := 0, locals := 98 }, 0, 0)
abbrev mu_J_answersSo : ev_mu := (prog_3_method_4_code, 5, (some .boolean), y_J_answersSo, { frames := 2, cells := 0, slots := 0, locals := 44 }, 0, 0)
abbrev mu_J_after : ev_mu := (prog_3_method_5_code, 4, (some .int), y_J_after, { frames := 2, cells := 0, slots := 0, locals := 47 }, 0, 0)
abbrev mu_J_search (d : Nat) : ev_mu := (prog_3_method_3_code, 12, (some .boolean), y_J_search, { frames := d + 3, cells := 0, slots := 0, locals := d * 31 + 70 }, 0, 0)
abbrev mu_J_explains : ev_mu := (prog_3_method_2_code, 6, (some .boolean), y_J_explains, { frames := 14, cells := 0, slots := 0, locals := 411 }, 0, 0)
abbrev mu_T_test : ev_mu := (prog_7_method_2_code, 5, (some .boolean), y_T_test, { frames := 15, cells := 0, slots := 0, locals := 436 }, 0, 0)
abbrev mu_D_restart : ev_mu := (prog_2_method_2_code, 3, none, y_D_restart, { frames := 0, cells := 0, slots := 0, locals := 0 }, 0, 0)
abbrev mu_T_firstFailure : ev_mu := (prog_7_method_3_code, 6, (some .int), y_T_firstFailure, { frames := 16, cells := 0, slots := 0, locals := 460 }, 0, 0)
abbrev mu_H_init : ev_mu := (prog_1_method_1_code, 1, none, y_H_init, { frames := 3, cells := 24, slots := 199, locals := 52 }, 24, 199)
abbrev mu_P_init : ev_mu := (prog_6_method_1_code, 1, none, y_P_init, { frames := 1, cells := 4, slots := 45, locals := 12 }, 4, 45)
abbrev mu_T_init : ev_mu := (prog_7_method_1_code, 1, none, y_T_init, { frames := 2, cells := 12, slots := 91, locals := 32 }, 12, 91)
abbrev mu_M_init : ev_mu := (prog_4_method_1_code, 1, none, y_M_init, { frames := 1, cells := 7, slots := 65, locals := 12 }, 7, 65)
abbrev mu_J_init : ev_mu := (prog_3_method_1_code, 1, none, y_J_init, { frames := 1, cells := 1, slots := 8, locals := 12 }, 1, 8)
abbrev mu_D_init : ev_mu := (prog_2_method_1_code, 1, none, y_D_init, { frames := 1, cells := 0, slots := 0, locals := 12 }, 0, 0)
abbrev mu_R_init : ev_mu := (prog_9_method_1_code, 1, none, y_R_init, { frames := 1, cells := 18, slots := 185, locals := 12 }, 18, 185)
theorem hfs_H : ∀ j, j < 6 → defaultValue (tyX_H j) = vp_V [.null, .null, .null, .null, .int 0, .int 0] j := by decide +kernel
theorem hfs_P : ∀ j, j < 4 → defaultValue (tyX_P j) = vp_V [.null, .null, .null, .null] j := by decide +kernel
theorem hfs_T : ∀ j, j < 9 → defaultValue (tyX_T j) = vp_V [.null, .null, .null, .int 0, .int 0, .int 0, .int 0, .int 0, .null] j := by decide +kernel
theorem hfs_M : ∀ j, j < 9 → defaultValue (tyX_M j) = vp_V [.null, .null, .null, .null, .int 0, .null, .null, .null, .int 0] j := by decide +kernel
theorem hfs_J : ∀ j, j < 1 → defaultValue (tyX_J j) = vp_V [.null] j := by decide +kernel
theorem hfs_D : ∀ j, j < 1 → defaultValue (tyX_D j) = vp_V [.long 0] j := by decide +kernel
theorem hfs_R : ∀ j, j < 28 → defaultValue (tyX_R j) = vp_V [.int 0, .null, .null, .null, .null, .null, .null, .int 0, .long 0, .null, .null, .null, .null, .int 0, .int 0, .null, .null, .null, .null, .null, .null, .null, .int 0, .int 0, .int 0, .int 0, .int 0, .null] j := by decide +kernel
end
section
def dl_P_size : List (Nat × Instr × Nat) := [(0, .aload_n 0, 1), (1, .getfield 9, 3), (4, .iconst 0, 1), (5, .iaload, 1), (6, .aload_n 0, 1), (7, .getfield 9, 3), (10, .iconst 1, 1), (11, .iaload, 1), (12, .iadd, 1), (13, .aload_n 0, 1), (14, .getfield 9, 3), (17, .iconst 2, 1), (18, .iaload, 1), (19, .iadd, 1), (20, .ireturn, 1)]
theorem dc_P_size : dl_P_size.all (dq prog_6_method_2_code) = true := by decide +kernel
def dl_P_empty : List (Nat × Instr × Nat) := [(0, .iconst 0, 1), (1, .istore_n 1, 1), (2, .iload_n 1, 1), (3, .iconst 3, 1), (4, .if_icmp .ge 16, 3), (7, .aload_n 0, 1), (8, .getfield 9, 3), (11, .iload_n 1, 1), (12, .iconst 0, 1), (13, .iastore, 1), (14, .iinc 1 1, 3), (17, .goto (-15), 3), (20, .return_, 1)]
theorem dc_P_empty : dl_P_empty.all (dq prog_6_method_10_code) = true := by decide +kernel
def dl_H_clear : List (Nat × Instr × Nat) := [(0, .aload_n 0, 1), (1, .getfield 12, 3), (4, .invokevirtual 79, 3), (7, .istore_n 1, 1), (8, .aload_n 0, 1), (9, .getfield 12, 3), (12, .invokevirtual 83, 3), (15, .aload_n 0, 1), (16, .iconst 0, 1), (17, .putfield 37, 3), (20, .iload_n 1, 1), (21, .ireturn, 1)]
theorem dc_H_clear : dl_H_clear.all (dq prog_1_method_3_code) = true := by decide +kernel
def dl_H_isBelow : List (Nat × Instr × Nat) := [(0, .iload_n 0, 1), (1, .ifCond .lt 12, 3), (4, .iload_n 0, 1), (5, .iload_n 1, 1), (6, .if_icmp .ge 7, 3), (9, .iconst 1, 1), (10, .goto 4, 3), (13, .iconst 0, 1), (14, .ireturn, 1)]
theorem dc_H_isBelow : dl_H_isBelow.all (dq prog_1_method_15_code) = true := by decide +kernel
def dl_P_copyFrom : List (Nat × Instr × Nat) := [(0, .iconst 0, 1), (1, .istore_n 2, 1), (2, .iload_n 2, 1), (3, .iconst 3, 1), (4, .if_icmp .ge 21, 3), (7, .aload_n 0, 1), (8, .getfield 9, 3), (11, .iload_n 2, 1), (12, .aload_n 1, 1), (13, .getfield 9, 3), (16, .iload_n 2, 1), (17, .iaload, 1), (18, .iastore, 1), (19, .iinc 2 1, 3), (22, .goto (-20), 3), (25, .aload_n 0, 1), (26, .invokevirtual 31, 3), (29, .istore_n 2, 1), (30, .aload_n 1, 1), (31, .getfield 15, 3), (34, .iconst 0, 1), (35, .aload_n 0, 1), (36, .getfield 15, 3), (39, .iconst 0, 1), (40, .iload_n 2, 1), (41, .invokestatic 35, 3), (44, .aload_n 1, 1), (45, .getfield 18, 3), (48, .iconst 0, 1), (49, .aload_n 0, 1), (50, .getfield 18, 3), (53, .iconst 0, 1), (54, .iload_n 2, 1), (55, .invokestatic 35, 3), (58, .aload_n 1, 1), (59, .getfield 21, 3), (62, .iconst 0, 1), (63, .aload_n 0, 1), (64, .getfield 21, 3), (67, .iconst 0, 1), (68, .iload_n 2, 1), (69, .invokestatic 35, 3), (72, .return_, 1)]
theorem dc_P_copyFrom : dl_P_copyFrom.all (dq prog_6_method_11_code) = true := by decide +kernel
def dl_P_start : List (Nat × Instr × Nat) := [(0, .iload_n 1, 1), (1, .lookupswitch 36 #[(0, 27), (1, 29)], 27), (28, .iconst 0, 1), (29, .ireturn, 1), (30, .aload_n 0, 1), (31, .getfield 9, 3), (34, .iconst 0, 1), (35, .iaload, 1), (36, .ireturn, 1), (37, .aload_n 0, 1), (38, .getfield 9, 3), (41, .iconst 0, 1), (42, .iaload, 1), (43, .aload_n 0, 1), (44, .getfield 9, 3), (47, .iconst 1, 1), (48, .iaload, 1), (49, .iadd, 1), (50, .ireturn, 1)]
theorem dc_P_start : dl_P_start.all (dq prog_6_method_3_code) = true := by decide +kernel
def dl_P_end : List (Nat × Instr × Nat) := [(0, .aload_n 0, 1), (1, .iload_n 1, 1), (2, .invokevirtual 24, 3), (5, .aload_n 0, 1), (6, .getfield 9, 3), (9, .iload_n 1, 1), (10, .iaload, 1), (11, .iadd, 1), (12, .ireturn, 1)]
theorem dc_P_end : dl_P_end.all (dq prog_6_method_4_code) = true := by decide +kernel
def dl_P_put : List (Nat × Instr × Nat) := [(0, .aload_n 0, 1), (1, .getfield 15, 3), (4, .iload_n 1, 1), (5, .iload_n 2, 1), (6, .iastore, 1), (7, .aload_n 0, 1), (8, .getfield 18, 3), (11, .iload_n 1, 1), (12, .iload_n 3, 1), (13, .iastore, 1), (14, .aload_n 0, 1), (15, .getfield 21, 3), (18, .iload_n 1, 1), (19, .iload 4, 2), (21, .iastore, 1), (22, .return_, 1)]
theorem dc_P_put : dl_P_put.all (dq prog_6_method_19_code) = true := by decide +kernel
def dl_P_shiftUp : List (Nat × Instr × Nat) := [(0, .iload_n 2, 1), (1, .istore_n 3, 1), (2, .iload_n 3, 1), (3, .iload_n 1, 1), (4, .if_icmp .le 38, 3), (7, .aload_n 0, 1), (8, .iload_n 3, 1), (9, .aload_n 0, 1), (10, .getfield 15, 3), (13, .iload_n 3, 1), (14, .iconst 1, 1), (15, .isub, 1), (16, .iaload, 1), (17, .aload_n 0, 1), (18, .getfield 18, 3), (21, .iload_n 3, 1), (22, .iconst 1, 1), (23, .isub, 1), (24, .iaload, 1), (25, .aload_n 0, 1), (26, .getfield 21, 3), (29, .iload_n 3, 1), (30, .iconst 1, 1), (31, .isub, 1), (32, .iaload, 1), (33, .invokevirtual 48, 3), (36, .iinc 3 (-1), 3), (39, .goto (-37), 3), (42, .return_, 1)]
theorem dc_P_shiftUp : dl_P_shiftUp.all (dq prog_6_method_20_code) = true := by decide +kernel
def dl_P_renumber : List (Nat × Instr × Nat) := [(0, .aload_n 0, 1), (1, .invokevirtual 31, 3), (4, .istore_n 3, 1), (5, .iconst 0, 1), (6, .istore 4, 2), (8, .iload 4, 2), (10, .iload_n 3, 1), (11, .if_icmp .ge 34, 3), (14, .aload_n 0, 1), (15, .getfield 21, 3), (18, .iload 4, 2), (20, .iaload, 1), (21, .bipush 8, 2), (23, .iload_n 1, 1), (24, .iadd, 1), (25, .if_icmp .lt 14, 3), (28, .aload_n 0, 1), (29, .getfield 21, 3), (32, .iload 4, 2), (34, .dup2, 1), (35, .iaload, 1), (36, .iload_n 2, 1), (37, .iadd, 1), (38, .iastore, 1), (39, .iinc 4 1, 3), (42, .goto (-34), 3), (45, .return_, 1)]
theorem dc_P_renumber : dl_P_renumber.all (dq prog_6_method_21_code) = true := by decide +kernel
def dl_P_append : List (Nat × Instr × Nat) := [(0, .aload_n 0, 1), (1, .iload_n 1, 1), (2, .invokevirtual 28, 3), (5, .istore 5, 2), (7, .aload_n 0, 1), (8, .iload 5, 2), (10, .aload_n 0, 1), (11, .invokevirtual 31, 3), (14, .invokevirtual 41, 3), (17, .aload_n 0, 1), (18, .getfield 9, 3), (21, .iload_n 1, 1), (22, .dup2, 1), (23, .iaload, 1), (24, .iconst 1, 1), (25, .iadd, 1), (26, .iastore, 1), (27, .aload_n 0, 1), (28, .iload 5, 2), (30, .iconst 1, 1), (31, .invokevirtual 45, 3), (34, .aload_n 0, 1), (35, .iload 5, 2), (37, .iload_n 2, 1), (38, .iload_n 3, 1), (39, .iload 4, 2), (41, .invokevirtual 48, 3), (44, .return_, 1)]
theorem dc_P_append : dl_P_append.all (dq prog_6_method_12_code) = true := by decide +kernel
def dl_O_isOpen : List (Nat × Instr × Nat) := [(0, .iload_n 0, 1), (1, .iconst 4, 1), (2, .iload_n 1, 1), (3, .imul, 1), (4, .ishr, 1), (5, .bipush 8, 2), (7, .iand, 1), (8, .ifCond .eq 7, 3), (11, .iconst 1, 1), (12, .goto 4, 3), (15, .iconst 0, 1), (16, .ireturn, 1)]
theorem dc_O_isOpen : dl_O_isOpen.all (dq prog_5_method_4_code) = true := by decide +kernel
def dl_O_source : List (Nat × Instr × Nat) := [(0, .iload_n 0, 1), (1, .iconst 1, 1), (2, .iadd, 1), (3, .iconst 3, 1), (4, .irem, 1), (5, .ireturn, 1)]
theorem dc_O_source : dl_O_source.all (dq prog_5_method_5_code) = true := by decide +kernel
def dl_O_allows : List (Nat × Instr × Nat) := [(0, .iload_n 1, 1), (1, .lookupswitch 66 #[(0, 27), (6, 41)], 27), (28, .iload_n 0, 1), (29, .iload_n 2, 1), (30, .invokestatic 11, 3), (33, .ifCond .ne 7, 3), (36, .iconst 1, 1), (37, .goto 4, 3), (40, .iconst 0, 1), (41, .ireturn, 1), (42, .iload_n 0, 1), (43, .iload_n 2, 1), (44, .invokestatic 11, 3), (47, .ifCond .eq 18, 3), (50, .iload_n 0, 1), (51, .iload_n 2, 1), (52, .invokestatic 15, 3), (55, .invokestatic 11, 3), (58, .ifCond .eq 7, 3), (61, .iconst 1, 1), (62, .goto 4, 3), (65, .iconst 0, 1), (66, .ireturn, 1), (67, .iload_n 0, 1), (68, .iload_n 2, 1), (69, .invokestatic 11, 3), (72, .ireturn, 1)]
theorem dc_O_allows : dl_O_allows.all (dq prog_5_method_6_code) = true := by decide +kernel
def dl_O_content : List (Nat × Instr × Nat) := [(0, .iload_n 0, 1), (1, .iconst 4, 1), (2, .iload_n 1, 1), (3, .imul, 1), (4, .ishr, 1), (5, .bipush 15, 2), (7, .iand, 1), (8, .ireturn, 1)]
theorem dc_O_content : dl_O_content.all (dq prog_5_method_2_code) = true := by decide +kernel
def dl_O_held : List (Nat × Instr × Nat) := [(0, .iload_n 0, 1), (1, .iconst 4, 1), (2, .iload_n 1, 1), (3, .imul, 1), (4, .ishr, 1), (5, .bipush 7, 2), (7, .iand, 1), (8, .ireturn, 1)]
theorem dc_O_held : dl_O_held.all (dq prog_5_method_3_code) = true := by decide +kernel
def dl_O_after : List (Nat × Instr × Nat) := [(0, .iload_n 0, 1), (1, .iload_n 2, 1), (2, .invokestatic 23, 3), (5, .istore 4, 2), (7, .iload 4, 2), (9, .bipush 8, 2), (11, .iand, 1), (12, .istore 5, 2), (14, .iload_n 1, 1), (15, .tableswitch 97 0 6 #[41, 50, 56, 97, 63, 97, 81], 41), (56, .bipush 8, 2), (58, .iload_n 3, 1), (59, .iadd, 1), (60, .istore 6, 2), (62, .goto 56, 3), (65, .iconst 0, 1), (66, .istore 6, 2), (68, .goto 50, 3), (71, .iload 4, 2), (73, .istore 6, 2), (75, .goto 43, 3), (78, .iload 5, 2), (80, .iload_n 0, 1), (81, .iload_n 2, 1), (82, .invokestatic 19, 3), (85, .iload_n 3, 1), (86, .iadd, 1), (87, .bipush 8, 2), (89, .irem, 1), (90, .iadd, 1), (91, .istore 6, 2), (93, .goto 25, 3), (96, .iload 5, 2), (98, .iload_n 0, 1), (99, .iload_n 2, 1), (100, .invokestatic 15, 3), (103, .invokestatic 19, 3), (106, .iadd, 1), (107, .istore 6, 2), (109, .goto 9, 3), (112, .iload 5, 2), (114, .iload_n 3, 1), (115, .iadd, 1), (116, .istore 6, 2), (118, .iload_n 0, 1), (119, .bipush 15, 2), (121, .iconst 4, 1), (122, .iload_n 2, 1), (123, .imul, 1), (124, .ishl, 1), (125, .iconst (-1), 1), (126, .ixor, 1), (127, .iand, 1), (128, .iload 6, 2), (130, .iconst 4, 1), (131, .iload_n 2, 1), (132, .imul, 1), (133, .ishl, 1), (134, .ior, 1), (135, .ireturn, 1)]
theorem dc_O_after : dl_O_after.all (dq prog_5_method_8_code) = true := by decide +kernel
def dl_P_isValidBeside : List (Nat × Instr × Nat) := [(0, .iload_n 1, 1), (1, .istore_n 3, 1), (2, .aload_n 0, 1), (3, .iconst 2, 1), (4, .invokevirtual 28, 3), (7, .istore 4, 2), (9, .aload_n 0, 1), (10, .iconst 2, 1), (11, .invokevirtual 24, 3), (14, .istore 5, 2), (16, .iload 5, 2), (18, .iload 4, 2), (20, .if_icmp .ge 78, 3), (23, .iload_n 2, 1), (24, .iconst (-1), 1), (25, .if_icmp .eq 24, 3), (28, .iload_n 3, 1), (29, .aload_n 0, 1), (30, .getfield 15, 3), (33, .iload_n 2, 1), (34, .iaload, 1), (35, .aload_n 0, 1), (36, .getfield 18, 3), (39, .iload_n 2, 1), (40, .iaload, 1), (41, .invokestatic 64, 3), (44, .ifCond .ne 5, 3), (47, .iconst 0, 1), (48, .ireturn, 1), (49, .iload_n 3, 1), (50, .aload_n 0, 1), (51, .getfield 15, 3), (54, .iload 5, 2), (56, .iaload, 1), (57, .aload_n 0, 1), (58, .getfield 18, 3), (61, .iload 5, 2), (63, .iaload, 1), (64, .invokestatic 64, 3), (67, .ifCond .ne 5, 3), (70, .iconst 0, 1), (71, .ireturn, 1), (72, .iload_n 3, 1), (73, .aload_n 0, 1), (74, .getfield 15, 3), (77, .iload 5, 2), (79, .iaload, 1), (80, .aload_n 0, 1), (81, .getfield 18, 3), (84, .iload 5, 2), (86, .iaload, 1), (87, .iconst 0, 1), (88, .invokestatic 68, 3), (91, .istore_n 3, 1), (92, .iinc 5 1, 3), (95, .goto (-79), 3), (98, .iload_n 2, 1), (99, .iconst (-1), 1), (100, .if_icmp .eq 22, 3), (103, .iload_n 3, 1), (104, .aload_n 0, 1), (105, .getfield 15, 3), (108, .iload_n 2, 1), (109, .iaload, 1), (110, .aload_n 0, 1), (111, .getfield 18, 3), (114, .iload_n 2, 1), (115, .iaload, 1), (116, .invokestatic 64, 3), (119, .ifCond .eq 7, 3), (122, .iconst 1, 1), (123, .goto 4, 3), (126, .iconst 0, 1), (127, .ireturn, 1)]
theorem dc_P_isValidBeside : dl_P_isValidBeside.all (dq prog_6_method_17_code) = true := by decide +kernel
def dl_P_isValid : List (Nat × Instr × Nat) := [(0, .iconst 0, 1), (1, .istore_n 1, 1), (2, .aload_n 0, 1), (3, .iconst 0, 1), (4, .invokevirtual 28, 3), (7, .istore_n 2, 1), (8, .iconst 0, 1), (9, .istore_n 3, 1), (10, .iload_n 3, 1), (11, .iload_n 2, 1), (12, .if_icmp .ge 48, 3), (15, .iload_n 1, 1), (16, .aload_n 0, 1), (17, .getfield 15, 3), (20, .iload_n 3, 1), (21, .iaload, 1), (22, .aload_n 0, 1), (23, .getfield 18, 3), (26, .iload_n 3, 1), (27, .iaload, 1), (28, .invokestatic 64, 3), (31, .ifCond .ne 5, 3), (34, .iconst 0, 1), (35, .ireturn, 1), (36, .iload_n 1, 1), (37, .aload_n 0, 1), (38, .getfield 15, 3), (41, .iload_n 3, 1), (42, .iaload, 1), (43, .aload_n 0, 1), (44, .getfield 18, 3), (47, .iload_n 3, 1), (48, .iaload, 1), (49, .iconst 0, 1), (50, .invokestatic 68, 3), (53, .istore_n 1, 1), (54, .iinc 3 1, 3), (57, .goto (-47), 3), (60, .aload_n 0, 1), (61, .iconst 1, 1), (62, .invokevirtual 28, 3), (65, .istore_n 3, 1), (66, .aload_n 0, 1), (67, .iconst 1, 1), (68, .invokevirtual 24, 3), (71, .istore 4, 2), (73, .iload 4, 2), (75, .iload_n 3, 1), (76, .if_icmp .ge 41, 3), (79, .aload_n 0, 1), (80, .iload_n 1, 1), (81, .iload 4, 2), (83, .invokevirtual 72, 3), (86, .ifCond .ne 5, 3), (89, .iconst 0, 1), (90, .ireturn, 1), (91, .iload_n 1, 1), (92, .aload_n 0, 1), (93, .getfield 15, 3), (96, .iload 4, 2), (98, .iaload, 1), (99, .aload_n 0, 1), (100, .getfield 18, 3), (103, .iload 4, 2), (105, .iaload, 1), (106, .iconst 0, 1), (107, .invokestatic 68, 3), (110, .istore_n 1, 1), (111, .iinc 4 1, 3), (114, .goto (-41), 3), (117, .aload_n 0, 1), (118, .iload_n 1, 1), (119, .iconst (-1), 1), (120, .invokevirtual 72, 3), (123, .ireturn, 1)]
theorem dc_P_isValid : dl_P_isValid.all (dq prog_6_method_16_code) = true := by decide +kernel
def dl_H_appendIfValid : List (Nat × Instr × Nat) := [(0, .aload_n 0, 1), (1, .getfield 16, 3), (4, .aload_n 0, 1), (5, .getfield 12, 3), (8, .invokevirtual 125, 3), (11, .aload_n 0, 1), (12, .getfield 16, 3), (15, .iload_n 1, 1), (16, .iload_n 2, 1), (17, .iload_n 3, 1), (18, .iload 4, 2), (20, .invokevirtual 212, 3), (23, .aload_n 0, 1), (24, .getfield 16, 3), (27, .invokevirtual 121, 3), (30, .ifCond .ne 5, 3), (33, .iconst 0, 1), (34, .ireturn, 1), (35, .aload_n 0, 1), (36, .getfield 12, 3), (39, .aload_n 0, 1), (40, .getfield 16, 3), (43, .invokevirtual 125, 3), (46, .iconst 1, 1), (47, .ireturn, 1)]
theorem dc_H_appendIfValid : dl_H_appendIfValid.all (dq prog_1_method_16_code) = true := by decide +kernel
def dl_D_below : List (Nat × Instr × Nat) := [(0, .aload_n 0, 1), (1, .aload_n 0, 1), (2, .getfield 7, 3), (5, .ldc2_w 13, 3), (8, .lmul, 1), (9, .ldc2_w 15, 3), (12, .ladd, 1), (13, .putfield 7, 3), (16, .aload_n 0, 1), (17, .getfield 7, 3), (20, .bipush 33, 2), (22, .lushr, 1), (23, .l2i, 1), (24, .istore_n 2, 1), (25, .iload_n 1, 1), (26, .ifCond .le 9, 3), (29, .iload_n 2, 1), (30, .iload_n 1, 1), (31, .irem, 1), (32, .goto 4, 3), (35, .iconst 0, 1), (36, .ireturn, 1)]
theorem dc_D_below : dl_D_below.all (dq prog_2_method_3_code) = true := by decide +kernel
def dl_P_known : List (Nat × Instr × Nat) := [(0, .iload_n 1, 1), (1, .ifCond .ne 12, 3), (4, .aload_n 0, 1), (5, .getfield 9, 3), (8, .iconst 0, 1), (9, .iaload, 1), (10, .goto 16, 3), (13, .aload_n 0, 1), (14, .getfield 9, 3), (17, .iconst 0, 1), (18, .iaload, 1), (19, .aload_n 0, 1), (20, .getfield 9, 3), (23, .iload_n 1, 1), (24, .iaload, 1), (25, .iadd, 1), (26, .ireturn, 1)]
theorem dc_P_known : dl_P_known.all (dq prog_6_method_7_code) = true := by decide +kernel
def dl_P_knownAt : List (Nat × Instr × Nat) := [(0, .iload_n 2, 1), (1, .aload_n 0, 1), (2, .getfield 9, 3), (5, .iconst 0, 1), (6, .iaload, 1), (7, .if_icmp .ge 7, 3), (10, .iload_n 2, 1), (11, .goto 17, 3), (14, .aload_n 0, 1), (15, .iload_n 1, 1), (16, .invokevirtual 24, 3), (19, .iload_n 2, 1), (20, .iadd, 1), (21, .aload_n 0, 1), (22, .getfield 9, 3), (25, .iconst 0, 1), (26, .iaload, 1), (27, .isub, 1), (28, .ireturn, 1)]
theorem dc_P_knownAt : dl_P_knownAt.all (dq prog_6_method_8_code) = true := by decide +kernel
def dl_H_drawCommand : List (Nat × Instr × Nat) := [(0, .aload_n 0, 1), (1, .getfield 29, 3), (4, .bipush 7, 2), (6, .invokevirtual 219, 3), (9, .istore_n 2, 1), (10, .aload_n 0, 1), (11, .getfield 29, 3), (14, .iconst 3, 1), (15, .invokevirtual 219, 3), (18, .istore_n 3, 1), (19, .aload_n 0, 1), (20, .getfield 29, 3), (23, .iconst 4, 1), (24, .invokevirtual 219, 3), (27, .ifCond .ne 7, 3), (30, .iconst 1, 1), (31, .goto 4, 3), (34, .iconst 0, 1), (35, .istore 4, 2), (37, .aload_n 0, 1), (38, .getfield 12, 3), (41, .iload_n 1, 1), (42, .invokevirtual 222, 3), (45, .istore 5, 2), (47, .iload 4, 2), (49, .ifCond .eq 33, 3), (52, .iload 5, 2), (54, .ifCond .le 28, 3), (57, .bipush 8, 2), (59, .aload_n 0, 1), (60, .getfield 12, 3), (63, .iload_n 1, 1), (64, .aload_n 0, 1), (65, .getfield 29, 3), (68, .iload 5, 2), (70, .invokevirtual 219, 3), (73, .invokevirtual 225, 3), (76, .iadd, 1), (77, .istore 6, 2), (79, .goto 14, 3), (82, .aload_n 0, 1), (83, .getfield 29, 3), (86, .bipush 8, 2), (88, .invokevirtual 219, 3), (91, .istore 6, 2), (93, .aload_n 0, 1), (94, .iload_n 1, 1), (95, .iload_n 2, 1), (96, .iload_n 3, 1), (97, .iload 6, 2), (99, .invokevirtual 70, 3), (102, .ireturn, 1)]
theorem dc_H_drawCommand : dl_H_drawCommand.all (dq prog_1_method_18_code) = true := by decide +kernel
def dl_H_drawBranch : List (Nat × Instr × Nat) := [(0, .iconst 0, 1), (1, .istore_n 3, 1), (2, .iload_n 3, 1), (3, .iload_n 2, 1), (4, .if_icmp .ge 40, 3), (7, .iconst 0, 1), (8, .istore 4, 2), (10, .iconst 0, 1), (11, .istore 5, 2), (13, .iload 5, 2), (15, .bipush 20, 2), (17, .if_icmp .ge 21, 3), (20, .iload 4, 2), (22, .ifCond .ne 16, 3), (25, .aload_n 0, 1), (26, .iload_n 1, 1), (27, .invokevirtual 216, 3), (30, .istore 4, 2), (32, .iinc 5 1, 3), (35, .goto (-22), 3), (38, .iinc 3 1, 3), (41, .goto (-39), 3), (44, .return_, 1)]
theorem dc_H_drawBranch : dl_H_drawBranch.all (dq prog_1_method_17_code) = true := by decide +kernel
def dl_P_lower : List (Nat × Instr × Nat) := [(0, .iload_n 1, 1), (1, .ifCond .lt 11, 3), (4, .iload_n 1, 1), (5, .aload_n 0, 1), (6, .invokevirtual 31, 3), (9, .if_icmp .lt 5, 3), (12, .iconst 0, 1), (13, .ireturn, 1), (14, .aload_n 0, 1), (15, .getfield 21, 3), (18, .iload_n 1, 1), (19, .iaload, 1), (20, .istore_n 3, 1), (21, .iload_n 3, 1), (22, .bipush 8, 2), (24, .if_icmp .ge 16, 3), (27, .iload_n 3, 1), (28, .iload_n 2, 1), (29, .ifCond .eq 7, 3), (32, .iconst 2, 1), (33, .goto 4, 3), (36, .iconst 1, 1), (37, .if_icmp .ge 5, 3), (40, .iconst 0, 1), (41, .ireturn, 1), (42, .aload_n 0, 1), (43, .getfield 21, 3), (46, .iload_n 1, 1), (47, .iload_n 2, 1), (48, .ifCond .eq 9, 3), (51, .iload_n 3, 1), (52, .iconst 2, 1), (53, .idiv, 1), (54, .goto 4, 3), (57, .iconst 0, 1), (58, .iastore, 1), (59, .iconst 1, 1), (60, .ireturn, 1)]
theorem dc_P_lower : dl_P_lower.all (dq prog_6_method_15_code) = true := by decide +kernel
def dl_P_hasRoom : List (Nat × Instr × Nat) := [(0, .aload_n 0, 1), (1, .getfield 9, 3), (4, .iload_n 1, 1), (5, .iaload, 1), (6, .iload_n 1, 1), (7, .ifCond .ne 8, 3), (10, .bipush 6, 2), (12, .goto 4, 3), (15, .iconst 4, 1), (16, .if_icmp .ge 7, 3), (19, .iconst 1, 1), (20, .goto 4, 3), (23, .iconst 0, 1), (24, .ireturn, 1)]
theorem dc_P_hasRoom : dl_P_hasRoom.all (dq prog_6_method_6_code) = true := by decide +kernel
def dl_P_promote : List (Nat × Instr × Nat) := [(0, .aload_n 0, 1), (1, .getfield 9, 3), (4, .iload_n 1, 1), (5, .iaload, 1), (6, .ifCond .eq 11, 3), (9, .aload_n 0, 1), (10, .iconst 0, 1), (11, .invokevirtual 59, 3), (14, .ifCond .ne 5, 3), (17, .iconst 0, 1), (18, .ireturn, 1), (19, .aload_n 0, 1), (20, .iload_n 1, 1), (21, .invokevirtual 24, 3), (24, .istore_n 2, 1), (25, .aload_n 0, 1), (26, .getfield 9, 3), (29, .iconst 0, 1), (30, .iaload, 1), (31, .istore_n 3, 1), (32, .aload_n 0, 1), (33, .getfield 15, 3), (36, .iload_n 2, 1), (37, .iaload, 1), (38, .istore 4, 2), (40, .aload_n 0, 1), (41, .getfield 18, 3), (44, .iload_n 2, 1), (45, .iaload, 1), (46, .istore 5, 2), (48, .aload_n 0, 1), (49, .getfield 21, 3), (52, .iload_n 2, 1), (53, .iaload, 1), (54, .istore 6, 2), (56, .aload_n 0, 1), (57, .iload_n 3, 1), (58, .iload_n 2, 1), (59, .invokevirtual 41, 3), (62, .aload_n 0, 1), (63, .iload_n 3, 1), (64, .iload 4, 2), (66, .iload 5, 2), (68, .iload 6, 2), (70, .invokevirtual 48, 3), (73, .aload_n 0, 1), (74, .getfield 9, 3), (77, .iload_n 1, 1), (78, .dup2, 1), (79, .iaload, 1), (80, .iconst 1, 1), (81, .isub, 1), (82, .iastore, 1), (83, .aload_n 0, 1), (84, .getfield 9, 3), (87, .iconst 0, 1), (88, .dup2, 1), (89, .iaload, 1), (90, .iconst 1, 1), (91, .iadd, 1), (92, .iastore, 1), (93, .aload_n 0, 1), (94, .invokevirtual 31, 3), (97, .istore 7, 2), (99, .iconst 0, 1), (100, .istore 8, 2), (102, .iload 8, 2), (104, .iload 7, 2), (106, .if_icmp .ge 64, 3), (109, .aload_n 0, 1), (110, .getfield 21, 3), (113, .iload 8, 2), (115, .iaload, 1), (116, .bipush 8, 2), (118, .isub, 1), (119, .istore 9, 2), (121, .iload 9, 2), (123, .iload_n 2, 1), (124, .if_icmp .ne 17, 3), (127, .aload_n 0, 1), (128, .getfield 21, 3), (131, .iload 8, 2), (133, .bipush 8, 2), (135, .iload_n 3, 1), (136, .iadd, 1), (137, .iastore, 1), (138, .goto 26, 3), (141, .iload 9, 2), (143, .iload_n 3, 1), (144, .if_icmp .lt 20, 3), (147, .iload 9, 2), (149, .iload_n 2, 1), (150, .if_icmp .ge 14, 3), (153, .aload_n 0, 1), (154, .getfield 21, 3), (157, .iload 8, 2), (159, .dup2, 1), (160, .iaload, 1), (161, .iconst 1, 1), (162, .iadd, 1), (163, .iastore, 1), (164, .iinc 8 1, 3), (167, .goto (-65), 3), (170, .iconst 1, 1), (171, .ireturn, 1)]
theorem dc_P_promote : dl_P_promote.all (dq prog_6_method_14_code) = true := by decide +kernel
def dl_P_isNeeded : List (Nat × Instr × Nat) := [(0, .aload_n 0, 1), (1, .invokevirtual 31, 3), (4, .istore_n 2, 1), (5, .iconst 0, 1), (6, .istore_n 3, 1), (7, .iload_n 3, 1), (8, .iload_n 2, 1), (9, .if_icmp .ge 24, 3), (12, .aload_n 0, 1), (13, .getfield 21, 3), (16, .iload_n 3, 1), (17, .iaload, 1), (18, .bipush 8, 2), (20, .iload_n 1, 1), (21, .iadd, 1), (22, .if_icmp .ne 5, 3), (25, .iconst 1, 1), (26, .ireturn, 1), (27, .iinc 3 1, 3), (30, .goto (-23), 3), (33, .iconst 0, 1), (34, .ireturn, 1)]
theorem dc_P_isNeeded : dl_P_isNeeded.all (dq prog_6_method_18_code) = true := by decide +kernel
def dl_P_branchOf : List (Nat × Instr × Nat) := [(0, .iload_n 1, 1), (1, .aload_n 0, 1), (2, .iconst 1, 1), (3, .invokevirtual 24, 3), (6, .if_icmp .ge 5, 3), (9, .iconst 0, 1), (10, .ireturn, 1), (11, .iload_n 1, 1), (12, .aload_n 0, 1), (13, .iconst 2, 1), (14, .invokevirtual 24, 3), (17, .if_icmp .ge 7, 3), (20, .iconst 1, 1), (21, .goto 4, 3), (24, .iconst 2, 1), (25, .ireturn, 1)]
theorem dc_P_branchOf : dl_P_branchOf.all (dq prog_6_method_5_code) = true := by decide +kernel
def dl_P_remove : List (Nat × Instr × Nat) := [(0, .aload_n 0, 1), (1, .invokevirtual 31, 3), (4, .istore_n 2, 1), (5, .iload_n 1, 1), (6, .ifCond .lt 16, 3), (9, .iload_n 1, 1), (10, .iload_n 2, 1), (11, .if_icmp .ge 11, 3), (14, .aload_n 0, 1), (15, .iload_n 1, 1), (16, .invokevirtual 52, 3), (19, .ifCond .eq 5, 3), (22, .iconst 0, 1), (23, .ireturn, 1), (24, .aload_n 0, 1), (25, .getfield 9, 3), (28, .aload_n 0, 1), (29, .iload_n 1, 1), (30, .invokevirtual 56, 3), (33, .dup2, 1), (34, .iaload, 1), (35, .iconst 1, 1), (36, .isub, 1), (37, .iastore, 1), (38, .iload_n 1, 1), (39, .iconst 1, 1), (40, .iadd, 1), (41, .istore_n 3, 1), (42, .iload_n 3, 1), (43, .iload_n 2, 1), (44, .if_icmp .ge 34, 3), (47, .aload_n 0, 1), (48, .iload_n 3, 1), (49, .iconst 1, 1), (50, .isub, 1), (51, .aload_n 0, 1), (52, .getfield 15, 3), (55, .iload_n 3, 1), (56, .iaload, 1), (57, .aload_n 0, 1), (58, .getfield 18, 3), (61, .iload_n 3, 1), (62, .iaload, 1), (63, .aload_n 0, 1), (64, .getfield 21, 3), (67, .iload_n 3, 1), (68, .iaload, 1), (69, .invokevirtual 48, 3), (72, .iinc 3 1, 3), (75, .goto (-33), 3), (78, .aload_n 0, 1), (79, .iload_n 1, 1), (80, .iconst 1, 1), (81, .iadd, 1), (82, .iconst (-1), 1), (83, .invokevirtual 45, 3), (86, .iconst 1, 1), (87, .ireturn, 1)]
theorem dc_P_remove : dl_P_remove.all (dq prog_6_method_13_code) = true := by decide +kernel
def dl_H_prepareCandidate : List (Nat × Instr × Nat) := [(0, .aload_n 0, 1), (1, .getfield 16, 3), (4, .aload_n 0, 1), (5, .getfield 12, 3), (8, .invokevirtual 125, 3), (11, .iload_n 1, 1), (12, .bipush 14, 2), (14, .if_icmp .ge 22, 3), (17, .aload_n 0, 1), (18, .getfield 16, 3), (21, .aload_n 0, 1), (22, .getfield 12, 3), (25, .invokevirtual 79, 3), (28, .iconst 1, 1), (29, .isub, 1), (30, .iload_n 1, 1), (31, .isub, 1), (32, .invokevirtual 228, 3), (35, .ireturn, 1), (36, .iload_n 1, 1), (37, .bipush 16, 2), (39, .if_icmp .ge 17, 3), (42, .aload_n 0, 1), (43, .getfield 16, 3), (46, .iload_n 1, 1), (47, .bipush 14, 2), (49, .isub, 1), (50, .iconst 1, 1), (51, .iadd, 1), (52, .invokevirtual 231, 3), (55, .ireturn, 1), (56, .iload_n 1, 1), (57, .bipush 14, 2), (59, .isub, 1), (60, .iconst 2, 1), (61, .isub, 1), (62, .istore_n 2, 1), (63, .aload_n 0, 1), (64, .getfield 16, 3), (67, .iload_n 2, 1), (68, .iconst 2, 1), (69, .idiv, 1), (70, .iload_n 2, 1), (71, .iconst 2, 1), (72, .irem, 1), (73, .iconst 1, 1), (74, .if_icmp .ne 7, 3), (77, .iconst 1, 1), (78, .goto 4, 3), (81, .iconst 0, 1), (82, .invokevirtual 234, 3), (85, .ireturn, 1)]
theorem dc_H_prepareCandidate : dl_H_prepareCandidate.all (dq prog_1_method_19_code) = true := by decide +kernel
def dl_P_mayTake : List (Nat × Instr × Nat) := [(0, .iload_n 2, 1), (1, .bipush 8, 2), (3, .if_icmp .ge 13, 3), (6, .iload_n 2, 1), (7, .ifCond .lt 7, 3), (10, .iconst 1, 1), (11, .goto 4, 3), (14, .iconst 0, 1), (15, .ireturn, 1), (16, .iload_n 2, 1), (17, .bipush 8, 2), (19, .isub, 1), (20, .istore_n 3, 1), (21, .iload_n 3, 1), (22, .aload_n 0, 1), (23, .getfield 9, 3), (26, .iconst 0, 1), (27, .iaload, 1), (28, .if_icmp .lt 21, 3), (31, .iload_n 3, 1), (32, .aload_n 0, 1), (33, .iload_n 1, 1), (34, .invokevirtual 24, 3), (37, .if_icmp .lt 16, 3), (40, .iload_n 3, 1), (41, .aload_n 0, 1), (42, .iload_n 1, 1), (43, .invokevirtual 28, 3), (46, .if_icmp .ge 7, 3), (49, .iconst 1, 1), (50, .goto 4, 3), (53, .iconst 0, 1), (54, .ireturn, 1)]
theorem dc_P_mayTake : dl_P_mayTake.all (dq prog_6_method_9_code) = true := by decide +kernel
def dl_O_answer : List (Nat × Instr × Nat) := [(0, .iload_n 1, 1), (1, .tableswitch 48 0 4 #[35, 48, 48, 35, 37], 35), (36, .iconst 0, 1), (37, .ireturn, 1), (38, .iload_n 0, 1), (39, .iload_n 2, 1), (40, .invokestatic 19, 3), (43, .iload_n 3, 1), (44, .iadd, 1), (45, .bipush 8, 2), (47, .irem, 1), (48, .ireturn, 1), (49, .iload_n 0, 1), (50, .iload_n 2, 1), (51, .invokestatic 19, 3), (54, .ireturn, 1)]
theorem dc_O_answer : dl_O_answer.all (dq prog_5_method_7_code) = true := by decide +kernel
def dl_R_thrown : List (Nat × Instr × Nat) := [(0, .aload_n 0, 1), (1, .getfield 65, 3), (4, .ireturn, 1)]
theorem dc_R_thrown : dl_R_thrown.all (dq prog_9_method_2_code) = true := by decide +kernel
def dl_R_fail : List (Nat × Instr × Nat) := [(0, .aload_n 0, 1), (1, .iload_n 1, 1), (2, .putfield 65, 3), (5, .iconst 0, 1), (6, .ireturn, 1)]
theorem dc_R_fail : dl_R_fail.all (dq prog_9_method_3_code) = true := by decide +kernel
def dl_R_within : List (Nat × Instr × Nat) := [(0, .iload_n 0, 1), (1, .iload_n 1, 1), (2, .if_icmp .lt 12, 3), (5, .iload_n 0, 1), (6, .iload_n 2, 1), (7, .if_icmp .gt 7, 3), (10, .iconst 1, 1), (11, .goto 4, 3), (14, .iconst 0, 1), (15, .ireturn, 1)]
theorem dc_R_within : dl_R_within.all (dq prog_9_method_4_code) = true := by decide +kernel
def dl_R_many : List (Nat × Instr × Nat) := [(0, .aload_n 0, 1), (1, .getfield 7, 3), (4, .iconst 0, 1), (5, .iaload, 1), (6, .aload_n 0, 1), (7, .getfield 7, 3), (10, .iconst 1, 1), (11, .iaload, 1), (12, .iadd, 1), (13, .aload_n 0, 1), (14, .getfield 7, 3), (17, .iconst 2, 1), (18, .iaload, 1), (19, .iadd, 1), (20, .ireturn, 1)]
theorem dc_R_many : dl_R_many.all (dq prog_9_method_5_code) = true := by decide +kernel
def dl_R_branch : List (Nat × Instr × Nat) := [(0, .iload_n 1, 1), (1, .aload_n 0, 1), (2, .getfield 7, 3), (5, .iconst 0, 1), (6, .iaload, 1), (7, .if_icmp .ge 7, 3), (10, .iconst 0, 1), (11, .goto 25, 3), (14, .iload_n 1, 1), (15, .aload_n 0, 1), (16, .getfield 7, 3), (19, .iconst 0, 1), (20, .iaload, 1), (21, .aload_n 0, 1), (22, .getfield 7, 3), (25, .iconst 1, 1), (26, .iaload, 1), (27, .iadd, 1), (28, .if_icmp .ge 7, 3), (31, .iconst 1, 1), (32, .goto 4, 3), (35, .iconst 2, 1), (36, .ireturn, 1)]
theorem dc_R_branch : dl_R_branch.all (dq prog_9_method_6_code) = true := by decide +kernel
def dl_R_first : List (Nat × Instr × Nat) := [(0, .iload_n 1, 1), (1, .ifCond .ne 7, 3), (4, .iconst 0, 1), (5, .goto 30, 3), (8, .iload_n 1, 1), (9, .iconst 1, 1), (10, .if_icmp .ne 12, 3), (13, .aload_n 0, 1), (14, .getfield 7, 3), (17, .iconst 0, 1), (18, .iaload, 1), (19, .goto 16, 3), (22, .aload_n 0, 1), (23, .getfield 7, 3), (26, .iconst 0, 1), (27, .iaload, 1), (28, .aload_n 0, 1), (29, .getfield 7, 3), (32, .iconst 1, 1), (33, .iaload, 1), (34, .iadd, 1), (35, .ireturn, 1)]
theorem dc_R_first : dl_R_first.all (dq prog_9_method_7_code) = true := by decide +kernel
def dl_R_mayStand : List (Nat × Instr × Nat) := [(0, .iload_n 1, 1), (1, .ifCond .lt 31, 3), (4, .iload_n 1, 1), (5, .iload_n 3, 1), (6, .if_icmp .ge 26, 3), (9, .iload_n 1, 1), (10, .aload_n 0, 1), (11, .getfield 7, 3), (14, .iconst 0, 1), (15, .iaload, 1), (16, .if_icmp .lt 12, 3), (19, .aload_n 0, 1), (20, .iload_n 1, 1), (21, .invokevirtual 69, 3), (24, .iload_n 2, 1), (25, .if_icmp .ne 7, 3), (28, .iconst 1, 1), (29, .goto 4, 3), (32, .iconst 0, 1), (33, .ireturn, 1)]
theorem dc_R_mayStand : dl_R_mayStand.all (dq prog_9_method_8_code) = true := by decide +kernel
def dl_R_placed : List (Nat × Instr × Nat) := [(0, .aload_n 0, 1), (1, .getfield 7, 3), (4, .iconst 1, 1), (5, .iaload, 1), (6, .aload_n 0, 1), (7, .getfield 7, 3), (10, .iconst 2, 1), (11, .iaload, 1), (12, .iadd, 1), (13, .istore_n 3, 1), (14, .iconst 0, 1), (15, .istore 4, 2), (17, .iconst 0, 1), (18, .istore 5, 2), (20, .iload 5, 2), (22, .iload_n 2, 1), (23, .if_icmp .ge 24, 3), (26, .iload 4, 2), (28, .iload_n 1, 1), (29, .iload_n 3, 1), (30, .iconst 1, 1), (31, .isub, 1), (32, .iload 5, 2), (34, .isub, 1), (35, .ishr, 1), (36, .iconst 1, 1), (37, .iand, 1), (38, .iadd, 1), (39, .istore 4, 2), (41, .iinc 5 1, 3), (44, .goto (-24), 3), (47, .iload_n 1, 1), (48, .iload_n 3, 1), (49, .iconst 1, 1), (50, .isub, 1), (51, .iload_n 2, 1), (52, .isub, 1), (53, .ishr, 1), (54, .iconst 1, 1), (55, .iand, 1), (56, .iconst 1, 1), (57, .if_icmp .ne 14, 3), (60, .aload_n 0, 1), (61, .iconst 2, 1), (62, .invokevirtual 73, 3), (65, .iload 4, 2), (67, .iadd, 1), (68, .goto 13, 3), (71, .aload_n 0, 1), (72, .iconst 1, 1), (73, .invokevirtual 73, 3), (76, .iload_n 2, 1), (77, .iadd, 1), (78, .iload 4, 2), (80, .isub, 1), (81, .ireturn, 1)]
theorem dc_R_placed : dl_R_placed.all (dq prog_9_method_9_code) = true := by decide +kernel
def dl_R_isOrder : List (Nat × Instr × Nat) := [(0, .iconst 0, 1), (1, .istore_n 2, 1), (2, .iload_n 1, 1), (3, .istore_n 3, 1), (4, .iload_n 3, 1), (5, .ifCond .le 16, 3), (8, .iload_n 2, 1), (9, .iload_n 3, 1), (10, .iconst 1, 1), (11, .iand, 1), (12, .iadd, 1), (13, .istore_n 2, 1), (14, .iload_n 3, 1), (15, .iconst 1, 1), (16, .ishr, 1), (17, .istore_n 3, 1), (18, .goto (-14), 3), (21, .iload_n 2, 1), (22, .aload_n 0, 1), (23, .getfield 7, 3), (26, .iconst 2, 1), (27, .iaload, 1), (28, .if_icmp .ne 7, 3), (31, .iconst 1, 1), (32, .goto 4, 3), (35, .iconst 0, 1), (36, .ireturn, 1)]
theorem dc_R_isOrder : dl_R_isOrder.all (dq prog_9_method_10_code) = true := by decide +kernel
def dl_R_finds : List (Nat × Instr × Nat) := [(0, .aload_n 0, 1), (1, .getfield 16, 3), (4, .iload_n 1, 1), (5, .iaload, 1), (6, .istore_n 2, 1), (7, .aload_n 0, 1), (8, .getfield 13, 3), (11, .iload_n 1, 1), (12, .iaload, 1), (13, .ifCond .ne 20, 3), (16, .aload_n 0, 1), (17, .getfield 31, 3), (20, .iload_n 2, 1), (21, .baload, 1), (22, .ifCond .ne 7, 3), (25, .iconst 1, 1), (26, .goto 45, 3), (29, .iconst 0, 1), (30, .goto 41, 3), (33, .aload_n 0, 1), (34, .getfield 31, 3), (37, .iload_n 2, 1), (38, .baload, 1), (39, .ifCond .eq 31, 3), (42, .aload_n 0, 1), (43, .getfield 13, 3), (46, .iload_n 1, 1), (47, .iaload, 1), (48, .bipush 6, 2), (50, .if_icmp .ne 16, 3), (53, .aload_n 0, 1), (54, .getfield 31, 3), (57, .iload_n 2, 1), (58, .iconst 1, 1), (59, .iadd, 1), (60, .iconst 3, 1), (61, .irem, 1), (62, .baload, 1), (63, .ifCond .eq 7, 3), (66, .iconst 1, 1), (67, .goto 4, 3), (70, .iconst 0, 1), (71, .istore_n 3, 1), (72, .aload_n 0, 1), (73, .getfield 31, 3), (76, .iload_n 2, 1), (77, .aload_n 0, 1), (78, .getfield 13, 3), (81, .iload_n 1, 1), (82, .iaload, 1), (83, .iconst 1, 1), (84, .if_icmp .eq 25, 3), (87, .aload_n 0, 1), (88, .getfield 13, 3), (91, .iload_n 1, 1), (92, .iaload, 1), (93, .ifCond .eq 12, 3), (96, .aload_n 0, 1), (97, .getfield 31, 3), (100, .iload_n 2, 1), (101, .baload, 1), (102, .ifCond .eq 7, 3), (105, .iconst 1, 1), (106, .goto 4, 3), (109, .iconst 0, 1), (110, .bastore, 1), (111, .iload_n 3, 1), (112, .ireturn, 1)]
theorem dc_R_finds : dl_R_finds.all (dq prog_9_method_11_code) = true := by decide +kernel
def dl_R_fits : List (Nat × Instr × Nat) := [(0, .iconst 0, 1), (1, .istore_n 2, 1), (2, .iload_n 2, 1), (3, .iconst 3, 1), (4, .if_icmp .ge 16, 3), (7, .aload_n 0, 1), (8, .getfield 31, 3), (11, .iload_n 2, 1), (12, .iconst 0, 1), (13, .bastore, 1), (14, .iinc 2 1, 3), (17, .goto (-15), 3), (20, .iconst 1, 1), (21, .istore_n 2, 1), (22, .iconst 0, 1), (23, .istore_n 3, 1), (24, .iload_n 3, 1), (25, .aload_n 0, 1), (26, .getfield 7, 3), (29, .iconst 0, 1), (30, .iaload, 1), (31, .if_icmp .ge 27, 3), (34, .aload_n 0, 1), (35, .iload_n 3, 1), (36, .invokevirtual 76, 3), (39, .ifCond .eq 11, 3), (42, .iload_n 2, 1), (43, .ifCond .eq 7, 3), (46, .iconst 1, 1), (47, .goto 4, 3), (50, .iconst 0, 1), (51, .istore_n 2, 1), (52, .iinc 3 1, 3), (55, .goto (-31), 3), (58, .iconst 0, 1), (59, .istore_n 3, 1), (60, .iload_n 3, 1), (61, .aload_n 0, 1), (62, .getfield 7, 3), (65, .iconst 1, 1), (66, .iaload, 1), (67, .aload_n 0, 1), (68, .getfield 7, 3), (71, .iconst 2, 1), (72, .iaload, 1), (73, .iadd, 1), (74, .if_icmp .ge 32, 3), (77, .aload_n 0, 1), (78, .aload_n 0, 1), (79, .iload_n 1, 1), (80, .iload_n 3, 1), (81, .invokevirtual 80, 3), (84, .invokevirtual 76, 3), (87, .ifCond .eq 11, 3), (90, .iload_n 2, 1), (91, .ifCond .eq 7, 3), (94, .iconst 1, 1), (95, .goto 4, 3), (98, .iconst 0, 1), (99, .istore_n 2, 1), (100, .iinc 3 1, 3), (103, .goto (-43), 3), (106, .iload_n 2, 1), (107, .ireturn, 1)]
theorem dc_R_fits : dl_R_fits.all (dq prog_9_method_12_code) = true := by decide +kernel
def dl_R_valid : List (Nat × Instr × Nat) := [(0, .iconst 1, 1), (1, .istore_n 1, 1), (2, .iconst 0, 1), (3, .istore_n 2, 1), (4, .iload_n 2, 1), (5, .aload_n 0, 1), (6, .invokevirtual 84, 3), (9, .if_icmp .ge 52, 3), (12, .iload_n 1, 1), (13, .ifCond .eq 40, 3), (16, .aload_n 0, 1), (17, .getfield 19, 3), (20, .iload_n 2, 1), (21, .iaload, 1), (22, .bipush 8, 2), (24, .if_icmp .lt 25, 3), (27, .aload_n 0, 1), (28, .aload_n 0, 1), (29, .getfield 19, 3), (32, .iload_n 2, 1), (33, .iaload, 1), (34, .bipush 8, 2), (36, .isub, 1), (37, .aload_n 0, 1), (38, .iload_n 2, 1), (39, .invokevirtual 69, 3), (42, .iload_n 2, 1), (43, .invokevirtual 88, 3), (46, .ifCond .eq 7, 3), (49, .iconst 1, 1), (50, .goto 4, 3), (53, .iconst 0, 1), (54, .istore_n 1, 1), (55, .iinc 2 1, 3), (58, .goto (-54), 3), (61, .iconst 1, 1), (62, .aload_n 0, 1), (63, .getfield 7, 3), (66, .iconst 1, 1), (67, .iaload, 1), (68, .aload_n 0, 1), (69, .getfield 7, 3), (72, .iconst 2, 1), (73, .iaload, 1), (74, .iadd, 1), (75, .ishl, 1), (76, .istore_n 2, 1), (77, .iconst 0, 1), (78, .istore_n 3, 1), (79, .iload_n 3, 1), (80, .iload_n 2, 1), (81, .if_icmp .ge 35, 3), (84, .iload_n 1, 1), (85, .ifCond .eq 31, 3), (88, .aload_n 0, 1), (89, .iload_n 3, 1), (90, .invokevirtual 92, 3), (93, .ifCond .eq 11, 3), (96, .aload_n 0, 1), (97, .iload_n 3, 1), (98, .invokevirtual 95, 3), (101, .ifCond .eq 7, 3), (104, .iconst 1, 1), (105, .goto 4, 3), (108, .iconst 0, 1), (109, .istore_n 1, 1), (110, .iinc 3 1, 3), (113, .goto (-34), 3), (116, .iload_n 1, 1), (117, .ireturn, 1)]
theorem dc_R_valid : dl_R_valid.all (dq prog_9_method_13_code) = true := by decide +kernel
def dl_R_keep : List (Nat × Instr × Nat) := [(0, .iconst 0, 1), (1, .istore_n 1, 1), (2, .iload_n 1, 1), (3, .iconst 3, 1), (4, .if_icmp .ge 21, 3), (7, .aload_n 0, 1), (8, .getfield 22, 3), (11, .iload_n 1, 1), (12, .aload_n 0, 1), (13, .getfield 7, 3), (16, .iload_n 1, 1), (17, .iaload, 1), (18, .iastore, 1), (19, .iinc 1 1, 3), (22, .goto (-20), 3), (25, .iconst 0, 1), (26, .istore_n 1, 1), (27, .iload_n 1, 1), (28, .bipush 14, 2), (30, .if_icmp .ge 55, 3), (33, .aload_n 0, 1), (34, .getfield 25, 3), (37, .iconst 3, 1), (38, .iload_n 1, 1), (39, .imul, 1), (40, .aload_n 0, 1), (41, .getfield 13, 3), (44, .iload_n 1, 1), (45, .iaload, 1), (46, .iastore, 1), (47, .aload_n 0, 1), (48, .getfield 25, 3), (51, .iconst 3, 1), (52, .iload_n 1, 1), (53, .imul, 1), (54, .iconst 1, 1), (55, .iadd, 1), (56, .aload_n 0, 1), (57, .getfield 16, 3), (60, .iload_n 1, 1), (61, .iaload, 1), (62, .iastore, 1), (63, .aload_n 0, 1), (64, .getfield 25, 3), (67, .iconst 3, 1), (68, .iload_n 1, 1), (69, .imul, 1), (70, .iconst 2, 1), (71, .iadd, 1), (72, .aload_n 0, 1), (73, .getfield 19, 3), (76, .iload_n 1, 1), (77, .iaload, 1), (78, .iastore, 1), (79, .iinc 1 1, 3), (82, .goto (-55), 3), (85, .return_, 1)]
theorem dc_R_keep : dl_R_keep.all (dq prog_9_method_14_code) = true := by decide +kernel
def dl_R_putBack : List (Nat × Instr × Nat) := [(0, .iconst 0, 1), (1, .istore_n 1, 1), (2, .iload_n 1, 1), (3, .iconst 3, 1), (4, .if_icmp .ge 21, 3), (7, .aload_n 0, 1), (8, .getfield 7, 3), (11, .iload_n 1, 1), (12, .aload_n 0, 1), (13, .getfield 22, 3), (16, .iload_n 1, 1), (17, .iaload, 1), (18, .iastore, 1), (19, .iinc 1 1, 3), (22, .goto (-20), 3), (25, .iconst 0, 1), (26, .istore_n 1, 1), (27, .iload_n 1, 1), (28, .bipush 14, 2), (30, .if_icmp .ge 55, 3), (33, .aload_n 0, 1), (34, .getfield 13, 3), (37, .iload_n 1, 1), (38, .aload_n 0, 1), (39, .getfield 25, 3), (42, .iconst 3, 1), (43, .iload_n 1, 1), (44, .imul, 1), (45, .iaload, 1), (46, .iastore, 1), (47, .aload_n 0, 1), (48, .getfield 16, 3), (51, .iload_n 1, 1), (52, .aload_n 0, 1), (53, .getfield 25, 3), (56, .iconst 3, 1), (57, .iload_n 1, 1), (58, .imul, 1), (59, .iconst 1, 1), (60, .iadd, 1), (61, .iaload, 1), (62, .iastore, 1), (63, .aload_n 0, 1), (64, .getfield 19, 3), (67, .iload_n 1, 1), (68, .aload_n 0, 1), (69, .getfield 25, 3), (72, .iconst 3, 1), (73, .iload_n 1, 1), (74, .imul, 1), (75, .iconst 2, 1), (76, .iadd, 1), (77, .iaload, 1), (78, .iastore, 1), (79, .iinc 1 1, 3), (82, .goto (-55), 3), (85, .return_, 1)]
theorem dc_R_putBack : dl_R_putBack.all (dq prog_9_method_15_code) = true := by decide +kernel
def dl_R_copy : List (Nat × Instr × Nat) := [(0, .aload_n 0, 1), (1, .getfield 13, 3), (4, .iload_n 2, 1), (5, .aload_n 0, 1), (6, .getfield 13, 3), (9, .iload_n 1, 1), (10, .iaload, 1), (11, .iastore, 1), (12, .aload_n 0, 1), (13, .getfield 16, 3), (16, .iload_n 2, 1), (17, .aload_n 0, 1), (18, .getfield 16, 3), (21, .iload_n 1, 1), (22, .iaload, 1), (23, .iastore, 1), (24, .aload_n 0, 1), (25, .getfield 19, 3), (28, .iload_n 2, 1), (29, .aload_n 0, 1), (30, .getfield 19, 3), (33, .iload_n 1, 1), (34, .iaload, 1), (35, .iastore, 1), (36, .return_, 1)]
theorem dc_R_copy : dl_R_copy.all (dq prog_9_method_16_code) = true := by decide +kernel
def dl_R_insert : List (Nat × Instr × Nat) := [(0, .aload_n 0, 1), (1, .iload_n 1, 1), (2, .invokevirtual 73, 3), (5, .aload_n 0, 1), (6, .getfield 7, 3), (9, .iload_n 1, 1), (10, .iaload, 1), (11, .iadd, 1), (12, .istore 5, 2), (14, .aload_n 0, 1), (15, .invokevirtual 84, 3), (18, .istore 6, 2), (20, .iload 6, 2), (22, .iload 5, 2), (24, .if_icmp .le 19, 3), (27, .aload_n 0, 1), (28, .iload 6, 2), (30, .iconst 1, 1), (31, .isub, 1), (32, .iload 6, 2), (34, .invokevirtual 98, 3), (37, .iinc 6 (-1), 3), (40, .goto (-20), 3), (43, .aload_n 0, 1), (44, .getfield 7, 3), (47, .iload_n 1, 1), (48, .dup2, 1), (49, .iaload, 1), (50, .iconst 1, 1), (51, .iadd, 1), (52, .iastore, 1), (53, .iload 5, 2), (55, .iconst 1, 1), (56, .iadd, 1), (57, .istore 6, 2), (59, .iload 6, 2), (61, .aload_n 0, 1), (62, .invokevirtual 84, 3), (65, .if_icmp .ge 39, 3), (68, .aload_n 0, 1), (69, .getfield 19, 3), (72, .iload 6, 2), (74, .dup2, 1), (75, .iaload, 1), (76, .aload_n 0, 1), (77, .getfield 19, 3), (80, .iload 6, 2), (82, .iaload, 1), (83, .bipush 8, 2), (85, .iload 5, 2), (87, .iadd, 1), (88, .if_icmp .lt 7, 3), (91, .iconst 1, 1), (92, .goto 4, 3), (95, .iconst 0, 1), (96, .iadd, 1), (97, .iastore, 1), (98, .iinc 6 1, 3), (101, .goto (-42), 3), (104, .aload_n 0, 1), (105, .getfield 13, 3), (108, .iload 5, 2), (110, .iload_n 2, 1), (111, .iastore, 1), (112, .aload_n 0, 1), (113, .getfield 16, 3), (116, .iload 5, 2), (118, .iload_n 3, 1), (119, .iastore, 1), (120, .aload_n 0, 1), (121, .getfield 19, 3), (124, .iload 5, 2), (126, .iload 4, 2), (128, .iastore, 1), (129, .iload 5, 2), (131, .ireturn, 1)]
theorem dc_R_insert : dl_R_insert.all (dq prog_9_method_17_code) = true := by decide +kernel
def dl_R_leaveOut : List (Nat × Instr × Nat) := [(0, .iconst 1, 1), (1, .istore_n 2, 1), (2, .iconst 0, 1), (3, .istore_n 3, 1), (4, .iload_n 3, 1), (5, .aload_n 0, 1), (6, .invokevirtual 84, 3), (9, .if_icmp .ge 32, 3), (12, .iload_n 2, 1), (13, .ifCond .eq 20, 3), (16, .aload_n 0, 1), (17, .getfield 19, 3), (20, .iload_n 3, 1), (21, .iaload, 1), (22, .bipush 8, 2), (24, .iload_n 1, 1), (25, .iadd, 1), (26, .if_icmp .eq 7, 3), (29, .iconst 1, 1), (30, .goto 4, 3), (33, .iconst 0, 1), (34, .istore_n 2, 1), (35, .iinc 3 1, 3), (38, .goto (-34), 3), (41, .aload_n 0, 1), (42, .getfield 7, 3), (45, .aload_n 0, 1), (46, .iload_n 1, 1), (47, .invokevirtual 69, 3), (50, .dup2, 1), (51, .iaload, 1), (52, .iconst 1, 1), (53, .isub, 1), (54, .iastore, 1), (55, .iload_n 1, 1), (56, .istore_n 3, 1), (57, .iload_n 3, 1), (58, .aload_n 0, 1), (59, .invokevirtual 84, 3), (62, .if_icmp .ge 17, 3), (65, .aload_n 0, 1), (66, .iload_n 3, 1), (67, .iconst 1, 1), (68, .iadd, 1), (69, .iload_n 3, 1), (70, .invokevirtual 98, 3), (73, .iinc 3 1, 3), (76, .goto (-19), 3), (79, .iconst 0, 1), (80, .istore_n 3, 1), (81, .iload_n 3, 1), (82, .aload_n 0, 1), (83, .invokevirtual 84, 3), (86, .if_icmp .ge 36, 3), (89, .aload_n 0, 1), (90, .getfield 19, 3), (93, .iload_n 3, 1), (94, .dup2, 1), (95, .iaload, 1), (96, .aload_n 0, 1), (97, .getfield 19, 3), (100, .iload_n 3, 1), (101, .iaload, 1), (102, .bipush 8, 2), (104, .iload_n 1, 1), (105, .iadd, 1), (106, .if_icmp .le 7, 3), (109, .iconst 1, 1), (110, .goto 4, 3), (113, .iconst 0, 1), (114, .isub, 1), (115, .iastore, 1), (116, .iinc 3 1, 3), (119, .goto (-38), 3), (122, .iload_n 2, 1), (123, .ireturn, 1)]
theorem dc_R_leaveOut : dl_R_leaveOut.all (dq prog_9_method_18_code) = true := by decide +kernel
def dl_R_raise : List (Nat × Instr × Nat) := [(0, .aload_n 0, 1), (1, .iload_n 1, 1), (2, .invokevirtual 73, 3), (5, .istore_n 2, 1), (6, .aload_n 0, 1), (7, .getfield 7, 3), (10, .iconst 0, 1), (11, .iaload, 1), (12, .istore_n 3, 1), (13, .aload_n 0, 1), (14, .getfield 13, 3), (17, .iload_n 2, 1), (18, .iaload, 1), (19, .istore 4, 2), (21, .aload_n 0, 1), (22, .getfield 16, 3), (25, .iload_n 2, 1), (26, .iaload, 1), (27, .istore 5, 2), (29, .aload_n 0, 1), (30, .getfield 19, 3), (33, .iload_n 2, 1), (34, .iaload, 1), (35, .istore 6, 2), (37, .iload_n 2, 1), (38, .istore 7, 2), (40, .iload 7, 2), (42, .iload_n 3, 1), (43, .if_icmp .le 19, 3), (46, .aload_n 0, 1), (47, .iload 7, 2), (49, .iconst 1, 1), (50, .isub, 1), (51, .iload 7, 2), (53, .invokevirtual 98, 3), (56, .iinc 7 (-1), 3), (59, .goto (-19), 3), (62, .aload_n 0, 1), (63, .getfield 13, 3), (66, .iload_n 3, 1), (67, .iload 4, 2), (69, .iastore, 1), (70, .aload_n 0, 1), (71, .getfield 16, 3), (74, .iload_n 3, 1), (75, .iload 5, 2), (77, .iastore, 1), (78, .aload_n 0, 1), (79, .getfield 19, 3), (82, .iload_n 3, 1), (83, .iload 6, 2), (85, .iastore, 1), (86, .aload_n 0, 1), (87, .getfield 7, 3), (90, .iconst 0, 1), (91, .dup2, 1), (92, .iaload, 1), (93, .iconst 1, 1), (94, .iadd, 1), (95, .iastore, 1), (96, .aload_n 0, 1), (97, .getfield 7, 3), (100, .iload_n 1, 1), (101, .dup2, 1), (102, .iaload, 1), (103, .iconst 1, 1), (104, .isub, 1), (105, .iastore, 1), (106, .iconst 0, 1), (107, .istore 7, 2), (109, .iload 7, 2), (111, .aload_n 0, 1), (112, .invokevirtual 84, 3), (115, .if_icmp .ge 72, 3), (118, .aload_n 0, 1), (119, .getfield 19, 3), (122, .iload 7, 2), (124, .iaload, 1), (125, .bipush 8, 2), (127, .isub, 1), (128, .istore 8, 2), (130, .aload_n 0, 1), (131, .getfield 19, 3), (134, .iload 7, 2), (136, .iload 8, 2), (138, .iload_n 2, 1), (139, .if_icmp .ne 10, 3), (142, .bipush 8, 2), (144, .iload_n 3, 1), (145, .iadd, 1), (146, .goto 34, 3), (149, .iload 8, 2), (151, .iload_n 3, 1), (152, .if_icmp .lt 21, 3), (155, .iload 8, 2), (157, .iload_n 2, 1), (158, .if_icmp .ge 15, 3), (161, .aload_n 0, 1), (162, .getfield 19, 3), (165, .iload 7, 2), (167, .iaload, 1), (168, .iconst 1, 1), (169, .iadd, 1), (170, .goto 10, 3), (173, .aload_n 0, 1), (174, .getfield 19, 3), (177, .iload 7, 2), (179, .iaload, 1), (180, .iastore, 1), (181, .iinc 7 1, 3), (184, .goto (-75), 3), (187, .return_, 1)]
theorem dc_R_raise : dl_R_raise.all (dq prog_9_method_19_code) = true := by decide +kernel
def dl_R_add : List (Nat × Instr × Nat) := [(0, .aload_n 0, 1), (1, .iconst 0, 1), (2, .putfield 65, 3), (5, .iload_n 1, 1), (6, .iconst 0, 1), (7, .iconst 2, 1), (8, .invokestatic 102, 3), (11, .ifCond .eq 27, 3), (14, .iload_n 2, 1), (15, .iconst 0, 1), (16, .bipush 6, 2), (18, .invokestatic 102, 3), (21, .ifCond .eq 17, 3), (24, .iload_n 3, 1), (25, .iconst 0, 1), (26, .iconst 2, 1), (27, .invokestatic 102, 3), (30, .ifCond .eq 8, 3), (33, .iload 4, 2), (35, .ifCond .ge 9, 3), (38, .aload_n 0, 1), (39, .iconst 1, 1), (40, .invokevirtual 105, 3), (43, .ireturn, 1), (44, .iload 4, 2), (46, .bipush 7, 2), (48, .if_icmp .le 34, 3), (51, .aload_n 0, 1), (52, .iload 4, 2), (54, .bipush 8, 2), (56, .isub, 1), (57, .iload_n 1, 1), (58, .aload_n 0, 1), (59, .iload_n 1, 1), (60, .invokevirtual 73, 3), (63, .aload_n 0, 1), (64, .getfield 7, 3), (67, .iload_n 1, 1), (68, .iaload, 1), (69, .iadd, 1), (70, .invokevirtual 88, 3), (73, .ifCond .ne 9, 3), (76, .aload_n 0, 1), (77, .iconst 1, 1), (78, .invokevirtual 105, 3), (81, .ireturn, 1), (82, .aload_n 0, 1), (83, .getfield 7, 3), (86, .iload_n 1, 1), (87, .iaload, 1), (88, .iload_n 1, 1), (89, .ifCond .ne 8, 3), (92, .bipush 6, 2), (94, .goto 4, 3), (97, .iconst 4, 1), (98, .if_icmp .ne 9, 3), (101, .aload_n 0, 1), (102, .iconst 2, 1), (103, .invokevirtual 105, 3), (106, .ireturn, 1), (107, .aload_n 0, 1), (108, .invokevirtual 108, 3), (111, .aload_n 0, 1), (112, .iload_n 1, 1), (113, .iload_n 2, 1), (114, .iload_n 3, 1), (115, .iload 4, 2), (117, .invokevirtual 111, 3), (120, .istore 5, 2), (122, .aload_n 0, 1), (123, .invokevirtual 115, 3), (126, .ifCond .ne 13, 3), (129, .aload_n 0, 1), (130, .invokevirtual 119, 3), (133, .aload_n 0, 1), (134, .iconst 3, 1), (135, .invokevirtual 105, 3), (138, .ireturn, 1), (139, .aload_n 0, 1), (140, .iconst 0, 1), (141, .putfield 122, 3), (144, .iload 5, 2), (146, .ireturn, 1)]
theorem dc_R_add : dl_R_add.all (dq prog_9_method_20_code) = true := by decide +kernel
def dl_R_clear : List (Nat × Instr × Nat) := [(0, .aload_n 0, 1), (1, .iconst 0, 1), (2, .putfield 65, 3), (5, .aload_n 0, 1), (6, .invokevirtual 84, 3), (9, .istore_n 1, 1), (10, .iconst 0, 1), (11, .istore_n 2, 1), (12, .iload_n 2, 1), (13, .iconst 3, 1), (14, .if_icmp .ge 16, 3), (17, .aload_n 0, 1), (18, .getfield 7, 3), (21, .iload_n 2, 1), (22, .iconst 0, 1), (23, .iastore, 1), (24, .iinc 2 1, 3), (27, .goto (-15), 3), (30, .aload_n 0, 1), (31, .iconst 0, 1), (32, .putfield 122, 3), (35, .iload_n 1, 1), (36, .ireturn, 1)]
theorem dc_R_clear : dl_R_clear.all (dq prog_9_method_21_code) = true := by decide +kernel
def dl_R_drawn : List (Nat × Instr × Nat) := [(0, .aload_n 0, 1), (1, .aload_n 0, 1), (2, .getfield 126, 3), (5, .ldc2_w 130, 3), (8, .lmul, 1), (9, .ldc2_w 132, 3), (12, .ladd, 1), (13, .putfield 126, 3), (16, .aload_n 0, 1), (17, .getfield 126, 3), (20, .bipush 33, 2), (22, .lushr, 1), (23, .iload_n 1, 1), (24, .i2l, 1), (25, .lrem, 1), (26, .l2i, 1), (27, .ireturn, 1)]
theorem dc_R_drawn : dl_R_drawn.all (dq prog_9_method_22_code) = true := by decide +kernel
def dl_R_before : List (Nat × Instr × Nat) := [(0, .iconst 0, 1), (1, .istore 4, 2), (3, .iconst 0, 1), (4, .istore 5, 2), (6, .iload 5, 2), (8, .iload_n 1, 1), (9, .if_icmp .ge 30, 3), (12, .iload 4, 2), (14, .aload_n 0, 1), (15, .iload 5, 2), (17, .iload_n 2, 1), (18, .iload_n 3, 1), (19, .invokevirtual 88, 3), (22, .ifCond .eq 7, 3), (25, .iconst 1, 1), (26, .goto 4, 3), (29, .iconst 0, 1), (30, .iadd, 1), (31, .istore 4, 2), (33, .iinc 5 1, 3), (36, .goto (-30), 3), (39, .iload 4, 2), (41, .ireturn, 1)]
theorem dc_R_before : dl_R_before.all (dq prog_9_method_24_code) = true := by decide +kernel
def dl_R_tried : List (Nat × Instr × Nat) := [(0, .iconst 0, 1), (1, .istore_n 2, 1), (2, .iconst 0, 1), (3, .istore_n 3, 1), (4, .iload_n 3, 1), (5, .bipush 20, 2), (7, .if_icmp .ge 219, 3), (10, .iload_n 2, 1), (11, .ifCond .ne 215, 3), (14, .aload_n 0, 1), (15, .bipush 7, 2), (17, .invokevirtual 134, 3), (20, .istore 4, 2), (22, .aload_n 0, 1), (23, .iconst 3, 1), (24, .invokevirtual 134, 3), (27, .istore 5, 2), (29, .aload_n 0, 1), (30, .iconst 4, 1), (31, .invokevirtual 134, 3), (34, .ifCond .ne 7, 3), (37, .iconst 1, 1), (38, .goto 4, 3), (41, .iconst 0, 1), (42, .istore 6, 2), (44, .aload_n 0, 1), (45, .iload_n 1, 1), (46, .invokevirtual 73, 3), (49, .aload_n 0, 1), (50, .getfield 7, 3), (53, .iload_n 1, 1), (54, .iaload, 1), (55, .iadd, 1), (56, .istore 7, 2), (58, .iconst 0, 1), (59, .istore 8, 2), (61, .iconst 0, 1), (62, .istore 9, 2), (64, .iload 9, 2), (66, .iload 7, 2), (68, .if_icmp .ge 31, 3), (71, .iload 8, 2), (73, .aload_n 0, 1), (74, .iload 9, 2), (76, .iload_n 1, 1), (77, .iload 7, 2), (79, .invokevirtual 88, 3), (82, .ifCond .eq 7, 3), (85, .iconst 1, 1), (86, .goto 4, 3), (89, .iconst 0, 1), (90, .iadd, 1), (91, .istore 8, 2), (93, .iinc 9 1, 3), (96, .goto (-32), 3), (99, .aload_n 0, 1), (100, .iload 6, 2), (102, .ifCond .eq 13, 3), (105, .iload 8, 2), (107, .ifCond .le 8, 3), (110, .iload 8, 2), (112, .goto 5, 3), (115, .bipush 8, 2), (117, .invokevirtual 134, 3), (120, .istore 9, 2), (122, .iload 6, 2), (124, .ifCond .eq 67, 3), (127, .iload 8, 2), (129, .ifCond .le 62, 3), (132, .iload 9, 2), (134, .istore 10, 2), (136, .iload 7, 2), (138, .iconst 1, 1), (139, .isub, 1), (140, .istore 11, 2), (142, .iload 11, 2), (144, .ifCond .lt 47, 3), (147, .aload_n 0, 1), (148, .iload 11, 2), (150, .iload_n 1, 1), (151, .iload 7, 2), (153, .invokevirtual 88, 3), (156, .ifCond .eq 25, 3), (159, .aload_n 0, 1), (160, .iload 11, 2), (162, .iload_n 1, 1), (163, .iload 7, 2), (165, .invokevirtual 137, 3), (168, .iload 10, 2), (170, .if_icmp .ne 11, 3), (173, .bipush 8, 2), (175, .iload 11, 2), (177, .iadd, 1), (178, .goto 5, 3), (181, .iload 9, 2), (183, .istore 9, 2), (185, .iinc 11 (-1), 3), (188, .goto (-46), 3), (191, .aload_n 0, 1), (192, .invokevirtual 108, 3), (195, .aload_n 0, 1), (196, .iload_n 1, 1), (197, .iload 4, 2), (199, .iload 5, 2), (201, .iload 9, 2), (203, .invokevirtual 111, 3), (206, .pop, 1), (207, .aload_n 0, 1), (208, .invokevirtual 115, 3), (211, .istore_n 2, 1), (212, .iload_n 2, 1), (213, .ifCond .ne 7, 3), (216, .aload_n 0, 1), (217, .invokevirtual 119, 3), (220, .iinc 3 1, 3), (223, .goto (-219), 3), (226, .return_, 1)]
theorem dc_R_tried : dl_R_tried.all (dq prog_9_method_23_code) = true := by decide +kernel
def dl_R_make : List (Nat × Instr × Nat) := [(0, .aload_n 0, 1), (1, .iconst 0, 1), (2, .putfield 65, 3), (5, .iload_n 3, 1), (6, .iconst 0, 1), (7, .bipush 6, 2), (9, .invokestatic 102, 3), (12, .ifCond .eq 23, 3), (15, .iload 4, 2), (17, .iconst 0, 1), (18, .iconst 4, 1), (19, .invokestatic 102, 3), (22, .ifCond .eq 13, 3), (25, .iload 5, 2), (27, .iconst 0, 1), (28, .iconst 4, 1), (29, .invokestatic 102, 3), (32, .ifCond .ne 9, 3), (35, .aload_n 0, 1), (36, .iconst 1, 1), (37, .invokevirtual 105, 3), (40, .ireturn, 1), (41, .aload_n 0, 1), (42, .invokevirtual 141, 3), (45, .pop, 1), (46, .aload_n 0, 1), (47, .lload_n 1, 1), (48, .putfield 126, 3), (51, .iconst 0, 1), (52, .istore 6, 2), (54, .iload 6, 2), (56, .iload_n 3, 1), (57, .if_icmp .ge 14, 3), (60, .aload_n 0, 1), (61, .iconst 0, 1), (62, .invokevirtual 144, 3), (65, .iinc 6 1, 3), (68, .goto (-14), 3), (71, .iconst 0, 1), (72, .istore 6, 2), (74, .iload 6, 2), (76, .iload 4, 2), (78, .if_icmp .ge 14, 3), (81, .aload_n 0, 1), (82, .iconst 1, 1), (83, .invokevirtual 144, 3), (86, .iinc 6 1, 3), (89, .goto (-15), 3), (92, .iconst 0, 1), (93, .istore 6, 2), (95, .iload 6, 2), (97, .iload 5, 2), (99, .if_icmp .ge 14, 3), (102, .aload_n 0, 1), (103, .iconst 2, 1), (104, .invokevirtual 144, 3), (107, .iinc 6 1, 3), (110, .goto (-15), 3), (113, .aload_n 0, 1), (114, .invokevirtual 84, 3), (117, .ireturn, 1)]
theorem dc_R_make : dl_R_make.all (dq prog_9_method_25_code) = true := by decide +kernel
def dl_R_flaws : List (Nat × Instr × Nat) := [(0, .aload_n 0, 1), (1, .iconst 0, 1), (2, .putfield 65, 3), (5, .iload_n 1, 1), (6, .iconst 0, 1), (7, .bipush 15, 2), (9, .invokestatic 102, 3), (12, .ifCond .ne 9, 3), (15, .aload_n 0, 1), (16, .iconst 1, 1), (17, .invokevirtual 105, 3), (20, .ireturn, 1), (21, .aload_n 0, 1), (22, .getfield 148, 3), (25, .istore_n 2, 1), (26, .aload_n 0, 1), (27, .iload_n 1, 1), (28, .putfield 148, 3), (31, .iload_n 2, 1), (32, .ireturn, 1)]
theorem dc_R_flaws : dl_R_flaws.all (dq prog_9_method_26_code) = true := by decide +kernel
def dl_R_twoParts : List (Nat × Instr × Nat) := [(0, .aload_n 0, 1), (1, .getfield 13, 3), (4, .iload_n 1, 1), (5, .iaload, 1), (6, .iconst 4, 1), (7, .if_icmp .ne 12, 3), (10, .aload_n 0, 1), (11, .getfield 148, 3), (14, .iconst 1, 1), (15, .iand, 1), (16, .ifCond .ne 42, 3), (19, .aload_n 0, 1), (20, .getfield 13, 3), (23, .iload_n 1, 1), (24, .iaload, 1), (25, .iconst 5, 1), (26, .if_icmp .ne 12, 3), (29, .aload_n 0, 1), (30, .getfield 148, 3), (33, .iconst 2, 1), (34, .iand, 1), (35, .ifCond .ne 23, 3), (38, .aload_n 0, 1), (39, .getfield 13, 3), (42, .iload_n 1, 1), (43, .iaload, 1), (44, .bipush 6, 2), (46, .if_icmp .ne 16, 3), (49, .aload_n 0, 1), (50, .getfield 148, 3), (53, .iconst 4, 1), (54, .iand, 1), (55, .ifCond .eq 7, 3), (58, .iconst 1, 1), (59, .goto 4, 3), (62, .iconst 0, 1), (63, .ireturn, 1)]
theorem dc_R_twoParts : dl_R_twoParts.all (dq prog_9_method_27_code) = true := by decide +kernel
def dl_R_isLate : List (Nat × Instr × Nat) := [(0, .aload_n 0, 1), (1, .getfield 13, 3), (4, .iload_n 1, 1), (5, .iaload, 1), (6, .iconst 3, 1), (7, .if_icmp .ne 17, 3), (10, .aload_n 0, 1), (11, .getfield 148, 3), (14, .bipush 8, 2), (16, .iand, 1), (17, .ifCond .eq 7, 3), (20, .iconst 1, 1), (21, .goto 4, 3), (24, .iconst 0, 1), (25, .ireturn, 1)]
theorem dc_R_isLate : dl_R_isLate.all (dq prog_9_method_28_code) = true := by decide +kernel
def dl_R_source : List (Nat × Instr × Nat) := [(0, .aload_n 0, 1), (1, .getfield 13, 3), (4, .iload_n 1, 1), (5, .iaload, 1), (6, .bipush 6, 2), (8, .if_icmp .ne 16, 3), (11, .aload_n 0, 1), (12, .getfield 16, 3), (15, .iload_n 1, 1), (16, .iaload, 1), (17, .iconst 1, 1), (18, .iadd, 1), (19, .iconst 3, 1), (20, .irem, 1), (21, .goto 9, 3), (24, .aload_n 0, 1), (25, .getfield 16, 3), (28, .iload_n 1, 1), (29, .iaload, 1), (30, .ireturn, 1)]
theorem dc_R_source : dl_R_source.all (dq prog_9_method_29_code) = true := by decide +kernel
def dl_R_does : List (Nat × Instr × Nat) := [(0, .aload_n 0, 1), (1, .getfield 16, 3), (4, .iload_n 1, 1), (5, .iaload, 1), (6, .istore_n 2, 1), (7, .aload_n 0, 1), (8, .getfield 44, 3), (11, .iload_n 1, 1), (12, .iaload, 1), (13, .istore_n 3, 1), (14, .aload_n 0, 1), (15, .getfield 53, 3), (18, .iload_n 1, 1), (19, .iaload, 1), (20, .istore 4, 2), (22, .aload_n 0, 1), (23, .getfield 41, 3), (26, .iload_n 1, 1), (27, .aload_n 0, 1), (28, .getfield 13, 3), (31, .iload_n 1, 1), (32, .iaload, 1), (33, .iconst 1, 1), (34, .if_icmp .eq 13, 3), (37, .aload_n 0, 1), (38, .getfield 13, 3), (41, .iload_n 1, 1), (42, .iaload, 1), (43, .iconst 2, 1), (44, .if_icmp .ne 12, 3), (47, .aload_n 0, 1), (48, .getfield 35, 3), (51, .iload_n 2, 1), (52, .iaload, 1), (53, .goto 59, 3), (56, .aload_n 0, 1), (57, .getfield 13, 3), (60, .iload_n 1, 1), (61, .iaload, 1), (62, .iconst 4, 1), (63, .if_icmp .ne 13, 3), (66, .iload 4, 2), (68, .iload_n 3, 1), (69, .iadd, 1), (70, .bipush 8, 2), (72, .irem, 1), (73, .goto 39, 3), (76, .aload_n 0, 1), (77, .getfield 13, 3), (80, .iload_n 1, 1), (81, .iaload, 1), (82, .iconst 5, 1), (83, .if_icmp .ne 8, 3), (86, .iload 4, 2), (88, .goto 24, 3), (91, .aload_n 0, 1), (92, .getfield 13, 3), (95, .iload_n 1, 1), (96, .iaload, 1), (97, .bipush 6, 2), (99, .if_icmp .ne 12, 3), (102, .aload_n 0, 1), (103, .getfield 35, 3), (106, .iload_n 2, 1), (107, .iaload, 1), (108, .goto 4, 3), (111, .iconst 0, 1), (112, .iastore, 1), (113, .aload_n 0, 1), (114, .getfield 38, 3), (117, .iload_n 2, 1), (118, .aload_n 0, 1), (119, .getfield 13, 3), (122, .iload_n 1, 1), (123, .iaload, 1), (124, .iconst 1, 1), (125, .if_icmp .eq 25, 3), (128, .aload_n 0, 1), (129, .getfield 13, 3), (132, .iload_n 1, 1), (133, .iaload, 1), (134, .ifCond .eq 12, 3), (137, .aload_n 0, 1), (138, .getfield 38, 3), (141, .iload_n 2, 1), (142, .baload, 1), (143, .ifCond .eq 7, 3), (146, .iconst 1, 1), (147, .goto 4, 3), (150, .iconst 0, 1), (151, .bastore, 1), (152, .aload_n 0, 1), (153, .getfield 13, 3), (156, .iload_n 1, 1), (157, .iaload, 1), (158, .ifCond .eq 31, 3), (161, .aload_n 0, 1), (162, .getfield 13, 3), (165, .iload_n 1, 1), (166, .iaload, 1), (167, .iconst 5, 1), (168, .if_icmp .eq 21, 3), (171, .aload_n 0, 1), (172, .getfield 13, 3), (175, .iload_n 1, 1), (176, .iaload, 1), (177, .iconst 3, 1), (178, .if_icmp .ne 18, 3), (181, .aload_n 0, 1), (182, .iload_n 1, 1), (183, .invokevirtual 151, 3), (186, .ifCond .ne 10, 3), (189, .aload_n 0, 1), (190, .getfield 35, 3), (193, .iload_n 2, 1), (194, .iload_n 3, 1), (195, .iastore, 1), (196, .aload_n 0, 1), (197, .getfield 13, 3), (200, .iload_n 1, 1), (201, .iaload, 1), (202, .iconst 1, 1), (203, .if_icmp .ne 10, 3), (206, .aload_n 0, 1), (207, .getfield 35, 3), (210, .iload_n 2, 1), (211, .iconst 0, 1), (212, .iastore, 1), (213, .aload_n 0, 1), (214, .getfield 13, 3), (217, .iload_n 1, 1), (218, .iaload, 1), (219, .iconst 4, 1), (220, .if_icmp .ne 16, 3), (223, .aload_n 0, 1), (224, .getfield 35, 3), (227, .iload_n 2, 1), (228, .iload 4, 2), (230, .iload_n 3, 1), (231, .iadd, 1), (232, .bipush 8, 2), (234, .irem, 1), (235, .iastore, 1), (236, .aload_n 0, 1), (237, .getfield 13, 3), (240, .iload_n 1, 1), (241, .iaload, 1), (242, .bipush 6, 2), (244, .if_icmp .ne 11, 3), (247, .aload_n 0, 1), (248, .getfield 35, 3), (251, .iload_n 2, 1), (252, .iload 4, 2), (254, .iastore, 1), (255, .return_, 1)]
theorem dc_R_does : dl_R_does.all (dq prog_9_method_30_code) = true := by decide +kernel
def dl_R_calls : List (Nat × Instr × Nat) := [(0, .aload_n 0, 1), (1, .getfield 44, 3), (4, .iload_n 1, 1), (5, .aload_n 0, 1), (6, .getfield 19, 3), (9, .iload_n 1, 1), (10, .iaload, 1), (11, .bipush 8, 2), (13, .if_icmp .ge 12, 3), (16, .aload_n 0, 1), (17, .getfield 19, 3), (20, .iload_n 1, 1), (21, .iaload, 1), (22, .goto 17, 3), (25, .aload_n 0, 1), (26, .getfield 41, 3), (29, .aload_n 0, 1), (30, .getfield 19, 3), (33, .iload_n 1, 1), (34, .iaload, 1), (35, .bipush 8, 2), (37, .isub, 1), (38, .iaload, 1), (39, .iastore, 1), (40, .return_, 1)]
theorem dc_R_calls : dl_R_calls.all (dq prog_9_method_31_code) = true := by decide +kernel
def dl_R_events : List (Nat × Instr × Nat) := [(0, .aload_n 0, 1), (1, .iload_n 1, 1), (2, .invokevirtual 154, 3), (5, .ifCond .eq 7, 3), (8, .iconst 4, 1), (9, .goto 4, 3), (12, .iconst 3, 1), (13, .aload_n 0, 1), (14, .iload_n 1, 1), (15, .invokevirtual 151, 3), (18, .ifCond .eq 7, 3), (21, .iconst 1, 1), (22, .goto 4, 3), (25, .iconst 0, 1), (26, .iadd, 1), (27, .ireturn, 1)]
theorem dc_R_events : dl_R_events.all (dq prog_9_method_32_code) = true := by decide +kernel
def dl_R_happens : List (Nat × Instr × Nat) := [(0, .aload_n 0, 1), (1, .iload_n 1, 1), (2, .invokevirtual 154, 3), (5, .ifCond .eq 7, 3), (8, .iconst 2, 1), (9, .goto 4, 3), (12, .iconst 1, 1), (13, .istore 4, 2), (15, .iload_n 2, 1), (16, .ifCond .ne 15, 3), (19, .aload_n 0, 1), (20, .iload_n 1, 1), (21, .invokevirtual 157, 3), (24, .aload_n 0, 1), (25, .getfield 47, 3), (28, .iload_n 1, 1), (29, .iload_n 3, 1), (30, .iastore, 1), (31, .iload_n 2, 1), (32, .iconst 1, 1), (33, .if_icmp .ne 19, 3), (36, .aload_n 0, 1), (37, .getfield 53, 3), (40, .iload_n 1, 1), (41, .aload_n 0, 1), (42, .getfield 35, 3), (45, .aload_n 0, 1), (46, .iload_n 1, 1), (47, .invokevirtual 160, 3), (50, .iaload, 1), (51, .iastore, 1), (52, .iload_n 2, 1), (53, .iload 4, 2), (55, .if_icmp .ne 8, 3), (58, .aload_n 0, 1), (59, .iload_n 1, 1), (60, .invokevirtual 163, 3), (63, .iload_n 2, 1), (64, .iload 4, 2), (66, .iconst 1, 1), (67, .iadd, 1), (68, .if_icmp .ne 10, 3), (71, .aload_n 0, 1), (72, .getfield 50, 3), (75, .iload_n 1, 1), (76, .iload_n 3, 1), (77, .iastore, 1), (78, .iload_n 2, 1), (79, .iload 4, 2), (81, .iconst 2, 1), (82, .iadd, 1), (83, .if_icmp .ne 20, 3), (86, .aload_n 0, 1), (87, .getfield 35, 3), (90, .aload_n 0, 1), (91, .getfield 16, 3), (94, .iload_n 1, 1), (95, .iaload, 1), (96, .aload_n 0, 1), (97, .getfield 44, 3), (100, .iload_n 1, 1), (101, .iaload, 1), (102, .iastore, 1), (103, .return_, 1)]
theorem dc_R_happens : dl_R_happens.all (dq prog_9_method_33_code) = true := by decide +kernel
def dl_R_hasLeft : List (Nat × Instr × Nat) := [(0, .aload_n 0, 1), (1, .getfield 56, 3), (4, .iload_n 1, 1), (5, .iaload, 1), (6, .aload_n 0, 1), (7, .iload_n 1, 1), (8, .invokevirtual 73, 3), (11, .aload_n 0, 1), (12, .getfield 7, 3), (15, .iload_n 1, 1), (16, .iaload, 1), (17, .iadd, 1), (18, .if_icmp .ge 7, 3), (21, .iconst 1, 1), (22, .goto 4, 3), (25, .iconst 0, 1), (26, .ireturn, 1)]
theorem dc_R_hasLeft : dl_R_hasLeft.all (dq prog_9_method_34_code) = true := by decide +kernel
def dl_R_go : List (Nat × Instr × Nat) := [(0, .iconst 0, 1), (1, .istore_n 2, 1), (2, .iload_n 2, 1), (3, .iconst 3, 1), (4, .if_icmp .ge 23, 3), (7, .aload_n 0, 1), (8, .getfield 35, 3), (11, .iload_n 2, 1), (12, .iconst 0, 1), (13, .iastore, 1), (14, .aload_n 0, 1), (15, .getfield 38, 3), (18, .iload_n 2, 1), (19, .iconst 0, 1), (20, .bastore, 1), (21, .iinc 2 1, 3), (24, .goto (-22), 3), (27, .iconst 0, 1), (28, .istore_n 2, 1), (29, .iload_n 2, 1), (30, .aload_n 0, 1), (31, .getfield 7, 3), (34, .iconst 0, 1), (35, .iaload, 1), (36, .if_icmp .ge 33, 3), (39, .iconst 0, 1), (40, .istore_n 3, 1), (41, .iload_n 3, 1), (42, .aload_n 0, 1), (43, .iload_n 2, 1), (44, .invokevirtual 166, 3), (47, .if_icmp .ge 16, 3), (50, .aload_n 0, 1), (51, .iload_n 2, 1), (52, .iload_n 3, 1), (53, .iconst (-1), 1), (54, .invokevirtual 169, 3), (57, .iinc 3 1, 3), (60, .goto (-19), 3), (63, .iinc 2 1, 3), (66, .goto (-37), 3), (69, .iconst 1, 1), (70, .istore_n 2, 1), (71, .iload_n 2, 1), (72, .iconst 3, 1), (73, .if_icmp .ge 27, 3), (76, .aload_n 0, 1), (77, .getfield 56, 3), (80, .iload_n 2, 1), (81, .aload_n 0, 1), (82, .iload_n 2, 1), (83, .invokevirtual 73, 3), (86, .iastore, 1), (87, .aload_n 0, 1), (88, .getfield 59, 3), (91, .iload_n 2, 1), (92, .iconst 0, 1), (93, .iastore, 1), (94, .iinc 2 1, 3), (97, .goto (-26), 3), (100, .iconst 0, 1), (101, .istore_n 2, 1), (102, .aload_n 0, 1), (103, .iconst 1, 1), (104, .invokevirtual 173, 3), (107, .ifCond .ne 11, 3), (110, .aload_n 0, 1), (111, .iconst 2, 1), (112, .invokevirtual 173, 3), (115, .ifCond .eq 107, 3), (118, .aload_n 0, 1), (119, .iconst 2, 1), (120, .invokevirtual 173, 3), (123, .ifCond .ne 7, 3), (126, .iconst 1, 1), (127, .goto 25, 3), (130, .aload_n 0, 1), (131, .iconst 1, 1), (132, .invokevirtual 173, 3), (135, .ifCond .ne 7, 3), (138, .iconst 2, 1), (139, .goto 13, 3), (142, .iconst 1, 1), (143, .iload_n 1, 1), (144, .iload_n 2, 1), (145, .bipush 31, 2), (147, .irem, 1), (148, .ishr, 1), (149, .iconst 1, 1), (150, .iand, 1), (151, .iadd, 1), (152, .istore_n 3, 1), (153, .aload_n 0, 1), (154, .aload_n 0, 1), (155, .getfield 56, 3), (158, .iload_n 3, 1), (159, .iaload, 1), (160, .aload_n 0, 1), (161, .getfield 59, 3), (164, .iload_n 3, 1), (165, .iaload, 1), (166, .iload_n 2, 1), (167, .invokevirtual 169, 3), (170, .aload_n 0, 1), (171, .getfield 59, 3), (174, .iload_n 3, 1), (175, .dup2, 1), (176, .iaload, 1), (177, .iconst 1, 1), (178, .iadd, 1), (179, .iastore, 1), (180, .aload_n 0, 1), (181, .getfield 59, 3), (184, .iload_n 3, 1), (185, .iaload, 1), (186, .aload_n 0, 1), (187, .aload_n 0, 1), (188, .getfield 56, 3), (191, .iload_n 3, 1), (192, .iaload, 1), (193, .invokevirtual 166, 3), (196, .if_icmp .ne 20, 3), (199, .aload_n 0, 1), (200, .getfield 59, 3), (203, .iload_n 3, 1), (204, .iconst 0, 1), (205, .iastore, 1), (206, .aload_n 0, 1), (207, .getfield 56, 3), (210, .iload_n 3, 1), (211, .dup2, 1), (212, .iaload, 1), (213, .iconst 1, 1), (214, .iadd, 1), (215, .iastore, 1), (216, .iinc 2 1, 3), (219, .goto (-117), 3), (222, .return_, 1)]
theorem dc_R_go : dl_R_go.all (dq prog_9_method_35_code) = true := by decide +kernel
def dl_R_right : List (Nat × Instr × Nat) := [(0, .aload_n 0, 1), (1, .getfield 16, 3), (4, .iload_n 1, 1), (5, .iaload, 1), (6, .istore_n 2, 1), (7, .aload_n 0, 1), (8, .getfield 28, 3), (11, .iload_n 2, 1), (12, .iaload, 1), (13, .istore_n 3, 1), (14, .aload_n 0, 1), (15, .getfield 44, 3), (18, .iload_n 1, 1), (19, .iaload, 1), (20, .istore 4, 2), (22, .aload_n 0, 1), (23, .getfield 13, 3), (26, .iload_n 1, 1), (27, .iaload, 1), (28, .iconst 1, 1), (29, .if_icmp .ne 10, 3), (32, .aload_n 0, 1), (33, .getfield 28, 3), (36, .iload_n 2, 1), (37, .iconst 0, 1), (38, .iastore, 1), (39, .aload_n 0, 1), (40, .getfield 13, 3), (43, .iload_n 1, 1), (44, .iaload, 1), (45, .ifCond .eq 23, 3), (48, .aload_n 0, 1), (49, .getfield 13, 3), (52, .iload_n 1, 1), (53, .iaload, 1), (54, .iconst 3, 1), (55, .if_icmp .eq 13, 3), (58, .aload_n 0, 1), (59, .getfield 13, 3), (62, .iload_n 1, 1), (63, .iaload, 1), (64, .iconst 5, 1), (65, .if_icmp .ne 11, 3), (68, .aload_n 0, 1), (69, .getfield 28, 3), (72, .iload_n 2, 1), (73, .iload 4, 2), (75, .iastore, 1), (76, .aload_n 0, 1), (77, .getfield 13, 3), (80, .iload_n 1, 1), (81, .iaload, 1), (82, .iconst 4, 1), (83, .if_icmp .ne 16, 3), (86, .aload_n 0, 1), (87, .getfield 28, 3), (90, .iload_n 2, 1), (91, .iload_n 3, 1), (92, .iload 4, 2), (94, .iadd, 1), (95, .bipush 8, 2), (97, .irem, 1), (98, .iastore, 1), (99, .aload_n 0, 1), (100, .getfield 13, 3), (103, .iload_n 1, 1), (104, .iaload, 1), (105, .bipush 6, 2), (107, .if_icmp .ne 19, 3), (110, .aload_n 0, 1), (111, .getfield 28, 3), (114, .iload_n 2, 1), (115, .aload_n 0, 1), (116, .getfield 28, 3), (119, .iload_n 2, 1), (120, .iconst 1, 1), (121, .iadd, 1), (122, .iconst 3, 1), (123, .irem, 1), (124, .iaload, 1), (125, .iastore, 1), (126, .aload_n 0, 1), (127, .getfield 13, 3), (130, .iload_n 1, 1), (131, .iaload, 1), (132, .ifCond .eq 13, 3), (135, .aload_n 0, 1), (136, .getfield 13, 3), (139, .iload_n 1, 1), (140, .iaload, 1), (141, .iconst 3, 1), (142, .if_icmp .ne 7, 3), (145, .iconst 0, 1), (146, .goto 23, 3), (149, .aload_n 0, 1), (150, .getfield 13, 3), (153, .iload_n 1, 1), (154, .iaload, 1), (155, .iconst 4, 1), (156, .if_icmp .ne 12, 3), (159, .aload_n 0, 1), (160, .getfield 28, 3), (163, .iload_n 2, 1), (164, .iaload, 1), (165, .goto 4, 3), (168, .iload_n 3, 1), (169, .ireturn, 1)]
theorem dc_R_right : dl_R_right.all (dq prog_9_method_36_code) = true := by decide +kernel
def dl_R_explains : List (Nat × Instr × Nat) := [(0, .iconst 0, 1), (1, .istore_n 2, 1), (2, .iload_n 2, 1), (3, .iconst 3, 1), (4, .if_icmp .ge 16, 3), (7, .aload_n 0, 1), (8, .getfield 28, 3), (11, .iload_n 2, 1), (12, .iconst 0, 1), (13, .iastore, 1), (14, .iinc 2 1, 3), (17, .goto (-15), 3), (20, .iconst 1, 1), (21, .istore_n 2, 1), (22, .iconst 0, 1), (23, .istore_n 3, 1), (24, .iload_n 3, 1), (25, .aload_n 0, 1), (26, .getfield 7, 3), (29, .iconst 0, 1), (30, .iaload, 1), (31, .if_icmp .ge 33, 3), (34, .aload_n 0, 1), (35, .iload_n 3, 1), (36, .invokevirtual 176, 3), (39, .aload_n 0, 1), (40, .getfield 41, 3), (43, .iload_n 3, 1), (44, .iaload, 1), (45, .if_icmp .ne 11, 3), (48, .iload_n 2, 1), (49, .ifCond .eq 7, 3), (52, .iconst 1, 1), (53, .goto 4, 3), (56, .iconst 0, 1), (57, .istore_n 2, 1), (58, .iinc 3 1, 3), (61, .goto (-37), 3), (64, .aload_n 0, 1), (65, .getfield 7, 3), (68, .iconst 1, 1), (69, .iaload, 1), (70, .aload_n 0, 1), (71, .getfield 7, 3), (74, .iconst 2, 1), (75, .iaload, 1), (76, .iadd, 1), (77, .istore_n 3, 1), (78, .iconst 0, 1), (79, .istore 4, 2), (81, .iload 4, 2), (83, .iload_n 3, 1), (84, .if_icmp .ge 94, 3), (87, .iload_n 2, 1), (88, .ifCond .eq 90, 3), (91, .aload_n 0, 1), (92, .iload_n 1, 1), (93, .iload 4, 2), (95, .invokevirtual 80, 3), (98, .istore 5, 2), (100, .aload_n 0, 1), (101, .iload 5, 2), (103, .invokevirtual 176, 3), (106, .aload_n 0, 1), (107, .getfield 41, 3), (110, .iload 5, 2), (112, .iaload, 1), (113, .if_icmp .ne 7, 3), (116, .iconst 1, 1), (117, .goto 4, 3), (120, .iconst 0, 1), (121, .istore_n 2, 1), (122, .iload 4, 2), (124, .iconst 1, 1), (125, .iadd, 1), (126, .istore 6, 2), (128, .iload 6, 2), (130, .iload_n 3, 1), (131, .if_icmp .ge 41, 3), (134, .iload_n 2, 1), (135, .ifCond .eq 29, 3), (138, .aload_n 0, 1), (139, .getfield 50, 3), (142, .aload_n 0, 1), (143, .iload_n 1, 1), (144, .iload 6, 2), (146, .invokevirtual 80, 3), (149, .iaload, 1), (150, .aload_n 0, 1), (151, .getfield 47, 3), (154, .iload 5, 2), (156, .iaload, 1), (157, .if_icmp .le 7, 3), (160, .iconst 1, 1), (161, .goto 4, 3), (164, .iconst 0, 1), (165, .istore_n 2, 1), (166, .iinc 6 1, 3), (169, .goto (-41), 3), (172, .iinc 4 1, 3), (175, .goto (-94), 3), (178, .iload_n 2, 1), (179, .ireturn, 1)]
theorem dc_R_explains : dl_R_explains.all (dq prog_9_method_37_code) = true := by decide +kernel
def dl_R_judged : List (Nat × Instr × Nat) := [(0, .aload_n 0, 1), (1, .iload_n 1, 1), (2, .invokevirtual 179, 3), (5, .aload_n 0, 1), (6, .iconst 1, 1), (7, .putfield 122, 3), (10, .aload_n 0, 1), (11, .dup, 1), (12, .getfield 182, 3), (15, .iconst 1, 1), (16, .iadd, 1), (17, .putfield 182, 3), (20, .iconst 0, 1), (21, .istore_n 2, 1), (22, .iload_n 2, 1), (23, .aload_n 0, 1), (24, .invokevirtual 84, 3), (27, .if_icmp .ge 24, 3), (30, .aload_n 0, 1), (31, .getfield 62, 3), (34, .aload_n 0, 1), (35, .getfield 13, 3), (38, .iload_n 2, 1), (39, .iaload, 1), (40, .dup2, 1), (41, .iaload, 1), (42, .iconst 1, 1), (43, .iadd, 1), (44, .iastore, 1), (45, .iinc 2 1, 3), (48, .goto (-26), 3), (51, .aload_n 0, 1), (52, .iconst 0, 1), (53, .putfield 185, 3), (56, .iconst 1, 1), (57, .aload_n 0, 1), (58, .getfield 7, 3), (61, .iconst 1, 1), (62, .iaload, 1), (63, .aload_n 0, 1), (64, .getfield 7, 3), (67, .iconst 2, 1), (68, .iaload, 1), (69, .iadd, 1), (70, .ishl, 1), (71, .istore_n 2, 1), (72, .iconst 0, 1), (73, .istore_n 3, 1), (74, .iload_n 3, 1), (75, .iload_n 2, 1), (76, .if_icmp .ge 46, 3), (79, .aload_n 0, 1), (80, .getfield 185, 3), (83, .ifCond .ne 39, 3), (86, .aload_n 0, 1), (87, .aload_n 0, 1), (88, .iload_n 3, 1), (89, .invokevirtual 92, 3), (92, .ifCond .eq 15, 3), (95, .aload_n 0, 1), (96, .iload_n 3, 1), (97, .invokevirtual 188, 3), (100, .ifCond .eq 7, 3), (103, .iconst 1, 1), (104, .goto 4, 3), (107, .iconst 0, 1), (108, .putfield 185, 3), (111, .aload_n 0, 1), (112, .iload_n 3, 1), (113, .putfield 191, 3), (116, .iinc 3 1, 3), (119, .goto (-45), 3), (122, .aload_n 0, 1), (123, .dup, 1), (124, .getfield 194, 3), (127, .aload_n 0, 1), (128, .getfield 185, 3), (131, .ifCond .eq 7, 3), (134, .iconst 0, 1), (135, .goto 4, 3), (138, .iconst 1, 1), (139, .iadd, 1), (140, .putfield 194, 3), (143, .aload_n 0, 1), (144, .getfield 185, 3), (147, .ireturn, 1)]
theorem dc_R_judged : dl_R_judged.all (dq prog_9_method_38_code) = true := by decide +kernel
def dl_R_run : List (Nat × Instr × Nat) := [(0, .aload_n 0, 1), (1, .iconst 0, 1), (2, .putfield 65, 3), (5, .iload_n 1, 1), (6, .ifCond .ge 17, 3), (9, .aload_n 0, 1), (10, .iconst 1, 1), (11, .invokevirtual 105, 3), (14, .ifCond .le 7, 3), (17, .iconst 1, 1), (18, .goto 4, 3), (21, .iconst 0, 1), (22, .ireturn, 1), (23, .aload_n 0, 1), (24, .iload_n 1, 1), (25, .invokevirtual 197, 3), (28, .ireturn, 1)]
theorem dc_R_run : dl_R_run.all (dq prog_9_method_39_code) = true := by decide +kernel
def dl_R_failed : List (Nat × Instr × Nat) := [(0, .aload_n 0, 1), (1, .lload_n 1, 1), (2, .putfield 126, 3), (5, .iconst 0, 1), (6, .istore 4, 2), (8, .iload 4, 2), (10, .iload_n 3, 1), (11, .if_icmp .ge 35, 3), (14, .aload_n 0, 1), (15, .ldc 200, 2), (17, .invokevirtual 134, 3), (20, .istore 5, 2), (22, .aload_n 0, 1), (23, .iload 5, 2), (25, .invokevirtual 197, 3), (28, .ifCond .ne 12, 3), (31, .aload_n 0, 1), (32, .iload 5, 2), (34, .putfield 201, 3), (37, .iload 4, 2), (39, .ireturn, 1), (40, .iinc 4 1, 3), (43, .goto (-35), 3), (46, .iconst (-1), 1), (47, .ireturn, 1)]
theorem dc_R_failed : dl_R_failed.all (dq prog_9_method_40_code) = true := by decide +kernel
def dl_R_fails : List (Nat × Instr × Nat) := [(0, .aload_n 0, 1), (1, .iconst 0, 1), (2, .putfield 65, 3), (5, .iload_n 3, 1), (6, .iconst 1, 1), (7, .bipush 50, 2), (9, .invokestatic 102, 3), (12, .ifCond .eq 12, 3), (15, .aload_n 0, 1), (16, .lload_n 1, 1), (17, .iload_n 3, 1), (18, .invokevirtual 204, 3), (21, .goto 8, 3), (24, .aload_n 0, 1), (25, .iconst 1, 1), (26, .invokevirtual 105, 3), (29, .ireturn, 1)]
theorem dc_R_fails : dl_R_fails.all (dq prog_9_method_41_code) = true := by decide +kernel
def dl_R_takes : List (Nat × Instr × Nat) := [(0, .iload_n 1, 1), (1, .ifCond .eq 22, 3), (4, .aload_n 0, 1), (5, .invokevirtual 115, 3), (8, .ifCond .eq 15, 3), (11, .aload_n 0, 1), (12, .lload_n 2, 1), (13, .iload 4, 2), (15, .invokevirtual 204, 3), (18, .ifCond .lt 5, 3), (21, .iconst 1, 1), (22, .ireturn, 1), (23, .aload_n 0, 1), (24, .invokevirtual 119, 3), (27, .iconst 0, 1), (28, .ireturn, 1)]
theorem dc_R_takes : dl_R_takes.all (dq prog_9_method_42_code) = true := by decide +kernel
def dl_R_smaller : List (Nat × Instr × Nat) := [(0, .aload_n 0, 1), (1, .invokevirtual 108, 3), (4, .aload_n 0, 1), (5, .invokevirtual 84, 3), (8, .iconst 1, 1), (9, .isub, 1), (10, .istore 4, 2), (12, .iload 4, 2), (14, .ifCond .lt 30, 3), (17, .aload_n 0, 1), (18, .iload 4, 2), (20, .invokevirtual 208, 3), (23, .istore 5, 2), (25, .aload_n 0, 1), (26, .iload 5, 2), (28, .lload_n 1, 1), (29, .iload_n 3, 1), (30, .invokevirtual 211, 3), (33, .ifCond .eq 5, 3), (36, .iconst 1, 1), (37, .ireturn, 1), (38, .iinc 4 (-1), 3), (41, .goto (-29), 3), (44, .iconst 1, 1), (45, .istore 4, 2), (47, .iload 4, 2), (49, .iconst 3, 1), (50, .if_icmp .ge 48, 3), (53, .aload_n 0, 1), (54, .getfield 7, 3), (57, .iload 4, 2), (59, .iaload, 1), (60, .ifCond .le 32, 3), (63, .aload_n 0, 1), (64, .getfield 7, 3), (67, .iconst 0, 1), (68, .iaload, 1), (69, .bipush 6, 2), (71, .if_icmp .ge 21, 3), (74, .aload_n 0, 1), (75, .iload 4, 2), (77, .invokevirtual 215, 3), (80, .aload_n 0, 1), (81, .iconst 1, 1), (82, .lload_n 1, 1), (83, .iload_n 3, 1), (84, .invokevirtual 211, 3), (87, .ifCond .eq 5, 3), (90, .iconst 1, 1), (91, .ireturn, 1), (92, .iinc 4 1, 3), (95, .goto (-48), 3), (98, .iconst 0, 1), (99, .istore 4, 2), (101, .iload 4, 2), (103, .aload_n 0, 1), (104, .invokevirtual 84, 3), (107, .if_icmp .ge 73, 3), (110, .aload_n 0, 1), (111, .getfield 19, 3), (114, .iload 4, 2), (116, .iaload, 1), (117, .istore 5, 2), (119, .iconst 0, 1), (120, .istore 6, 2), (122, .iload 6, 2), (124, .iconst 2, 1), (125, .if_icmp .ge 49, 3), (128, .iload 5, 2), (130, .bipush 8, 2), (132, .if_icmp .ge 36, 3), (135, .iload 5, 2), (137, .iload 6, 2), (139, .if_icmp .le 29, 3), (142, .aload_n 0, 1), (143, .getfield 19, 3), (146, .iload 4, 2), (148, .iload 6, 2), (150, .iload 5, 2), (152, .imul, 1), (153, .iconst 2, 1), (154, .idiv, 1), (155, .iastore, 1), (156, .aload_n 0, 1), (157, .iconst 1, 1), (158, .lload_n 1, 1), (159, .iload_n 3, 1), (160, .invokevirtual 211, 3), (163, .ifCond .eq 5, 3), (166, .iconst 1, 1), (167, .ireturn, 1), (168, .iinc 6 1, 3), (171, .goto (-49), 3), (174, .iinc 4 1, 3), (177, .goto (-76), 3), (180, .iconst 0, 1), (181, .ireturn, 1)]
theorem dc_R_smaller : dl_R_smaller.all (dq prog_9_method_43_code) = true := by decide +kernel
def dl_R_shrink : List (Nat × Instr × Nat) := [(0, .aload_n 0, 1), (1, .iconst 0, 1), (2, .putfield 65, 3), (5, .iload_n 3, 1), (6, .iconst 1, 1), (7, .bipush 50, 2), (9, .invokestatic 102, 3), (12, .ifCond .ne 9, 3), (15, .aload_n 0, 1), (16, .iconst 1, 1), (17, .invokevirtual 105, 3), (20, .ireturn, 1), (21, .aload_n 0, 1), (22, .lload_n 1, 1), (23, .iload_n 3, 1), (24, .invokevirtual 204, 3), (27, .ifCond .ge 9, 3), (30, .aload_n 0, 1), (31, .iconst 2, 1), (32, .invokevirtual 105, 3), (35, .ireturn, 1), (36, .iconst 0, 1), (37, .istore 4, 2), (39, .aload_n 0, 1), (40, .lload_n 1, 1), (41, .iload_n 3, 1), (42, .invokevirtual 218, 3), (45, .ifCond .eq 9, 3), (48, .iinc 4 1, 3), (51, .goto (-12), 3), (54, .aload_n 0, 1), (55, .dup, 1), (56, .getfield 222, 3), (59, .iload 4, 2), (61, .iadd, 1), (62, .putfield 222, 3), (65, .aload_n 0, 1), (66, .aload_n 0, 1), (67, .getfield 201, 3), (70, .invokevirtual 197, 3), (73, .pop, 1), (74, .iload 4, 2), (76, .ireturn, 1)]
theorem dc_R_shrink : dl_R_shrink.all (dq prog_9_method_44_code) = true := by decide +kernel
def dl_R_command : List (Nat × Instr × Nat) := [(0, .aload_n 0, 1), (1, .iconst 0, 1), (2, .putfield 65, 3), (5, .iload_n 1, 1), (6, .iconst 0, 1), (7, .aload_n 0, 1), (8, .invokevirtual 84, 3), (11, .iconst 1, 1), (12, .isub, 1), (13, .invokestatic 102, 3), (16, .ifCond .eq 12, 3), (19, .iload_n 2, 1), (20, .iconst 0, 1), (21, .iconst 3, 1), (22, .invokestatic 102, 3), (25, .ifCond .ne 9, 3), (28, .aload_n 0, 1), (29, .iconst 1, 1), (30, .invokevirtual 105, 3), (33, .ireturn, 1), (34, .iload_n 2, 1), (35, .ifCond .ne 11, 3), (38, .aload_n 0, 1), (39, .iload_n 1, 1), (40, .invokevirtual 69, 3), (43, .goto 37, 3), (46, .iload_n 2, 1), (47, .iconst 1, 1), (48, .if_icmp .ne 12, 3), (51, .aload_n 0, 1), (52, .getfield 13, 3), (55, .iload_n 1, 1), (56, .iaload, 1), (57, .goto 23, 3), (60, .iload_n 2, 1), (61, .iconst 2, 1), (62, .if_icmp .ne 12, 3), (65, .aload_n 0, 1), (66, .getfield 16, 3), (69, .iload_n 1, 1), (70, .iaload, 1), (71, .goto 9, 3), (74, .aload_n 0, 1), (75, .getfield 19, 3), (78, .iload_n 1, 1), (79, .iaload, 1), (80, .ireturn, 1)]
theorem dc_R_command : dl_R_command.all (dq prog_9_method_45_code) = true := by decide +kernel
def dl_R_event : List (Nat × Instr × Nat) := [(0, .aload_n 0, 1), (1, .iconst 0, 1), (2, .putfield 65, 3), (5, .iload_n 1, 1), (6, .iconst 0, 1), (7, .aload_n 0, 1), (8, .invokevirtual 84, 3), (11, .iconst 1, 1), (12, .isub, 1), (13, .invokestatic 102, 3), (16, .ifCond .eq 12, 3), (19, .iload_n 2, 1), (20, .iconst 0, 1), (21, .iconst 3, 1), (22, .invokestatic 102, 3), (25, .ifCond .ne 9, 3), (28, .aload_n 0, 1), (29, .iconst 1, 1), (30, .invokevirtual 105, 3), (33, .ireturn, 1), (34, .aload_n 0, 1), (35, .getfield 122, 3), (38, .ifCond .ne 9, 3), (41, .aload_n 0, 1), (42, .iconst 2, 1), (43, .invokevirtual 105, 3), (46, .ireturn, 1), (47, .iload_n 2, 1), (48, .ifCond .ne 12, 3), (51, .aload_n 0, 1), (52, .getfield 41, 3), (55, .iload_n 1, 1), (56, .iaload, 1), (57, .goto 37, 3), (60, .iload_n 2, 1), (61, .iconst 1, 1), (62, .if_icmp .ne 12, 3), (65, .aload_n 0, 1), (66, .getfield 44, 3), (69, .iload_n 1, 1), (70, .iaload, 1), (71, .goto 23, 3), (74, .iload_n 2, 1), (75, .iconst 2, 1), (76, .if_icmp .ne 12, 3), (79, .aload_n 0, 1), (80, .getfield 47, 3), (83, .iload_n 1, 1), (84, .iaload, 1), (85, .goto 9, 3), (88, .aload_n 0, 1), (89, .getfield 50, 3), (92, .iload_n 1, 1), (93, .iaload, 1), (94, .ireturn, 1)]
theorem dc_R_event : dl_R_event.all (dq prog_9_method_46_code) = true := by decide +kernel
def dl_R_order : List (Nat × Instr × Nat) := [(0, .aload_n 0, 1), (1, .iconst 0, 1), (2, .putfield 65, 3), (5, .aload_n 0, 1), (6, .getfield 122, 3), (9, .ifCond .ne 9, 3), (12, .aload_n 0, 1), (13, .iconst 1, 1), (14, .invokevirtual 105, 3), (17, .ireturn, 1), (18, .aload_n 0, 1), (19, .getfield 185, 3), (22, .ifCond .eq 38, 3), (25, .iload_n 1, 1), (26, .iconst 0, 1), (27, .aload_n 0, 1), (28, .getfield 7, 3), (31, .iconst 1, 1), (32, .iaload, 1), (33, .aload_n 0, 1), (34, .getfield 7, 3), (37, .iconst 2, 1), (38, .iaload, 1), (39, .iadd, 1), (40, .iconst 1, 1), (41, .isub, 1), (42, .invokestatic 102, 3), (45, .ifCond .eq 15, 3), (48, .aload_n 0, 1), (49, .aload_n 0, 1), (50, .getfield 191, 3), (53, .iload_n 1, 1), (54, .invokevirtual 80, 3), (57, .goto 8, 3), (60, .aload_n 0, 1), (61, .iconst 2, 1), (62, .invokevirtual 105, 3), (65, .ireturn, 1)]
theorem dc_R_order : dl_R_order.all (dq prog_9_method_47_code) = true := by decide +kernel
def dl_R_cell : List (Nat × Instr × Nat) := [(0, .aload_n 0, 1), (1, .iconst 0, 1), (2, .putfield 65, 3), (5, .iload_n 1, 1), (6, .iconst 0, 1), (7, .iconst 2, 1), (8, .invokestatic 102, 3), (11, .ifCond .ne 9, 3), (14, .aload_n 0, 1), (15, .iconst 1, 1), (16, .invokevirtual 105, 3), (19, .ireturn, 1), (20, .aload_n 0, 1), (21, .getfield 122, 3), (24, .ifCond .eq 28, 3), (27, .aload_n 0, 1), (28, .getfield 35, 3), (31, .iload_n 1, 1), (32, .iaload, 1), (33, .aload_n 0, 1), (34, .getfield 38, 3), (37, .iload_n 1, 1), (38, .baload, 1), (39, .ifCond .eq 8, 3), (42, .bipush 8, 2), (44, .goto 4, 3), (47, .iconst 0, 1), (48, .iadd, 1), (49, .goto 8, 3), (52, .aload_n 0, 1), (53, .iconst 2, 1), (54, .invokevirtual 105, 3), (57, .ireturn, 1)]
theorem dc_R_cell : dl_R_cell.all (dq prog_9_method_48_code) = true := by decide +kernel
def dl_R_count : List (Nat × Instr × Nat) := [(0, .aload_n 0, 1), (1, .iconst 0, 1), (2, .putfield 65, 3), (5, .iload_n 1, 1), (6, .iconst 0, 1), (7, .iconst 3, 1), (8, .invokestatic 102, 3), (11, .ifCond .ne 9, 3), (14, .aload_n 0, 1), (15, .iconst 1, 1), (16, .invokevirtual 105, 3), (19, .ireturn, 1), (20, .iload_n 1, 1), (21, .ifCond .ne 10, 3), (24, .aload_n 0, 1), (25, .invokevirtual 84, 3), (28, .goto 31, 3), (31, .iload_n 1, 1), (32, .iconst 1, 1), (33, .if_icmp .ne 10, 3), (36, .aload_n 0, 1), (37, .getfield 182, 3), (40, .goto 19, 3), (43, .iload_n 1, 1), (44, .iconst 2, 1), (45, .if_icmp .ne 10, 3), (48, .aload_n 0, 1), (49, .getfield 194, 3), (52, .goto 7, 3), (55, .aload_n 0, 1), (56, .getfield 222, 3), (59, .ireturn, 1)]
theorem dc_R_count : dl_R_count.all (dq prog_9_method_49_code) = true := by decide +kernel
def dl_R_tally : List (Nat × Instr × Nat) := [(0, .aload_n 0, 1), (1, .iconst 0, 1), (2, .putfield 65, 3), (5, .iload_n 1, 1), (6, .iconst 0, 1), (7, .bipush 6, 2), (9, .invokestatic 102, 3), (12, .ifCond .eq 12, 3), (15, .aload_n 0, 1), (16, .getfield 62, 3), (19, .iload_n 1, 1), (20, .iaload, 1), (21, .goto 8, 3), (24, .aload_n 0, 1), (25, .iconst 1, 1), (26, .invokevirtual 105, 3), (29, .ireturn, 1)]
theorem dc_R_tally : dl_R_tally.all (dq prog_9_method_50_code) = true := by decide +kernel
def dl_M_numberOf : List (Nat × Instr × Nat) := [(0, .iload_n 1, 1), (1, .bipush 8, 2), (3, .if_icmp .ge 7, 3), (6, .iload_n 1, 1), (7, .goto 12, 3), (10, .aload_n 0, 1), (11, .getfield 9, 3), (14, .iload_n 1, 1), (15, .bipush 8, 2), (17, .isub, 1), (18, .iaload, 1), (19, .ireturn, 1)]
theorem dc_M_numberOf : dl_M_numberOf.all (dq prog_4_method_4_code) = true := by decide +kernel
def dl_M_isSplit : List (Nat × Instr × Nat) := [(0, .iload_n 1, 1), (1, .tableswitch 72 4 6 #[27, 42, 57], 27), (28, .aload_n 0, 1), (29, .getfield 39, 3), (32, .iconst 1, 1), (33, .iand, 1), (34, .ifCond .eq 7, 3), (37, .iconst 1, 1), (38, .goto 4, 3), (41, .iconst 0, 1), (42, .ireturn, 1), (43, .aload_n 0, 1), (44, .getfield 39, 3), (47, .iconst 2, 1), (48, .iand, 1), (49, .ifCond .eq 7, 3), (52, .iconst 1, 1), (53, .goto 4, 3), (56, .iconst 0, 1), (57, .ireturn, 1), (58, .aload_n 0, 1), (59, .getfield 39, 3), (62, .iconst 4, 1), (63, .iand, 1), (64, .ifCond .eq 7, 3), (67, .iconst 1, 1), (68, .goto 4, 3), (71, .iconst 0, 1), (72, .ireturn, 1), (73, .iconst 0, 1), (74, .ireturn, 1)]
theorem dc_M_isSplit : dl_M_isSplit.all (dq prog_4_method_5_code) = true := by decide +kernel
def dl_M_isLate : List (Nat × Instr × Nat) := [(0, .iload_n 1, 1), (1, .iconst 3, 1), (2, .if_icmp .ne 17, 3), (5, .aload_n 0, 1), (6, .getfield 39, 3), (9, .bipush 8, 2), (11, .iand, 1), (12, .ifCond .eq 7, 3), (15, .iconst 1, 1), (16, .goto 4, 3), (19, .iconst 0, 1), (20, .ireturn, 1)]
theorem dc_M_isLate : dl_M_isLate.all (dq prog_4_method_6_code) = true := by decide +kernel
def dl_M_act : List (Nat × Instr × Nat) := [(0, .aload_n 0, 1), (1, .getfield 9, 3), (4, .iload_n 1, 1), (5, .aload_n 0, 1), (6, .getfield 26, 3), (9, .iload_n 2, 1), (10, .iload_n 3, 1), (11, .aload_n 0, 1), (12, .getfield 15, 3), (15, .iload_n 1, 1), (16, .iaload, 1), (17, .invokestatic 92, 3), (20, .iastore, 1), (21, .aload_n 0, 1), (22, .iload_n 2, 1), (23, .invokevirtual 85, 3), (26, .ifCond .ne 22, 3), (29, .aload_n 0, 1), (30, .aload_n 0, 1), (31, .getfield 26, 3), (34, .iload_n 2, 1), (35, .iload_n 3, 1), (36, .aload_n 0, 1), (37, .getfield 15, 3), (40, .iload_n 1, 1), (41, .iaload, 1), (42, .invokestatic 88, 3), (45, .putfield 26, 3), (48, .return_, 1)]
theorem dc_M_act : dl_M_act.all (dq prog_4_method_7_code) = true := by decide +kernel
def dl_M_actByNote : List (Nat × Instr × Nat) := [(0, .iload_n 2, 1), (1, .lookupswitch 71 #[(4, 27), (5, 52)], 27), (28, .iload 4, 2), (30, .aload_n 0, 1), (31, .getfield 15, 3), (34, .iload_n 1, 1), (35, .iaload, 1), (36, .iadd, 1), (37, .bipush 8, 2), (39, .irem, 1), (40, .istore 5, 2), (42, .aload_n 0, 1), (43, .getfield 9, 3), (46, .iload_n 1, 1), (47, .iload 5, 2), (49, .iastore, 1), (50, .goto 40, 3), (53, .aload_n 0, 1), (54, .getfield 15, 3), (57, .iload_n 1, 1), (58, .iaload, 1), (59, .istore 5, 2), (61, .aload_n 0, 1), (62, .getfield 9, 3), (65, .iload_n 1, 1), (66, .iload 4, 2), (68, .iastore, 1), (69, .goto 21, 3), (72, .iload 4, 2), (74, .istore 5, 2), (76, .aload_n 0, 1), (77, .getfield 9, 3), (80, .iload_n 1, 1), (81, .aload_n 0, 1), (82, .getfield 26, 3), (85, .iload_n 3, 1), (86, .invokestatic 73, 3), (89, .iastore, 1), (90, .aload_n 0, 1), (91, .aload_n 0, 1), (92, .getfield 26, 3), (95, .iconst 3, 1), (96, .iload_n 3, 1), (97, .iload 5, 2), (99, .invokestatic 88, 3), (102, .putfield 26, 3), (105, .return_, 1)]
theorem dc_M_actByNote : dl_M_actByNote.all (dq prog_4_method_8_code) = true := by decide +kernel
def dl_M_step : List (Nat × Instr × Nat) := [(0, .aload_n 0, 1), (1, .getfield 30, 3), (4, .iload_n 2, 1), (5, .iaload, 1), (6, .istore 4, 2), (8, .aload_n 1, 1), (9, .getfield 55, 3), (12, .iload 4, 2), (14, .iaload, 1), (15, .istore 5, 2), (17, .aload_n 1, 1), (18, .getfield 58, 3), (21, .iload 4, 2), (23, .iaload, 1), (24, .istore 6, 2), (26, .aload_n 0, 1), (27, .getfield 33, 3), (30, .iload_n 2, 1), (31, .iaload, 1), (32, .tableswitch 224 0 3 #[32, 81, 121, 169], 32), (64, .aload_n 0, 1), (65, .getfield 18, 3), (68, .iload 4, 2), (70, .iload_n 3, 1), (71, .iastore, 1), (72, .aload_n 0, 1), (73, .getfield 15, 3), (76, .iload 4, 2), (78, .aload_n 0, 1), (79, .aload_n 1, 1), (80, .getfield 60, 3), (83, .iload 4, 2), (85, .iaload, 1), (86, .invokevirtual 63, 3), (89, .iastore, 1), (90, .aload_n 0, 1), (91, .getfield 33, 3), (94, .iload_n 2, 1), (95, .aload_n 0, 1), (96, .iload 5, 2), (98, .invokevirtual 66, 3), (101, .ifCond .eq 7, 3), (104, .iconst 1, 1), (105, .goto 4, 3), (108, .iconst 2, 1), (109, .iastore, 1), (110, .goto 185, 3), (113, .aload_n 0, 1), (114, .getfield 36, 3), (117, .iload_n 2, 1), (118, .aload_n 0, 1), (119, .getfield 26, 3), (122, .iload 5, 2), (124, .bipush 6, 2), (126, .if_icmp .ne 11, 3), (129, .iload 6, 2), (131, .invokestatic 70, 3), (134, .goto 5, 3), (137, .iload 6, 2), (139, .invokestatic 73, 3), (142, .iastore, 1), (143, .aload_n 0, 1), (144, .getfield 33, 3), (147, .iload_n 2, 1), (148, .iconst 2, 1), (149, .iastore, 1), (150, .goto 145, 3), (153, .aload_n 0, 1), (154, .iload 5, 2), (156, .invokevirtual 66, 3), (159, .ifCond .eq 22, 3), (162, .aload_n 0, 1), (163, .iload 4, 2), (165, .iload 5, 2), (167, .iload 6, 2), (169, .aload_n 0, 1), (170, .getfield 36, 3), (173, .iload_n 2, 1), (174, .iaload, 1), (175, .invokevirtual 77, 3), (178, .goto 13, 3), (181, .aload_n 0, 1), (182, .iload 4, 2), (184, .iload 5, 2), (186, .iload 6, 2), (188, .invokevirtual 81, 3), (191, .aload_n 0, 1), (192, .getfield 33, 3), (195, .iload_n 2, 1), (196, .iconst 3, 1), (197, .iastore, 1), (198, .goto 97, 3), (201, .aload_n 0, 1), (202, .getfield 21, 3), (205, .iload 4, 2), (207, .iload_n 3, 1), (208, .iastore, 1), (209, .aload_n 0, 1), (210, .getfield 33, 3), (213, .iload_n 2, 1), (214, .aload_n 0, 1), (215, .iload 5, 2), (217, .invokevirtual 85, 3), (220, .ifCond .eq 7, 3), (223, .iconst 4, 1), (224, .goto 4, 3), (227, .iconst 0, 1), (228, .iastore, 1), (229, .aload_n 0, 1), (230, .getfield 30, 3), (233, .iload_n 2, 1), (234, .aload_n 0, 1), (235, .iload 5, 2), (237, .invokevirtual 85, 3), (240, .ifCond .eq 8, 3), (243, .iload 4, 2), (245, .goto 7, 3), (248, .iload 4, 2), (250, .iconst 1, 1), (251, .iadd, 1), (252, .iastore, 1), (253, .goto 42, 3), (256, .aload_n 0, 1), (257, .aload_n 0, 1), (258, .getfield 26, 3), (261, .iload 5, 2), (263, .iload 6, 2), (265, .aload_n 0, 1), (266, .getfield 15, 3), (269, .iload 4, 2), (271, .iaload, 1), (272, .invokestatic 88, 3), (275, .putfield 26, 3), (278, .aload_n 0, 1), (279, .getfield 33, 3), (282, .iload_n 2, 1), (283, .iconst 0, 1), (284, .iastore, 1), (285, .aload_n 0, 1), (286, .getfield 30, 3), (289, .iload_n 2, 1), (290, .iload 4, 2), (292, .iconst 1, 1), (293, .iadd, 1), (294, .iastore, 1), (295, .return_, 1)]
theorem dc_M_step : dl_M_step.all (dq prog_4_method_3_code) = true := by decide +kernel
def dl_M_perform : List (Nat × Instr × Nat) := [(0, .aload_n 0, 1), (1, .iload_n 2, 1), (2, .putfield 39, 3), (5, .aload_n 0, 1), (6, .iconst 0, 1), (7, .putfield 26, 3), (10, .iconst 0, 1), (11, .istore 4, 2), (13, .iload 4, 2), (15, .iconst 3, 1), (16, .if_icmp .ge 30, 3), (19, .aload_n 0, 1), (20, .getfield 30, 3), (23, .iload 4, 2), (25, .aload_n 1, 1), (26, .iload 4, 2), (28, .invokevirtual 42, 3), (31, .iastore, 1), (32, .aload_n 0, 1), (33, .getfield 33, 3), (36, .iload 4, 2), (38, .iconst 0, 1), (39, .iastore, 1), (40, .iinc 4 1, 3), (43, .goto (-30), 3), (46, .aload_n 1, 1), (47, .iconst 0, 1), (48, .invokevirtual 48, 3), (51, .istore 4, 2), (53, .iconst 0, 1), (54, .istore 5, 2), (56, .iload 5, 2), (58, .bipush 70, 2), (60, .if_icmp .ge 27, 3), (63, .aload_n 0, 1), (64, .getfield 30, 3), (67, .iconst 0, 1), (68, .iaload, 1), (69, .iload 4, 2), (71, .if_icmp .ge 16, 3), (74, .aload_n 0, 1), (75, .aload_n 1, 1), (76, .iconst 0, 1), (77, .iconst (-1), 1), (78, .invokevirtual 51, 3), (81, .iinc 5 1, 3), (84, .goto (-28), 3), (87, .aload_n 1, 1), (88, .iconst 1, 1), (89, .invokevirtual 48, 3), (92, .istore 5, 2), (94, .aload_n 1, 1), (95, .iconst 2, 1), (96, .invokevirtual 48, 3), (99, .istore 6, 2), (101, .iconst 0, 1), (102, .istore 7, 2), (104, .iload 7, 2), (106, .bipush 70, 2), (108, .if_icmp .ge 105, 3), (111, .aload_n 0, 1), (112, .getfield 30, 3), (115, .iconst 1, 1), (116, .iaload, 1), (117, .iload 5, 2), (119, .if_icmp .lt 7, 3), (122, .iconst 1, 1), (123, .goto 4, 3), (126, .iconst 0, 1), (127, .istore 8, 2), (129, .aload_n 0, 1), (130, .getfield 30, 3), (133, .iconst 2, 1), (134, .iaload, 1), (135, .iload 6, 2), (137, .if_icmp .lt 7, 3), (140, .iconst 1, 1), (141, .goto 4, 3), (144, .iconst 0, 1), (145, .istore 9, 2), (147, .iload 8, 2), (149, .ifCond .eq 11, 3), (152, .iload 9, 2), (154, .ifCond .eq 6, 3), (157, .goto 56, 3), (160, .iload_n 3, 1), (161, .iload 7, 2), (163, .bipush 31, 2), (165, .irem, 1), (166, .ishr, 1), (167, .iconst 1, 1), (168, .iand, 1), (169, .iconst 1, 1), (170, .if_icmp .ne 7, 3), (173, .iconst 1, 1), (174, .goto 4, 3), (177, .iconst 0, 1), (178, .istore 10, 2), (180, .aload_n 0, 1), (181, .aload_n 1, 1), (182, .iload 8, 2), (184, .ifCond .ne 13, 3), (187, .iload 10, 2), (189, .ifCond .eq 12, 3), (192, .iload 9, 2), (194, .ifCond .ne 7, 3), (197, .iconst 2, 1), (198, .goto 4, 3), (201, .iconst 1, 1), (202, .iload 7, 2), (204, .invokevirtual 51, 3), (207, .iinc 7 1, 3), (210, .goto (-106), 3), (213, .return_, 1)]
theorem dc_M_perform : dl_M_perform.all (dq prog_4_method_2_code) = true := by decide +kernel
def dl_J_answersSo : List (Nat × Instr × Nat) := [(0, .iload_n 2, 1), (1, .aload_n 0, 1), (2, .getfield 46, 3), (5, .iload_n 3, 1), (6, .iaload, 1), (7, .aload_n 0, 1), (8, .getfield 49, 3), (11, .iload_n 3, 1), (12, .iaload, 1), (13, .aload_n 1, 1), (14, .getfield 52, 3), (17, .iload_n 3, 1), (18, .iaload, 1), (19, .invokestatic 55, 3), (22, .istore 4, 2), (24, .iload 4, 2), (26, .aload_n 1, 1), (27, .getfield 59, 3), (30, .iload_n 3, 1), (31, .iaload, 1), (32, .if_icmp .ne 7, 3), (35, .iconst 1, 1), (36, .goto 4, 3), (39, .iconst 0, 1), (40, .ireturn, 1)]
theorem dc_J_answersSo : dl_J_answersSo.all (dq prog_3_method_4_code) = true := by decide +kernel
def dl_J_after : List (Nat × Instr × Nat) := [(0, .iload_n 2, 1), (1, .aload_n 0, 1), (2, .getfield 46, 3), (5, .iload_n 3, 1), (6, .iaload, 1), (7, .aload_n 0, 1), (8, .getfield 49, 3), (11, .iload_n 3, 1), (12, .iaload, 1), (13, .aload_n 1, 1), (14, .getfield 52, 3), (17, .iload_n 3, 1), (18, .iaload, 1), (19, .invokestatic 62, 3), (22, .ireturn, 1)]
theorem dc_J_after : dl_J_after.all (dq prog_3_method_5_code) = true := by decide +kernel
def dl_J_search : List (Nat × Instr × Nat) := [(0, .iload 4, 2), (2, .aload_n 1, 1), (3, .iconst 1, 1), (4, .invokevirtual 17, 3), (7, .if_icmp .ge 7, 3), (10, .iconst 1, 1), (11, .goto 4, 3), (14, .iconst 0, 1), (15, .istore 7, 2), (17, .iload 5, 2), (19, .aload_n 1, 1), (20, .iconst 2, 1), (21, .invokevirtual 17, 3), (24, .if_icmp .ge 7, 3), (27, .iconst 1, 1), (28, .goto 4, 3), (31, .iconst 0, 1), (32, .istore 8, 2), (34, .iload 7, 2), (36, .ifCond .ne 10, 3), (39, .iload 8, 2), (41, .ifCond .ne 5, 3), (44, .iconst 1, 1), (45, .ireturn, 1), (46, .iload 6, 2), (48, .aload_n 0, 1), (49, .getfield 9, 3), (52, .arraylength, 1), (53, .if_icmp .lt 5, 3), (56, .iconst 0, 1), (57, .ireturn, 1), (58, .iload 7, 2), (60, .ifCond .eq 29, 3), (63, .iload 8, 2), (65, .ifCond .eq 20, 3), (68, .aload_n 2, 1), (69, .getfield 38, 3), (72, .iload 5, 2), (74, .iaload, 1), (75, .aload_n 2, 1), (76, .getfield 43, 3), (79, .iload 4, 2), (81, .iaload, 1), (82, .if_icmp .lt 7, 3), (85, .iconst 1, 1), (86, .goto 4, 3), (89, .iconst 0, 1), (90, .istore 9, 2), (92, .iload 9, 2), (94, .ifCond .eq 56, 3), (97, .aload_n 1, 1), (98, .aload_n 2, 1), (99, .iload_n 3, 1), (100, .iload 4, 2), (102, .invokestatic 23, 3), (105, .ifCond .eq 45, 3), (108, .aload_n 0, 1), (109, .getfield 9, 3), (112, .iload 6, 2), (114, .iload 4, 2), (116, .iastore, 1), (117, .aload_n 1, 1), (118, .aload_n 2, 1), (119, .iload_n 3, 1), (120, .iload 4, 2), (122, .invokestatic 27, 3), (125, .istore 10, 2), (127, .aload_n 0, 1), (128, .aload_n 1, 1), (129, .aload_n 2, 1), (130, .iload 10, 2), (132, .iload 4, 2), (134, .iconst 1, 1), (135, .iadd, 1), (136, .iload 5, 2), (138, .iload 6, 2), (140, .iconst 1, 1), (141, .iadd, 1), (142, .invokevirtual 34, 3), (145, .ifCond .eq 5, 3), (148, .iconst 1, 1), (149, .ireturn, 1), (150, .iload 8, 2), (152, .ifCond .eq 29, 3), (155, .iload 7, 2), (157, .ifCond .eq 20, 3), (160, .aload_n 2, 1), (161, .getfield 38, 3), (164, .iload 4, 2), (166, .iaload, 1), (167, .aload_n 2, 1), (168, .getfield 43, 3), (171, .iload 5, 2), (173, .iaload, 1), (174, .if_icmp .lt 7, 3), (177, .iconst 1, 1), (178, .goto 4, 3), (181, .iconst 0, 1), (182, .istore 10, 2), (184, .iload 10, 2), (186, .ifCond .eq 52, 3), (189, .aload_n 1, 1), (190, .aload_n 2, 1), (191, .iload_n 3, 1), (192, .iload 5, 2), (194, .invokestatic 23, 3), (197, .ifCond .eq 41, 3), (200, .aload_n 0, 1), (201, .getfield 9, 3), (204, .iload 6, 2), (206, .iload 5, 2), (208, .iastore, 1), (209, .aload_n 1, 1), (210, .aload_n 2, 1), (211, .iload_n 3, 1), (212, .iload 5, 2), (214, .invokestatic 27, 3), (217, .istore 11, 2), (219, .aload_n 0, 1), (220, .aload_n 1, 1), (221, .aload_n 2, 1), (222, .iload 11, 2), (224, .iload 4, 2), (226, .iload 5, 2), (228, .iconst 1, 1), (229, .iadd, 1), (230, .iload 6, 2), (232, .iconst 1, 1), (233, .iadd, 1), (234, .invokevirtual 34, 3), (237, .ireturn, 1), (238, .iconst 0, 1), (239, .ireturn, 1)]
theorem dc_J_search : dl_J_search.all (dq prog_3_method_3_code) = true := by decide +kernel
def dl_J_explains : List (Nat × Instr × Nat) := [(0, .iconst 0, 1), (1, .istore_n 3, 1), (2, .aload_n 1, 1), (3, .iconst 0, 1), (4, .invokevirtual 17, 3), (7, .istore 4, 2), (9, .iconst 0, 1), (10, .istore 5, 2), (12, .iload 5, 2), (14, .iload 4, 2), (16, .if_icmp .ge 31, 3), (19, .aload_n 1, 1), (20, .aload_n 2, 1), (21, .iload_n 3, 1), (22, .iload 5, 2), (24, .invokestatic 23, 3), (27, .ifCond .ne 5, 3), (30, .iconst 0, 1), (31, .ireturn, 1), (32, .aload_n 1, 1), (33, .aload_n 2, 1), (34, .iload_n 3, 1), (35, .iload 5, 2), (37, .invokestatic 27, 3), (40, .istore_n 3, 1), (41, .iinc 5 1, 3), (44, .goto (-32), 3), (47, .aload_n 0, 1), (48, .aload_n 1, 1), (49, .aload_n 2, 1), (50, .iload_n 3, 1), (51, .aload_n 1, 1), (52, .iconst 1, 1), (53, .invokevirtual 31, 3), (56, .aload_n 1, 1), (57, .iconst 2, 1), (58, .invokevirtual 31, 3), (61, .iconst 0, 1), (62, .invokevirtual 34, 3), (65, .ireturn, 1)]
theorem dc_J_explains : dl_J_explains.all (dq prog_3_method_2_code) = true := by decide +kernel
def dl_T_test : List (Nat × Instr × Nat) := [(0, .aload_n 0, 1), (1, .iload_n 2, 1), (2, .putfield 39, 3), (5, .aload_n 0, 1), (6, .getfield 12, 3), (9, .aload_n 1, 1), (10, .aload_n 0, 1), (11, .getfield 29, 3), (14, .iload_n 2, 1), (15, .invokevirtual 53, 3), (18, .aload_n 0, 1), (19, .aload_n 0, 1), (20, .getfield 21, 3), (23, .aload_n 1, 1), (24, .aload_n 0, 1), (25, .getfield 12, 3), (28, .invokevirtual 57, 3), (31, .putfield 42, 3), (34, .aload_n 0, 1), (35, .dup, 1), (36, .getfield 33, 3), (39, .iconst 1, 1), (40, .iadd, 1), (41, .putfield 33, 3), (44, .aload_n 0, 1), (45, .getfield 42, 3), (48, .ifCond .ne 13, 3), (51, .aload_n 0, 1), (52, .dup, 1), (53, .getfield 36, 3), (56, .iconst 1, 1), (57, .iadd, 1), (58, .putfield 36, 3), (61, .aload_n 1, 1), (62, .invokevirtual 61, 3), (65, .istore_n 3, 1), (66, .iconst 0, 1), (67, .istore 4, 2), (69, .iload 4, 2), (71, .iload_n 3, 1), (72, .if_icmp .ge 25, 3), (75, .aload_n 0, 1), (76, .getfield 25, 3), (79, .aload_n 1, 1), (80, .getfield 67, 3), (83, .iload 4, 2), (85, .iaload, 1), (86, .dup2, 1), (87, .iaload, 1), (88, .iconst 1, 1), (89, .iadd, 1), (90, .iastore, 1), (91, .iinc 4 1, 3), (94, .goto (-25), 3), (97, .aload_n 0, 1), (98, .getfield 42, 3), (101, .ireturn, 1)]
theorem dc_T_test : dl_T_test.all (dq prog_7_method_2_code) = true := by decide +kernel
def dl_D_restart : List (Nat × Instr × Nat) := [(0, .aload_n 0, 1), (1, .lload_n 1, 1), (2, .putfield 7, 3), (5, .return_, 1)]
theorem dc_D_restart : dl_D_restart.all (dq prog_2_method_2_code) = true := by decide +kernel
def dl_T_firstFailure : List (Nat × Instr × Nat) := [(0, .aload_n 0, 1), (1, .getfield 49, 3), (4, .lload_n 2, 1), (5, .invokevirtual 70, 3), (8, .iconst 0, 1), (9, .istore 5, 2), (11, .iload 5, 2), (13, .iload 4, 2), (15, .if_icmp .ge 29, 3), (18, .aload_n 0, 1), (19, .aload_n 1, 1), (20, .aload_n 0, 1), (21, .getfield 49, 3), (24, .ldc 74, 2), (26, .invokevirtual 75, 3), (29, .invokevirtual 79, 3), (32, .ifCond .ne 6, 3), (35, .iload 5, 2), (37, .ireturn, 1), (38, .iinc 5 1, 3), (41, .goto (-30), 3), (44, .iconst (-1), 1), (45, .ireturn, 1)]
theorem dc_T_firstFailure : dl_T_firstFailure.all (dq prog_7_method_3_code) = true := by decide +kernel
def dl_H_init : List (Nat × Instr × Nat) := [(0, .aload_n 0, 1), (1, .invokespecial 3, 3), (4, .aload_n 0, 1), (5, .new 9, 3), (8, .dup, 1), (9, .invokespecial 11, 3), (12, .putfield 12, 3), (15, .aload_n 0, 1), (16, .new 9, 3), (19, .dup, 1), (20, .invokespecial 11, 3), (23, .putfield 16, 3), (26, .aload_n 0, 1), (27, .new 19, 3), (30, .dup, 1), (31, .invokespecial 21, 3), (34, .putfield 22, 3), (37, .aload_n 0, 1), (38, .new 26, 3), (41, .dup, 1), (42, .invokespecial 28, 3), (45, .putfield 29, 3), (48, .aload_n 0, 1), (49, .iconst 0, 1), (50, .putfield 33, 3), (53, .aload_n 0, 1), (54, .iconst 0, 1), (55, .putfield 37, 3), (58, .return_, 1)]
theorem dc_H_init : dl_H_init.all (dq prog_1_method_1_code) = true := by decide +kernel
def dl_P_init : List (Nat × Instr × Nat) := [(0, .aload_n 0, 1), (1, .invokespecial 3, 3), (4, .aload_n 0, 1), (5, .iconst 3, 1), (6, .newarray .int, 2), (8, .putfield 9, 3), (11, .aload_n 0, 1), (12, .bipush 14, 2), (14, .newarray .int, 2), (16, .putfield 15, 3), (19, .aload_n 0, 1), (20, .bipush 14, 2), (22, .newarray .int, 2), (24, .putfield 18, 3), (27, .aload_n 0, 1), (28, .bipush 14, 2), (30, .newarray .int, 2), (32, .putfield 21, 3), (35, .return_, 1)]
theorem dc_P_init : dl_P_init.all (dq prog_6_method_1_code) = true := by decide +kernel
def dl_T_init : List (Nat × Instr × Nat) := [(0, .aload_n 0, 1), (1, .invokespecial 3, 3), (4, .aload_n 0, 1), (5, .new 9, 3), (8, .dup, 1), (9, .invokespecial 11, 3), (12, .putfield 12, 3), (15, .aload_n 0, 1), (16, .new 18, 3), (19, .dup, 1), (20, .invokespecial 20, 3), (23, .putfield 21, 3), (26, .aload_n 0, 1), (27, .bipush 7, 2), (29, .newarray .int, 2), (31, .putfield 25, 3), (34, .aload_n 0, 1), (35, .iconst 0, 1), (36, .putfield 29, 3), (39, .aload_n 0, 1), (40, .iconst 0, 1), (41, .putfield 33, 3), (44, .aload_n 0, 1), (45, .iconst 0, 1), (46, .putfield 36, 3), (49, .aload_n 0, 1), (50, .iconst 0, 1), (51, .putfield 39, 3), (54, .aload_n 0, 1), (55, .iconst 0, 1), (56, .putfield 42, 3), (59, .aload_n 0, 1), (60, .new 46, 3), (63, .dup, 1), (64, .invokespecial 48, 3), (67, .putfield 49, 3), (70, .return_, 1)]
theorem dc_T_init : dl_T_init.all (dq prog_7_method_1_code) = true := by decide +kernel
def dl_M_init : List (Nat × Instr × Nat) := [(0, .aload_n 0, 1), (1, .invokespecial 3, 3), (4, .aload_n 0, 1), (5, .bipush 14, 2), (7, .newarray .int, 2), (9, .putfield 9, 3), (12, .aload_n 0, 1), (13, .bipush 14, 2), (15, .newarray .int, 2), (17, .putfield 15, 3), (20, .aload_n 0, 1), (21, .bipush 14, 2), (23, .newarray .int, 2), (25, .putfield 18, 3), (28, .aload_n 0, 1), (29, .bipush 14, 2), (31, .newarray .int, 2), (33, .putfield 21, 3), (36, .aload_n 0, 1), (37, .iconst 0, 1), (38, .putfield 26, 3), (41, .aload_n 0, 1), (42, .iconst 3, 1), (43, .newarray .int, 2), (45, .putfield 30, 3), (48, .aload_n 0, 1), (49, .iconst 3, 1), (50, .newarray .int, 2), (52, .putfield 33, 3), (55, .aload_n 0, 1), (56, .iconst 3, 1), (57, .newarray .int, 2), (59, .putfield 36, 3), (62, .aload_n 0, 1), (63, .iconst 0, 1), (64, .putfield 39, 3), (67, .return_, 1)]
theorem dc_M_init : dl_M_init.all (dq prog_4_method_1_code) = true := by decide +kernel
def dl_J_init : List (Nat × Instr × Nat) := [(0, .aload_n 0, 1), (1, .invokespecial 3, 3), (4, .aload_n 0, 1), (5, .bipush 8, 2), (7, .newarray .int, 2), (9, .putfield 9, 3), (12, .return_, 1)]
theorem dc_J_init : dl_J_init.all (dq prog_3_method_1_code) = true := by decide +kernel
def dl_D_init : List (Nat × Instr × Nat) := [(0, .aload_n 0, 1), (1, .invokespecial 1, 3), (4, .aload_n 0, 1), (5, .lconst 0, 1), (6, .putfield 7, 3), (9, .return_, 1)]
theorem dc_D_init : dl_D_init.all (dq prog_2_method_1_code) = true := by decide +kernel
def dl_R_init : List (Nat × Instr × Nat) := [(0, .aload_n 0, 1), (1, .invokespecial 1, 3), (4, .aload_n 0, 1), (5, .iconst 3, 1), (6, .newarray .int, 2), (8, .putfield 7, 3), (11, .aload_n 0, 1), (12, .bipush 14, 2), (14, .newarray .int, 2), (16, .putfield 13, 3), (19, .aload_n 0, 1), (20, .bipush 14, 2), (22, .newarray .int, 2), (24, .putfield 16, 3), (27, .aload_n 0, 1), (28, .bipush 14, 2), (30, .newarray .int, 2), (32, .putfield 19, 3), (35, .aload_n 0, 1), (36, .iconst 3, 1), (37, .newarray .int, 2), (39, .putfield 22, 3), (42, .aload_n 0, 1), (43, .bipush 42, 2), (45, .newarray .int, 2), (47, .putfield 25, 3), (50, .aload_n 0, 1), (51, .iconst 3, 1), (52, .newarray .int, 2), (54, .putfield 28, 3), (57, .aload_n 0, 1), (58, .iconst 3, 1), (59, .newarray .boolean, 2), (61, .putfield 31, 3), (64, .aload_n 0, 1), (65, .iconst 3, 1), (66, .newarray .int, 2), (68, .putfield 35, 3), (71, .aload_n 0, 1), (72, .iconst 3, 1), (73, .newarray .boolean, 2), (75, .putfield 38, 3), (78, .aload_n 0, 1), (79, .bipush 14, 2), (81, .newarray .int, 2), (83, .putfield 41, 3), (86, .aload_n 0, 1), (87, .bipush 14, 2), (89, .newarray .int, 2), (91, .putfield 44, 3), (94, .aload_n 0, 1), (95, .bipush 14, 2), (97, .newarray .int, 2), (99, .putfield 47, 3), (102, .aload_n 0, 1), (103, .bipush 14, 2), (105, .newarray .int, 2), (107, .putfield 50, 3), (110, .aload_n 0, 1), (111, .bipush 14, 2), (113, .newarray .int, 2), (115, .putfield 53, 3), (118, .aload_n 0, 1), (119, .iconst 3, 1), (120, .newarray .int, 2), (122, .putfield 56, 3), (125, .aload_n 0, 1), (126, .iconst 3, 1), (127, .newarray .int, 2), (129, .putfield 59, 3), (132, .aload_n 0, 1), (133, .bipush 7, 2), (135, .newarray .int, 2), (137, .putfield 62, 3), (140, .return_, 1)]
theorem dc_R_init : dl_R_init.all (dq prog_9_method_1_code) = true := by decide +kernel
end
section
abbrev S_D : Type := Int64
abbrev S_J : Type := (Nat → Int32)
abbrev S_M : Type := (Nat → Int32) × (Nat → Int32) × (Nat → Int32) × (Nat → Int32) × Int32 × (Nat → Int32) × (Nat → Int32) × (Nat → Int32) × Int32
abbrev S_P : Type := (Nat → Int32) × (Nat → Int32) × (Nat → Int32) × (Nat → Int32)
abbrev S_T : Type := S_M × S_J × (Nat → Int32) × Int32 × Int32 × Int32 × Int32 × Int32 × S_D
abbrev S_H : Type := S_P × S_P × S_T × S_D × Int32 × Int32
abbrev S_R : Type := Int32 × (Nat → Int32) × (Nat → Int32) × (Nat → Int32) × (Nat → Int32) × (Nat → Int32) × (Nat → Int32) × Int32 × Int64 × (Nat → Int32) × (Nat → Int32) × (Nat → Int32) × (Nat → Int32) × Int32 × Int32 × (Nat → Int32) × (Nat → Int32) × (Nat → Int32) × (Nat → Int32) × (Nat → Int32) × (Nat → Int32) × (Nat → Int32) × Int32 × Int32 × Int32 × Int32 × Int32 × (Nat → Int32)
def f_P_size (fu : Nat) (P : S_P) : Option (Int32) :=
  ck (inb 0 3) <|
  ck (inb 1 3) <|
  ck (inb 2 3) <|
  some (((P.1 (ix 0)) + (P.1 (ix 1))) + (P.1 (ix 2)))
def f_P_empty_L2 (fu : Nat) : Nat → S_P → Int32 → Option (S_P)
  | 0, _, _ => none
  | n + 1, P, v1 =>
    if 3 ≤ v1 then
      some P
    else
      ck (inb v1 3) <|
      f_P_empty_L2 fu n ((upd P.1 (ix v1) 0), P.2) (v1 + 1)
def f_P_empty (fu : Nat) (P : S_P) : Option (S_P) :=
  f_P_empty_L2 fu fu P 0
def f_H_clear (fu : Nat) (H : S_H) : Option (Int32 × S_H) :=
  bd (f_P_size fu H.1) fun r4 =>
  bd (f_P_empty fu H.1) fun P_12 =>
  ck (isB 0) <|
  some (r4, (P_12, H.2.1, H.2.2.1, H.2.2.2.1, H.2.2.2.2.1, 0))
def f_H_isBelow (fu : Nat) (a0 : Int32) (a1 : Int32) : Option (Int32) :=
  if a0 < 0 then
    ck (isB 0) <|
    some 0
  else
    if a1 ≤ a0 then
      ck (isB 0) <|
      some 0
    else
      ck (isB 1) <|
      some 1
def f_P_copyFrom_L25 (fu : Nat) (P1 : S_P) (P : S_P) : Option (S_P) :=
  bd (f_P_size fu P) fun r26 =>
  ck (cpok 0 0 r26 14 14) <|
  ck (cpok 0 0 r26 14 14) <|
  ck (cpok 0 0 r26 14 14) <|
  some ((P.1, (va_cpy P1.2.1 P.2.1 (ix 0) (ix 0) (ix r26)), (va_cpy P1.2.2.1 P.2.2.1 (ix 0) (ix 0) (ix r26)), (va_cpy P1.2.2.2 P.2.2.2 (ix 0) (ix 0) (ix r26))))
def f_P_copyFrom_L2 (fu : Nat) (P1 : S_P) : Nat → S_P → Int32 → Option (S_P)
  | 0, _, _ => none
  | n + 1, P, v2 =>
    if 3 ≤ v2 then
      f_P_copyFrom_L25 fu P1 P
    else
      ck (inb v2 3) <|
      ck (inb v2 3) <|
      f_P_copyFrom_L2 fu P1 n ((upd P.1 (ix v2) (P1.1 (ix v2))), P.2) (v2 + 1)
def f_P_copyFrom (fu : Nat) (P : S_P) (P1 : S_P) : Option (S_P) :=
  f_P_copyFrom_L2 fu P1 fu P 0
def f_P_start (fu : Nat) (P : S_P) (a1 : Int32) : Option (Int32) :=
  if a1 = 0 then
    some 0
  else
  if a1 = 1 then
    ck (inb 0 3) <|
    some (P.1 (ix 0))
  else
  ck (inb 0 3) <|
  ck (inb 1 3) <|
  some ((P.1 (ix 0)) + (P.1 (ix 1)))
def f_P_end (fu : Nat) (P : S_P) (a1 : Int32) : Option (Int32) :=
  bd (f_P_start fu P a1) fun r2 =>
  ck (inb a1 3) <|
  some (r2 + (P.1 (ix a1)))
def f_P_put (fu : Nat) (P : S_P) (a1 : Int32) (a2 : Int32) (a3 : Int32) (a4 : Int32) : Option (S_P) :=
  ck (inb a1 14) <|
  ck (inb a1 14) <|
  ck (inb a1 14) <|
  some ((P.1, (upd P.2.1 (ix a1) a2), (upd P.2.2.1 (ix a1) a3), (upd P.2.2.2 (ix a1) a4)))
def f_P_shiftUp_L2 (fu : Nat) : Nat → S_P → Int32 → Int32 → Option (S_P)
  | 0, _, _, _ => none
  | n + 1, P, v1, v3 =>
    if v3 ≤ v1 then
      some P
    else
      ck (inb (v3 - 1) 14) <|
      ck (inb (v3 - 1) 14) <|
      ck (inb (v3 - 1) 14) <|
      bd (f_P_put fu P v3 (P.2.1 (ix (v3 - 1))) (P.2.2.1 (ix (v3 - 1))) (P.2.2.2 (ix (v3 - 1)))) fun P_33 =>
      f_P_shiftUp_L2 fu n P_33 v1 (v3 + (-1))
def f_P_shiftUp (fu : Nat) (P : S_P) (a1 : Int32) (a2 : Int32) : Option (S_P) :=
  f_P_shiftUp_L2 fu fu P a1 a2
def f_P_renumber_L8 (fu : Nat) : Nat → S_P → Int32 → Int32 → Int32 → Int32 → Option (S_P)
  | 0, _, _, _, _, _ => none
  | n + 1, P, v1, v2, v3, v4 =>
    if v3 ≤ v4 then
      some P
    else
      ck (inb v4 14) <|
      if (P.2.2.2 (ix v4)) < (8 + v1) then
        f_P_renumber_L8 fu n P v1 v2 v3 (v4 + 1)
      else
        ck (inb v4 14) <|
        ck (inb v4 14) <|
        f_P_renumber_L8 fu n (P.1, P.2.1, P.2.2.1, (upd P.2.2.2 (ix v4) ((P.2.2.2 (ix v4)) + v2))) v1 v2 v3 (v4 + 1)
def f_P_renumber (fu : Nat) (P : S_P) (a1 : Int32) (a2 : Int32) : Option (S_P) :=
  bd (f_P_size fu P) fun r1 =>
  f_P_renumber_L8 fu fu P a1 a2 r1 0
def f_P_append (fu : Nat) (P : S_P) (a1 : Int32) (a2 : Int32) (a3 : Int32) (a4 : Int32) : Option (S_P) :=
  bd (f_P_end fu P a1) fun r2 =>
  bd (f_P_size fu P) fun r11 =>
  bd (f_P_shiftUp fu P r2 r11) fun P_14 =>
  ck (inb a1 3) <|
  ck (inb a1 3) <|
  bd (f_P_renumber fu ((upd P_14.1 (ix a1) ((P_14.1 (ix a1)) + 1)), P_14.2) r2 1) fun P_31 =>
  bd (f_P_put fu P_31 r2 a2 a3 a4) fun P_41 =>
  some P_41
def f_O_isOpen (fu : Nat) (a0 : Int32) (a1 : Int32) : Option (Int32) :=
  if ((a0 >>> ((4 * a1) &&& 31)) &&& 8) = 0 then
    ck (isB 0) <|
    some 0
  else
    ck (isB 1) <|
    some 1
def f_O_source (fu : Nat) (a0 : Int32) : Option (Int32) :=
  ck (nz 3) <|
  some ((a0 + 1) - (a0 + 1) / 3 * 3)
def f_O_allows (fu : Nat) (a0 : Int32) (a1 : Int32) (a2 : Int32) : Option (Int32) :=
  if a1 = 0 then
    bd (f_O_isOpen fu a0 a2) fun r30 =>
    if r30 = 0 then
      ck (isB 1) <|
      some 1
    else
      ck (isB 0) <|
      some 0
  else
  if a1 = 6 then
    bd (f_O_isOpen fu a0 a2) fun r44 =>
    if r44 = 0 then
      ck (isB 0) <|
      some 0
    else
      bd (f_O_source fu a2) fun r52 =>
      bd (f_O_isOpen fu a0 r52) fun r55 =>
      if r55 = 0 then
        ck (isB 0) <|
        some 0
      else
        ck (isB 1) <|
        some 1
  else
  bd (f_O_isOpen fu a0 a2) fun r69 =>
  ck (isB r69) <|
  some r69
def f_O_content (fu : Nat) (a0 : Int32) (a1 : Int32) : Option (Int32) :=
  some ((a0 >>> ((4 * a1) &&& 31)) &&& 15)
def f_O_held (fu : Nat) (a0 : Int32) (a1 : Int32) : Option (Int32) :=
  some ((a0 >>> ((4 * a1) &&& 31)) &&& 7)
def f_O_after_L118 (fu : Nat) (v0 : Int32) (v2 : Int32) (v6 : Int32) : Option (Int32) :=
  some ((v0 &&& ((15 <<< ((4 * v2) &&& 31)) ^^^ (-1))) ||| (v6 <<< ((4 * v2) &&& 31)))
def f_O_after (fu : Nat) (a0 : Int32) (a1 : Int32) (a2 : Int32) (a3 : Int32) : Option (Int32) :=
  bd (f_O_content fu a0 a2) fun r2 =>
  if a1 = 0 then
    f_O_after_L118 fu a0 a2 (8 + a3)
  else
  if a1 = 1 then
    f_O_after_L118 fu a0 a2 0
  else
  if a1 = 2 then
    f_O_after_L118 fu a0 a2 r2
  else
  if a1 = 3 then
    f_O_after_L118 fu a0 a2 ((r2 &&& 8) + a3)
  else
  if a1 = 4 then
    bd (f_O_held fu a0 a2) fun r82 =>
    ck (nz 8) <|
    f_O_after_L118 fu a0 a2 ((r2 &&& 8) + ((r82 + a3) - (r82 + a3) / 8 * 8))
  else
  if a1 = 5 then
    f_O_after_L118 fu a0 a2 ((r2 &&& 8) + a3)
  else
  if a1 = 6 then
    bd (f_O_source fu a2) fun r100 =>
    bd (f_O_held fu a0 r100) fun r103 =>
    f_O_after_L118 fu a0 a2 ((r2 &&& 8) + r103)
  else
  f_O_after_L118 fu a0 a2 ((r2 &&& 8) + a3)
def f_P_isValidBeside_L98 (fu : Nat) (P : S_P) (v2 : Int32) (v3 : Int32) : Option (Int32) :=
  if v2 = (-1) then
    ck (isB 1) <|
    some 1
  else
    ck (inb v2 14) <|
    ck (inb v2 14) <|
    bd (f_O_allows fu v3 (P.2.1 (ix v2)) (P.2.2.1 (ix v2))) fun r116 =>
    if r116 = 0 then
      ck (isB 0) <|
      some 0
    else
      ck (isB 1) <|
      some 1
def f_P_isValidBeside_L49 (fu : Nat) (P : S_P) (k16 : Int32 → Int32 → Int32 → Int32 → Option (Int32)) (v2 : Int32) (v3 : Int32) (v4 : Int32) (v5 : Int32) : Option (Int32) :=
  ck (inb v5 14) <|
  ck (inb v5 14) <|
  bd (f_O_allows fu v3 (P.2.1 (ix v5)) (P.2.2.1 (ix v5))) fun r64 =>
  if r64 = 0 then
    ck (isB 0) <|
    some 0
  else
    ck (inb v5 14) <|
    ck (inb v5 14) <|
    bd (f_O_after fu v3 (P.2.1 (ix v5)) (P.2.2.1 (ix v5)) 0) fun r88 =>
    k16 v2 r88 v4 (v5 + 1)
def f_P_isValidBeside_L16 (fu : Nat) (P : S_P) : Nat → Int32 → Int32 → Int32 → Int32 → Option (Int32)
  | 0, _, _, _, _ => none
  | n + 1, v2, v3, v4, v5 =>
    if v4 ≤ v5 then
      f_P_isValidBeside_L98 fu P v2 v3
    else
      if v2 = (-1) then
        f_P_isValidBeside_L49 fu P (f_P_isValidBeside_L16 fu P n) v2 v3 v4 v5
      else
        ck (inb v2 14) <|
        ck (inb v2 14) <|
        bd (f_O_allows fu v3 (P.2.1 (ix v2)) (P.2.2.1 (ix v2))) fun r41 =>
        if r41 = 0 then
          ck (isB 0) <|
          some 0
        else
          f_P_isValidBeside_L49 fu P (f_P_isValidBeside_L16 fu P n) v2 v3 v4 v5
def f_P_isValidBeside (fu : Nat) (P : S_P) (a1 : Int32) (a2 : Int32) : Option (Int32) :=
  bd (f_P_end fu P 2) fun r4 =>
  bd (f_P_start fu P 2) fun r11 =>
  f_P_isValidBeside_L16 fu P fu a2 a1 r4 r11
def f_P_isValid_L117 (fu : Nat) (P : S_P) (v1 : Int32) : Option (Int32) :=
  bd (f_P_isValidBeside fu P v1 (-1)) fun r120 =>
  ck (isB r120) <|
  some r120
def f_P_isValid_L73 (fu : Nat) (P : S_P) : Nat → Int32 → Int32 → Int32 → Option (Int32)
  | 0, _, _, _ => none
  | n + 1, v1, v3, v4 =>
    if v3 ≤ v4 then
      f_P_isValid_L117 fu P v1
    else
      bd (f_P_isValidBeside fu P v1 v4) fun r83 =>
      if r83 = 0 then
        ck (isB 0) <|
        some 0
      else
        ck (inb v4 14) <|
        ck (inb v4 14) <|
        bd (f_O_after fu v1 (P.2.1 (ix v4)) (P.2.2.1 (ix v4)) 0) fun r107 =>
        f_P_isValid_L73 fu P n r107 v3 (v4 + 1)
def f_P_isValid_L60 (fu : Nat) (P : S_P) (v1 : Int32) : Option (Int32) :=
  bd (f_P_end fu P 1) fun r62 =>
  bd (f_P_start fu P 1) fun r68 =>
  f_P_isValid_L73 fu P fu v1 r62 r68
def f_P_isValid_L10 (fu : Nat) (P : S_P) : Nat → Int32 → Int32 → Int32 → Option (Int32)
  | 0, _, _, _ => none
  | n + 1, v1, v2, v3 =>
    if v2 ≤ v3 then
      f_P_isValid_L60 fu P v1
    else
      ck (inb v3 14) <|
      ck (inb v3 14) <|
      bd (f_O_allows fu v1 (P.2.1 (ix v3)) (P.2.2.1 (ix v3))) fun r28 =>
      if r28 = 0 then
        ck (isB 0) <|
        some 0
      else
        ck (inb v3 14) <|
        ck (inb v3 14) <|
        bd (f_O_after fu v1 (P.2.1 (ix v3)) (P.2.2.1 (ix v3)) 0) fun r50 =>
        f_P_isValid_L10 fu P n r50 v2 (v3 + 1)
def f_P_isValid (fu : Nat) (P : S_P) : Option (Int32) :=
  bd (f_P_end fu P 0) fun r4 =>
  f_P_isValid_L10 fu P fu 0 r4 0
def f_H_appendIfValid (fu : Nat) (H : S_H) (a1 : Int32) (a2 : Int32) (a3 : Int32) (a4 : Int32) : Option (Int32 × S_H) :=
  bd (f_P_copyFrom fu H.2.1 H.1) fun P_8 =>
  bd (f_P_append fu P_8 a1 a2 a3 a4) fun P_20 =>
  bd (f_P_isValid fu P_20) fun r27 =>
  if r27 = 0 then
    ck (isB 0) <|
    some (0, (H.1, P_20, H.2.2))
  else
    bd (f_P_copyFrom fu H.1 P_20) fun P_43 =>
    ck (isB 1) <|
    some (1, (P_43, P_20, H.2.2))
def f_D_below (fu : Nat) (D : S_D) (a1 : Int32) : Option (Int32 × S_D) :=
  if a1 ≤ 0 then
    some (0, (D * 6364136223846793005) + 1442695040888963407)
  else
    ck (nz a1) <|
    some ((((((D * 6364136223846793005) + 1442695040888963407).toUInt64 >>> ((33 : Int32).toInt64.toUInt64 &&& Int64.toUInt64 63)).toInt64).toInt32) - (((((D * 6364136223846793005) + 1442695040888963407).toUInt64 >>> ((33 : Int32).toInt64.toUInt64 &&& Int64.toUInt64 63)).toInt64).toInt32) / a1 * a1, (D * 6364136223846793005) + 1442695040888963407)
def f_P_known (fu : Nat) (P : S_P) (a1 : Int32) : Option (Int32) :=
  if a1 = 0 then
    ck (inb 0 3) <|
    some (P.1 (ix 0))
  else
    ck (inb 0 3) <|
    ck (inb a1 3) <|
    some ((P.1 (ix 0)) + (P.1 (ix a1)))
def f_P_knownAt (fu : Nat) (P : S_P) (a1 : Int32) (a2 : Int32) : Option (Int32) :=
  ck (inb 0 3) <|
  if (P.1 (ix 0)) ≤ a2 then
    bd (f_P_start fu P a1) fun r16 =>
    ck (inb 0 3) <|
    some ((r16 + a2) - (P.1 (ix 0)))
  else
    some a2
def f_H_drawCommand_L82 (fu : Nat) (H : S_H) (v1 : Int32) (v2 : Int32) (v3 : Int32) : Option (Int32 × S_H) :=
  bd (f_D_below fu H.2.2.2.1 8) fun (r88, D_88) =>
  bd (f_H_appendIfValid fu (H.1, H.2.1, H.2.2.1, D_88, H.2.2.2.2) v1 v2 v3 r88) fun (r99, H_99) =>
  ck (isB r99) <|
  some (r99, H_99)
def f_H_drawCommand_L35 (fu : Nat) (H : S_H) (v1 : Int32) (v2 : Int32) (v3 : Int32) (s0 : Int32) : Option (Int32 × S_H) :=
  bd (f_P_known fu H.1 v1) fun r42 =>
  if s0 = 0 then
    f_H_drawCommand_L82 fu H v1 v2 v3
  else
    if r42 ≤ 0 then
      f_H_drawCommand_L82 fu H v1 v2 v3
    else
      bd (f_D_below fu H.2.2.2.1 r42) fun (r70, D_70) =>
      bd (f_P_knownAt fu H.1 v1 r70) fun r73 =>
      bd (f_H_appendIfValid fu (H.1, H.2.1, H.2.2.1, D_70, H.2.2.2.2) v1 v2 v3 (8 + r73)) fun (r99, H_99) =>
      ck (isB r99) <|
      some (r99, H_99)
def f_H_drawCommand (fu : Nat) (H : S_H) (a1 : Int32) : Option (Int32 × S_H) :=
  bd (f_D_below fu H.2.2.2.1 7) fun (r6, D_6) =>
  bd (f_D_below fu D_6 3) fun (r15, D_15) =>
  bd (f_D_below fu D_15 4) fun (r24, D_24) =>
  if r24 = 0 then
    f_H_drawCommand_L35 fu (H.1, H.2.1, H.2.2.1, D_24, H.2.2.2.2) a1 r6 r15 1
  else
    f_H_drawCommand_L35 fu (H.1, H.2.1, H.2.2.1, D_24, H.2.2.2.2) a1 r6 r15 0
def f_H_drawBranch_L13 (fu : Nat) (k2 : S_H → Int32 → Int32 → Int32 → Option (S_H)) : Nat → S_H → Int32 → Int32 → Int32 → Int32 → Int32 → Option (S_H)
  | 0, _, _, _, _, _, _ => none
  | n + 1, H, v1, v2, v3, v4, v5 =>
    if 20 ≤ v5 then
      k2 H v1 v2 (v3 + 1)
    else
      if v4 = 0 then
        bd (f_H_drawCommand fu H v1) fun (r27, H_27) =>
        f_H_drawBranch_L13 fu k2 n H_27 v1 v2 v3 r27 (v5 + 1)
      else
        k2 H v1 v2 (v3 + 1)
def f_H_drawBranch_L2 (fu : Nat) : Nat → S_H → Int32 → Int32 → Int32 → Option (S_H)
  | 0, _, _, _, _ => none
  | n + 1, H, v1, v2, v3 =>
    if v2 ≤ v3 then
      some H
    else
      f_H_drawBranch_L13 fu (f_H_drawBranch_L2 fu n) fu H v1 v2 v3 0 0
def f_H_drawBranch (fu : Nat) (H : S_H) (a1 : Int32) (a2 : Int32) : Option (S_H) :=
  f_H_drawBranch_L2 fu fu H a1 a2 0
def f_P_lower_L37 (fu : Nat) (P : S_P) (v1 : Int32) (v2 : Int32) (v3 : Int32) (s0 : Int32) (s1 : Int32) : Option (Int32 × S_P) :=
  if s1 ≤ s0 then
    if v2 = 0 then
      ck (inb v1 14) <|
      ck (isB 1) <|
      some (1, (P.1, P.2.1, P.2.2.1, (upd P.2.2.2 (ix v1) 0)))
    else
      ck (nz 2) <|
      ck (inb v1 14) <|
      ck (isB 1) <|
      some (1, (P.1, P.2.1, P.2.2.1, (upd P.2.2.2 (ix v1) (v3 / 2))))
  else
    ck (isB 0) <|
    some (0, P)
def f_P_lower (fu : Nat) (P : S_P) (a1 : Int32) (a2 : Int32) : Option (Int32 × S_P) :=
  if a1 < 0 then
    ck (isB 0) <|
    some (0, P)
  else
    bd (f_P_size fu P) fun r6 =>
    if a1 < r6 then
      ck (inb a1 14) <|
      if 8 ≤ (P.2.2.2 (ix a1)) then
        ck (isB 0) <|
        some (0, P)
      else
        if a2 = 0 then
          f_P_lower_L37 fu P a1 a2 (P.2.2.2 (ix a1)) (P.2.2.2 (ix a1)) 1
        else
          f_P_lower_L37 fu P a1 a2 (P.2.2.2 (ix a1)) (P.2.2.2 (ix a1)) 2
    else
      ck (isB 0) <|
      some (0, P)
def f_P_hasRoom (fu : Nat) (P : S_P) (a1 : Int32) : Option (Int32) :=
  ck (inb a1 3) <|
  if a1 = 0 then
    if 6 ≤ (P.1 (ix a1)) then
      ck (isB 0) <|
      some 0
    else
      ck (isB 1) <|
      some 1
  else
    if 4 ≤ (P.1 (ix a1)) then
      ck (isB 0) <|
      some 0
    else
      ck (isB 1) <|
      some 1
def f_P_promote_L102 (fu : Nat) : Nat → S_P → Int32 → Int32 → Int32 → Int32 → Option (Int32 × S_P)
  | 0, _, _, _, _, _ => none
  | n + 1, P, v2, v3, v7, v8 =>
    if v7 ≤ v8 then
      ck (isB 1) <|
      some (1, P)
    else
      ck (inb v8 14) <|
      if ((P.2.2.2 (ix v8)) - 8) = v2 then
        ck (inb v8 14) <|
        f_P_promote_L102 fu n (P.1, P.2.1, P.2.2.1, (upd P.2.2.2 (ix v8) (8 + v3))) v2 v3 v7 (v8 + 1)
      else
        if ((P.2.2.2 (ix v8)) - 8) < v3 then
          f_P_promote_L102 fu n P v2 v3 v7 (v8 + 1)
        else
          if v2 ≤ ((P.2.2.2 (ix v8)) - 8) then
            f_P_promote_L102 fu n P v2 v3 v7 (v8 + 1)
          else
            ck (inb v8 14) <|
            ck (inb v8 14) <|
            f_P_promote_L102 fu n (P.1, P.2.1, P.2.2.1, (upd P.2.2.2 (ix v8) ((P.2.2.2 (ix v8)) + 1))) v2 v3 v7 (v8 + 1)
def f_P_promote (fu : Nat) (P : S_P) (a1 : Int32) : Option (Int32 × S_P) :=
  ck (inb a1 3) <|
  if (P.1 (ix a1)) = 0 then
    ck (isB 0) <|
    some (0, P)
  else
    bd (f_P_hasRoom fu P 0) fun r11 =>
    if r11 = 0 then
      ck (isB 0) <|
      some (0, P)
    else
      bd (f_P_start fu P a1) fun r21 =>
      ck (inb 0 3) <|
      ck (inb r21 14) <|
      ck (inb r21 14) <|
      ck (inb r21 14) <|
      bd (f_P_shiftUp fu P (P.1 (ix 0)) r21) fun P_59 =>
      bd (f_P_put fu P_59 (P.1 (ix 0)) (P.2.1 (ix r21)) (P.2.2.1 (ix r21)) (P.2.2.2 (ix r21))) fun P_70 =>
      ck (inb a1 3) <|
      ck (inb a1 3) <|
      ck (inb 0 3) <|
      ck (inb 0 3) <|
      bd (f_P_size fu ((upd (upd P_70.1 (ix a1) ((P_70.1 (ix a1)) - 1)) (ix 0) (((upd P_70.1 (ix a1) ((P_70.1 (ix a1)) - 1)) (ix 0)) + 1)), P_70.2)) fun r94 =>
      f_P_promote_L102 fu fu ((upd (upd P_70.1 (ix a1) ((P_70.1 (ix a1)) - 1)) (ix 0) (((upd P_70.1 (ix a1) ((P_70.1 (ix a1)) - 1)) (ix 0)) + 1)), P_70.2) r21 (P.1 (ix 0)) r94 0
def f_P_isNeeded_L7 (fu : Nat) (P : S_P) : Nat → Int32 → Int32 → Int32 → Option (Int32)
  | 0, _, _, _ => none
  | n + 1, v1, v2, v3 =>
    if v2 ≤ v3 then
      ck (isB 0) <|
      some 0
    else
      ck (inb v3 14) <|
      if (P.2.2.2 (ix v3)) = (8 + v1) then
        ck (isB 1) <|
        some 1
      else
        f_P_isNeeded_L7 fu P n v1 v2 (v3 + 1)
def f_P_isNeeded (fu : Nat) (P : S_P) (a1 : Int32) : Option (Int32) :=
  bd (f_P_size fu P) fun r1 =>
  f_P_isNeeded_L7 fu P fu a1 r1 0
def f_P_branchOf (fu : Nat) (P : S_P) (a1 : Int32) : Option (Int32) :=
  bd (f_P_start fu P 1) fun r3 =>
  if r3 ≤ a1 then
    bd (f_P_start fu P 2) fun r14 =>
    if r14 ≤ a1 then
      some 2
    else
      some 1
  else
    some 0
def f_P_remove_L78 (fu : Nat) (P : S_P) (v1 : Int32) : Option (Int32 × S_P) :=
  bd (f_P_renumber fu P (v1 + 1) (-1)) fun P_83 =>
  ck (isB 1) <|
  some (1, P_83)
def f_P_remove_L42 (fu : Nat) : Nat → S_P → Int32 → Int32 → Int32 → Option (Int32 × S_P)
  | 0, _, _, _, _ => none
  | n + 1, P, v1, v2, v3 =>
    if v2 ≤ v3 then
      f_P_remove_L78 fu P v1
    else
      ck (inb v3 14) <|
      ck (inb v3 14) <|
      ck (inb v3 14) <|
      bd (f_P_put fu P (v3 - 1) (P.2.1 (ix v3)) (P.2.2.1 (ix v3)) (P.2.2.2 (ix v3))) fun P_69 =>
      f_P_remove_L42 fu n P_69 v1 v2 (v3 + 1)
def f_P_remove (fu : Nat) (P : S_P) (a1 : Int32) : Option (Int32 × S_P) :=
  bd (f_P_size fu P) fun r1 =>
  if a1 < 0 then
    ck (isB 0) <|
    some (0, P)
  else
    if r1 ≤ a1 then
      ck (isB 0) <|
      some (0, P)
    else
      bd (f_P_isNeeded fu P a1) fun r16 =>
      if r16 = 0 then
        bd (f_P_branchOf fu P a1) fun r30 =>
        ck (inb r30 3) <|
        ck (inb r30 3) <|
        f_P_remove_L42 fu fu ((upd P.1 (ix r30) ((P.1 (ix r30)) - 1)), P.2) a1 r1 (a1 + 1)
      else
        ck (isB 0) <|
        some (0, P)
def f_H_prepareCandidate (fu : Nat) (H : S_H) (a1 : Int32) : Option (Int32 × S_H) :=
  bd (f_P_copyFrom fu H.2.1 H.1) fun P_8 =>
  if 14 ≤ a1 then
    if 16 ≤ a1 then
      ck (nz 2) <|
      ck (nz 2) <|
      if (((a1 - 14) - 2) - ((a1 - 14) - 2) / 2 * 2) = 1 then
        bd (f_P_lower fu P_8 (((a1 - 14) - 2) / 2) 1) fun (r82, P_82) =>
        ck (isB r82) <|
        some (r82, (H.1, P_82, H.2.2))
      else
        bd (f_P_lower fu P_8 (((a1 - 14) - 2) / 2) 0) fun (r82, P_82) =>
        ck (isB r82) <|
        some (r82, (H.1, P_82, H.2.2))
    else
      bd (f_P_promote fu P_8 ((a1 - 14) + 1)) fun (r52, P_52) =>
      ck (isB r52) <|
      some (r52, (H.1, P_52, H.2.2))
  else
    bd (f_P_size fu H.1) fun r25 =>
    bd (f_P_remove fu P_8 ((r25 - 1) - a1)) fun (r32, P_32) =>
    ck (isB r32) <|
    some (r32, (H.1, P_32, H.2.2))
def f_P_mayTake (fu : Nat) (P : S_P) (a1 : Int32) (a2 : Int32) : Option (Int32) :=
  if 8 ≤ a2 then
    ck (inb 0 3) <|
    if (a2 - 8) < (P.1 (ix 0)) then
      ck (isB 1) <|
      some 1
    else
      bd (f_P_start fu P a1) fun r34 =>
      if (a2 - 8) < r34 then
        ck (isB 0) <|
        some 0
      else
        bd (f_P_end fu P a1) fun r43 =>
        if r43 ≤ (a2 - 8) then
          ck (isB 0) <|
          some 0
        else
          ck (isB 1) <|
          some 1
  else
    if a2 < 0 then
      ck (isB 0) <|
      some 0
    else
      ck (isB 1) <|
      some 1
def f_O_answer (fu : Nat) (a0 : Int32) (a1 : Int32) (a2 : Int32) (a3 : Int32) : Option (Int32) :=
  if a1 = 0 then
    some 0
  else
  if a1 = 1 then
    bd (f_O_held fu a0 a2) fun r51 =>
    some r51
  else
  if a1 = 2 then
    bd (f_O_held fu a0 a2) fun r51 =>
    some r51
  else
  if a1 = 3 then
    some 0
  else
  if a1 = 4 then
    bd (f_O_held fu a0 a2) fun r40 =>
    ck (nz 8) <|
    some ((r40 + a3) - (r40 + a3) / 8 * 8)
  else
  bd (f_O_held fu a0 a2) fun r51 =>
  some r51
def f_R_thrown (fu : Nat) (R : S_R) : Option (Int32) :=
  some R.1
def f_R_fail (fu : Nat) (R : S_R) (a1 : Int32) : Option (Int32 × S_R) :=
  some (0, (a1, R.2))
def f_R_within (fu : Nat) (a0 : Int32) (a1 : Int32) (a2 : Int32) : Option (Int32) :=
  if a0 < a1 then
    ck (isB 0) <|
    some 0
  else
    if a2 < a0 then
      ck (isB 0) <|
      some 0
    else
      ck (isB 1) <|
      some 1
def f_R_many (fu : Nat) (R : S_R) : Option (Int32) :=
  ck (inb 0 3) <|
  ck (inb 1 3) <|
  ck (inb 2 3) <|
  some (((R.2.1 (ix 0)) + (R.2.1 (ix 1))) + (R.2.1 (ix 2)))
def f_R_branch (fu : Nat) (R : S_R) (a1 : Int32) : Option (Int32) :=
  ck (inb 0 3) <|
  if (R.2.1 (ix 0)) ≤ a1 then
    ck (inb 0 3) <|
    ck (inb 1 3) <|
    if ((R.2.1 (ix 0)) + (R.2.1 (ix 1))) ≤ a1 then
      some 2
    else
      some 1
  else
    some 0
def f_R_first (fu : Nat) (R : S_R) (a1 : Int32) : Option (Int32) :=
  if a1 = 0 then
    some 0
  else
    if a1 = 1 then
      ck (inb 0 3) <|
      some (R.2.1 (ix 0))
    else
      ck (inb 0 3) <|
      ck (inb 1 3) <|
      some ((R.2.1 (ix 0)) + (R.2.1 (ix 1)))
def f_R_mayStand (fu : Nat) (R : S_R) (a1 : Int32) (a2 : Int32) (a3 : Int32) : Option (Int32) :=
  if a1 < 0 then
    ck (isB 0) <|
    some 0
  else
    if a3 ≤ a1 then
      ck (isB 0) <|
      some 0
    else
      ck (inb 0 3) <|
      if a1 < (R.2.1 (ix 0)) then
        ck (isB 1) <|
        some 1
      else
        bd (f_R_branch fu R a1) fun r21 =>
        if r21 = a2 then
          ck (isB 1) <|
          some 1
        else
          ck (isB 0) <|
          some 0
def f_R_placed_L47 (fu : Nat) (R : S_R) (v1 : Int32) (v2 : Int32) (v3 : Int32) (v4 : Int32) : Option (Int32) :=
  if ((v1 >>> (((v3 - 1) - v2) &&& 31)) &&& 1) = 1 then
    bd (f_R_first fu R 2) fun r62 =>
    some (r62 + v4)
  else
    bd (f_R_first fu R 1) fun r73 =>
    some ((r73 + v2) - v4)
def f_R_placed_L20 (fu : Nat) (R : S_R) : Nat → Int32 → Int32 → Int32 → Int32 → Int32 → Option (Int32)
  | 0, _, _, _, _, _ => none
  | n + 1, v1, v2, v3, v4, v5 =>
    if v2 ≤ v5 then
      f_R_placed_L47 fu R v1 v2 v3 v4
    else
      f_R_placed_L20 fu R n v1 v2 v3 (v4 + ((v1 >>> (((v3 - 1) - v5) &&& 31)) &&& 1)) (v5 + 1)
def f_R_placed (fu : Nat) (R : S_R) (a1 : Int32) (a2 : Int32) : Option (Int32) :=
  ck (inb 1 3) <|
  ck (inb 2 3) <|
  f_R_placed_L20 fu R fu a1 a2 ((R.2.1 (ix 1)) + (R.2.1 (ix 2))) 0 0
def f_R_isOrder_L21 (fu : Nat) (R : S_R) (v2 : Int32) : Option (Int32) :=
  ck (inb 2 3) <|
  if v2 = (R.2.1 (ix 2)) then
    ck (isB 1) <|
    some 1
  else
    ck (isB 0) <|
    some 0
def f_R_isOrder_L4 (fu : Nat) (R : S_R) : Nat → Int32 → Int32 → Option (Int32)
  | 0, _, _ => none
  | n + 1, v2, v3 =>
    if v3 ≤ 0 then
      f_R_isOrder_L21 fu R v2
    else
      f_R_isOrder_L4 fu R n (v2 + (v3 &&& 1)) (v3 >>> (1 &&& 31))
def f_R_isOrder (fu : Nat) (R : S_R) (a1 : Int32) : Option (Int32) :=
  f_R_isOrder_L4 fu R fu 0 a1
def f_R_finds_L71 (fu : Nat) (R : S_R) (v1 : Int32) (v2 : Int32) (s0 : Int32) : Option (Int32 × S_R) :=
  ck (inb v1 14) <|
  if (R.2.2.1 (ix v1)) = 1 then
    ck (inb v2 3) <|
    ck (isB 0) <|
    ck (isB s0) <|
    some (s0, (R.1, R.2.1, R.2.2.1, R.2.2.2.1, R.2.2.2.2.1, R.2.2.2.2.2.1, R.2.2.2.2.2.2.1, R.2.2.2.2.2.2.2.1, R.2.2.2.2.2.2.2.2.1, R.2.2.2.2.2.2.2.2.2.1, (upd R.2.2.2.2.2.2.2.2.2.2.1 (ix v2) 0), R.2.2.2.2.2.2.2.2.2.2.2))
  else
    ck (inb v1 14) <|
    if (R.2.2.1 (ix v1)) = 0 then
      ck (inb v2 3) <|
      ck (isB 1) <|
      ck (isB s0) <|
      some (s0, (R.1, R.2.1, R.2.2.1, R.2.2.2.1, R.2.2.2.2.1, R.2.2.2.2.2.1, R.2.2.2.2.2.2.1, R.2.2.2.2.2.2.2.1, R.2.2.2.2.2.2.2.2.1, R.2.2.2.2.2.2.2.2.2.1, (upd R.2.2.2.2.2.2.2.2.2.2.1 (ix v2) 1), R.2.2.2.2.2.2.2.2.2.2.2))
    else
      ck (inb v2 3) <|
      if (R.2.2.2.2.2.2.2.2.2.2.1 (ix v2)) = 0 then
        ck (inb v2 3) <|
        ck (isB 0) <|
        ck (isB s0) <|
        some (s0, (R.1, R.2.1, R.2.2.1, R.2.2.2.1, R.2.2.2.2.1, R.2.2.2.2.2.1, R.2.2.2.2.2.2.1, R.2.2.2.2.2.2.2.1, R.2.2.2.2.2.2.2.2.1, R.2.2.2.2.2.2.2.2.2.1, (upd R.2.2.2.2.2.2.2.2.2.2.1 (ix v2) 0), R.2.2.2.2.2.2.2.2.2.2.2))
      else
        ck (inb v2 3) <|
        ck (isB 1) <|
        ck (isB s0) <|
        some (s0, (R.1, R.2.1, R.2.2.1, R.2.2.2.1, R.2.2.2.2.1, R.2.2.2.2.2.1, R.2.2.2.2.2.2.1, R.2.2.2.2.2.2.2.1, R.2.2.2.2.2.2.2.2.1, R.2.2.2.2.2.2.2.2.2.1, (upd R.2.2.2.2.2.2.2.2.2.2.1 (ix v2) 1), R.2.2.2.2.2.2.2.2.2.2.2))
def f_R_finds (fu : Nat) (R : S_R) (a1 : Int32) : Option (Int32 × S_R) :=
  ck (inb a1 14) <|
  ck (inb a1 14) <|
  if (R.2.2.1 (ix a1)) = 0 then
    ck (inb (R.2.2.2.1 (ix a1)) 3) <|
    if (R.2.2.2.2.2.2.2.2.2.2.1 (ix (R.2.2.2.1 (ix a1)))) = 0 then
      f_R_finds_L71 fu R a1 (R.2.2.2.1 (ix a1)) 1
    else
      f_R_finds_L71 fu R a1 (R.2.2.2.1 (ix a1)) 0
  else
    ck (inb (R.2.2.2.1 (ix a1)) 3) <|
    if (R.2.2.2.2.2.2.2.2.2.2.1 (ix (R.2.2.2.1 (ix a1)))) = 0 then
      f_R_finds_L71 fu R a1 (R.2.2.2.1 (ix a1)) 0
    else
      ck (inb a1 14) <|
      if (R.2.2.1 (ix a1)) = 6 then
        ck (nz 3) <|
        ck (inb (((R.2.2.2.1 (ix a1)) + 1) - ((R.2.2.2.1 (ix a1)) + 1) / 3 * 3) 3) <|
        if (R.2.2.2.2.2.2.2.2.2.2.1 (ix (((R.2.2.2.1 (ix a1)) + 1) - ((R.2.2.2.1 (ix a1)) + 1) / 3 * 3))) = 0 then
          f_R_finds_L71 fu R a1 (R.2.2.2.1 (ix a1)) 0
        else
          f_R_finds_L71 fu R a1 (R.2.2.2.1 (ix a1)) 1
      else
        f_R_finds_L71 fu R a1 (R.2.2.2.1 (ix a1)) 1
def f_R_fits_L60 (fu : Nat) : Nat → S_R → Int32 → Int32 → Int32 → Option (Int32 × S_R)
  | 0, _, _, _, _ => none
  | n + 1, R, v1, v2, v3 =>
    ck (inb 1 3) <|
    ck (inb 2 3) <|
    if ((R.2.1 (ix 1)) + (R.2.1 (ix 2))) ≤ v3 then
      ck (isB v2) <|
      some (v2, R)
    else
      bd (f_R_placed fu R v1 v3) fun r81 =>
      bd (f_R_finds fu R r81) fun (r84, R_84) =>
      if r84 = 0 then
        f_R_fits_L60 fu n R_84 v1 0 (v3 + 1)
      else
        if v2 = 0 then
          f_R_fits_L60 fu n R_84 v1 0 (v3 + 1)
        else
          f_R_fits_L60 fu n R_84 v1 1 (v3 + 1)
def f_R_fits_L24 (fu : Nat) : Nat → S_R → Int32 → Int32 → Int32 → Option (Int32 × S_R)
  | 0, _, _, _, _ => none
  | n + 1, R, v1, v2, v3 =>
    ck (inb 0 3) <|
    if (R.2.1 (ix 0)) ≤ v3 then
      f_R_fits_L60 fu fu R v1 v2 0
    else
      bd (f_R_finds fu R v3) fun (r36, R_36) =>
      if r36 = 0 then
        f_R_fits_L24 fu n R_36 v1 0 (v3 + 1)
      else
        if v2 = 0 then
          f_R_fits_L24 fu n R_36 v1 0 (v3 + 1)
        else
          f_R_fits_L24 fu n R_36 v1 1 (v3 + 1)
def f_R_fits_L2 (fu : Nat) : Nat → S_R → Int32 → Int32 → Option (Int32 × S_R)
  | 0, _, _, _ => none
  | n + 1, R, v1, v2 =>
    if 3 ≤ v2 then
      f_R_fits_L24 fu fu R v1 1 0
    else
      ck (inb v2 3) <|
      ck (isB 0) <|
      f_R_fits_L2 fu n (R.1, R.2.1, R.2.2.1, R.2.2.2.1, R.2.2.2.2.1, R.2.2.2.2.2.1, R.2.2.2.2.2.2.1, R.2.2.2.2.2.2.2.1, R.2.2.2.2.2.2.2.2.1, R.2.2.2.2.2.2.2.2.2.1, (upd R.2.2.2.2.2.2.2.2.2.2.1 (ix v2) 0), R.2.2.2.2.2.2.2.2.2.2.2) v1 (v2 + 1)
def f_R_fits (fu : Nat) (R : S_R) (a1 : Int32) : Option (Int32 × S_R) :=
  f_R_fits_L2 fu fu R a1 0
def f_R_valid_L79 (fu : Nat) : Nat → S_R → Int32 → Int32 → Int32 → Option (Int32 × S_R)
  | 0, _, _, _, _ => none
  | n + 1, R, v1, v2, v3 =>
    if v2 ≤ v3 then
      ck (isB v1) <|
      some (v1, R)
    else
      if v1 = 0 then
        ck (isB v1) <|
        some (v1, R)
      else
        bd (f_R_isOrder fu R v3) fun r90 =>
        if r90 = 0 then
          f_R_valid_L79 fu n R 1 v2 (v3 + 1)
        else
          bd (f_R_fits fu R v3) fun (r98, R_98) =>
          if r98 = 0 then
            f_R_valid_L79 fu n R_98 0 v2 (v3 + 1)
          else
            f_R_valid_L79 fu n R_98 1 v2 (v3 + 1)
def f_R_valid_L61 (fu : Nat) (R : S_R) (v1 : Int32) : Option (Int32 × S_R) :=
  ck (inb 1 3) <|
  ck (inb 2 3) <|
  f_R_valid_L79 fu fu R v1 (1 <<< (((R.2.1 (ix 1)) + (R.2.1 (ix 2))) &&& 31)) 0
def f_R_valid_L4 (fu : Nat) : Nat → S_R → Int32 → Int32 → Option (Int32 × S_R)
  | 0, _, _, _ => none
  | n + 1, R, v1, v2 =>
    bd (f_R_many fu R) fun r6 =>
    if r6 ≤ v2 then
      f_R_valid_L61 fu R v1
    else
      if v1 = 0 then
        f_R_valid_L4 fu n R 0 (v2 + 1)
      else
        ck (inb v2 14) <|
        if (R.2.2.2.2.1 (ix v2)) < 8 then
          f_R_valid_L4 fu n R 1 (v2 + 1)
        else
          ck (inb v2 14) <|
          bd (f_R_branch fu R v2) fun r39 =>
          bd (f_R_mayStand fu R ((R.2.2.2.2.1 (ix v2)) - 8) r39 v2) fun r43 =>
          if r43 = 0 then
            f_R_valid_L4 fu n R 0 (v2 + 1)
          else
            f_R_valid_L4 fu n R 1 (v2 + 1)
def f_R_valid (fu : Nat) (R : S_R) : Option (Int32 × S_R) :=
  f_R_valid_L4 fu fu R 1 0
def f_R_keep_L27 (fu : Nat) : Nat → S_R → Int32 → Option (S_R)
  | 0, _, _ => none
  | n + 1, R, v1 =>
    if 14 ≤ v1 then
      some R
    else
      ck (inb v1 14) <|
      ck (inb (3 * v1) 42) <|
      ck (inb v1 14) <|
      ck (inb ((3 * v1) + 1) 42) <|
      ck (inb v1 14) <|
      ck (inb ((3 * v1) + 2) 42) <|
      f_R_keep_L27 fu n (R.1, R.2.1, R.2.2.1, R.2.2.2.1, R.2.2.2.2.1, R.2.2.2.2.2.1, (upd (upd (upd R.2.2.2.2.2.2.1 (ix (3 * v1)) (R.2.2.1 (ix v1))) (ix ((3 * v1) + 1)) (R.2.2.2.1 (ix v1))) (ix ((3 * v1) + 2)) (R.2.2.2.2.1 (ix v1))), R.2.2.2.2.2.2.2) (v1 + 1)
def f_R_keep_L2 (fu : Nat) : Nat → S_R → Int32 → Option (S_R)
  | 0, _, _ => none
  | n + 1, R, v1 =>
    if 3 ≤ v1 then
      f_R_keep_L27 fu fu R 0
    else
      ck (inb v1 3) <|
      ck (inb v1 3) <|
      f_R_keep_L2 fu n (R.1, R.2.1, R.2.2.1, R.2.2.2.1, R.2.2.2.2.1, (upd R.2.2.2.2.2.1 (ix v1) (R.2.1 (ix v1))), R.2.2.2.2.2.2) (v1 + 1)
def f_R_keep (fu : Nat) (R : S_R) : Option (S_R) :=
  f_R_keep_L2 fu fu R 0
def f_R_putBack_L27 (fu : Nat) : Nat → S_R → Int32 → Option (S_R)
  | 0, _, _ => none
  | n + 1, R, v1 =>
    if 14 ≤ v1 then
      some R
    else
      ck (inb (3 * v1) 42) <|
      ck (inb v1 14) <|
      ck (inb ((3 * v1) + 1) 42) <|
      ck (inb v1 14) <|
      ck (inb ((3 * v1) + 2) 42) <|
      ck (inb v1 14) <|
      f_R_putBack_L27 fu n (R.1, R.2.1, (upd R.2.2.1 (ix v1) (R.2.2.2.2.2.2.1 (ix (3 * v1)))), (upd R.2.2.2.1 (ix v1) (R.2.2.2.2.2.2.1 (ix ((3 * v1) + 1)))), (upd R.2.2.2.2.1 (ix v1) (R.2.2.2.2.2.2.1 (ix ((3 * v1) + 2)))), R.2.2.2.2.2) (v1 + 1)
def f_R_putBack_L2 (fu : Nat) : Nat → S_R → Int32 → Option (S_R)
  | 0, _, _ => none
  | n + 1, R, v1 =>
    if 3 ≤ v1 then
      f_R_putBack_L27 fu fu R 0
    else
      ck (inb v1 3) <|
      ck (inb v1 3) <|
      f_R_putBack_L2 fu n (R.1, (upd R.2.1 (ix v1) (R.2.2.2.2.2.1 (ix v1))), R.2.2) (v1 + 1)
def f_R_putBack (fu : Nat) (R : S_R) : Option (S_R) :=
  f_R_putBack_L2 fu fu R 0
def f_R_copy (fu : Nat) (R : S_R) (a1 : Int32) (a2 : Int32) : Option (S_R) :=
  ck (inb a1 14) <|
  ck (inb a2 14) <|
  ck (inb a1 14) <|
  ck (inb a2 14) <|
  ck (inb a1 14) <|
  ck (inb a2 14) <|
  some ((R.1, R.2.1, (upd R.2.2.1 (ix a2) (R.2.2.1 (ix a1))), (upd R.2.2.2.1 (ix a2) (R.2.2.2.1 (ix a1))), (upd R.2.2.2.2.1 (ix a2) (R.2.2.2.2.1 (ix a1))), R.2.2.2.2.2))
def f_R_insert_L104 (fu : Nat) (R : S_R) (v2 : Int32) (v3 : Int32) (v4 : Int32) (v5 : Int32) : Option (Int32 × S_R) :=
  ck (inb v5 14) <|
  ck (inb v5 14) <|
  ck (inb v5 14) <|
  some (v5, (R.1, R.2.1, (upd R.2.2.1 (ix v5) v2), (upd R.2.2.2.1 (ix v5) v3), (upd R.2.2.2.2.1 (ix v5) v4), R.2.2.2.2.2))
def f_R_insert_L59 (fu : Nat) : Nat → S_R → Int32 → Int32 → Int32 → Int32 → Int32 → Option (Int32 × S_R)
  | 0, _, _, _, _, _, _ => none
  | n + 1, R, v2, v3, v4, v5, v6 =>
    bd (f_R_many fu R) fun r62 =>
    if r62 ≤ v6 then
      f_R_insert_L104 fu R v2 v3 v4 v5
    else
      ck (inb v6 14) <|
      ck (inb v6 14) <|
      if (R.2.2.2.2.1 (ix v6)) < (8 + v5) then
        ck (inb v6 14) <|
        f_R_insert_L59 fu n (R.1, R.2.1, R.2.2.1, R.2.2.2.1, (upd R.2.2.2.2.1 (ix v6) ((R.2.2.2.2.1 (ix v6)) + 0)), R.2.2.2.2.2) v2 v3 v4 v5 (v6 + 1)
      else
        ck (inb v6 14) <|
        f_R_insert_L59 fu n (R.1, R.2.1, R.2.2.1, R.2.2.2.1, (upd R.2.2.2.2.1 (ix v6) ((R.2.2.2.2.1 (ix v6)) + 1)), R.2.2.2.2.2) v2 v3 v4 v5 (v6 + 1)
def f_R_insert_L43 (fu : Nat) (R : S_R) (v1 : Int32) (v2 : Int32) (v3 : Int32) (v4 : Int32) (v5 : Int32) : Option (Int32 × S_R) :=
  ck (inb v1 3) <|
  ck (inb v1 3) <|
  f_R_insert_L59 fu fu (R.1, (upd R.2.1 (ix v1) ((R.2.1 (ix v1)) + 1)), R.2.2) v2 v3 v4 v5 (v5 + 1)
def f_R_insert_L20 (fu : Nat) : Nat → S_R → Int32 → Int32 → Int32 → Int32 → Int32 → Int32 → Option (Int32 × S_R)
  | 0, _, _, _, _, _, _, _ => none
  | n + 1, R, v1, v2, v3, v4, v5, v6 =>
    if v6 ≤ v5 then
      f_R_insert_L43 fu R v1 v2 v3 v4 v5
    else
      bd (f_R_copy fu R (v6 - 1) v6) fun R_34 =>
      f_R_insert_L20 fu n R_34 v1 v2 v3 v4 v5 (v6 + (-1))
def f_R_insert (fu : Nat) (R : S_R) (a1 : Int32) (a2 : Int32) (a3 : Int32) (a4 : Int32) : Option (Int32 × S_R) :=
  bd (f_R_first fu R a1) fun r2 =>
  ck (inb a1 3) <|
  bd (f_R_many fu R) fun r15 =>
  f_R_insert_L20 fu fu R a1 a2 a3 a4 (r2 + (R.2.1 (ix a1))) r15
def f_R_leaveOut_L81 (fu : Nat) : Nat → S_R → Int32 → Int32 → Int32 → Option (Int32 × S_R)
  | 0, _, _, _, _ => none
  | n + 1, R, v1, v2, v3 =>
    bd (f_R_many fu R) fun r83 =>
    if r83 ≤ v3 then
      ck (isB v2) <|
      some (v2, R)
    else
      ck (inb v3 14) <|
      ck (inb v3 14) <|
      if (R.2.2.2.2.1 (ix v3)) ≤ (8 + v1) then
        ck (inb v3 14) <|
        f_R_leaveOut_L81 fu n (R.1, R.2.1, R.2.2.1, R.2.2.2.1, (upd R.2.2.2.2.1 (ix v3) ((R.2.2.2.2.1 (ix v3)) - 0)), R.2.2.2.2.2) v1 v2 (v3 + 1)
      else
        ck (inb v3 14) <|
        f_R_leaveOut_L81 fu n (R.1, R.2.1, R.2.2.1, R.2.2.2.1, (upd R.2.2.2.2.1 (ix v3) ((R.2.2.2.2.1 (ix v3)) - 1)), R.2.2.2.2.2) v1 v2 (v3 + 1)
def f_R_leaveOut_L57 (fu : Nat) : Nat → S_R → Int32 → Int32 → Int32 → Option (Int32 × S_R)
  | 0, _, _, _, _ => none
  | n + 1, R, v1, v2, v3 =>
    bd (f_R_many fu R) fun r59 =>
    if r59 ≤ v3 then
      f_R_leaveOut_L81 fu fu R v1 v2 0
    else
      bd (f_R_copy fu R (v3 + 1) v3) fun R_70 =>
      f_R_leaveOut_L57 fu n R_70 v1 v2 (v3 + 1)
def f_R_leaveOut_L41 (fu : Nat) (R : S_R) (v1 : Int32) (v2 : Int32) : Option (Int32 × S_R) :=
  bd (f_R_branch fu R v1) fun r47 =>
  ck (inb r47 3) <|
  ck (inb r47 3) <|
  f_R_leaveOut_L57 fu fu (R.1, (upd R.2.1 (ix r47) ((R.2.1 (ix r47)) - 1)), R.2.2) v1 v2 v1
def f_R_leaveOut_L4 (fu : Nat) : Nat → S_R → Int32 → Int32 → Int32 → Option (Int32 × S_R)
  | 0, _, _, _, _ => none
  | n + 1, R, v1, v2, v3 =>
    bd (f_R_many fu R) fun r6 =>
    if r6 ≤ v3 then
      f_R_leaveOut_L41 fu R v1 v2
    else
      if v2 = 0 then
        f_R_leaveOut_L4 fu n R v1 0 (v3 + 1)
      else
        ck (inb v3 14) <|
        if (R.2.2.2.2.1 (ix v3)) = (8 + v1) then
          f_R_leaveOut_L4 fu n R v1 0 (v3 + 1)
        else
          f_R_leaveOut_L4 fu n R v1 1 (v3 + 1)
def f_R_leaveOut (fu : Nat) (R : S_R) (a1 : Int32) : Option (Int32 × S_R) :=
  f_R_leaveOut_L4 fu fu R a1 1 0
def f_R_raise_L109 (fu : Nat) : Nat → S_R → Int32 → Int32 → Int32 → Option (S_R)
  | 0, _, _, _, _ => none
  | n + 1, R, v2, v3, v7 =>
    bd (f_R_many fu R) fun r112 =>
    if r112 ≤ v7 then
      some R
    else
      ck (inb v7 14) <|
      if ((R.2.2.2.2.1 (ix v7)) - 8) = v2 then
        ck (inb v7 14) <|
        f_R_raise_L109 fu n (R.1, R.2.1, R.2.2.1, R.2.2.2.1, (upd R.2.2.2.2.1 (ix v7) (8 + v3)), R.2.2.2.2.2) v2 v3 (v7 + 1)
      else
        if ((R.2.2.2.2.1 (ix v7)) - 8) < v3 then
          ck (inb v7 14) <|
          ck (inb v7 14) <|
          f_R_raise_L109 fu n (R.1, R.2.1, R.2.2.1, R.2.2.2.1, (upd R.2.2.2.2.1 (ix v7) (R.2.2.2.2.1 (ix v7))), R.2.2.2.2.2) v2 v3 (v7 + 1)
        else
          if v2 ≤ ((R.2.2.2.2.1 (ix v7)) - 8) then
            ck (inb v7 14) <|
            ck (inb v7 14) <|
            f_R_raise_L109 fu n (R.1, R.2.1, R.2.2.1, R.2.2.2.1, (upd R.2.2.2.2.1 (ix v7) (R.2.2.2.2.1 (ix v7))), R.2.2.2.2.2) v2 v3 (v7 + 1)
          else
            ck (inb v7 14) <|
            ck (inb v7 14) <|
            f_R_raise_L109 fu n (R.1, R.2.1, R.2.2.1, R.2.2.2.1, (upd R.2.2.2.2.1 (ix v7) ((R.2.2.2.2.1 (ix v7)) + 1)), R.2.2.2.2.2) v2 v3 (v7 + 1)
def f_R_raise_L62 (fu : Nat) (R : S_R) (v1 : Int32) (v2 : Int32) (v3 : Int32) (v4 : Int32) (v5 : Int32) (v6 : Int32) : Option (S_R) :=
  ck (inb v3 14) <|
  ck (inb v3 14) <|
  ck (inb v3 14) <|
  ck (inb 0 3) <|
  ck (inb 0 3) <|
  ck (inb v1 3) <|
  ck (inb v1 3) <|
  f_R_raise_L109 fu fu (R.1, (upd (upd R.2.1 (ix 0) ((R.2.1 (ix 0)) + 1)) (ix v1) (((upd R.2.1 (ix 0) ((R.2.1 (ix 0)) + 1)) (ix v1)) - 1)), (upd R.2.2.1 (ix v3) v4), (upd R.2.2.2.1 (ix v3) v5), (upd R.2.2.2.2.1 (ix v3) v6), R.2.2.2.2.2) v2 v3 0
def f_R_raise_L40 (fu : Nat) : Nat → S_R → Int32 → Int32 → Int32 → Int32 → Int32 → Int32 → Int32 → Option (S_R)
  | 0, _, _, _, _, _, _, _, _ => none
  | n + 1, R, v1, v2, v3, v4, v5, v6, v7 =>
    if v7 ≤ v3 then
      f_R_raise_L62 fu R v1 v2 v3 v4 v5 v6
    else
      bd (f_R_copy fu R (v7 - 1) v7) fun R_53 =>
      f_R_raise_L40 fu n R_53 v1 v2 v3 v4 v5 v6 (v7 + (-1))
def f_R_raise (fu : Nat) (R : S_R) (a1 : Int32) : Option (S_R) :=
  bd (f_R_first fu R a1) fun r2 =>
  ck (inb 0 3) <|
  ck (inb r2 14) <|
  ck (inb r2 14) <|
  ck (inb r2 14) <|
  f_R_raise_L40 fu fu R a1 r2 (R.2.1 (ix 0)) (R.2.2.1 (ix r2)) (R.2.2.2.1 (ix r2)) (R.2.2.2.2.1 (ix r2)) r2
def f_R_add_L98 (fu : Nat) (R : S_R) (v1 : Int32) (v2 : Int32) (v3 : Int32) (v4 : Int32) (s0 : Int32) (s1 : Int32) : Option (Int32 × S_R) :=
  if s0 = s1 then
    bd (f_R_fail fu R 2) fun (r103, R_103) =>
    some (r103, R_103)
  else
    bd (f_R_keep fu R) fun R_108 =>
    bd (f_R_insert fu R_108 v1 v2 v3 v4) fun (r117, R_117) =>
    bd (f_R_valid fu R_117) fun (r123, R_123) =>
    if r123 = 0 then
      bd (f_R_putBack fu R_123) fun R_130 =>
      bd (f_R_fail fu R_130 3) fun (r135, R_135) =>
      some (r135, R_135)
    else
      ck (isB 0) <|
      some (r117, (R_123.1, R_123.2.1, R_123.2.2.1, R_123.2.2.2.1, R_123.2.2.2.2.1, R_123.2.2.2.2.2.1, R_123.2.2.2.2.2.2.1, R_123.2.2.2.2.2.2.2.1, R_123.2.2.2.2.2.2.2.2.1, R_123.2.2.2.2.2.2.2.2.2.1, R_123.2.2.2.2.2.2.2.2.2.2.1, R_123.2.2.2.2.2.2.2.2.2.2.2.1, R_123.2.2.2.2.2.2.2.2.2.2.2.2.1, 0, R_123.2.2.2.2.2.2.2.2.2.2.2.2.2.2))
def f_R_add (fu : Nat) (R : S_R) (a1 : Int32) (a2 : Int32) (a3 : Int32) (a4 : Int32) : Option (Int32 × S_R) :=
  bd (f_R_within fu a1 0 2) fun r8 =>
  if r8 = 0 then
    bd (f_R_fail fu (0, R.2) 1) fun (r40, R_40) =>
    some (r40, R_40)
  else
    bd (f_R_within fu a2 0 6) fun r18 =>
    if r18 = 0 then
      bd (f_R_fail fu (0, R.2) 1) fun (r40, R_40) =>
      some (r40, R_40)
    else
      bd (f_R_within fu a3 0 2) fun r27 =>
      if r27 = 0 then
        bd (f_R_fail fu (0, R.2) 1) fun (r40, R_40) =>
        some (r40, R_40)
      else
        if 0 ≤ a4 then
          if a4 ≤ 7 then
            ck (inb a1 3) <|
            if a1 = 0 then
              f_R_add_L98 fu (0, R.2) a1 a2 a3 a4 (R.2.1 (ix a1)) 6
            else
              f_R_add_L98 fu (0, R.2) a1 a2 a3 a4 (R.2.1 (ix a1)) 4
          else
            bd (f_R_first fu (0, R.2) a1) fun r60 =>
            ck (inb a1 3) <|
            bd (f_R_mayStand fu (0, R.2) (a4 - 8) a1 (r60 + (R.2.1 (ix a1)))) fun r70 =>
            if r70 = 0 then
              bd (f_R_fail fu (0, R.2) 1) fun (r78, R_78) =>
              some (r78, R_78)
            else
              ck (inb a1 3) <|
              if a1 = 0 then
                f_R_add_L98 fu (0, R.2) a1 a2 a3 a4 (R.2.1 (ix a1)) 6
              else
                f_R_add_L98 fu (0, R.2) a1 a2 a3 a4 (R.2.1 (ix a1)) 4
        else
          bd (f_R_fail fu (0, R.2) 1) fun (r40, R_40) =>
          some (r40, R_40)
def f_R_clear_L30 (fu : Nat) (R : S_R) (v1 : Int32) : Option (Int32 × S_R) :=
  ck (isB 0) <|
  some (v1, (R.1, R.2.1, R.2.2.1, R.2.2.2.1, R.2.2.2.2.1, R.2.2.2.2.2.1, R.2.2.2.2.2.2.1, R.2.2.2.2.2.2.2.1, R.2.2.2.2.2.2.2.2.1, R.2.2.2.2.2.2.2.2.2.1, R.2.2.2.2.2.2.2.2.2.2.1, R.2.2.2.2.2.2.2.2.2.2.2.1, R.2.2.2.2.2.2.2.2.2.2.2.2.1, 0, R.2.2.2.2.2.2.2.2.2.2.2.2.2.2))
def f_R_clear_L12 (fu : Nat) : Nat → S_R → Int32 → Int32 → Option (Int32 × S_R)
  | 0, _, _, _ => none
  | n + 1, R, v1, v2 =>
    if 3 ≤ v2 then
      f_R_clear_L30 fu R v1
    else
      ck (inb v2 3) <|
      f_R_clear_L12 fu n (R.1, (upd R.2.1 (ix v2) 0), R.2.2) v1 (v2 + 1)
def f_R_clear (fu : Nat) (R : S_R) : Option (Int32 × S_R) :=
  bd (f_R_many fu (0, R.2)) fun r6 =>
  f_R_clear_L12 fu fu (0, R.2) r6 0
def f_R_drawn (fu : Nat) (R : S_R) (a1 : Int32) : Option (Int32 × S_R) :=
  ck (nzL a1.toInt64) <|
  some ((((((R.2.2.2.2.2.2.2.2.1 * 6364136223846793005) + 1442695040888963407).toUInt64 >>> ((33 : Int32).toInt64.toUInt64 &&& Int64.toUInt64 63)).toInt64) - ((((R.2.2.2.2.2.2.2.2.1 * 6364136223846793005) + 1442695040888963407).toUInt64 >>> ((33 : Int32).toInt64.toUInt64 &&& Int64.toUInt64 63)).toInt64) / a1.toInt64 * a1.toInt64).toInt32, (R.1, R.2.1, R.2.2.1, R.2.2.2.1, R.2.2.2.2.1, R.2.2.2.2.2.1, R.2.2.2.2.2.2.1, R.2.2.2.2.2.2.2.1, (R.2.2.2.2.2.2.2.2.1 * 6364136223846793005) + 1442695040888963407, R.2.2.2.2.2.2.2.2.2))
def f_R_before_L6 (fu : Nat) (R : S_R) : Nat → Int32 → Int32 → Int32 → Int32 → Int32 → Option (Int32)
  | 0, _, _, _, _, _ => none
  | n + 1, v1, v2, v3, v4, v5 =>
    if v1 ≤ v5 then
      some v4
    else
      bd (f_R_mayStand fu R v5 v2 v3) fun r19 =>
      if r19 = 0 then
        f_R_before_L6 fu R n v1 v2 v3 (v4 + 0) (v5 + 1)
      else
        f_R_before_L6 fu R n v1 v2 v3 (v4 + 1) (v5 + 1)
def f_R_before (fu : Nat) (R : S_R) (a1 : Int32) (a2 : Int32) (a3 : Int32) : Option (Int32) :=
  f_R_before_L6 fu R fu a1 a2 a3 0 0
def f_R_tried_L191 (fu : Nat) (k4 : S_R → Int32 → Int32 → Int32 → Option (S_R)) (R : S_R) (v1 : Int32) (v3 : Int32) (v4 : Int32) (v5 : Int32) (v9 : Int32) : Option (S_R) :=
  bd (f_R_keep fu R) fun R_192 =>
  bd (f_R_insert fu R_192 v1 v4 v5 v9) fun (r203, R_203) =>
  bd (f_R_valid fu R_203) fun (r208, R_208) =>
  if r208 = 0 then
    bd (f_R_putBack fu R_208) fun R_217 =>
    k4 R_217 v1 r208 (v3 + 1)
  else
    k4 R_208 v1 r208 (v3 + 1)
def f_R_tried_L142 (fu : Nat) (k4 : S_R → Int32 → Int32 → Int32 → Option (S_R)) : Nat → S_R → Int32 → Int32 → Int32 → Int32 → Int32 → Int32 → Int32 → Int32 → Option (S_R)
  | 0, _, _, _, _, _, _, _, _, _ => none
  | n + 1, R, v1, v3, v4, v5, v7, v9, v10, v11 =>
    if v11 < 0 then
      f_R_tried_L191 fu k4 R v1 v3 v4 v5 v9
    else
      bd (f_R_mayStand fu R v11 v1 v7) fun r153 =>
      if r153 = 0 then
        f_R_tried_L142 fu k4 n R v1 v3 v4 v5 v7 v9 v10 (v11 + (-1))
      else
        bd (f_R_before fu R v11 v1 v7) fun r165 =>
        if r165 = v10 then
          f_R_tried_L142 fu k4 n R v1 v3 v4 v5 v7 (8 + v11) v10 (v11 + (-1))
        else
          f_R_tried_L142 fu k4 n R v1 v3 v4 v5 v7 v9 v10 (v11 + (-1))
def f_R_tried_L117 (fu : Nat) (k4 : S_R → Int32 → Int32 → Int32 → Option (S_R)) (R : S_R) (v1 : Int32) (v3 : Int32) (v4 : Int32) (v5 : Int32) (v6 : Int32) (v7 : Int32) (v8 : Int32) (s1 : Int32) : Option (S_R) :=
  bd (f_R_drawn fu R s1) fun (r117, R_117) =>
  if v6 = 0 then
    f_R_tried_L191 fu k4 R_117 v1 v3 v4 v5 r117
  else
    if v8 ≤ 0 then
      f_R_tried_L191 fu k4 R_117 v1 v3 v4 v5 r117
    else
      f_R_tried_L142 fu k4 fu R_117 v1 v3 v4 v5 v7 r117 r117 (v7 - 1)
def f_R_tried_L99 (fu : Nat) (k4 : S_R → Int32 → Int32 → Int32 → Option (S_R)) (R : S_R) (v1 : Int32) (v3 : Int32) (v4 : Int32) (v5 : Int32) (v6 : Int32) (v7 : Int32) (v8 : Int32) : Option (S_R) :=
  if v6 = 0 then
    f_R_tried_L117 fu k4 R v1 v3 v4 v5 v6 v7 v8 8
  else
    if v8 ≤ 0 then
      f_R_tried_L117 fu k4 R v1 v3 v4 v5 v6 v7 v8 8
    else
      f_R_tried_L117 fu k4 R v1 v3 v4 v5 v6 v7 v8 v8
def f_R_tried_L64 (fu : Nat) (k4 : S_R → Int32 → Int32 → Int32 → Option (S_R)) : Nat → S_R → Int32 → Int32 → Int32 → Int32 → Int32 → Int32 → Int32 → Int32 → Option (S_R)
  | 0, _, _, _, _, _, _, _, _, _ => none
  | n + 1, R, v1, v3, v4, v5, v6, v7, v8, v9 =>
    if v7 ≤ v9 then
      f_R_tried_L99 fu k4 R v1 v3 v4 v5 v6 v7 v8
    else
      bd (f_R_mayStand fu R v9 v1 v7) fun r79 =>
      if r79 = 0 then
        f_R_tried_L64 fu k4 n R v1 v3 v4 v5 v6 v7 (v8 + 0) (v9 + 1)
      else
        f_R_tried_L64 fu k4 n R v1 v3 v4 v5 v6 v7 (v8 + 1) (v9 + 1)
def f_R_tried_L42 (fu : Nat) (k4 : S_R → Int32 → Int32 → Int32 → Option (S_R)) (R : S_R) (v1 : Int32) (v3 : Int32) (v4 : Int32) (v5 : Int32) (s0 : Int32) : Option (S_R) :=
  bd (f_R_first fu R v1) fun r46 =>
  ck (inb v1 3) <|
  f_R_tried_L64 fu k4 fu R v1 v3 v4 v5 s0 (r46 + (R.2.1 (ix v1))) 0 0
def f_R_tried_L4 (fu : Nat) : Nat → S_R → Int32 → Int32 → Int32 → Option (S_R)
  | 0, _, _, _, _ => none
  | n + 1, R, v1, v2, v3 =>
    if 20 ≤ v3 then
      some R
    else
      if v2 = 0 then
        bd (f_R_drawn fu R 7) fun (r17, R_17) =>
        bd (f_R_drawn fu R_17 3) fun (r24, R_24) =>
        bd (f_R_drawn fu R_24 4) fun (r31, R_31) =>
        if r31 = 0 then
          f_R_tried_L42 fu (f_R_tried_L4 fu n) R_31 v1 v3 r17 r24 1
        else
          f_R_tried_L42 fu (f_R_tried_L4 fu n) R_31 v1 v3 r17 r24 0
      else
        some R
def f_R_tried (fu : Nat) (R : S_R) (a1 : Int32) : Option (S_R) :=
  f_R_tried_L4 fu fu R a1 0 0
def f_R_make_L95 (fu : Nat) : Nat → S_R → Int32 → Int32 → Option (Int32 × S_R)
  | 0, _, _, _ => none
  | n + 1, R, v5, v6 =>
    if v5 ≤ v6 then
      bd (f_R_many fu R) fun r114 =>
      some (r114, R)
    else
      bd (f_R_tried fu R 2) fun R_104 =>
      f_R_make_L95 fu n R_104 v5 (v6 + 1)
def f_R_make_L74 (fu : Nat) : Nat → S_R → Int32 → Int32 → Int32 → Option (Int32 × S_R)
  | 0, _, _, _, _ => none
  | n + 1, R, v4, v5, v6 =>
    if v4 ≤ v6 then
      f_R_make_L95 fu fu R v5 0
    else
      bd (f_R_tried fu R 1) fun R_83 =>
      f_R_make_L74 fu n R_83 v4 v5 (v6 + 1)
def f_R_make_L54 (fu : Nat) : Nat → S_R → Int32 → Int32 → Int32 → Int32 → Option (Int32 × S_R)
  | 0, _, _, _, _, _ => none
  | n + 1, R, v3, v4, v5, v6 =>
    if v3 ≤ v6 then
      f_R_make_L74 fu fu R v4 v5 0
    else
      bd (f_R_tried fu R 0) fun R_62 =>
      f_R_make_L54 fu n R_62 v3 v4 v5 (v6 + 1)
def f_R_make (fu : Nat) (R : S_R) (a1 : Int64) (a3 : Int32) (a4 : Int32) (a5 : Int32) : Option (Int32 × S_R) :=
  bd (f_R_within fu a3 0 6) fun r9 =>
  if r9 = 0 then
    bd (f_R_fail fu (0, R.2) 1) fun (r37, R_37) =>
    some (r37, R_37)
  else
    bd (f_R_within fu a4 0 4) fun r19 =>
    if r19 = 0 then
      bd (f_R_fail fu (0, R.2) 1) fun (r37, R_37) =>
      some (r37, R_37)
    else
      bd (f_R_within fu a5 0 4) fun r29 =>
      if r29 = 0 then
        bd (f_R_fail fu (0, R.2) 1) fun (r37, R_37) =>
        some (r37, R_37)
      else
        bd (f_R_clear fu (0, R.2)) fun (r42, R_42) =>
        f_R_make_L54 fu fu (R_42.1, R_42.2.1, R_42.2.2.1, R_42.2.2.2.1, R_42.2.2.2.2.1, R_42.2.2.2.2.2.1, R_42.2.2.2.2.2.2.1, R_42.2.2.2.2.2.2.2.1, a1, R_42.2.2.2.2.2.2.2.2.2) a3 a4 a5 0
def f_R_flaws (fu : Nat) (R : S_R) (a1 : Int32) : Option (Int32 × S_R) :=
  bd (f_R_within fu a1 0 15) fun r9 =>
  if r9 = 0 then
    bd (f_R_fail fu (0, R.2) 1) fun (r17, R_17) =>
    some (r17, R_17)
  else
    some (R.2.2.2.2.2.2.2.1, (0, R.2.1, R.2.2.1, R.2.2.2.1, R.2.2.2.2.1, R.2.2.2.2.2.1, R.2.2.2.2.2.2.1, a1, R.2.2.2.2.2.2.2.2))
def f_R_twoParts_L38 (fu : Nat) (R : S_R) (v1 : Int32) : Option (Int32) :=
  ck (inb v1 14) <|
  if (R.2.2.1 (ix v1)) = 6 then
    if (R.2.2.2.2.2.2.2.1 &&& 4) = 0 then
      ck (isB 0) <|
      some 0
    else
      ck (isB 1) <|
      some 1
  else
    ck (isB 0) <|
    some 0
def f_R_twoParts_L19 (fu : Nat) (R : S_R) (v1 : Int32) : Option (Int32) :=
  ck (inb v1 14) <|
  if (R.2.2.1 (ix v1)) = 5 then
    if (R.2.2.2.2.2.2.2.1 &&& 2) = 0 then
      f_R_twoParts_L38 fu R v1
    else
      ck (isB 1) <|
      some 1
  else
    f_R_twoParts_L38 fu R v1
def f_R_twoParts (fu : Nat) (R : S_R) (a1 : Int32) : Option (Int32) :=
  ck (inb a1 14) <|
  if (R.2.2.1 (ix a1)) = 4 then
    if (R.2.2.2.2.2.2.2.1 &&& 1) = 0 then
      f_R_twoParts_L19 fu R a1
    else
      ck (isB 1) <|
      some 1
  else
    f_R_twoParts_L19 fu R a1
def f_R_isLate (fu : Nat) (R : S_R) (a1 : Int32) : Option (Int32) :=
  ck (inb a1 14) <|
  if (R.2.2.1 (ix a1)) = 3 then
    if (R.2.2.2.2.2.2.2.1 &&& 8) = 0 then
      ck (isB 0) <|
      some 0
    else
      ck (isB 1) <|
      some 1
  else
    ck (isB 0) <|
    some 0
def f_R_source (fu : Nat) (R : S_R) (a1 : Int32) : Option (Int32) :=
  ck (inb a1 14) <|
  if (R.2.2.1 (ix a1)) = 6 then
    ck (inb a1 14) <|
    ck (nz 3) <|
    some (((R.2.2.2.1 (ix a1)) + 1) - ((R.2.2.2.1 (ix a1)) + 1) / 3 * 3)
  else
    ck (inb a1 14) <|
    some (R.2.2.2.1 (ix a1))
def f_R_does_L236 (fu : Nat) (R : S_R) (v1 : Int32) (v2 : Int32) (v4 : Int32) : Option (S_R) :=
  ck (inb v1 14) <|
  if (R.2.2.1 (ix v1)) = 6 then
    ck (inb v2 3) <|
    some ((R.1, R.2.1, R.2.2.1, R.2.2.2.1, R.2.2.2.2.1, R.2.2.2.2.2.1, R.2.2.2.2.2.2.1, R.2.2.2.2.2.2.2.1, R.2.2.2.2.2.2.2.2.1, R.2.2.2.2.2.2.2.2.2.1, R.2.2.2.2.2.2.2.2.2.2.1, (upd R.2.2.2.2.2.2.2.2.2.2.2.1 (ix v2) v4), R.2.2.2.2.2.2.2.2.2.2.2.2))
  else
    some R
def f_R_does_L213 (fu : Nat) (R : S_R) (v1 : Int32) (v2 : Int32) (v3 : Int32) (v4 : Int32) : Option (S_R) :=
  ck (inb v1 14) <|
  if (R.2.2.1 (ix v1)) = 4 then
    ck (nz 8) <|
    ck (inb v2 3) <|
    f_R_does_L236 fu (R.1, R.2.1, R.2.2.1, R.2.2.2.1, R.2.2.2.2.1, R.2.2.2.2.2.1, R.2.2.2.2.2.2.1, R.2.2.2.2.2.2.2.1, R.2.2.2.2.2.2.2.2.1, R.2.2.2.2.2.2.2.2.2.1, R.2.2.2.2.2.2.2.2.2.2.1, (upd R.2.2.2.2.2.2.2.2.2.2.2.1 (ix v2) ((v4 + v3) - (v4 + v3) / 8 * 8)), R.2.2.2.2.2.2.2.2.2.2.2.2) v1 v2 v4
  else
    f_R_does_L236 fu R v1 v2 v4
def f_R_does_L196 (fu : Nat) (R : S_R) (v1 : Int32) (v2 : Int32) (v3 : Int32) (v4 : Int32) : Option (S_R) :=
  ck (inb v1 14) <|
  if (R.2.2.1 (ix v1)) = 1 then
    ck (inb v2 3) <|
    f_R_does_L213 fu (R.1, R.2.1, R.2.2.1, R.2.2.2.1, R.2.2.2.2.1, R.2.2.2.2.2.1, R.2.2.2.2.2.2.1, R.2.2.2.2.2.2.2.1, R.2.2.2.2.2.2.2.2.1, R.2.2.2.2.2.2.2.2.2.1, R.2.2.2.2.2.2.2.2.2.2.1, (upd R.2.2.2.2.2.2.2.2.2.2.2.1 (ix v2) 0), R.2.2.2.2.2.2.2.2.2.2.2.2) v1 v2 v3 v4
  else
    f_R_does_L213 fu R v1 v2 v3 v4
def f_R_does_L151 (fu : Nat) (R : S_R) (v1 : Int32) (v2 : Int32) (v3 : Int32) (v4 : Int32) (s1 : Int32) (s2 : Int32) : Option (S_R) :=
  ck (inb s1 3) <|
  ck (isB s2) <|
  ck (inb v1 14) <|
  if (R.2.2.1 (ix v1)) = 0 then
    ck (inb v2 3) <|
    f_R_does_L196 fu (R.1, R.2.1, R.2.2.1, R.2.2.2.1, R.2.2.2.2.1, R.2.2.2.2.2.1, R.2.2.2.2.2.2.1, R.2.2.2.2.2.2.2.1, R.2.2.2.2.2.2.2.2.1, R.2.2.2.2.2.2.2.2.2.1, R.2.2.2.2.2.2.2.2.2.2.1, (upd R.2.2.2.2.2.2.2.2.2.2.2.1 (ix v2) v3), (upd R.2.2.2.2.2.2.2.2.2.2.2.2.1 (ix s1) s2), R.2.2.2.2.2.2.2.2.2.2.2.2.2) v1 v2 v3 v4
  else
    ck (inb v1 14) <|
    if (R.2.2.1 (ix v1)) = 5 then
      ck (inb v2 3) <|
      f_R_does_L196 fu (R.1, R.2.1, R.2.2.1, R.2.2.2.1, R.2.2.2.2.1, R.2.2.2.2.2.1, R.2.2.2.2.2.2.1, R.2.2.2.2.2.2.2.1, R.2.2.2.2.2.2.2.2.1, R.2.2.2.2.2.2.2.2.2.1, R.2.2.2.2.2.2.2.2.2.2.1, (upd R.2.2.2.2.2.2.2.2.2.2.2.1 (ix v2) v3), (upd R.2.2.2.2.2.2.2.2.2.2.2.2.1 (ix s1) s2), R.2.2.2.2.2.2.2.2.2.2.2.2.2) v1 v2 v3 v4
    else
      ck (inb v1 14) <|
      if (R.2.2.1 (ix v1)) = 3 then
        bd (f_R_isLate fu (R.1, R.2.1, R.2.2.1, R.2.2.2.1, R.2.2.2.2.1, R.2.2.2.2.2.1, R.2.2.2.2.2.2.1, R.2.2.2.2.2.2.2.1, R.2.2.2.2.2.2.2.2.1, R.2.2.2.2.2.2.2.2.2.1, R.2.2.2.2.2.2.2.2.2.2.1, R.2.2.2.2.2.2.2.2.2.2.2.1, (upd R.2.2.2.2.2.2.2.2.2.2.2.2.1 (ix s1) s2), R.2.2.2.2.2.2.2.2.2.2.2.2.2) v1) fun r183 =>
        if r183 = 0 then
          ck (inb v2 3) <|
          f_R_does_L196 fu (R.1, R.2.1, R.2.2.1, R.2.2.2.1, R.2.2.2.2.1, R.2.2.2.2.2.1, R.2.2.2.2.2.2.1, R.2.2.2.2.2.2.2.1, R.2.2.2.2.2.2.2.2.1, R.2.2.2.2.2.2.2.2.2.1, R.2.2.2.2.2.2.2.2.2.2.1, (upd R.2.2.2.2.2.2.2.2.2.2.2.1 (ix v2) v3), (upd R.2.2.2.2.2.2.2.2.2.2.2.2.1 (ix s1) s2), R.2.2.2.2.2.2.2.2.2.2.2.2.2) v1 v2 v3 v4
        else
          f_R_does_L196 fu (R.1, R.2.1, R.2.2.1, R.2.2.2.1, R.2.2.2.2.1, R.2.2.2.2.2.1, R.2.2.2.2.2.2.1, R.2.2.2.2.2.2.2.1, R.2.2.2.2.2.2.2.2.1, R.2.2.2.2.2.2.2.2.2.1, R.2.2.2.2.2.2.2.2.2.2.1, R.2.2.2.2.2.2.2.2.2.2.2.1, (upd R.2.2.2.2.2.2.2.2.2.2.2.2.1 (ix s1) s2), R.2.2.2.2.2.2.2.2.2.2.2.2.2) v1 v2 v3 v4
      else
        f_R_does_L196 fu (R.1, R.2.1, R.2.2.1, R.2.2.2.1, R.2.2.2.2.1, R.2.2.2.2.2.1, R.2.2.2.2.2.2.1, R.2.2.2.2.2.2.2.1, R.2.2.2.2.2.2.2.2.1, R.2.2.2.2.2.2.2.2.2.1, R.2.2.2.2.2.2.2.2.2.2.1, R.2.2.2.2.2.2.2.2.2.2.2.1, (upd R.2.2.2.2.2.2.2.2.2.2.2.2.1 (ix s1) s2), R.2.2.2.2.2.2.2.2.2.2.2.2.2) v1 v2 v3 v4
def f_R_does_L112 (fu : Nat) (R : S_R) (v1 : Int32) (v2 : Int32) (v3 : Int32) (v4 : Int32) (s1 : Int32) (s2 : Int32) : Option (S_R) :=
  ck (inb s1 14) <|
  ck (inb v1 14) <|
  if (R.2.2.1 (ix v1)) = 1 then
    f_R_does_L151 fu (R.1, R.2.1, R.2.2.1, R.2.2.2.1, R.2.2.2.2.1, R.2.2.2.2.2.1, R.2.2.2.2.2.2.1, R.2.2.2.2.2.2.2.1, R.2.2.2.2.2.2.2.2.1, R.2.2.2.2.2.2.2.2.2.1, R.2.2.2.2.2.2.2.2.2.2.1, R.2.2.2.2.2.2.2.2.2.2.2.1, R.2.2.2.2.2.2.2.2.2.2.2.2.1, R.2.2.2.2.2.2.2.2.2.2.2.2.2.1, R.2.2.2.2.2.2.2.2.2.2.2.2.2.2.1, (upd R.2.2.2.2.2.2.2.2.2.2.2.2.2.2.2.1 (ix s1) s2), R.2.2.2.2.2.2.2.2.2.2.2.2.2.2.2.2) v1 v2 v3 v4 v2 0
  else
    ck (inb v1 14) <|
    if (R.2.2.1 (ix v1)) = 0 then
      f_R_does_L151 fu (R.1, R.2.1, R.2.2.1, R.2.2.2.1, R.2.2.2.2.1, R.2.2.2.2.2.1, R.2.2.2.2.2.2.1, R.2.2.2.2.2.2.2.1, R.2.2.2.2.2.2.2.2.1, R.2.2.2.2.2.2.2.2.2.1, R.2.2.2.2.2.2.2.2.2.2.1, R.2.2.2.2.2.2.2.2.2.2.2.1, R.2.2.2.2.2.2.2.2.2.2.2.2.1, R.2.2.2.2.2.2.2.2.2.2.2.2.2.1, R.2.2.2.2.2.2.2.2.2.2.2.2.2.2.1, (upd R.2.2.2.2.2.2.2.2.2.2.2.2.2.2.2.1 (ix s1) s2), R.2.2.2.2.2.2.2.2.2.2.2.2.2.2.2.2) v1 v2 v3 v4 v2 1
    else
      ck (inb v2 3) <|
      if (R.2.2.2.2.2.2.2.2.2.2.2.2.1 (ix v2)) = 0 then
        f_R_does_L151 fu (R.1, R.2.1, R.2.2.1, R.2.2.2.1, R.2.2.2.2.1, R.2.2.2.2.2.1, R.2.2.2.2.2.2.1, R.2.2.2.2.2.2.2.1, R.2.2.2.2.2.2.2.2.1, R.2.2.2.2.2.2.2.2.2.1, R.2.2.2.2.2.2.2.2.2.2.1, R.2.2.2.2.2.2.2.2.2.2.2.1, R.2.2.2.2.2.2.2.2.2.2.2.2.1, R.2.2.2.2.2.2.2.2.2.2.2.2.2.1, R.2.2.2.2.2.2.2.2.2.2.2.2.2.2.1, (upd R.2.2.2.2.2.2.2.2.2.2.2.2.2.2.2.1 (ix s1) s2), R.2.2.2.2.2.2.2.2.2.2.2.2.2.2.2.2) v1 v2 v3 v4 v2 0
      else
        f_R_does_L151 fu (R.1, R.2.1, R.2.2.1, R.2.2.2.1, R.2.2.2.2.1, R.2.2.2.2.2.1, R.2.2.2.2.2.2.1, R.2.2.2.2.2.2.2.1, R.2.2.2.2.2.2.2.2.1, R.2.2.2.2.2.2.2.2.2.1, R.2.2.2.2.2.2.2.2.2.2.1, R.2.2.2.2.2.2.2.2.2.2.2.1, R.2.2.2.2.2.2.2.2.2.2.2.2.1, R.2.2.2.2.2.2.2.2.2.2.2.2.2.1, R.2.2.2.2.2.2.2.2.2.2.2.2.2.2.1, (upd R.2.2.2.2.2.2.2.2.2.2.2.2.2.2.2.1 (ix s1) s2), R.2.2.2.2.2.2.2.2.2.2.2.2.2.2.2.2) v1 v2 v3 v4 v2 1
def f_R_does (fu : Nat) (R : S_R) (a1 : Int32) : Option (S_R) :=
  ck (inb a1 14) <|
  ck (inb a1 14) <|
  ck (inb a1 14) <|
  ck (inb a1 14) <|
  if (R.2.2.1 (ix a1)) = 1 then
    ck (inb (R.2.2.2.1 (ix a1)) 3) <|
    f_R_does_L112 fu R a1 (R.2.2.2.1 (ix a1)) (R.2.2.2.2.2.2.2.2.2.2.2.2.2.2.2.2.1 (ix a1)) (R.2.2.2.2.2.2.2.2.2.2.2.2.2.2.2.2.2.2.2.1 (ix a1)) a1 (R.2.2.2.2.2.2.2.2.2.2.2.1 (ix (R.2.2.2.1 (ix a1))))
  else
    ck (inb a1 14) <|
    if (R.2.2.1 (ix a1)) = 2 then
      ck (inb (R.2.2.2.1 (ix a1)) 3) <|
      f_R_does_L112 fu R a1 (R.2.2.2.1 (ix a1)) (R.2.2.2.2.2.2.2.2.2.2.2.2.2.2.2.2.1 (ix a1)) (R.2.2.2.2.2.2.2.2.2.2.2.2.2.2.2.2.2.2.2.1 (ix a1)) a1 (R.2.2.2.2.2.2.2.2.2.2.2.1 (ix (R.2.2.2.1 (ix a1))))
    else
      ck (inb a1 14) <|
      if (R.2.2.1 (ix a1)) = 4 then
        ck (nz 8) <|
        f_R_does_L112 fu R a1 (R.2.2.2.1 (ix a1)) (R.2.2.2.2.2.2.2.2.2.2.2.2.2.2.2.2.1 (ix a1)) (R.2.2.2.2.2.2.2.2.2.2.2.2.2.2.2.2.2.2.2.1 (ix a1)) a1 (((R.2.2.2.2.2.2.2.2.2.2.2.2.2.2.2.2.2.2.2.1 (ix a1)) + (R.2.2.2.2.2.2.2.2.2.2.2.2.2.2.2.2.1 (ix a1))) - ((R.2.2.2.2.2.2.2.2.2.2.2.2.2.2.2.2.2.2.2.1 (ix a1)) + (R.2.2.2.2.2.2.2.2.2.2.2.2.2.2.2.2.1 (ix a1))) / 8 * 8)
      else
        ck (inb a1 14) <|
        if (R.2.2.1 (ix a1)) = 5 then
          f_R_does_L112 fu R a1 (R.2.2.2.1 (ix a1)) (R.2.2.2.2.2.2.2.2.2.2.2.2.2.2.2.2.1 (ix a1)) (R.2.2.2.2.2.2.2.2.2.2.2.2.2.2.2.2.2.2.2.1 (ix a1)) a1 (R.2.2.2.2.2.2.2.2.2.2.2.2.2.2.2.2.2.2.2.1 (ix a1))
        else
          ck (inb a1 14) <|
          if (R.2.2.1 (ix a1)) = 6 then
            ck (inb (R.2.2.2.1 (ix a1)) 3) <|
            f_R_does_L112 fu R a1 (R.2.2.2.1 (ix a1)) (R.2.2.2.2.2.2.2.2.2.2.2.2.2.2.2.2.1 (ix a1)) (R.2.2.2.2.2.2.2.2.2.2.2.2.2.2.2.2.2.2.2.1 (ix a1)) a1 (R.2.2.2.2.2.2.2.2.2.2.2.1 (ix (R.2.2.2.1 (ix a1))))
          else
            f_R_does_L112 fu R a1 (R.2.2.2.1 (ix a1)) (R.2.2.2.2.2.2.2.2.2.2.2.2.2.2.2.2.1 (ix a1)) (R.2.2.2.2.2.2.2.2.2.2.2.2.2.2.2.2.2.2.2.1 (ix a1)) a1 0
def f_R_calls (fu : Nat) (R : S_R) (a1 : Int32) : Option (S_R) :=
  ck (inb a1 14) <|
  if 8 ≤ (R.2.2.2.2.1 (ix a1)) then
    ck (inb a1 14) <|
    ck (inb ((R.2.2.2.2.1 (ix a1)) - 8) 14) <|
    ck (inb a1 14) <|
    some ((R.1, R.2.1, R.2.2.1, R.2.2.2.1, R.2.2.2.2.1, R.2.2.2.2.2.1, R.2.2.2.2.2.2.1, R.2.2.2.2.2.2.2.1, R.2.2.2.2.2.2.2.2.1, R.2.2.2.2.2.2.2.2.2.1, R.2.2.2.2.2.2.2.2.2.2.1, R.2.2.2.2.2.2.2.2.2.2.2.1, R.2.2.2.2.2.2.2.2.2.2.2.2.1, R.2.2.2.2.2.2.2.2.2.2.2.2.2.1, R.2.2.2.2.2.2.2.2.2.2.2.2.2.2.1, R.2.2.2.2.2.2.2.2.2.2.2.2.2.2.2.1, (upd R.2.2.2.2.2.2.2.2.2.2.2.2.2.2.2.2.1 (ix a1) (R.2.2.2.2.2.2.2.2.2.2.2.2.2.2.2.1 (ix ((R.2.2.2.2.1 (ix a1)) - 8)))), R.2.2.2.2.2.2.2.2.2.2.2.2.2.2.2.2.2))
  else
    ck (inb a1 14) <|
    ck (inb a1 14) <|
    some ((R.1, R.2.1, R.2.2.1, R.2.2.2.1, R.2.2.2.2.1, R.2.2.2.2.2.1, R.2.2.2.2.2.2.1, R.2.2.2.2.2.2.2.1, R.2.2.2.2.2.2.2.2.1, R.2.2.2.2.2.2.2.2.2.1, R.2.2.2.2.2.2.2.2.2.2.1, R.2.2.2.2.2.2.2.2.2.2.2.1, R.2.2.2.2.2.2.2.2.2.2.2.2.1, R.2.2.2.2.2.2.2.2.2.2.2.2.2.1, R.2.2.2.2.2.2.2.2.2.2.2.2.2.2.1, R.2.2.2.2.2.2.2.2.2.2.2.2.2.2.2.1, (upd R.2.2.2.2.2.2.2.2.2.2.2.2.2.2.2.2.1 (ix a1) (R.2.2.2.2.1 (ix a1))), R.2.2.2.2.2.2.2.2.2.2.2.2.2.2.2.2.2))
def f_R_events_L13 (fu : Nat) (R : S_R) (v1 : Int32) (s0 : Int32) : Option (Int32) :=
  bd (f_R_isLate fu R v1) fun r15 =>
  if r15 = 0 then
    some (s0 + 0)
  else
    some (s0 + 1)
def f_R_events (fu : Nat) (R : S_R) (a1 : Int32) : Option (Int32) :=
  bd (f_R_twoParts fu R a1) fun r2 =>
  if r2 = 0 then
    f_R_events_L13 fu R a1 3
  else
    f_R_events_L13 fu R a1 4
def f_R_happens_L78 (fu : Nat) (R : S_R) (v1 : Int32) (v2 : Int32) (v4 : Int32) : Option (S_R) :=
  if v2 = (v4 + 2) then
    ck (inb v1 14) <|
    ck (inb v1 14) <|
    ck (inb (R.2.2.2.1 (ix v1)) 3) <|
    some ((R.1, R.2.1, R.2.2.1, R.2.2.2.1, R.2.2.2.2.1, R.2.2.2.2.2.1, R.2.2.2.2.2.2.1, R.2.2.2.2.2.2.2.1, R.2.2.2.2.2.2.2.2.1, R.2.2.2.2.2.2.2.2.2.1, R.2.2.2.2.2.2.2.2.2.2.1, (upd R.2.2.2.2.2.2.2.2.2.2.2.1 (ix (R.2.2.2.1 (ix v1))) (R.2.2.2.2.2.2.2.2.2.2.2.2.2.2.2.2.1 (ix v1))), R.2.2.2.2.2.2.2.2.2.2.2.2))
  else
    some R
def f_R_happens_L63 (fu : Nat) (R : S_R) (v1 : Int32) (v2 : Int32) (v3 : Int32) (v4 : Int32) : Option (S_R) :=
  if v2 = (v4 + 1) then
    ck (inb v1 14) <|
    f_R_happens_L78 fu (R.1, R.2.1, R.2.2.1, R.2.2.2.1, R.2.2.2.2.1, R.2.2.2.2.2.1, R.2.2.2.2.2.2.1, R.2.2.2.2.2.2.2.1, R.2.2.2.2.2.2.2.2.1, R.2.2.2.2.2.2.2.2.2.1, R.2.2.2.2.2.2.2.2.2.2.1, R.2.2.2.2.2.2.2.2.2.2.2.1, R.2.2.2.2.2.2.2.2.2.2.2.2.1, R.2.2.2.2.2.2.2.2.2.2.2.2.2.1, R.2.2.2.2.2.2.2.2.2.2.2.2.2.2.1, R.2.2.2.2.2.2.2.2.2.2.2.2.2.2.2.1, R.2.2.2.2.2.2.2.2.2.2.2.2.2.2.2.2.1, R.2.2.2.2.2.2.2.2.2.2.2.2.2.2.2.2.2.1, (upd R.2.2.2.2.2.2.2.2.2.2.2.2.2.2.2.2.2.2.1 (ix v1) v3), R.2.2.2.2.2.2.2.2.2.2.2.2.2.2.2.2.2.2.2) v1 v2 v4
  else
    f_R_happens_L78 fu R v1 v2 v4
def f_R_happens_L31 (fu : Nat) (R : S_R) (v1 : Int32) (v2 : Int32) (v3 : Int32) (v4 : Int32) : Option (S_R) :=
  if v2 = 1 then
    bd (f_R_source fu R v1) fun r47 =>
    ck (inb r47 3) <|
    ck (inb v1 14) <|
    if v2 = v4 then
      bd (f_R_does fu (R.1, R.2.1, R.2.2.1, R.2.2.2.1, R.2.2.2.2.1, R.2.2.2.2.2.1, R.2.2.2.2.2.2.1, R.2.2.2.2.2.2.2.1, R.2.2.2.2.2.2.2.2.1, R.2.2.2.2.2.2.2.2.2.1, R.2.2.2.2.2.2.2.2.2.2.1, R.2.2.2.2.2.2.2.2.2.2.2.1, R.2.2.2.2.2.2.2.2.2.2.2.2.1, R.2.2.2.2.2.2.2.2.2.2.2.2.2.1, R.2.2.2.2.2.2.2.2.2.2.2.2.2.2.1, R.2.2.2.2.2.2.2.2.2.2.2.2.2.2.2.1, R.2.2.2.2.2.2.2.2.2.2.2.2.2.2.2.2.1, R.2.2.2.2.2.2.2.2.2.2.2.2.2.2.2.2.2.1, R.2.2.2.2.2.2.2.2.2.2.2.2.2.2.2.2.2.2.1, (upd R.2.2.2.2.2.2.2.2.2.2.2.2.2.2.2.2.2.2.2.1 (ix v1) (R.2.2.2.2.2.2.2.2.2.2.2.1 (ix r47))), R.2.2.2.2.2.2.2.2.2.2.2.2.2.2.2.2.2.2.2.2) v1) fun R_60 =>
      f_R_happens_L63 fu R_60 v1 v2 v3 v4
    else
      f_R_happens_L63 fu (R.1, R.2.1, R.2.2.1, R.2.2.2.1, R.2.2.2.2.1, R.2.2.2.2.2.1, R.2.2.2.2.2.2.1, R.2.2.2.2.2.2.2.1, R.2.2.2.2.2.2.2.2.1, R.2.2.2.2.2.2.2.2.2.1, R.2.2.2.2.2.2.2.2.2.2.1, R.2.2.2.2.2.2.2.2.2.2.2.1, R.2.2.2.2.2.2.2.2.2.2.2.2.1, R.2.2.2.2.2.2.2.2.2.2.2.2.2.1, R.2.2.2.2.2.2.2.2.2.2.2.2.2.2.1, R.2.2.2.2.2.2.2.2.2.2.2.2.2.2.2.1, R.2.2.2.2.2.2.2.2.2.2.2.2.2.2.2.2.1, R.2.2.2.2.2.2.2.2.2.2.2.2.2.2.2.2.2.1, R.2.2.2.2.2.2.2.2.2.2.2.2.2.2.2.2.2.2.1, (upd R.2.2.2.2.2.2.2.2.2.2.2.2.2.2.2.2.2.2.2.1 (ix v1) (R.2.2.2.2.2.2.2.2.2.2.2.1 (ix r47))), R.2.2.2.2.2.2.2.2.2.2.2.2.2.2.2.2.2.2.2.2) v1 v2 v3 v4
  else
    if v2 = v4 then
      bd (f_R_does fu R v1) fun R_60 =>
      f_R_happens_L63 fu R_60 v1 v2 v3 v4
    else
      f_R_happens_L63 fu R v1 v2 v3 v4
def f_R_happens_L13 (fu : Nat) (R : S_R) (v1 : Int32) (v2 : Int32) (v3 : Int32) (s0 : Int32) : Option (S_R) :=
  if v2 = 0 then
    bd (f_R_calls fu R v1) fun R_21 =>
    ck (inb v1 14) <|
    f_R_happens_L31 fu (R_21.1, R_21.2.1, R_21.2.2.1, R_21.2.2.2.1, R_21.2.2.2.2.1, R_21.2.2.2.2.2.1, R_21.2.2.2.2.2.2.1, R_21.2.2.2.2.2.2.2.1, R_21.2.2.2.2.2.2.2.2.1, R_21.2.2.2.2.2.2.2.2.2.1, R_21.2.2.2.2.2.2.2.2.2.2.1, R_21.2.2.2.2.2.2.2.2.2.2.2.1, R_21.2.2.2.2.2.2.2.2.2.2.2.2.1, R_21.2.2.2.2.2.2.2.2.2.2.2.2.2.1, R_21.2.2.2.2.2.2.2.2.2.2.2.2.2.2.1, R_21.2.2.2.2.2.2.2.2.2.2.2.2.2.2.2.1, R_21.2.2.2.2.2.2.2.2.2.2.2.2.2.2.2.2.1, (upd R_21.2.2.2.2.2.2.2.2.2.2.2.2.2.2.2.2.2.1 (ix v1) v3), R_21.2.2.2.2.2.2.2.2.2.2.2.2.2.2.2.2.2.2) v1 v2 v3 s0
  else
    f_R_happens_L31 fu R v1 v2 v3 s0
def f_R_happens (fu : Nat) (R : S_R) (a1 : Int32) (a2 : Int32) (a3 : Int32) : Option (S_R) :=
  bd (f_R_twoParts fu R a1) fun r2 =>
  if r2 = 0 then
    f_R_happens_L13 fu R a1 a2 a3 1
  else
    f_R_happens_L13 fu R a1 a2 a3 2
def f_R_hasLeft (fu : Nat) (R : S_R) (a1 : Int32) : Option (Int32) :=
  ck (inb a1 3) <|
  bd (f_R_first fu R a1) fun r8 =>
  ck (inb a1 3) <|
  if (r8 + (R.2.1 (ix a1))) ≤ (R.2.2.2.2.2.2.2.2.2.2.2.2.2.2.2.2.2.2.2.2.1 (ix a1)) then
    ck (isB 0) <|
    some 0
  else
    ck (isB 1) <|
    some 1
def f_R_go_L152 (fu : Nat) (k102 : S_R → Int32 → Int32 → Option (S_R)) (R : S_R) (v1 : Int32) (v2 : Int32) (s0 : Int32) : Option (S_R) :=
  ck (inb s0 3) <|
  ck (inb s0 3) <|
  bd (f_R_happens fu R (R.2.2.2.2.2.2.2.2.2.2.2.2.2.2.2.2.2.2.2.2.1 (ix s0)) (R.2.2.2.2.2.2.2.2.2.2.2.2.2.2.2.2.2.2.2.2.2.1 (ix s0)) v2) fun R_167 =>
  ck (inb s0 3) <|
  ck (inb s0 3) <|
  ck (inb s0 3) <|
  ck (inb s0 3) <|
  bd (f_R_events fu (R_167.1, R_167.2.1, R_167.2.2.1, R_167.2.2.2.1, R_167.2.2.2.2.1, R_167.2.2.2.2.2.1, R_167.2.2.2.2.2.2.1, R_167.2.2.2.2.2.2.2.1, R_167.2.2.2.2.2.2.2.2.1, R_167.2.2.2.2.2.2.2.2.2.1, R_167.2.2.2.2.2.2.2.2.2.2.1, R_167.2.2.2.2.2.2.2.2.2.2.2.1, R_167.2.2.2.2.2.2.2.2.2.2.2.2.1, R_167.2.2.2.2.2.2.2.2.2.2.2.2.2.1, R_167.2.2.2.2.2.2.2.2.2.2.2.2.2.2.1, R_167.2.2.2.2.2.2.2.2.2.2.2.2.2.2.2.1, R_167.2.2.2.2.2.2.2.2.2.2.2.2.2.2.2.2.1, R_167.2.2.2.2.2.2.2.2.2.2.2.2.2.2.2.2.2.1, R_167.2.2.2.2.2.2.2.2.2.2.2.2.2.2.2.2.2.2.1, R_167.2.2.2.2.2.2.2.2.2.2.2.2.2.2.2.2.2.2.2.1, R_167.2.2.2.2.2.2.2.2.2.2.2.2.2.2.2.2.2.2.2.2.1, (upd R_167.2.2.2.2.2.2.2.2.2.2.2.2.2.2.2.2.2.2.2.2.2.1 (ix s0) ((R_167.2.2.2.2.2.2.2.2.2.2.2.2.2.2.2.2.2.2.2.2.2.1 (ix s0)) + 1)), R_167.2.2.2.2.2.2.2.2.2.2.2.2.2.2.2.2.2.2.2.2.2.2) (R_167.2.2.2.2.2.2.2.2.2.2.2.2.2.2.2.2.2.2.2.2.1 (ix s0))) fun r193 =>
  if ((upd R_167.2.2.2.2.2.2.2.2.2.2.2.2.2.2.2.2.2.2.2.2.2.1 (ix s0) ((R_167.2.2.2.2.2.2.2.2.2.2.2.2.2.2.2.2.2.2.2.2.2.1 (ix s0)) + 1)) (ix s0)) = r193 then
    ck (inb s0 3) <|
    ck (inb s0 3) <|
    ck (inb s0 3) <|
    k102 (R_167.1, R_167.2.1, R_167.2.2.1, R_167.2.2.2.1, R_167.2.2.2.2.1, R_167.2.2.2.2.2.1, R_167.2.2.2.2.2.2.1, R_167.2.2.2.2.2.2.2.1, R_167.2.2.2.2.2.2.2.2.1, R_167.2.2.2.2.2.2.2.2.2.1, R_167.2.2.2.2.2.2.2.2.2.2.1, R_167.2.2.2.2.2.2.2.2.2.2.2.1, R_167.2.2.2.2.2.2.2.2.2.2.2.2.1, R_167.2.2.2.2.2.2.2.2.2.2.2.2.2.1, R_167.2.2.2.2.2.2.2.2.2.2.2.2.2.2.1, R_167.2.2.2.2.2.2.2.2.2.2.2.2.2.2.2.1, R_167.2.2.2.2.2.2.2.2.2.2.2.2.2.2.2.2.1, R_167.2.2.2.2.2.2.2.2.2.2.2.2.2.2.2.2.2.1, R_167.2.2.2.2.2.2.2.2.2.2.2.2.2.2.2.2.2.2.1, R_167.2.2.2.2.2.2.2.2.2.2.2.2.2.2.2.2.2.2.2.1, (upd R_167.2.2.2.2.2.2.2.2.2.2.2.2.2.2.2.2.2.2.2.2.1 (ix s0) ((R_167.2.2.2.2.2.2.2.2.2.2.2.2.2.2.2.2.2.2.2.2.1 (ix s0)) + 1)), (upd (upd R_167.2.2.2.2.2.2.2.2.2.2.2.2.2.2.2.2.2.2.2.2.2.1 (ix s0) ((R_167.2.2.2.2.2.2.2.2.2.2.2.2.2.2.2.2.2.2.2.2.2.1 (ix s0)) + 1)) (ix s0) 0), R_167.2.2.2.2.2.2.2.2.2.2.2.2.2.2.2.2.2.2.2.2.2.2) v1 (v2 + 1)
  else
    k102 (R_167.1, R_167.2.1, R_167.2.2.1, R_167.2.2.2.1, R_167.2.2.2.2.1, R_167.2.2.2.2.2.1, R_167.2.2.2.2.2.2.1, R_167.2.2.2.2.2.2.2.1, R_167.2.2.2.2.2.2.2.2.1, R_167.2.2.2.2.2.2.2.2.2.1, R_167.2.2.2.2.2.2.2.2.2.2.1, R_167.2.2.2.2.2.2.2.2.2.2.2.1, R_167.2.2.2.2.2.2.2.2.2.2.2.2.1, R_167.2.2.2.2.2.2.2.2.2.2.2.2.2.1, R_167.2.2.2.2.2.2.2.2.2.2.2.2.2.2.1, R_167.2.2.2.2.2.2.2.2.2.2.2.2.2.2.2.1, R_167.2.2.2.2.2.2.2.2.2.2.2.2.2.2.2.2.1, R_167.2.2.2.2.2.2.2.2.2.2.2.2.2.2.2.2.2.1, R_167.2.2.2.2.2.2.2.2.2.2.2.2.2.2.2.2.2.2.1, R_167.2.2.2.2.2.2.2.2.2.2.2.2.2.2.2.2.2.2.2.1, R_167.2.2.2.2.2.2.2.2.2.2.2.2.2.2.2.2.2.2.2.2.1, (upd R_167.2.2.2.2.2.2.2.2.2.2.2.2.2.2.2.2.2.2.2.2.2.1 (ix s0) ((R_167.2.2.2.2.2.2.2.2.2.2.2.2.2.2.2.2.2.2.2.2.2.1 (ix s0)) + 1)), R_167.2.2.2.2.2.2.2.2.2.2.2.2.2.2.2.2.2.2.2.2.2.2) v1 (v2 + 1)
def f_R_go_L118 (fu : Nat) (k102 : S_R → Int32 → Int32 → Option (S_R)) (R : S_R) (v1 : Int32) (v2 : Int32) : Option (S_R) :=
  bd (f_R_hasLeft fu R 2) fun r120 =>
  if r120 = 0 then
    f_R_go_L152 fu k102 R v1 v2 1
  else
    bd (f_R_hasLeft fu R 1) fun r132 =>
    if r132 = 0 then
      f_R_go_L152 fu k102 R v1 v2 2
    else
      ck (nz 31) <|
      f_R_go_L152 fu k102 R v1 v2 (1 + ((v1 >>> ((v2 - v2 / 31 * 31) &&& 31)) &&& 1))
def f_R_go_L102 (fu : Nat) : Nat → S_R → Int32 → Int32 → Option (S_R)
  | 0, _, _, _ => none
  | n + 1, R, v1, v2 =>
    bd (f_R_hasLeft fu R 1) fun r104 =>
    if r104 = 0 then
      bd (f_R_hasLeft fu R 2) fun r112 =>
      if r112 = 0 then
        some R
      else
        f_R_go_L118 fu (f_R_go_L102 fu n) R v1 v2
    else
      f_R_go_L118 fu (f_R_go_L102 fu n) R v1 v2
def f_R_go_L71 (fu : Nat) : Nat → S_R → Int32 → Int32 → Option (S_R)
  | 0, _, _, _ => none
  | n + 1, R, v1, v2 =>
    if 3 ≤ v2 then
      f_R_go_L102 fu fu R v1 0
    else
      bd (f_R_first fu R v2) fun r83 =>
      ck (inb v2 3) <|
      ck (inb v2 3) <|
      f_R_go_L71 fu n (R.1, R.2.1, R.2.2.1, R.2.2.2.1, R.2.2.2.2.1, R.2.2.2.2.2.1, R.2.2.2.2.2.2.1, R.2.2.2.2.2.2.2.1, R.2.2.2.2.2.2.2.2.1, R.2.2.2.2.2.2.2.2.2.1, R.2.2.2.2.2.2.2.2.2.2.1, R.2.2.2.2.2.2.2.2.2.2.2.1, R.2.2.2.2.2.2.2.2.2.2.2.2.1, R.2.2.2.2.2.2.2.2.2.2.2.2.2.1, R.2.2.2.2.2.2.2.2.2.2.2.2.2.2.1, R.2.2.2.2.2.2.2.2.2.2.2.2.2.2.2.1, R.2.2.2.2.2.2.2.2.2.2.2.2.2.2.2.2.1, R.2.2.2.2.2.2.2.2.2.2.2.2.2.2.2.2.2.1, R.2.2.2.2.2.2.2.2.2.2.2.2.2.2.2.2.2.2.1, R.2.2.2.2.2.2.2.2.2.2.2.2.2.2.2.2.2.2.2.1, (upd R.2.2.2.2.2.2.2.2.2.2.2.2.2.2.2.2.2.2.2.2.1 (ix v2) r83), (upd R.2.2.2.2.2.2.2.2.2.2.2.2.2.2.2.2.2.2.2.2.2.1 (ix v2) 0), R.2.2.2.2.2.2.2.2.2.2.2.2.2.2.2.2.2.2.2.2.2.2) v1 (v2 + 1)
def f_R_go_L41 (fu : Nat) (k29 : S_R → Int32 → Int32 → Option (S_R)) : Nat → S_R → Int32 → Int32 → Int32 → Option (S_R)
  | 0, _, _, _, _ => none
  | n + 1, R, v1, v2, v3 =>
    bd (f_R_events fu R v2) fun r44 =>
    if r44 ≤ v3 then
      k29 R v1 (v2 + 1)
    else
      bd (f_R_happens fu R v2 v3 (-1)) fun R_54 =>
      f_R_go_L41 fu k29 n R_54 v1 v2 (v3 + 1)
def f_R_go_L29 (fu : Nat) : Nat → S_R → Int32 → Int32 → Option (S_R)
  | 0, _, _, _ => none
  | n + 1, R, v1, v2 =>
    ck (inb 0 3) <|
    if (R.2.1 (ix 0)) ≤ v2 then
      f_R_go_L71 fu fu R v1 1
    else
      f_R_go_L41 fu (f_R_go_L29 fu n) fu R v1 v2 0
def f_R_go_L2 (fu : Nat) : Nat → S_R → Int32 → Int32 → Option (S_R)
  | 0, _, _, _ => none
  | n + 1, R, v1, v2 =>
    if 3 ≤ v2 then
      f_R_go_L29 fu fu R v1 0
    else
      ck (inb v2 3) <|
      ck (inb v2 3) <|
      ck (isB 0) <|
      f_R_go_L2 fu n (R.1, R.2.1, R.2.2.1, R.2.2.2.1, R.2.2.2.2.1, R.2.2.2.2.2.1, R.2.2.2.2.2.2.1, R.2.2.2.2.2.2.2.1, R.2.2.2.2.2.2.2.2.1, R.2.2.2.2.2.2.2.2.2.1, R.2.2.2.2.2.2.2.2.2.2.1, (upd R.2.2.2.2.2.2.2.2.2.2.2.1 (ix v2) 0), (upd R.2.2.2.2.2.2.2.2.2.2.2.2.1 (ix v2) 0), R.2.2.2.2.2.2.2.2.2.2.2.2.2) v1 (v2 + 1)
def f_R_go (fu : Nat) (R : S_R) (a1 : Int32) : Option (S_R) :=
  f_R_go_L2 fu fu R a1 0
def f_R_right_L126 (fu : Nat) (R : S_R) (v1 : Int32) (v2 : Int32) (v3 : Int32) : Option (Int32 × S_R) :=
  ck (inb v1 14) <|
  if (R.2.2.1 (ix v1)) = 0 then
    some (0, R)
  else
    ck (inb v1 14) <|
    if (R.2.2.1 (ix v1)) = 3 then
      some (0, R)
    else
      ck (inb v1 14) <|
      if (R.2.2.1 (ix v1)) = 4 then
        ck (inb v2 3) <|
        some (R.2.2.2.2.2.2.2.2.2.1 (ix v2), R)
      else
        some (v3, R)
def f_R_right_L99 (fu : Nat) (R : S_R) (v1 : Int32) (v2 : Int32) (v3 : Int32) : Option (Int32 × S_R) :=
  ck (inb v1 14) <|
  if (R.2.2.1 (ix v1)) = 6 then
    ck (nz 3) <|
    ck (inb ((v2 + 1) - (v2 + 1) / 3 * 3) 3) <|
    ck (inb v2 3) <|
    f_R_right_L126 fu (R.1, R.2.1, R.2.2.1, R.2.2.2.1, R.2.2.2.2.1, R.2.2.2.2.2.1, R.2.2.2.2.2.2.1, R.2.2.2.2.2.2.2.1, R.2.2.2.2.2.2.2.2.1, (upd R.2.2.2.2.2.2.2.2.2.1 (ix v2) (R.2.2.2.2.2.2.2.2.2.1 (ix ((v2 + 1) - (v2 + 1) / 3 * 3)))), R.2.2.2.2.2.2.2.2.2.2) v1 v2 v3
  else
    f_R_right_L126 fu R v1 v2 v3
def f_R_right_L76 (fu : Nat) (R : S_R) (v1 : Int32) (v2 : Int32) (v3 : Int32) (v4 : Int32) : Option (Int32 × S_R) :=
  ck (inb v1 14) <|
  if (R.2.2.1 (ix v1)) = 4 then
    ck (nz 8) <|
    ck (inb v2 3) <|
    f_R_right_L99 fu (R.1, R.2.1, R.2.2.1, R.2.2.2.1, R.2.2.2.2.1, R.2.2.2.2.2.1, R.2.2.2.2.2.2.1, R.2.2.2.2.2.2.2.1, R.2.2.2.2.2.2.2.2.1, (upd R.2.2.2.2.2.2.2.2.2.1 (ix v2) ((v3 + v4) - (v3 + v4) / 8 * 8)), R.2.2.2.2.2.2.2.2.2.2) v1 v2 v3
  else
    f_R_right_L99 fu R v1 v2 v3
def f_R_right_L39 (fu : Nat) (R : S_R) (v1 : Int32) (v2 : Int32) (v3 : Int32) (v4 : Int32) : Option (Int32 × S_R) :=
  ck (inb v1 14) <|
  if (R.2.2.1 (ix v1)) = 0 then
    ck (inb v2 3) <|
    f_R_right_L76 fu (R.1, R.2.1, R.2.2.1, R.2.2.2.1, R.2.2.2.2.1, R.2.2.2.2.2.1, R.2.2.2.2.2.2.1, R.2.2.2.2.2.2.2.1, R.2.2.2.2.2.2.2.2.1, (upd R.2.2.2.2.2.2.2.2.2.1 (ix v2) v4), R.2.2.2.2.2.2.2.2.2.2) v1 v2 v3 v4
  else
    ck (inb v1 14) <|
    if (R.2.2.1 (ix v1)) = 3 then
      ck (inb v2 3) <|
      f_R_right_L76 fu (R.1, R.2.1, R.2.2.1, R.2.2.2.1, R.2.2.2.2.1, R.2.2.2.2.2.1, R.2.2.2.2.2.2.1, R.2.2.2.2.2.2.2.1, R.2.2.2.2.2.2.2.2.1, (upd R.2.2.2.2.2.2.2.2.2.1 (ix v2) v4), R.2.2.2.2.2.2.2.2.2.2) v1 v2 v3 v4
    else
      ck (inb v1 14) <|
      if (R.2.2.1 (ix v1)) = 5 then
        ck (inb v2 3) <|
        f_R_right_L76 fu (R.1, R.2.1, R.2.2.1, R.2.2.2.1, R.2.2.2.2.1, R.2.2.2.2.2.1, R.2.2.2.2.2.2.1, R.2.2.2.2.2.2.2.1, R.2.2.2.2.2.2.2.2.1, (upd R.2.2.2.2.2.2.2.2.2.1 (ix v2) v4), R.2.2.2.2.2.2.2.2.2.2) v1 v2 v3 v4
      else
        f_R_right_L76 fu R v1 v2 v3 v4
def f_R_right (fu : Nat) (R : S_R) (a1 : Int32) : Option (Int32 × S_R) :=
  ck (inb a1 14) <|
  ck (inb (R.2.2.2.1 (ix a1)) 3) <|
  ck (inb a1 14) <|
  ck (inb a1 14) <|
  if (R.2.2.1 (ix a1)) = 1 then
    ck (inb (R.2.2.2.1 (ix a1)) 3) <|
    f_R_right_L39 fu (R.1, R.2.1, R.2.2.1, R.2.2.2.1, R.2.2.2.2.1, R.2.2.2.2.2.1, R.2.2.2.2.2.2.1, R.2.2.2.2.2.2.2.1, R.2.2.2.2.2.2.2.2.1, (upd R.2.2.2.2.2.2.2.2.2.1 (ix (R.2.2.2.1 (ix a1))) 0), R.2.2.2.2.2.2.2.2.2.2) a1 (R.2.2.2.1 (ix a1)) (R.2.2.2.2.2.2.2.2.2.1 (ix (R.2.2.2.1 (ix a1)))) (R.2.2.2.2.2.2.2.2.2.2.2.2.2.2.2.2.1 (ix a1))
  else
    f_R_right_L39 fu R a1 (R.2.2.2.1 (ix a1)) (R.2.2.2.2.2.2.2.2.2.1 (ix (R.2.2.2.1 (ix a1)))) (R.2.2.2.2.2.2.2.2.2.2.2.2.2.2.2.2.1 (ix a1))
def f_R_explains_L128 (fu : Nat) (k81 : S_R → Int32 → Int32 → Int32 → Int32 → Option (Int32 × S_R)) : Nat → S_R → Int32 → Int32 → Int32 → Int32 → Int32 → Int32 → Option (Int32 × S_R)
  | 0, _, _, _, _, _, _, _ => none
  | n + 1, R, v1, v2, v3, v4, v5, v6 =>
    if v3 ≤ v6 then
      k81 R v1 v2 v3 (v4 + 1)
    else
      if v2 = 0 then
        f_R_explains_L128 fu k81 n R v1 0 v3 v4 v5 (v6 + 1)
      else
        bd (f_R_placed fu R v1 v6) fun r146 =>
        ck (inb r146 14) <|
        ck (inb v5 14) <|
        if (R.2.2.2.2.2.2.2.2.2.2.2.2.2.2.2.2.2.2.1 (ix r146)) ≤ (R.2.2.2.2.2.2.2.2.2.2.2.2.2.2.2.2.2.1 (ix v5)) then
          f_R_explains_L128 fu k81 n R v1 0 v3 v4 v5 (v6 + 1)
        else
          f_R_explains_L128 fu k81 n R v1 1 v3 v4 v5 (v6 + 1)
def f_R_explains_L81 (fu : Nat) : Nat → S_R → Int32 → Int32 → Int32 → Int32 → Option (Int32 × S_R)
  | 0, _, _, _, _, _ => none
  | n + 1, R, v1, v2, v3, v4 =>
    if v3 ≤ v4 then
      ck (isB v2) <|
      some (v2, R)
    else
      if v2 = 0 then
        ck (isB v2) <|
        some (v2, R)
      else
        bd (f_R_placed fu R v1 v4) fun r95 =>
        bd (f_R_right fu R r95) fun (r103, R_103) =>
        ck (inb r95 14) <|
        if r103 = (R_103.2.2.2.2.2.2.2.2.2.2.2.2.2.2.2.1 (ix r95)) then
          f_R_explains_L128 fu (f_R_explains_L81 fu n) fu R_103 v1 1 v3 v4 r95 (v4 + 1)
        else
          f_R_explains_L128 fu (f_R_explains_L81 fu n) fu R_103 v1 0 v3 v4 r95 (v4 + 1)
def f_R_explains_L64 (fu : Nat) (R : S_R) (v1 : Int32) (v2 : Int32) : Option (Int32 × S_R) :=
  ck (inb 1 3) <|
  ck (inb 2 3) <|
  f_R_explains_L81 fu fu R v1 v2 ((R.2.1 (ix 1)) + (R.2.1 (ix 2))) 0
def f_R_explains_L24 (fu : Nat) : Nat → S_R → Int32 → Int32 → Int32 → Option (Int32 × S_R)
  | 0, _, _, _, _ => none
  | n + 1, R, v1, v2, v3 =>
    ck (inb 0 3) <|
    if (R.2.1 (ix 0)) ≤ v3 then
      f_R_explains_L64 fu R v1 v2
    else
      bd (f_R_right fu R v3) fun (r36, R_36) =>
      ck (inb v3 14) <|
      if r36 = (R_36.2.2.2.2.2.2.2.2.2.2.2.2.2.2.2.1 (ix v3)) then
        if v2 = 0 then
          f_R_explains_L24 fu n R_36 v1 0 (v3 + 1)
        else
          f_R_explains_L24 fu n R_36 v1 1 (v3 + 1)
      else
        f_R_explains_L24 fu n R_36 v1 0 (v3 + 1)
def f_R_explains_L2 (fu : Nat) : Nat → S_R → Int32 → Int32 → Option (Int32 × S_R)
  | 0, _, _, _ => none
  | n + 1, R, v1, v2 =>
    if 3 ≤ v2 then
      f_R_explains_L24 fu fu R v1 1 0
    else
      ck (inb v2 3) <|
      f_R_explains_L2 fu n (R.1, R.2.1, R.2.2.1, R.2.2.2.1, R.2.2.2.2.1, R.2.2.2.2.2.1, R.2.2.2.2.2.2.1, R.2.2.2.2.2.2.2.1, R.2.2.2.2.2.2.2.2.1, (upd R.2.2.2.2.2.2.2.2.2.1 (ix v2) 0), R.2.2.2.2.2.2.2.2.2.2) v1 (v2 + 1)
def f_R_explains (fu : Nat) (R : S_R) (a1 : Int32) : Option (Int32 × S_R) :=
  f_R_explains_L2 fu fu R a1 0
def f_R_judged_L122 (fu : Nat) (R : S_R) : Option (Int32 × S_R) :=
  if R.2.2.2.2.2.2.2.2.2.2.2.2.2.2.1 = 0 then
    ck (isB R.2.2.2.2.2.2.2.2.2.2.2.2.2.2.1) <|
    some (R.2.2.2.2.2.2.2.2.2.2.2.2.2.2.1, (R.1, R.2.1, R.2.2.1, R.2.2.2.1, R.2.2.2.2.1, R.2.2.2.2.2.1, R.2.2.2.2.2.2.1, R.2.2.2.2.2.2.2.1, R.2.2.2.2.2.2.2.2.1, R.2.2.2.2.2.2.2.2.2.1, R.2.2.2.2.2.2.2.2.2.2.1, R.2.2.2.2.2.2.2.2.2.2.2.1, R.2.2.2.2.2.2.2.2.2.2.2.2.1, R.2.2.2.2.2.2.2.2.2.2.2.2.2.1, R.2.2.2.2.2.2.2.2.2.2.2.2.2.2.1, R.2.2.2.2.2.2.2.2.2.2.2.2.2.2.2.1, R.2.2.2.2.2.2.2.2.2.2.2.2.2.2.2.2.1, R.2.2.2.2.2.2.2.2.2.2.2.2.2.2.2.2.2.1, R.2.2.2.2.2.2.2.2.2.2.2.2.2.2.2.2.2.2.1, R.2.2.2.2.2.2.2.2.2.2.2.2.2.2.2.2.2.2.2.1, R.2.2.2.2.2.2.2.2.2.2.2.2.2.2.2.2.2.2.2.2.1, R.2.2.2.2.2.2.2.2.2.2.2.2.2.2.2.2.2.2.2.2.2.1, R.2.2.2.2.2.2.2.2.2.2.2.2.2.2.2.2.2.2.2.2.2.2.1, R.2.2.2.2.2.2.2.2.2.2.2.2.2.2.2.2.2.2.2.2.2.2.2.1, R.2.2.2.2.2.2.2.2.2.2.2.2.2.2.2.2.2.2.2.2.2.2.2.2.1 + 1, R.2.2.2.2.2.2.2.2.2.2.2.2.2.2.2.2.2.2.2.2.2.2.2.2.2))
  else
    ck (isB R.2.2.2.2.2.2.2.2.2.2.2.2.2.2.1) <|
    some (R.2.2.2.2.2.2.2.2.2.2.2.2.2.2.1, (R.1, R.2.1, R.2.2.1, R.2.2.2.1, R.2.2.2.2.1, R.2.2.2.2.2.1, R.2.2.2.2.2.2.1, R.2.2.2.2.2.2.2.1, R.2.2.2.2.2.2.2.2.1, R.2.2.2.2.2.2.2.2.2.1, R.2.2.2.2.2.2.2.2.2.2.1, R.2.2.2.2.2.2.2.2.2.2.2.1, R.2.2.2.2.2.2.2.2.2.2.2.2.1, R.2.2.2.2.2.2.2.2.2.2.2.2.2.1, R.2.2.2.2.2.2.2.2.2.2.2.2.2.2.1, R.2.2.2.2.2.2.2.2.2.2.2.2.2.2.2.1, R.2.2.2.2.2.2.2.2.2.2.2.2.2.2.2.2.1, R.2.2.2.2.2.2.2.2.2.2.2.2.2.2.2.2.2.1, R.2.2.2.2.2.2.2.2.2.2.2.2.2.2.2.2.2.2.1, R.2.2.2.2.2.2.2.2.2.2.2.2.2.2.2.2.2.2.2.1, R.2.2.2.2.2.2.2.2.2.2.2.2.2.2.2.2.2.2.2.2.1, R.2.2.2.2.2.2.2.2.2.2.2.2.2.2.2.2.2.2.2.2.2.1, R.2.2.2.2.2.2.2.2.2.2.2.2.2.2.2.2.2.2.2.2.2.2.1, R.2.2.2.2.2.2.2.2.2.2.2.2.2.2.2.2.2.2.2.2.2.2.2.1, R.2.2.2.2.2.2.2.2.2.2.2.2.2.2.2.2.2.2.2.2.2.2.2.2.1 + 0, R.2.2.2.2.2.2.2.2.2.2.2.2.2.2.2.2.2.2.2.2.2.2.2.2.2))
def f_R_judged_L74 (fu : Nat) : Nat → S_R → Int32 → Int32 → Option (Int32 × S_R)
  | 0, _, _, _ => none
  | n + 1, R, v2, v3 =>
    if v2 ≤ v3 then
      f_R_judged_L122 fu R
    else
      if R.2.2.2.2.2.2.2.2.2.2.2.2.2.2.1 = 0 then
        bd (f_R_isOrder fu R v3) fun r89 =>
        if r89 = 0 then
          ck (isB 0) <|
          f_R_judged_L74 fu n (R.1, R.2.1, R.2.2.1, R.2.2.2.1, R.2.2.2.2.1, R.2.2.2.2.2.1, R.2.2.2.2.2.2.1, R.2.2.2.2.2.2.2.1, R.2.2.2.2.2.2.2.2.1, R.2.2.2.2.2.2.2.2.2.1, R.2.2.2.2.2.2.2.2.2.2.1, R.2.2.2.2.2.2.2.2.2.2.2.1, R.2.2.2.2.2.2.2.2.2.2.2.2.1, R.2.2.2.2.2.2.2.2.2.2.2.2.2.1, 0, R.2.2.2.2.2.2.2.2.2.2.2.2.2.2.2.1, R.2.2.2.2.2.2.2.2.2.2.2.2.2.2.2.2.1, R.2.2.2.2.2.2.2.2.2.2.2.2.2.2.2.2.2.1, R.2.2.2.2.2.2.2.2.2.2.2.2.2.2.2.2.2.2.1, R.2.2.2.2.2.2.2.2.2.2.2.2.2.2.2.2.2.2.2.1, R.2.2.2.2.2.2.2.2.2.2.2.2.2.2.2.2.2.2.2.2.1, R.2.2.2.2.2.2.2.2.2.2.2.2.2.2.2.2.2.2.2.2.2.1, v3, R.2.2.2.2.2.2.2.2.2.2.2.2.2.2.2.2.2.2.2.2.2.2.2) v2 (v3 + 1)
        else
          bd (f_R_explains fu R v3) fun (r97, R_97) =>
          if r97 = 0 then
            ck (isB 0) <|
            f_R_judged_L74 fu n (R_97.1, R_97.2.1, R_97.2.2.1, R_97.2.2.2.1, R_97.2.2.2.2.1, R_97.2.2.2.2.2.1, R_97.2.2.2.2.2.2.1, R_97.2.2.2.2.2.2.2.1, R_97.2.2.2.2.2.2.2.2.1, R_97.2.2.2.2.2.2.2.2.2.1, R_97.2.2.2.2.2.2.2.2.2.2.1, R_97.2.2.2.2.2.2.2.2.2.2.2.1, R_97.2.2.2.2.2.2.2.2.2.2.2.2.1, R_97.2.2.2.2.2.2.2.2.2.2.2.2.2.1, 0, R_97.2.2.2.2.2.2.2.2.2.2.2.2.2.2.2.1, R_97.2.2.2.2.2.2.2.2.2.2.2.2.2.2.2.2.1, R_97.2.2.2.2.2.2.2.2.2.2.2.2.2.2.2.2.2.1, R_97.2.2.2.2.2.2.2.2.2.2.2.2.2.2.2.2.2.2.1, R_97.2.2.2.2.2.2.2.2.2.2.2.2.2.2.2.2.2.2.2.1, R_97.2.2.2.2.2.2.2.2.2.2.2.2.2.2.2.2.2.2.2.2.1, R_97.2.2.2.2.2.2.2.2.2.2.2.2.2.2.2.2.2.2.2.2.2.1, v3, R_97.2.2.2.2.2.2.2.2.2.2.2.2.2.2.2.2.2.2.2.2.2.2.2) v2 (v3 + 1)
          else
            ck (isB 1) <|
            f_R_judged_L74 fu n (R_97.1, R_97.2.1, R_97.2.2.1, R_97.2.2.2.1, R_97.2.2.2.2.1, R_97.2.2.2.2.2.1, R_97.2.2.2.2.2.2.1, R_97.2.2.2.2.2.2.2.1, R_97.2.2.2.2.2.2.2.2.1, R_97.2.2.2.2.2.2.2.2.2.1, R_97.2.2.2.2.2.2.2.2.2.2.1, R_97.2.2.2.2.2.2.2.2.2.2.2.1, R_97.2.2.2.2.2.2.2.2.2.2.2.2.1, R_97.2.2.2.2.2.2.2.2.2.2.2.2.2.1, 1, R_97.2.2.2.2.2.2.2.2.2.2.2.2.2.2.2.1, R_97.2.2.2.2.2.2.2.2.2.2.2.2.2.2.2.2.1, R_97.2.2.2.2.2.2.2.2.2.2.2.2.2.2.2.2.2.1, R_97.2.2.2.2.2.2.2.2.2.2.2.2.2.2.2.2.2.2.1, R_97.2.2.2.2.2.2.2.2.2.2.2.2.2.2.2.2.2.2.2.1, R_97.2.2.2.2.2.2.2.2.2.2.2.2.2.2.2.2.2.2.2.2.1, R_97.2.2.2.2.2.2.2.2.2.2.2.2.2.2.2.2.2.2.2.2.2.1, v3, R_97.2.2.2.2.2.2.2.2.2.2.2.2.2.2.2.2.2.2.2.2.2.2.2) v2 (v3 + 1)
      else
        f_R_judged_L122 fu R
def f_R_judged_L51 (fu : Nat) (R : S_R) : Option (Int32 × S_R) :=
  ck (isB 0) <|
  ck (inb 1 3) <|
  ck (inb 2 3) <|
  f_R_judged_L74 fu fu (R.1, R.2.1, R.2.2.1, R.2.2.2.1, R.2.2.2.2.1, R.2.2.2.2.2.1, R.2.2.2.2.2.2.1, R.2.2.2.2.2.2.2.1, R.2.2.2.2.2.2.2.2.1, R.2.2.2.2.2.2.2.2.2.1, R.2.2.2.2.2.2.2.2.2.2.1, R.2.2.2.2.2.2.2.2.2.2.2.1, R.2.2.2.2.2.2.2.2.2.2.2.2.1, R.2.2.2.2.2.2.2.2.2.2.2.2.2.1, 0, R.2.2.2.2.2.2.2.2.2.2.2.2.2.2.2) (1 <<< (((R.2.1 (ix 1)) + (R.2.1 (ix 2))) &&& 31)) 0
def f_R_judged_L22 (fu : Nat) : Nat → S_R → Int32 → Option (Int32 × S_R)
  | 0, _, _ => none
  | n + 1, R, v2 =>
    bd (f_R_many fu R) fun r24 =>
    if r24 ≤ v2 then
      f_R_judged_L51 fu R
    else
      ck (inb v2 14) <|
      ck (inb (R.2.2.1 (ix v2)) 7) <|
      ck (inb (R.2.2.1 (ix v2)) 7) <|
      f_R_judged_L22 fu n (R.1, R.2.1, R.2.2.1, R.2.2.2.1, R.2.2.2.2.1, R.2.2.2.2.2.1, R.2.2.2.2.2.2.1, R.2.2.2.2.2.2.2.1, R.2.2.2.2.2.2.2.2.1, R.2.2.2.2.2.2.2.2.2.1, R.2.2.2.2.2.2.2.2.2.2.1, R.2.2.2.2.2.2.2.2.2.2.2.1, R.2.2.2.2.2.2.2.2.2.2.2.2.1, R.2.2.2.2.2.2.2.2.2.2.2.2.2.1, R.2.2.2.2.2.2.2.2.2.2.2.2.2.2.1, R.2.2.2.2.2.2.2.2.2.2.2.2.2.2.2.1, R.2.2.2.2.2.2.2.2.2.2.2.2.2.2.2.2.1, R.2.2.2.2.2.2.2.2.2.2.2.2.2.2.2.2.2.1, R.2.2.2.2.2.2.2.2.2.2.2.2.2.2.2.2.2.2.1, R.2.2.2.2.2.2.2.2.2.2.2.2.2.2.2.2.2.2.2.1, R.2.2.2.2.2.2.2.2.2.2.2.2.2.2.2.2.2.2.2.2.1, R.2.2.2.2.2.2.2.2.2.2.2.2.2.2.2.2.2.2.2.2.2.1, R.2.2.2.2.2.2.2.2.2.2.2.2.2.2.2.2.2.2.2.2.2.2.1, R.2.2.2.2.2.2.2.2.2.2.2.2.2.2.2.2.2.2.2.2.2.2.2.1, R.2.2.2.2.2.2.2.2.2.2.2.2.2.2.2.2.2.2.2.2.2.2.2.2.1, R.2.2.2.2.2.2.2.2.2.2.2.2.2.2.2.2.2.2.2.2.2.2.2.2.2.1, R.2.2.2.2.2.2.2.2.2.2.2.2.2.2.2.2.2.2.2.2.2.2.2.2.2.2.1, (upd R.2.2.2.2.2.2.2.2.2.2.2.2.2.2.2.2.2.2.2.2.2.2.2.2.2.2.2 (ix (R.2.2.1 (ix v2))) ((R.2.2.2.2.2.2.2.2.2.2.2.2.2.2.2.2.2.2.2.2.2.2.2.2.2.2.2 (ix (R.2.2.1 (ix v2)))) + 1))) (v2 + 1)
def f_R_judged (fu : Nat) (R : S_R) (a1 : Int32) : Option (Int32 × S_R) :=
  bd (f_R_go fu R a1) fun R_2 =>
  ck (isB 1) <|
  f_R_judged_L22 fu fu (R_2.1, R_2.2.1, R_2.2.2.1, R_2.2.2.2.1, R_2.2.2.2.2.1, R_2.2.2.2.2.2.1, R_2.2.2.2.2.2.2.1, R_2.2.2.2.2.2.2.2.1, R_2.2.2.2.2.2.2.2.2.1, R_2.2.2.2.2.2.2.2.2.2.1, R_2.2.2.2.2.2.2.2.2.2.2.1, R_2.2.2.2.2.2.2.2.2.2.2.2.1, R_2.2.2.2.2.2.2.2.2.2.2.2.2.1, 1, R_2.2.2.2.2.2.2.2.2.2.2.2.2.2.2.1, R_2.2.2.2.2.2.2.2.2.2.2.2.2.2.2.2.1, R_2.2.2.2.2.2.2.2.2.2.2.2.2.2.2.2.2.1, R_2.2.2.2.2.2.2.2.2.2.2.2.2.2.2.2.2.2.1, R_2.2.2.2.2.2.2.2.2.2.2.2.2.2.2.2.2.2.2.1, R_2.2.2.2.2.2.2.2.2.2.2.2.2.2.2.2.2.2.2.2.1, R_2.2.2.2.2.2.2.2.2.2.2.2.2.2.2.2.2.2.2.2.2.1, R_2.2.2.2.2.2.2.2.2.2.2.2.2.2.2.2.2.2.2.2.2.2.1, R_2.2.2.2.2.2.2.2.2.2.2.2.2.2.2.2.2.2.2.2.2.2.2.1, R_2.2.2.2.2.2.2.2.2.2.2.2.2.2.2.2.2.2.2.2.2.2.2.2.1 + 1, R_2.2.2.2.2.2.2.2.2.2.2.2.2.2.2.2.2.2.2.2.2.2.2.2.2) 0
def f_R_run (fu : Nat) (R : S_R) (a1 : Int32) : Option (Int32 × S_R) :=
  if 0 ≤ a1 then
    bd (f_R_judged fu (0, R.2) a1) fun (r25, R_25) =>
    ck (isB r25) <|
    some (r25, R_25)
  else
    bd (f_R_fail fu (0, R.2) 1) fun (r11, R_11) =>
    if r11 ≤ 0 then
      ck (isB 0) <|
      some (0, R_11)
    else
      ck (isB 1) <|
      some (1, R_11)
def f_R_failed_L8 (fu : Nat) : Nat → S_R → Int32 → Int32 → Option (Int32 × S_R)
  | 0, _, _, _ => none
  | n + 1, R, v3, v4 =>
    if v3 ≤ v4 then
      some ((-1), R)
    else
      bd (f_R_drawn fu R 2147483647) fun (r17, R_17) =>
      bd (f_R_judged fu R_17 r17) fun (r25, R_25) =>
      if r25 = 0 then
        some (v4, (R_25.1, R_25.2.1, R_25.2.2.1, R_25.2.2.2.1, R_25.2.2.2.2.1, R_25.2.2.2.2.2.1, R_25.2.2.2.2.2.2.1, R_25.2.2.2.2.2.2.2.1, R_25.2.2.2.2.2.2.2.2.1, R_25.2.2.2.2.2.2.2.2.2.1, R_25.2.2.2.2.2.2.2.2.2.2.1, R_25.2.2.2.2.2.2.2.2.2.2.2.1, R_25.2.2.2.2.2.2.2.2.2.2.2.2.1, R_25.2.2.2.2.2.2.2.2.2.2.2.2.2.1, R_25.2.2.2.2.2.2.2.2.2.2.2.2.2.2.1, R_25.2.2.2.2.2.2.2.2.2.2.2.2.2.2.2.1, R_25.2.2.2.2.2.2.2.2.2.2.2.2.2.2.2.2.1, R_25.2.2.2.2.2.2.2.2.2.2.2.2.2.2.2.2.2.1, R_25.2.2.2.2.2.2.2.2.2.2.2.2.2.2.2.2.2.2.1, R_25.2.2.2.2.2.2.2.2.2.2.2.2.2.2.2.2.2.2.2.1, R_25.2.2.2.2.2.2.2.2.2.2.2.2.2.2.2.2.2.2.2.2.1, R_25.2.2.2.2.2.2.2.2.2.2.2.2.2.2.2.2.2.2.2.2.2.1, R_25.2.2.2.2.2.2.2.2.2.2.2.2.2.2.2.2.2.2.2.2.2.2.1, R_25.2.2.2.2.2.2.2.2.2.2.2.2.2.2.2.2.2.2.2.2.2.2.2.1, R_25.2.2.2.2.2.2.2.2.2.2.2.2.2.2.2.2.2.2.2.2.2.2.2.2.1, R_25.2.2.2.2.2.2.2.2.2.2.2.2.2.2.2.2.2.2.2.2.2.2.2.2.2.1, r17, R_25.2.2.2.2.2.2.2.2.2.2.2.2.2.2.2.2.2.2.2.2.2.2.2.2.2.2.2))
      else
        f_R_failed_L8 fu n R_25 v3 (v4 + 1)
def f_R_failed (fu : Nat) (R : S_R) (a1 : Int64) (a3 : Int32) : Option (Int32 × S_R) :=
  f_R_failed_L8 fu fu (R.1, R.2.1, R.2.2.1, R.2.2.2.1, R.2.2.2.2.1, R.2.2.2.2.2.1, R.2.2.2.2.2.2.1, R.2.2.2.2.2.2.2.1, a1, R.2.2.2.2.2.2.2.2.2) a3 0
def f_R_fails (fu : Nat) (R : S_R) (a1 : Int64) (a3 : Int32) : Option (Int32 × S_R) :=
  bd (f_R_within fu a3 1 50) fun r9 =>
  if r9 = 0 then
    bd (f_R_fail fu (0, R.2) 1) fun (r26, R_26) =>
    some (r26, R_26)
  else
    bd (f_R_failed fu (0, R.2) a1 a3) fun (r18, R_18) =>
    some (r18, R_18)
def f_R_takes (fu : Nat) (R : S_R) (a1 : Int32) (a2 : Int64) (a4 : Int32) : Option (Int32 × S_R) :=
  if a1 = 0 then
    bd (f_R_putBack fu R) fun R_24 =>
    ck (isB 0) <|
    some (0, R_24)
  else
    bd (f_R_valid fu R) fun (r5, R_5) =>
    if r5 = 0 then
      bd (f_R_putBack fu R_5) fun R_24 =>
      ck (isB 0) <|
      some (0, R_24)
    else
      bd (f_R_failed fu R_5 a2 a4) fun (r15, R_15) =>
      if r15 < 0 then
        bd (f_R_putBack fu R_15) fun R_24 =>
        ck (isB 0) <|
        some (0, R_24)
      else
        ck (isB 1) <|
        some (1, R_15)
def f_R_smaller_L122 (fu : Nat) (k101 : S_R → Int64 → Int32 → Int32 → Option (Int32 × S_R)) : Nat → S_R → Int64 → Int32 → Int32 → Int32 → Int32 → Option (Int32 × S_R)
  | 0, _, _, _, _, _, _ => none
  | n + 1, R, v1, v3, v4, v5, v6 =>
    if 2 ≤ v6 then
      k101 R v1 v3 (v4 + 1)
    else
      if 8 ≤ v5 then
        f_R_smaller_L122 fu k101 n R v1 v3 v4 v5 (v6 + 1)
      else
        if v5 ≤ v6 then
          f_R_smaller_L122 fu k101 n R v1 v3 v4 v5 (v6 + 1)
        else
          ck (nz 2) <|
          ck (inb v4 14) <|
          bd (f_R_takes fu (R.1, R.2.1, R.2.2.1, R.2.2.2.1, (upd R.2.2.2.2.1 (ix v4) ((v6 * v5) / 2)), R.2.2.2.2.2) 1 v1 v3) fun (r160, R_160) =>
          if r160 = 0 then
            f_R_smaller_L122 fu k101 n R_160 v1 v3 v4 v5 (v6 + 1)
          else
            ck (isB 1) <|
            some (1, R_160)
def f_R_smaller_L101 (fu : Nat) : Nat → S_R → Int64 → Int32 → Int32 → Option (Int32 × S_R)
  | 0, _, _, _, _ => none
  | n + 1, R, v1, v3, v4 =>
    bd (f_R_many fu R) fun r104 =>
    if r104 ≤ v4 then
      ck (isB 0) <|
      some (0, R)
    else
      ck (inb v4 14) <|
      f_R_smaller_L122 fu (f_R_smaller_L101 fu n) fu R v1 v3 v4 (R.2.2.2.2.1 (ix v4)) 0
def f_R_smaller_L47 (fu : Nat) : Nat → S_R → Int64 → Int32 → Int32 → Option (Int32 × S_R)
  | 0, _, _, _, _ => none
  | n + 1, R, v1, v3, v4 =>
    if 3 ≤ v4 then
      f_R_smaller_L101 fu fu R v1 v3 0
    else
      ck (inb v4 3) <|
      if (R.2.1 (ix v4)) ≤ 0 then
        f_R_smaller_L47 fu n R v1 v3 (v4 + 1)
      else
        ck (inb 0 3) <|
        if 6 ≤ (R.2.1 (ix 0)) then
          f_R_smaller_L47 fu n R v1 v3 (v4 + 1)
        else
          bd (f_R_raise fu R v4) fun R_77 =>
          bd (f_R_takes fu R_77 1 v1 v3) fun (r84, R_84) =>
          if r84 = 0 then
            f_R_smaller_L47 fu n R_84 v1 v3 (v4 + 1)
          else
            ck (isB 1) <|
            some (1, R_84)
def f_R_smaller_L12 (fu : Nat) : Nat → S_R → Int64 → Int32 → Int32 → Option (Int32 × S_R)
  | 0, _, _, _, _ => none
  | n + 1, R, v1, v3, v4 =>
    if v4 < 0 then
      f_R_smaller_L47 fu fu R v1 v3 1
    else
      bd (f_R_leaveOut fu R v4) fun (r20, R_20) =>
      bd (f_R_takes fu R_20 r20 v1 v3) fun (r30, R_30) =>
      if r30 = 0 then
        f_R_smaller_L12 fu n R_30 v1 v3 (v4 + (-1))
      else
        ck (isB 1) <|
        some (1, R_30)
def f_R_smaller (fu : Nat) (R : S_R) (a1 : Int64) (a3 : Int32) : Option (Int32 × S_R) :=
  bd (f_R_keep fu R) fun R_1 =>
  bd (f_R_many fu R_1) fun r5 =>
  f_R_smaller_L12 fu fu R_1 a1 a3 (r5 - 1)
def f_R_shrink_L54 (fu : Nat) (R : S_R) (v4 : Int32) : Option (Int32 × S_R) :=
  bd (f_R_judged fu (R.1, R.2.1, R.2.2.1, R.2.2.2.1, R.2.2.2.2.1, R.2.2.2.2.2.1, R.2.2.2.2.2.2.1, R.2.2.2.2.2.2.2.1, R.2.2.2.2.2.2.2.2.1, R.2.2.2.2.2.2.2.2.2.1, R.2.2.2.2.2.2.2.2.2.2.1, R.2.2.2.2.2.2.2.2.2.2.2.1, R.2.2.2.2.2.2.2.2.2.2.2.2.1, R.2.2.2.2.2.2.2.2.2.2.2.2.2.1, R.2.2.2.2.2.2.2.2.2.2.2.2.2.2.1, R.2.2.2.2.2.2.2.2.2.2.2.2.2.2.2.1, R.2.2.2.2.2.2.2.2.2.2.2.2.2.2.2.2.1, R.2.2.2.2.2.2.2.2.2.2.2.2.2.2.2.2.2.1, R.2.2.2.2.2.2.2.2.2.2.2.2.2.2.2.2.2.2.1, R.2.2.2.2.2.2.2.2.2.2.2.2.2.2.2.2.2.2.2.1, R.2.2.2.2.2.2.2.2.2.2.2.2.2.2.2.2.2.2.2.2.1, R.2.2.2.2.2.2.2.2.2.2.2.2.2.2.2.2.2.2.2.2.2.1, R.2.2.2.2.2.2.2.2.2.2.2.2.2.2.2.2.2.2.2.2.2.2.1, R.2.2.2.2.2.2.2.2.2.2.2.2.2.2.2.2.2.2.2.2.2.2.2.1, R.2.2.2.2.2.2.2.2.2.2.2.2.2.2.2.2.2.2.2.2.2.2.2.2.1, R.2.2.2.2.2.2.2.2.2.2.2.2.2.2.2.2.2.2.2.2.2.2.2.2.2.1 + v4, R.2.2.2.2.2.2.2.2.2.2.2.2.2.2.2.2.2.2.2.2.2.2.2.2.2.2) R.2.2.2.2.2.2.2.2.2.2.2.2.2.2.2.2.2.2.2.2.2.2.2.2.2.2.1) fun (r70, R_70) =>
  some (v4, R_70)
def f_R_shrink_L39 (fu : Nat) : Nat → S_R → Int64 → Int32 → Int32 → Option (Int32 × S_R)
  | 0, _, _, _, _ => none
  | n + 1, R, v1, v3, v4 =>
    bd (f_R_smaller fu R v1 v3) fun (r42, R_42) =>
    if r42 = 0 then
      f_R_shrink_L54 fu R_42 v4
    else
      f_R_shrink_L39 fu n R_42 v1 v3 (v4 + 1)
def f_R_shrink (fu : Nat) (R : S_R) (a1 : Int64) (a3 : Int32) : Option (Int32 × S_R) :=
  bd (f_R_within fu a3 1 50) fun r9 =>
  if r9 = 0 then
    bd (f_R_fail fu (0, R.2) 1) fun (r17, R_17) =>
    some (r17, R_17)
  else
    bd (f_R_failed fu (0, R.2) a1 a3) fun (r24, R_24) =>
    if 0 ≤ r24 then
      f_R_shrink_L39 fu fu R_24 a1 a3 0
    else
      bd (f_R_fail fu R_24 2) fun (r32, R_32) =>
      some (r32, R_32)
def f_R_command (fu : Nat) (R : S_R) (a1 : Int32) (a2 : Int32) : Option (Int32 × S_R) :=
  bd (f_R_many fu (0, R.2)) fun r8 =>
  bd (f_R_within fu a1 0 (r8 - 1)) fun r13 =>
  if r13 = 0 then
    bd (f_R_fail fu (0, R.2) 1) fun (r30, R_30) =>
    some (r30, R_30)
  else
    bd (f_R_within fu a2 0 3) fun r22 =>
    if r22 = 0 then
      bd (f_R_fail fu (0, R.2) 1) fun (r30, R_30) =>
      some (r30, R_30)
    else
      if a2 = 0 then
        bd (f_R_branch fu (0, R.2) a1) fun r40 =>
        some (r40, (0, R.2))
      else
        if a2 = 1 then
          ck (inb a1 14) <|
          some (R.2.2.1 (ix a1), (0, R.2))
        else
          if a2 = 2 then
            ck (inb a1 14) <|
            some (R.2.2.2.1 (ix a1), (0, R.2))
          else
            ck (inb a1 14) <|
            some (R.2.2.2.2.1 (ix a1), (0, R.2))
def f_R_event (fu : Nat) (R : S_R) (a1 : Int32) (a2 : Int32) : Option (Int32 × S_R) :=
  bd (f_R_many fu (0, R.2)) fun r8 =>
  bd (f_R_within fu a1 0 (r8 - 1)) fun r13 =>
  if r13 = 0 then
    bd (f_R_fail fu (0, R.2) 1) fun (r30, R_30) =>
    some (r30, R_30)
  else
    bd (f_R_within fu a2 0 3) fun r22 =>
    if r22 = 0 then
      bd (f_R_fail fu (0, R.2) 1) fun (r30, R_30) =>
      some (r30, R_30)
    else
      if R.2.2.2.2.2.2.2.2.2.2.2.2.2.1 = 0 then
        bd (f_R_fail fu (0, R.2) 2) fun (r43, R_43) =>
        some (r43, R_43)
      else
        if a2 = 0 then
          ck (inb a1 14) <|
          some (R.2.2.2.2.2.2.2.2.2.2.2.2.2.2.2.1 (ix a1), (0, R.2))
        else
          if a2 = 1 then
            ck (inb a1 14) <|
            some (R.2.2.2.2.2.2.2.2.2.2.2.2.2.2.2.2.1 (ix a1), (0, R.2))
          else
            if a2 = 2 then
              ck (inb a1 14) <|
              some (R.2.2.2.2.2.2.2.2.2.2.2.2.2.2.2.2.2.1 (ix a1), (0, R.2))
            else
              ck (inb a1 14) <|
              some (R.2.2.2.2.2.2.2.2.2.2.2.2.2.2.2.2.2.2.1 (ix a1), (0, R.2))
def f_R_order (fu : Nat) (R : S_R) (a1 : Int32) : Option (Int32 × S_R) :=
  if R.2.2.2.2.2.2.2.2.2.2.2.2.2.1 = 0 then
    bd (f_R_fail fu (0, R.2) 1) fun (r14, R_14) =>
    some (r14, R_14)
  else
    if R.2.2.2.2.2.2.2.2.2.2.2.2.2.2.1 = 0 then
      bd (f_R_fail fu (0, R.2) 2) fun (r62, R_62) =>
      some (r62, R_62)
    else
      ck (inb 1 3) <|
      ck (inb 2 3) <|
      bd (f_R_within fu a1 0 (((R.2.1 (ix 1)) + (R.2.1 (ix 2))) - 1)) fun r42 =>
      if r42 = 0 then
        bd (f_R_fail fu (0, R.2) 2) fun (r62, R_62) =>
        some (r62, R_62)
      else
        bd (f_R_placed fu (0, R.2) R.2.2.2.2.2.2.2.2.2.2.2.2.2.2.2.2.2.2.2.2.2.2.1 a1) fun r54 =>
        some (r54, (0, R.2))
def f_R_cell (fu : Nat) (R : S_R) (a1 : Int32) : Option (Int32 × S_R) :=
  bd (f_R_within fu a1 0 2) fun r8 =>
  if r8 = 0 then
    bd (f_R_fail fu (0, R.2) 1) fun (r16, R_16) =>
    some (r16, R_16)
  else
    if R.2.2.2.2.2.2.2.2.2.2.2.2.2.1 = 0 then
      bd (f_R_fail fu (0, R.2) 2) fun (r54, R_54) =>
      some (r54, R_54)
    else
      ck (inb a1 3) <|
      ck (inb a1 3) <|
      if (R.2.2.2.2.2.2.2.2.2.2.2.2.1 (ix a1)) = 0 then
        some ((R.2.2.2.2.2.2.2.2.2.2.2.1 (ix a1)) + 0, (0, R.2))
      else
        some ((R.2.2.2.2.2.2.2.2.2.2.2.1 (ix a1)) + 8, (0, R.2))
def f_R_count (fu : Nat) (R : S_R) (a1 : Int32) : Option (Int32 × S_R) :=
  bd (f_R_within fu a1 0 3) fun r8 =>
  if r8 = 0 then
    bd (f_R_fail fu (0, R.2) 1) fun (r16, R_16) =>
    some (r16, R_16)
  else
    if a1 = 0 then
      bd (f_R_many fu (0, R.2)) fun r25 =>
      some (r25, (0, R.2))
    else
      if a1 = 1 then
        some (R.2.2.2.2.2.2.2.2.2.2.2.2.2.2.2.2.2.2.2.2.2.2.2.1, (0, R.2))
      else
        if a1 = 2 then
          some (R.2.2.2.2.2.2.2.2.2.2.2.2.2.2.2.2.2.2.2.2.2.2.2.2.1, (0, R.2))
        else
          some (R.2.2.2.2.2.2.2.2.2.2.2.2.2.2.2.2.2.2.2.2.2.2.2.2.2.1, (0, R.2))
def f_R_tally (fu : Nat) (R : S_R) (a1 : Int32) : Option (Int32 × S_R) :=
  bd (f_R_within fu a1 0 6) fun r9 =>
  if r9 = 0 then
    bd (f_R_fail fu (0, R.2) 1) fun (r26, R_26) =>
    some (r26, R_26)
  else
    ck (inb a1 7) <|
    some (R.2.2.2.2.2.2.2.2.2.2.2.2.2.2.2.2.2.2.2.2.2.2.2.2.2.2.2 (ix a1), (0, R.2))
def f_M_numberOf (fu : Nat) (M : S_M) (a1 : Int32) : Option (Int32) :=
  if 8 ≤ a1 then
    ck (inb (a1 - 8) 14) <|
    some (M.1 (ix (a1 - 8)))
  else
    some a1
def f_M_isSplit (fu : Nat) (M : S_M) (a1 : Int32) : Option (Int32) :=
  if a1 = 4 then
    if (M.2.2.2.2.2.2.2.2 &&& 1) = 0 then
      ck (isB 0) <|
      some 0
    else
      ck (isB 1) <|
      some 1
  else
  if a1 = 5 then
    if (M.2.2.2.2.2.2.2.2 &&& 2) = 0 then
      ck (isB 0) <|
      some 0
    else
      ck (isB 1) <|
      some 1
  else
  if a1 = 6 then
    if (M.2.2.2.2.2.2.2.2 &&& 4) = 0 then
      ck (isB 0) <|
      some 0
    else
      ck (isB 1) <|
      some 1
  else
  ck (isB 0) <|
  some 0
def f_M_isLate (fu : Nat) (M : S_M) (a1 : Int32) : Option (Int32) :=
  if a1 = 3 then
    if (M.2.2.2.2.2.2.2.2 &&& 8) = 0 then
      ck (isB 0) <|
      some 0
    else
      ck (isB 1) <|
      some 1
  else
    ck (isB 0) <|
    some 0
def f_M_act (fu : Nat) (M : S_M) (a1 : Int32) (a2 : Int32) (a3 : Int32) : Option (S_M) :=
  ck (inb a1 14) <|
  bd (f_O_answer fu M.2.2.2.2.1 a2 a3 (M.2.1 (ix a1))) fun r17 =>
  ck (inb a1 14) <|
  bd (f_M_isLate fu ((upd M.1 (ix a1) r17), M.2) a2) fun r23 =>
  if r23 = 0 then
    ck (inb a1 14) <|
    bd (f_O_after fu M.2.2.2.2.1 a2 a3 (M.2.1 (ix a1))) fun r42 =>
    some (((upd M.1 (ix a1) r17), M.2.1, M.2.2.1, M.2.2.2.1, r42, M.2.2.2.2.2))
  else
    some (((upd M.1 (ix a1) r17), M.2))
def f_M_actByNote (fu : Nat) (M : S_M) (a1 : Int32) (a2 : Int32) (a3 : Int32) (a4 : Int32) : Option (S_M) :=
  if a2 = 4 then
    ck (inb a1 14) <|
    ck (nz 8) <|
    ck (inb a1 14) <|
    bd (f_O_after fu M.2.2.2.2.1 3 a3 ((a4 + (M.2.1 (ix a1))) - (a4 + (M.2.1 (ix a1))) / 8 * 8)) fun r99 =>
    some (((upd M.1 (ix a1) ((a4 + (M.2.1 (ix a1))) - (a4 + (M.2.1 (ix a1))) / 8 * 8)), M.2.1, M.2.2.1, M.2.2.2.1, r99, M.2.2.2.2.2))
  else
  if a2 = 5 then
    ck (inb a1 14) <|
    ck (inb a1 14) <|
    bd (f_O_after fu M.2.2.2.2.1 3 a3 (M.2.1 (ix a1))) fun r99 =>
    some (((upd M.1 (ix a1) a4), M.2.1, M.2.2.1, M.2.2.2.1, r99, M.2.2.2.2.2))
  else
  bd (f_O_held fu M.2.2.2.2.1 a3) fun r86 =>
  ck (inb a1 14) <|
  bd (f_O_after fu M.2.2.2.2.1 3 a3 a4) fun r99 =>
  some (((upd M.1 (ix a1) r86), M.2.1, M.2.2.1, M.2.2.2.1, r99, M.2.2.2.2.2))
def f_M_step_L228 (fu : Nat) (P1 : S_P) (M : S_M) (v2 : Int32) (v4 : Int32) (v5 : Int32) (s1 : Int32) (s2 : Int32) : Option (S_M) :=
  ck (inb s1 3) <|
  bd (f_M_isLate fu (M.1, M.2.1, M.2.2.1, M.2.2.2.1, M.2.2.2.2.1, M.2.2.2.2.2.1, (upd M.2.2.2.2.2.2.1 (ix s1) s2), M.2.2.2.2.2.2.2) v5) fun r237 =>
  if r237 = 0 then
    ck (inb v2 3) <|
    some ((M.1, M.2.1, M.2.2.1, M.2.2.2.1, M.2.2.2.2.1, (upd M.2.2.2.2.2.1 (ix v2) (v4 + 1)), (upd M.2.2.2.2.2.2.1 (ix s1) s2), M.2.2.2.2.2.2.2))
  else
    ck (inb v2 3) <|
    some ((M.1, M.2.1, M.2.2.1, M.2.2.2.1, M.2.2.2.2.1, (upd M.2.2.2.2.2.1 (ix v2) v4), (upd M.2.2.2.2.2.2.1 (ix s1) s2), M.2.2.2.2.2.2.2))
def f_M_step (fu : Nat) (M : S_M) (P1 : S_P) (a2 : Int32) (a3 : Int32) : Option (S_M) :=
  ck (inb a2 3) <|
  ck (inb (M.2.2.2.2.2.1 (ix a2)) 14) <|
  ck (inb (M.2.2.2.2.2.1 (ix a2)) 14) <|
  ck (inb a2 3) <|
  if M.2.2.2.2.2.2.1 (ix a2) = 0 then
    ck (inb (M.2.2.2.2.2.1 (ix a2)) 14) <|
    ck (inb (M.2.2.2.2.2.1 (ix a2)) 14) <|
    bd (f_M_numberOf fu (M.1, M.2.1, (upd M.2.2.1 (ix (M.2.2.2.2.2.1 (ix a2))) a3), M.2.2.2) (P1.2.2.2 (ix (M.2.2.2.2.2.1 (ix a2))))) fun r86 =>
    ck (inb (M.2.2.2.2.2.1 (ix a2)) 14) <|
    bd (f_M_isSplit fu (M.1, (upd M.2.1 (ix (M.2.2.2.2.2.1 (ix a2))) r86), (upd M.2.2.1 (ix (M.2.2.2.2.2.1 (ix a2))) a3), M.2.2.2) (P1.2.1 (ix (M.2.2.2.2.2.1 (ix a2))))) fun r98 =>
    if r98 = 0 then
      ck (inb a2 3) <|
      some ((M.1, (upd M.2.1 (ix (M.2.2.2.2.2.1 (ix a2))) r86), (upd M.2.2.1 (ix (M.2.2.2.2.2.1 (ix a2))) a3), M.2.2.2.1, M.2.2.2.2.1, M.2.2.2.2.2.1, (upd M.2.2.2.2.2.2.1 (ix a2) 2), M.2.2.2.2.2.2.2))
    else
      ck (inb a2 3) <|
      some ((M.1, (upd M.2.1 (ix (M.2.2.2.2.2.1 (ix a2))) r86), (upd M.2.2.1 (ix (M.2.2.2.2.2.1 (ix a2))) a3), M.2.2.2.1, M.2.2.2.2.1, M.2.2.2.2.2.1, (upd M.2.2.2.2.2.2.1 (ix a2) 1), M.2.2.2.2.2.2.2))
  else
  if M.2.2.2.2.2.2.1 (ix a2) = 1 then
    if (P1.2.1 (ix (M.2.2.2.2.2.1 (ix a2)))) = 6 then
      bd (f_O_source fu (P1.2.2.1 (ix (M.2.2.2.2.2.1 (ix a2))))) fun r131 =>
      bd (f_O_held fu M.2.2.2.2.1 r131) fun r139 =>
      ck (inb a2 3) <|
      ck (inb a2 3) <|
      some ((M.1, M.2.1, M.2.2.1, M.2.2.2.1, M.2.2.2.2.1, M.2.2.2.2.2.1, (upd M.2.2.2.2.2.2.1 (ix a2) 2), (upd M.2.2.2.2.2.2.2.1 (ix a2) r139), M.2.2.2.2.2.2.2.2))
    else
      bd (f_O_held fu M.2.2.2.2.1 (P1.2.2.1 (ix (M.2.2.2.2.2.1 (ix a2))))) fun r139 =>
      ck (inb a2 3) <|
      ck (inb a2 3) <|
      some ((M.1, M.2.1, M.2.2.1, M.2.2.2.1, M.2.2.2.2.1, M.2.2.2.2.2.1, (upd M.2.2.2.2.2.2.1 (ix a2) 2), (upd M.2.2.2.2.2.2.2.1 (ix a2) r139), M.2.2.2.2.2.2.2.2))
  else
  if M.2.2.2.2.2.2.1 (ix a2) = 2 then
    bd (f_M_isSplit fu M (P1.2.1 (ix (M.2.2.2.2.2.1 (ix a2))))) fun r156 =>
    if r156 = 0 then
      bd (f_M_act fu M (M.2.2.2.2.2.1 (ix a2)) (P1.2.1 (ix (M.2.2.2.2.2.1 (ix a2)))) (P1.2.2.1 (ix (M.2.2.2.2.2.1 (ix a2))))) fun M_188 =>
      ck (inb a2 3) <|
      some ((M_188.1, M_188.2.1, M_188.2.2.1, M_188.2.2.2.1, M_188.2.2.2.2.1, M_188.2.2.2.2.2.1, (upd M_188.2.2.2.2.2.2.1 (ix a2) 3), M_188.2.2.2.2.2.2.2))
    else
      ck (inb a2 3) <|
      bd (f_M_actByNote fu M (M.2.2.2.2.2.1 (ix a2)) (P1.2.1 (ix (M.2.2.2.2.2.1 (ix a2)))) (P1.2.2.1 (ix (M.2.2.2.2.2.1 (ix a2)))) (M.2.2.2.2.2.2.2.1 (ix a2))) fun M_175 =>
      ck (inb a2 3) <|
      some ((M_175.1, M_175.2.1, M_175.2.2.1, M_175.2.2.2.1, M_175.2.2.2.2.1, M_175.2.2.2.2.2.1, (upd M_175.2.2.2.2.2.2.1 (ix a2) 3), M_175.2.2.2.2.2.2.2))
  else
  if M.2.2.2.2.2.2.1 (ix a2) = 3 then
    ck (inb (M.2.2.2.2.2.1 (ix a2)) 14) <|
    bd (f_M_isLate fu (M.1, M.2.1, M.2.2.1, (upd M.2.2.2.1 (ix (M.2.2.2.2.2.1 (ix a2))) a3), M.2.2.2.2) (P1.2.1 (ix (M.2.2.2.2.2.1 (ix a2))))) fun r217 =>
    if r217 = 0 then
      f_M_step_L228 fu P1 (M.1, M.2.1, M.2.2.1, (upd M.2.2.2.1 (ix (M.2.2.2.2.2.1 (ix a2))) a3), M.2.2.2.2) a2 (M.2.2.2.2.2.1 (ix a2)) (P1.2.1 (ix (M.2.2.2.2.2.1 (ix a2)))) a2 0
    else
      f_M_step_L228 fu P1 (M.1, M.2.1, M.2.2.1, (upd M.2.2.2.1 (ix (M.2.2.2.2.2.1 (ix a2))) a3), M.2.2.2.2) a2 (M.2.2.2.2.2.1 (ix a2)) (P1.2.1 (ix (M.2.2.2.2.2.1 (ix a2)))) a2 4
  else
  ck (inb (M.2.2.2.2.2.1 (ix a2)) 14) <|
  bd (f_O_after fu M.2.2.2.2.1 (P1.2.1 (ix (M.2.2.2.2.2.1 (ix a2)))) (P1.2.2.1 (ix (M.2.2.2.2.2.1 (ix a2)))) (M.2.1 (ix (M.2.2.2.2.2.1 (ix a2))))) fun r272 =>
  ck (inb a2 3) <|
  ck (inb a2 3) <|
  some ((M.1, M.2.1, M.2.2.1, M.2.2.2.1, r272, (upd M.2.2.2.2.2.1 (ix a2) ((M.2.2.2.2.2.1 (ix a2)) + 1)), (upd M.2.2.2.2.2.2.1 (ix a2) 0), M.2.2.2.2.2.2.2))
def f_M_perform_L178 (fu : Nat) (P1 : S_P) (k104 : S_M → Int32 → Int32 → Int32 → Int32 → Option (S_M)) (M : S_M) (v3 : Int32) (v5 : Int32) (v6 : Int32) (v7 : Int32) (v8 : Int32) (v9 : Int32) (s0 : Int32) : Option (S_M) :=
  if v8 = 0 then
    if s0 = 0 then
      bd (f_M_step fu M P1 1 v7) fun M_204 =>
      k104 M_204 v3 v5 v6 (v7 + 1)
    else
      if v9 = 0 then
        bd (f_M_step fu M P1 2 v7) fun M_204 =>
        k104 M_204 v3 v5 v6 (v7 + 1)
      else
        bd (f_M_step fu M P1 1 v7) fun M_204 =>
        k104 M_204 v3 v5 v6 (v7 + 1)
  else
    bd (f_M_step fu M P1 2 v7) fun M_204 =>
    k104 M_204 v3 v5 v6 (v7 + 1)
def f_M_perform_L160 (fu : Nat) (P1 : S_P) (k104 : S_M → Int32 → Int32 → Int32 → Int32 → Option (S_M)) (M : S_M) (v3 : Int32) (v5 : Int32) (v6 : Int32) (v7 : Int32) (v8 : Int32) (v9 : Int32) : Option (S_M) :=
  ck (nz 31) <|
  if ((v3 >>> ((v7 - v7 / 31 * 31) &&& 31)) &&& 1) = 1 then
    f_M_perform_L178 fu P1 k104 M v3 v5 v6 v7 v8 v9 1
  else
    f_M_perform_L178 fu P1 k104 M v3 v5 v6 v7 v8 v9 0
def f_M_perform_L127 (fu : Nat) (P1 : S_P) (k104 : S_M → Int32 → Int32 → Int32 → Int32 → Option (S_M)) (M : S_M) (v3 : Int32) (v5 : Int32) (v6 : Int32) (v7 : Int32) (s0 : Int32) : Option (S_M) :=
  ck (inb 2 3) <|
  if (M.2.2.2.2.2.1 (ix 2)) < v6 then
    if s0 = 0 then
      f_M_perform_L160 fu P1 k104 M v3 v5 v6 v7 s0 0
    else
      f_M_perform_L160 fu P1 k104 M v3 v5 v6 v7 s0 0
  else
    if s0 = 0 then
      f_M_perform_L160 fu P1 k104 M v3 v5 v6 v7 s0 1
    else
      some M
def f_M_perform_L104 (fu : Nat) (P1 : S_P) : Nat → S_M → Int32 → Int32 → Int32 → Int32 → Option (S_M)
  | 0, _, _, _, _, _ => none
  | n + 1, M, v3, v5, v6, v7 =>
    if 70 ≤ v7 then
      some M
    else
      ck (inb 1 3) <|
      if (M.2.2.2.2.2.1 (ix 1)) < v5 then
        f_M_perform_L127 fu P1 (f_M_perform_L104 fu P1 n) M v3 v5 v6 v7 0
      else
        f_M_perform_L127 fu P1 (f_M_perform_L104 fu P1 n) M v3 v5 v6 v7 1
def f_M_perform_L87 (fu : Nat) (P1 : S_P) (M : S_M) (v3 : Int32) : Option (S_M) :=
  bd (f_P_end fu P1 1) fun r89 =>
  bd (f_P_end fu P1 2) fun r96 =>
  f_M_perform_L104 fu P1 fu M v3 r89 r96 0
def f_M_perform_L56 (fu : Nat) (P1 : S_P) : Nat → S_M → Int32 → Int32 → Int32 → Option (S_M)
  | 0, _, _, _, _ => none
  | n + 1, M, v3, v4, v5 =>
    if 70 ≤ v5 then
      f_M_perform_L87 fu P1 M v3
    else
      ck (inb 0 3) <|
      if v4 ≤ (M.2.2.2.2.2.1 (ix 0)) then
        f_M_perform_L87 fu P1 M v3
      else
        bd (f_M_step fu M P1 0 (-1)) fun M_78 =>
        f_M_perform_L56 fu P1 n M_78 v3 v4 (v5 + 1)
def f_M_perform_L46 (fu : Nat) (P1 : S_P) (M : S_M) (v3 : Int32) : Option (S_M) :=
  bd (f_P_end fu P1 0) fun r48 =>
  f_M_perform_L56 fu P1 fu M v3 r48 0
def f_M_perform_L13 (fu : Nat) (P1 : S_P) : Nat → S_M → Int32 → Int32 → Option (S_M)
  | 0, _, _, _ => none
  | n + 1, M, v3, v4 =>
    if 3 ≤ v4 then
      f_M_perform_L46 fu P1 M v3
    else
      bd (f_P_start fu P1 v4) fun r28 =>
      ck (inb v4 3) <|
      ck (inb v4 3) <|
      f_M_perform_L13 fu P1 n (M.1, M.2.1, M.2.2.1, M.2.2.2.1, M.2.2.2.2.1, (upd M.2.2.2.2.2.1 (ix v4) r28), (upd M.2.2.2.2.2.2.1 (ix v4) 0), M.2.2.2.2.2.2.2) v3 (v4 + 1)
def f_M_perform (fu : Nat) (M : S_M) (P1 : S_P) (a2 : Int32) (a3 : Int32) : Option (S_M) :=
  f_M_perform_L13 fu P1 fu (M.1, M.2.1, M.2.2.1, M.2.2.2.1, 0, M.2.2.2.2.2.1, M.2.2.2.2.2.2.1, M.2.2.2.2.2.2.2.1, a2) a3 0
def f_J_answersSo (fu : Nat) (P : S_P) (M1 : S_M) (a2 : Int32) (a3 : Int32) : Option (Int32) :=
  ck (inb a3 14) <|
  ck (inb a3 14) <|
  ck (inb a3 14) <|
  bd (f_O_answer fu a2 (P.2.1 (ix a3)) (P.2.2.1 (ix a3)) (M1.2.1 (ix a3))) fun r19 =>
  ck (inb a3 14) <|
  if r19 = (M1.1 (ix a3)) then
    ck (isB 1) <|
    some 1
  else
    ck (isB 0) <|
    some 0
def f_J_after (fu : Nat) (P : S_P) (M1 : S_M) (a2 : Int32) (a3 : Int32) : Option (Int32) :=
  ck (inb a3 14) <|
  ck (inb a3 14) <|
  ck (inb a3 14) <|
  bd (f_O_after fu a2 (P.2.1 (ix a3)) (P.2.2.1 (ix a3)) (M1.2.1 (ix a3))) fun r19 =>
  some r19
def f_J_search_L182 (fu : Nat) (rc : S_J → S_P → S_M → Int32 → Int32 → Int32 → Int32 → Option (Int32 × S_J)) (P1 : S_P) (M2 : S_M) (J : S_J) (v3 : Int32) (v4 : Int32) (v5 : Int32) (v6 : Int32) (s0 : Int32) : Option (Int32 × S_J) :=
  if s0 = 0 then
    ck (isB 0) <|
    some (0, J)
  else
    bd (f_J_answersSo fu P1 M2 v3 v5) fun r194 =>
    if r194 = 0 then
      ck (isB 0) <|
      some (0, J)
    else
      ck (inb v6 8) <|
      bd (f_J_after fu P1 M2 v3 v5) fun r214 =>
      bd (rc (upd J (ix v6) v5) P1 M2 r214 v4 (v5 + 1) (v6 + 1)) fun (r234, J_234) =>
      ck (isB r234) <|
      some (r234, J_234)
def f_J_search_L150 (fu : Nat) (rc : S_J → S_P → S_M → Int32 → Int32 → Int32 → Int32 → Option (Int32 × S_J)) (P1 : S_P) (M2 : S_M) (J : S_J) (v3 : Int32) (v4 : Int32) (v5 : Int32) (v6 : Int32) (v7 : Int32) (v8 : Int32) : Option (Int32 × S_J) :=
  if v8 = 0 then
    f_J_search_L182 fu rc P1 M2 J v3 v4 v5 v6 0
  else
    if v7 = 0 then
      f_J_search_L182 fu rc P1 M2 J v3 v4 v5 v6 1
    else
      ck (inb v4 14) <|
      ck (inb v5 14) <|
      if (M2.2.2.2.1 (ix v4)) < (M2.2.2.1 (ix v5)) then
        f_J_search_L182 fu rc P1 M2 J v3 v4 v5 v6 0
      else
        f_J_search_L182 fu rc P1 M2 J v3 v4 v5 v6 1
def f_J_search_L90 (fu : Nat) (rc : S_J → S_P → S_M → Int32 → Int32 → Int32 → Int32 → Option (Int32 × S_J)) (P1 : S_P) (M2 : S_M) (J : S_J) (v3 : Int32) (v4 : Int32) (v5 : Int32) (v6 : Int32) (v7 : Int32) (v8 : Int32) (s0 : Int32) : Option (Int32 × S_J) :=
  if s0 = 0 then
    f_J_search_L150 fu rc P1 M2 J v3 v4 v5 v6 v7 v8
  else
    bd (f_J_answersSo fu P1 M2 v3 v4) fun r102 =>
    if r102 = 0 then
      f_J_search_L150 fu rc P1 M2 J v3 v4 v5 v6 v7 v8
    else
      ck (inb v6 8) <|
      bd (f_J_after fu P1 M2 v3 v4) fun r122 =>
      bd (rc (upd J (ix v6) v4) P1 M2 r122 (v4 + 1) v5 (v6 + 1)) fun (r142, J_142) =>
      if r142 = 0 then
        f_J_search_L150 fu rc P1 M2 J_142 v3 v4 v5 v6 v7 v8
      else
        ck (isB 1) <|
        some (1, J_142)
def f_J_search_L46 (fu : Nat) (rc : S_J → S_P → S_M → Int32 → Int32 → Int32 → Int32 → Option (Int32 × S_J)) (P1 : S_P) (M2 : S_M) (J : S_J) (v3 : Int32) (v4 : Int32) (v5 : Int32) (v6 : Int32) (v7 : Int32) (v8 : Int32) : Option (Int32 × S_J) :=
  if v6 < 8 then
    if v7 = 0 then
      f_J_search_L90 fu rc P1 M2 J v3 v4 v5 v6 v7 v8 0
    else
      if v8 = 0 then
        f_J_search_L90 fu rc P1 M2 J v3 v4 v5 v6 v7 v8 1
      else
        ck (inb v5 14) <|
        ck (inb v4 14) <|
        if (M2.2.2.2.1 (ix v5)) < (M2.2.2.1 (ix v4)) then
          f_J_search_L90 fu rc P1 M2 J v3 v4 v5 v6 v7 v8 0
        else
          f_J_search_L90 fu rc P1 M2 J v3 v4 v5 v6 v7 v8 1
  else
    ck (isB 0) <|
    some (0, J)
def f_J_search_L15 (fu : Nat) (rc : S_J → S_P → S_M → Int32 → Int32 → Int32 → Int32 → Option (Int32 × S_J)) (P1 : S_P) (M2 : S_M) (J : S_J) (v3 : Int32) (v4 : Int32) (v5 : Int32) (v6 : Int32) (s0 : Int32) : Option (Int32 × S_J) :=
  bd (f_P_end fu P1 2) fun r21 =>
  if r21 ≤ v5 then
    if s0 = 0 then
      ck (isB 1) <|
      some (1, J)
    else
      f_J_search_L46 fu rc P1 M2 J v3 v4 v5 v6 s0 0
  else
    if s0 = 0 then
      f_J_search_L46 fu rc P1 M2 J v3 v4 v5 v6 s0 1
    else
      f_J_search_L46 fu rc P1 M2 J v3 v4 v5 v6 s0 1
def f_J_search (fu : Nat) : Nat → S_J → S_P → S_M → Int32 → Int32 → Int32 → Int32 → Option (Int32 × S_J)
  | 0, _, _, _, _, _, _, _ => none
  | d + 1, J, P1, M2, a3, a4, a5, a6 =>
  bd (f_P_end fu P1 1) fun r4 =>
  if r4 ≤ a4 then
    f_J_search_L15 fu (f_J_search fu d) P1 M2 J a3 a4 a5 a6 0
  else
    f_J_search_L15 fu (f_J_search fu d) P1 M2 J a3 a4 a5 a6 1
def f_J_explains_L47 (fu : Nat) (P1 : S_P) (M2 : S_M) (J : S_J) (v3 : Int32) : Option (Int32 × S_J) :=
  bd (f_P_start fu P1 1) fun r53 =>
  bd (f_P_start fu P1 2) fun r58 =>
  bd (f_J_search fu 10 J P1 M2 v3 r53 r58 0) fun (r62, J_62) =>
  ck (isB r62) <|
  some (r62, J_62)
def f_J_explains_L12 (fu : Nat) (P1 : S_P) (M2 : S_M) : Nat → S_J → Int32 → Int32 → Int32 → Option (Int32 × S_J)
  | 0, _, _, _, _ => none
  | n + 1, J, v3, v4, v5 =>
    if v4 ≤ v5 then
      f_J_explains_L47 fu P1 M2 J v3
    else
      bd (f_J_answersSo fu P1 M2 v3 v5) fun r24 =>
      if r24 = 0 then
        ck (isB 0) <|
        some (0, J)
      else
        bd (f_J_after fu P1 M2 v3 v5) fun r37 =>
        f_J_explains_L12 fu P1 M2 n J r37 v4 (v5 + 1)
def f_J_explains (fu : Nat) (J : S_J) (P1 : S_P) (M2 : S_M) : Option (Int32 × S_J) :=
  bd (f_P_end fu P1 0) fun r4 =>
  f_J_explains_L12 fu P1 M2 fu J 0 r4 0
def f_T_test_L69 (fu : Nat) (P1 : S_P) : Nat → S_T → Int32 → Int32 → Option (Int32 × S_T)
  | 0, _, _, _ => none
  | n + 1, T, v3, v4 =>
    if v3 ≤ v4 then
      ck (isB T.2.2.2.2.2.2.2.1) <|
      some (T.2.2.2.2.2.2.2.1, T)
    else
      ck (inb v4 14) <|
      ck (inb (P1.2.1 (ix v4)) 7) <|
      ck (inb (P1.2.1 (ix v4)) 7) <|
      f_T_test_L69 fu P1 n (T.1, T.2.1, (upd T.2.2.1 (ix (P1.2.1 (ix v4))) ((T.2.2.1 (ix (P1.2.1 (ix v4)))) + 1)), T.2.2.2) v3 (v4 + 1)
def f_T_test (fu : Nat) (T : S_T) (P1 : S_P) (a2 : Int32) : Option (Int32 × S_T) :=
  bd (f_M_perform fu T.1 P1 T.2.2.2.1 a2) fun M_15 =>
  bd (f_J_explains fu T.2.1 P1 M_15) fun (r28, J_28) =>
  ck (isB r28) <|
  if r28 = 0 then
    bd (f_P_size fu P1) fun r62 =>
    f_T_test_L69 fu P1 fu (M_15, J_28, T.2.2.1, T.2.2.2.1, T.2.2.2.2.1 + 1, T.2.2.2.2.2.1 + 1, a2, r28, T.2.2.2.2.2.2.2.2) r62 0
  else
    bd (f_P_size fu P1) fun r62 =>
    f_T_test_L69 fu P1 fu (M_15, J_28, T.2.2.1, T.2.2.2.1, T.2.2.2.2.1 + 1, T.2.2.2.2.2.1, a2, r28, T.2.2.2.2.2.2.2.2) r62 0
def f_D_restart (fu : Nat) (D : S_D) (a1 : Int64) : Option (S_D) :=
  some a1
def f_T_firstFailure_L11 (fu : Nat) (P1 : S_P) : Nat → S_T → Int32 → Int32 → Option (Int32 × S_T)
  | 0, _, _, _ => none
  | n + 1, T, v4, v5 =>
    if v4 ≤ v5 then
      some ((-1), T)
    else
      bd (f_D_below fu T.2.2.2.2.2.2.2.2 2147483647) fun (r26, D_26) =>
      bd (f_T_test fu (T.1, T.2.1, T.2.2.1, T.2.2.2.1, T.2.2.2.2.1, T.2.2.2.2.2.1, T.2.2.2.2.2.2.1, T.2.2.2.2.2.2.2.1, D_26) P1 r26) fun (r29, T_29) =>
      if r29 = 0 then
        some (v5, T_29)
      else
        f_T_firstFailure_L11 fu P1 n T_29 v4 (v5 + 1)
def f_T_firstFailure (fu : Nat) (T : S_T) (P1 : S_P) (a2 : Int64) (a4 : Int32) : Option (Int32 × S_T) :=
  bd (f_D_restart fu T.2.2.2.2.2.2.2.2 a2) fun D_5 =>
  f_T_firstFailure_L11 fu P1 fu (T.1, T.2.1, T.2.2.1, T.2.2.2.1, T.2.2.2.2.1, T.2.2.2.2.2.1, T.2.2.2.2.2.2.1, T.2.2.2.2.2.2.2.1, D_5) a4 0
def hpW (h : S_H) (r : S_R) (out : Nat → Int64) : ev_H := [.inr (0, [.ref 1, .ref 6, .ref 11, .ref 24, .int h.2.2.2.2.1, .int h.2.2.2.2.2]),
  .inr (1, [.ref 2, .ref 3, .ref 4, .ref 5]),
  .inl (.int, 3, .inl h.1.1),
  .inl (.int, 14, .inl h.1.2.1),
  .inl (.int, 14, .inl h.1.2.2.1),
  .inl (.int, 14, .inl h.1.2.2.2),
  .inr (1, [.ref 7, .ref 8, .ref 9, .ref 10]),
  .inl (.int, 3, .inl h.2.1.1),
  .inl (.int, 14, .inl h.2.1.2.1),
  .inl (.int, 14, .inl h.2.1.2.2.1),
  .inl (.int, 14, .inl h.2.1.2.2.2),
  .inr (2, [.ref 12, .ref 20, .ref 22, .int h.2.2.1.2.2.2.1, .int h.2.2.1.2.2.2.2.1, .int h.2.2.1.2.2.2.2.2.1, .int h.2.2.1.2.2.2.2.2.2.1, .int h.2.2.1.2.2.2.2.2.2.2.1, .ref 23]),
  .inr (3, [.ref 13, .ref 14, .ref 15, .ref 16, .int h.2.2.1.1.2.2.2.2.1, .ref 17, .ref 18, .ref 19, .int h.2.2.1.1.2.2.2.2.2.2.2.2]),
  .inl (.int, 14, .inl h.2.2.1.1.1),
  .inl (.int, 14, .inl h.2.2.1.1.2.1),
  .inl (.int, 14, .inl h.2.2.1.1.2.2.1),
  .inl (.int, 14, .inl h.2.2.1.1.2.2.2.1),
  .inl (.int, 3, .inl h.2.2.1.1.2.2.2.2.2.1),
  .inl (.int, 3, .inl h.2.2.1.1.2.2.2.2.2.2.1),
  .inl (.int, 3, .inl h.2.2.1.1.2.2.2.2.2.2.2.1),
  .inr (4, [.ref 21]),
  .inl (.int, 8, .inl h.2.2.1.2.1),
  .inl (.int, 7, .inl h.2.2.1.2.2.1),
  .inr (5, [.long h.2.2.1.2.2.2.2.2.2.2.2]),
  .inr (5, [.long h.2.2.2.1]),
  .inr (6, [.int r.1, .ref 26, .ref 27, .ref 28, .ref 29, .ref 30, .ref 31, .int r.2.2.2.2.2.2.2.1, .long r.2.2.2.2.2.2.2.2.1, .ref 32, .ref 33, .ref 34, .ref 35, .int r.2.2.2.2.2.2.2.2.2.2.2.2.2.1, .int r.2.2.2.2.2.2.2.2.2.2.2.2.2.2.1, .ref 36, .ref 37, .ref 38, .ref 39, .ref 40, .ref 41, .ref 42, .int r.2.2.2.2.2.2.2.2.2.2.2.2.2.2.2.2.2.2.2.2.2.2.1, .int r.2.2.2.2.2.2.2.2.2.2.2.2.2.2.2.2.2.2.2.2.2.2.2.1, .int r.2.2.2.2.2.2.2.2.2.2.2.2.2.2.2.2.2.2.2.2.2.2.2.2.1, .int r.2.2.2.2.2.2.2.2.2.2.2.2.2.2.2.2.2.2.2.2.2.2.2.2.2.1, .int r.2.2.2.2.2.2.2.2.2.2.2.2.2.2.2.2.2.2.2.2.2.2.2.2.2.2.1, .ref 43]),
  .inl (.int, 3, .inl r.2.1),
  .inl (.int, 14, .inl r.2.2.1),
  .inl (.int, 14, .inl r.2.2.2.1),
  .inl (.int, 14, .inl r.2.2.2.2.1),
  .inl (.int, 3, .inl r.2.2.2.2.2.1),
  .inl (.int, 42, .inl r.2.2.2.2.2.2.1),
  .inl (.int, 3, .inl r.2.2.2.2.2.2.2.2.2.1),
  .inl (.boolean, 3, .inl r.2.2.2.2.2.2.2.2.2.2.1),
  .inl (.int, 3, .inl r.2.2.2.2.2.2.2.2.2.2.2.1),
  .inl (.boolean, 3, .inl r.2.2.2.2.2.2.2.2.2.2.2.2.1),
  .inl (.int, 14, .inl r.2.2.2.2.2.2.2.2.2.2.2.2.2.2.2.1),
  .inl (.int, 14, .inl r.2.2.2.2.2.2.2.2.2.2.2.2.2.2.2.2.1),
  .inl (.int, 14, .inl r.2.2.2.2.2.2.2.2.2.2.2.2.2.2.2.2.2.1),
  .inl (.int, 14, .inl r.2.2.2.2.2.2.2.2.2.2.2.2.2.2.2.2.2.2.1),
  .inl (.int, 14, .inl r.2.2.2.2.2.2.2.2.2.2.2.2.2.2.2.2.2.2.2.1),
  .inl (.int, 3, .inl r.2.2.2.2.2.2.2.2.2.2.2.2.2.2.2.2.2.2.2.2.1),
  .inl (.int, 3, .inl r.2.2.2.2.2.2.2.2.2.2.2.2.2.2.2.2.2.2.2.2.2.1),
  .inl (.int, 7, .inl r.2.2.2.2.2.2.2.2.2.2.2.2.2.2.2.2.2.2.2.2.2.2.2.2.2.2.2),
  .inl (.long, 1, .inr out)]
end
section
set_option maxRecDepth 100000 in
set_option maxHeartbeats 4000000 in
theorem c_P_size_1 (l : Launch) (Dv : va_G) (fu : Nat) (h : S_H) (r : S_R) (out : Nat → Int64) (P : S_P) : ev_M l Dv gaX mu_P_size [.ref 1] (hpW (P, h.2) r out) (f_P_size fu P) (fun q => (some (.int q), hpW (P, h.2) r out)) := by
  refine ev_met (lo0 := [some (.ref 1)]) rfl rfl rfl (fun κ X => ?_)
  unfold f_P_size
  refine js_aload_n (n := 1) X (dg dc_P_size 0 rfl) rfl rfl rfl ?_
  refine js_getf (j := 0) (v := .ref 2) (n := 4) X (dg dc_P_size 1 rfl) rfl hC_P (Nat.le_of_ble_eq_true rfl) hw_1 rfl rfl ?_
  refine js_iconst (n := 5) 0 X (dg dc_P_size 2 rfl) rfl (by decide) ?_
  refine js_iaload (f := P.1) (n := 6) X (dg dc_P_size 3 rfl) rfl rfl ?_
  refine js_aload_n (n := 7) X (dg dc_P_size 4 rfl) rfl rfl rfl ?_
  refine js_getf (j := 0) (v := .ref 2) (n := 10) X (dg dc_P_size 5 rfl) rfl hC_P (Nat.le_of_ble_eq_true rfl) hw_1 rfl rfl ?_
  refine js_iconst (n := 11) 1 X (dg dc_P_size 6 rfl) rfl (by decide) ?_
  refine js_iaload (f := P.1) (n := 12) X (dg dc_P_size 7 rfl) rfl rfl ?_
  refine js_iadd (n := 13) X (dg dc_P_size 8 rfl) rfl ?_
  refine js_aload_n (n := 14) X (dg dc_P_size 9 rfl) rfl rfl rfl ?_
  refine js_getf (j := 0) (v := .ref 2) (n := 17) X (dg dc_P_size 10 rfl) rfl hC_P (Nat.le_of_ble_eq_true rfl) hw_1 rfl rfl ?_
  refine js_iconst (n := 18) 2 X (dg dc_P_size 11 rfl) rfl (by decide) ?_
  refine js_iaload (f := P.1) (n := 19) X (dg dc_P_size 12 rfl) rfl rfl ?_
  refine js_iadd (n := 20) X (dg dc_P_size 13 rfl) rfl ?_
  exact js_retI X (dg dc_P_size 14 rfl) rfl (Nat.le_of_ble_eq_true rfl) (Nat.le_of_ble_eq_true rfl) rfl
set_option maxRecDepth 100000 in
set_option maxHeartbeats 4000000 in
theorem jl_P_empty_1_L2 (l : Launch) (Dv : va_G) (fu : Nat) (κ : ev_ka) (X : ev_X l Dv gaX mu_P_empty κ) (h : S_H) (r : S_R) (out : Nat → Int64) : ∀ (n : Nat) (P : S_P) (v1 : Int32), ev_J l Dv gaX mu_P_empty κ 2 0 0 [some (.ref 1), some (.int v1)] [] (hpW (P, h.2) r out) (f_P_empty_L2 fu n P v1) (fun q => (none, hpW (q, h.2) r out)) := by
  intro n
  induction n with
  | zero => exact fun _ _ => js_none
  | succ n ih =>
    intro P v1
    unfold f_P_empty_L2
    refine js_iload_n (n := 3) X (dg dc_P_empty 2 rfl) rfl rfl rfl ?_
    refine js_iconst (n := 4) 3 X (dg dc_P_empty 3 rfl) rfl (by decide) ?_
    refine js_icmp_ge (t := 20) (n := 7) X (dg dc_P_empty 4 rfl) (by decide) rfl ?_ ?_
    · exact js_retV X (dg dc_P_empty 12 rfl) rfl (Nat.le_of_ble_eq_true rfl) (Nat.le_of_ble_eq_true rfl) rfl
    refine js_aload_n (n := 8) X (dg dc_P_empty 5 rfl) rfl rfl rfl ?_
    refine js_getf (j := 0) (v := .ref 2) (n := 11) X (dg dc_P_empty 6 rfl) rfl hC_P (Nat.le_of_ble_eq_true rfl) hw_1 rfl rfl ?_
    refine js_iload_n (n := 12) X (dg dc_P_empty 7 rfl) rfl rfl rfl ?_
    refine js_iconst (n := 13) 0 X (dg dc_P_empty 8 rfl) rfl (by decide) ?_
    refine js_iastore (f := P.1) (n := 14) X (dg dc_P_empty 9 rfl) rfl rfl ?_
    refine js_iinc (lo' := [some (.ref 1), some (.int (v1 + 1))]) (n := 17) 1 X (dg dc_P_empty 10 rfl) rfl (by decide) (Nat.le_of_ble_eq_true rfl) rfl rfl ?_
    refine js_goto (t := 2) X (dg dc_P_empty 11 rfl) (by decide) ?_
    exact js_keep [true, true] (ih ((upd P.1 (ix v1) 0), P.2) (v1 + 1))
set_option maxRecDepth 100000 in
set_option maxHeartbeats 4000000 in
theorem c_P_empty_1 (l : Launch) (Dv : va_G) (fu : Nat) (h : S_H) (r : S_R) (out : Nat → Int64) (P : S_P) : ev_M l Dv gaX mu_P_empty [.ref 1] (hpW (P, h.2) r out) (f_P_empty fu P) (fun q => (none, hpW (q, h.2) r out)) := by
  refine ev_met (lo0 := [some (.ref 1), none]) rfl rfl rfl (fun κ X => ?_)
  unfold f_P_empty
  refine js_iconst (n := 1) 0 X (dg dc_P_empty 0 rfl) rfl (by decide) ?_
  refine js_istore_n (lo' := [some (.ref 1), some (.int 0)]) (n := 2) X (dg dc_P_empty 1 rfl) rfl rfl (Nat.le_of_ble_eq_true rfl) rfl ?_
  exact js_keep [true, true] (jl_P_empty_1_L2 l Dv fu κ X h r out fu P 0)
set_option maxRecDepth 100000 in
set_option maxHeartbeats 4000000 in
theorem c_H_clear_0 (l : Launch) (Dv : va_G) (fu : Nat) (r : S_R) (out : Nat → Int64) (H : S_H) : ev_M l Dv gaX mu_H_clear [.ref 0] (hpW H r out) (f_H_clear fu H) (fun q => (some (.int q.1), hpW q.2 r out)) := by
  refine ev_met (lo0 := [some (.ref 0), none]) rfl rfl rfl (fun κ X => ?_)
  unfold f_H_clear
  refine js_aload_n (n := 1) X (dg dc_H_clear 0 rfl) rfl rfl rfl ?_
  refine js_getf (j := 0) (v := .ref 1) (n := 4) X (dg dc_H_clear 1 rfl) rfl hC_H (Nat.le_of_ble_eq_true rfl) hw_0 rfl rfl ?_
  refine js_callV (na := 0) (ci := 1) (n := 7) X (dg dc_H_clear 2 rfl) rfl (c_P_size_1 l Dv fu H r out H.1) gV_H_79 rfl rfl hy_P_size ⟨(Nat.le_of_ble_eq_true rfl), (Nat.le_of_ble_eq_true rfl)⟩ rfl ⟨(Nat.le_of_ble_eq_true rfl), (Nat.le_of_ble_eq_true rfl)⟩ rfl rfl rfl rfl rfl ?_
  intro r4
  refine js_istore_n (lo' := [some (.ref 0), some (.int r4)]) (n := 8) X (dg dc_H_clear 3 rfl) rfl rfl (Nat.le_of_ble_eq_true rfl) rfl ?_
  refine js_aload_n (n := 9) X (dg dc_H_clear 4 rfl) rfl rfl rfl ?_
  refine js_getf (j := 0) (v := .ref 1) (n := 12) X (dg dc_H_clear 5 rfl) rfl hC_H (Nat.le_of_ble_eq_true rfl) hw_0 rfl rfl ?_
  refine js_callV (na := 0) (ci := 1) (n := 15) X (dg dc_H_clear 6 rfl) rfl (c_P_empty_1 l Dv fu H r out H.1) gV_H_83 rfl rfl hy_P_empty ⟨(Nat.le_of_ble_eq_true rfl), (Nat.le_of_ble_eq_true rfl)⟩ rfl ⟨(Nat.le_of_ble_eq_true rfl), (Nat.le_of_ble_eq_true rfl)⟩ rfl rfl rfl rfl rfl ?_
  intro P_12
  refine js_aload_n (n := 16) X (dg dc_H_clear 7 rfl) rfl rfl rfl ?_
  refine js_iconst (n := 17) 0 X (dg dc_H_clear 8 rfl) rfl (by decide) ?_
  refine js_putz (j := 5) (n := 20) X (dg dc_H_clear 9 rfl) rfl hC_H (Nat.le_of_ble_eq_true rfl) hw_11 rfl rfl (Or.inl rfl) (Nat.le_of_ble_eq_true rfl) ?_
  refine js_iload_n (n := 21) X (dg dc_H_clear 10 rfl) rfl rfl rfl ?_
  exact js_retI X (dg dc_H_clear 11 rfl) rfl (Nat.le_of_ble_eq_true rfl) (Nat.le_of_ble_eq_true rfl) rfl
set_option maxRecDepth 100000 in
set_option maxHeartbeats 4000000 in
theorem c_H_isBelow (l : Launch) (Dv : va_G) (fu : Nat) (hp : ev_H) (a0 : Int32) (a1 : Int32) : ev_M l Dv gaX mu_H_isBelow [.int a0, .int a1] (hp) (f_H_isBelow fu a0 a1) (fun q => (some (.int q), hp)) := by
  refine ev_met (lo0 := [some (.int a0), some (.int a1)]) rfl rfl rfl (fun κ X => ?_)
  unfold f_H_isBelow
  refine js_iload_n (n := 1) X (dg dc_H_isBelow 0 rfl) rfl rfl rfl ?_
  refine js_if_lt (t := 13) (n := 4) X (dg dc_H_isBelow 1 rfl) (by decide) rfl ?_ ?_
  · refine js_iconst (n := 14) 0 X (dg dc_H_isBelow 7 rfl) rfl (by decide) ?_
    exact js_retZ X (dg dc_H_isBelow 8 rfl) rfl (Nat.le_of_ble_eq_true rfl) (Nat.le_of_ble_eq_true rfl) rfl
  refine js_iload_n (n := 5) X (dg dc_H_isBelow 2 rfl) rfl rfl rfl ?_
  refine js_iload_n (n := 6) X (dg dc_H_isBelow 3 rfl) rfl rfl rfl ?_
  refine js_icmp_ge (t := 13) (n := 9) X (dg dc_H_isBelow 4 rfl) (by decide) rfl ?_ ?_
  · refine js_iconst (n := 14) 0 X (dg dc_H_isBelow 7 rfl) rfl (by decide) ?_
    exact js_retZ X (dg dc_H_isBelow 8 rfl) rfl (Nat.le_of_ble_eq_true rfl) (Nat.le_of_ble_eq_true rfl) rfl
  refine js_iconst (n := 10) 1 X (dg dc_H_isBelow 5 rfl) rfl (by decide) ?_
  refine js_goto (t := 14) X (dg dc_H_isBelow 6 rfl) (by decide) ?_
  exact js_retZ X (dg dc_H_isBelow 8 rfl) rfl (Nat.le_of_ble_eq_true rfl) (Nat.le_of_ble_eq_true rfl) rfl
set_option maxRecDepth 100000 in
set_option maxHeartbeats 4000000 in
theorem c_P_size_6 (l : Launch) (Dv : va_G) (fu : Nat) (h : S_H) (r : S_R) (out : Nat → Int64) (P : S_P) : ev_M l Dv gaX mu_P_size [.ref 6] (hpW (h.1, P, h.2.2) r out) (f_P_size fu P) (fun q => (some (.int q), hpW (h.1, P, h.2.2) r out)) := by
  refine ev_met (lo0 := [some (.ref 6)]) rfl rfl rfl (fun κ X => ?_)
  unfold f_P_size
  refine js_aload_n (n := 1) X (dg dc_P_size 0 rfl) rfl rfl rfl ?_
  refine js_getf (j := 0) (v := .ref 7) (n := 4) X (dg dc_P_size 1 rfl) rfl hC_P (Nat.le_of_ble_eq_true rfl) hw_1 rfl rfl ?_
  refine js_iconst (n := 5) 0 X (dg dc_P_size 2 rfl) rfl (by decide) ?_
  refine js_iaload (f := P.1) (n := 6) X (dg dc_P_size 3 rfl) rfl rfl ?_
  refine js_aload_n (n := 7) X (dg dc_P_size 4 rfl) rfl rfl rfl ?_
  refine js_getf (j := 0) (v := .ref 7) (n := 10) X (dg dc_P_size 5 rfl) rfl hC_P (Nat.le_of_ble_eq_true rfl) hw_1 rfl rfl ?_
  refine js_iconst (n := 11) 1 X (dg dc_P_size 6 rfl) rfl (by decide) ?_
  refine js_iaload (f := P.1) (n := 12) X (dg dc_P_size 7 rfl) rfl rfl ?_
  refine js_iadd (n := 13) X (dg dc_P_size 8 rfl) rfl ?_
  refine js_aload_n (n := 14) X (dg dc_P_size 9 rfl) rfl rfl rfl ?_
  refine js_getf (j := 0) (v := .ref 7) (n := 17) X (dg dc_P_size 10 rfl) rfl hC_P (Nat.le_of_ble_eq_true rfl) hw_1 rfl rfl ?_
  refine js_iconst (n := 18) 2 X (dg dc_P_size 11 rfl) rfl (by decide) ?_
  refine js_iaload (f := P.1) (n := 19) X (dg dc_P_size 12 rfl) rfl rfl ?_
  refine js_iadd (n := 20) X (dg dc_P_size 13 rfl) rfl ?_
  exact js_retI X (dg dc_P_size 14 rfl) rfl (Nat.le_of_ble_eq_true rfl) (Nat.le_of_ble_eq_true rfl) rfl
set_option maxRecDepth 100000 in
set_option maxHeartbeats 4000000 in
theorem jl_P_copyFrom_6_1_L25 (l : Launch) (Dv : va_G) (fu : Nat) (κ : ev_ka) (X : ev_X l Dv gaX mu_P_copyFrom κ) (h : S_H) (r : S_R) (out : Nat → Int64) (P1 : S_P) (P : S_P) : ev_J l Dv gaX mu_P_copyFrom κ 25 0 0 [some (.ref 6), some (.ref 1), none] [] (hpW (P1, P, h.2.2) r out) (f_P_copyFrom_L25 fu P1 P) (fun q => (none, hpW (P1, q, h.2.2) r out)) := by
  unfold f_P_copyFrom_L25
  refine js_aload_n (n := 26) X (dg dc_P_copyFrom 15 rfl) rfl rfl rfl ?_
  refine js_callV (na := 0) (ci := 1) (n := 29) X (dg dc_P_copyFrom 16 rfl) rfl (c_P_size_6 l Dv fu (P1, P, h.2.2) r out P) gV_P_31 rfl rfl hy_P_size ⟨(Nat.le_of_ble_eq_true rfl), (Nat.le_of_ble_eq_true rfl)⟩ rfl ⟨(Nat.le_of_ble_eq_true rfl), (Nat.le_of_ble_eq_true rfl)⟩ rfl rfl rfl rfl rfl ?_
  intro r26
  refine js_istore_n (lo' := [some (.ref 6), some (.ref 1), some (.int r26)]) (n := 30) X (dg dc_P_copyFrom 17 rfl) rfl rfl (Nat.le_of_ble_eq_true rfl) rfl ?_
  refine js_aload_n (n := 31) X (dg dc_P_copyFrom 18 rfl) rfl rfl rfl ?_
  refine js_getf (j := 1) (v := .ref 3) (n := 34) X (dg dc_P_copyFrom 19 rfl) rfl hC_P (Nat.le_of_ble_eq_true rfl) hw_14 rfl rfl ?_
  refine js_iconst (n := 35) 0 X (dg dc_P_copyFrom 20 rfl) rfl (by decide) ?_
  refine js_aload_n (n := 36) X (dg dc_P_copyFrom 21 rfl) rfl rfl rfl ?_
  refine js_getf (j := 1) (v := .ref 8) (n := 39) X (dg dc_P_copyFrom 22 rfl) rfl hC_P (Nat.le_of_ble_eq_true rfl) hw_14 rfl rfl ?_
  refine js_iconst (n := 40) 0 X (dg dc_P_copyFrom 23 rfl) rfl (by decide) ?_
  refine js_iload_n (n := 41) X (dg dc_P_copyFrom 24 rfl) rfl rfl rfl ?_
  refine js_copy (f := P1.2.1) (g := P.2.1) (n := 44) X (dg dc_P_copyFrom 25 rfl) rfl hw_15 hw_16 hw_17 hw_18 (Nat.le_of_ble_eq_true rfl) (by decide) rfl rfl ?_
  refine js_aload_n (n := 45) X (dg dc_P_copyFrom 26 rfl) rfl rfl rfl ?_
  refine js_getf (j := 2) (v := .ref 4) (n := 48) X (dg dc_P_copyFrom 27 rfl) rfl hC_P (Nat.le_of_ble_eq_true rfl) hw_19 rfl rfl ?_
  refine js_iconst (n := 49) 0 X (dg dc_P_copyFrom 28 rfl) rfl (by decide) ?_
  refine js_aload_n (n := 50) X (dg dc_P_copyFrom 29 rfl) rfl rfl rfl ?_
  refine js_getf (j := 2) (v := .ref 9) (n := 53) X (dg dc_P_copyFrom 30 rfl) rfl hC_P (Nat.le_of_ble_eq_true rfl) hw_19 rfl rfl ?_
  refine js_iconst (n := 54) 0 X (dg dc_P_copyFrom 31 rfl) rfl (by decide) ?_
  refine js_iload_n (n := 55) X (dg dc_P_copyFrom 32 rfl) rfl rfl rfl ?_
  refine js_copy (f := P1.2.2.1) (g := P.2.2.1) (n := 58) X (dg dc_P_copyFrom 33 rfl) rfl hw_15 hw_16 hw_17 hw_18 (Nat.le_of_ble_eq_true rfl) (by decide) rfl rfl ?_
  refine js_aload_n (n := 59) X (dg dc_P_copyFrom 34 rfl) rfl rfl rfl ?_
  refine js_getf (j := 3) (v := .ref 5) (n := 62) X (dg dc_P_copyFrom 35 rfl) rfl hC_P (Nat.le_of_ble_eq_true rfl) hw_20 rfl rfl ?_
  refine js_iconst (n := 63) 0 X (dg dc_P_copyFrom 36 rfl) rfl (by decide) ?_
  refine js_aload_n (n := 64) X (dg dc_P_copyFrom 37 rfl) rfl rfl rfl ?_
  refine js_getf (j := 3) (v := .ref 10) (n := 67) X (dg dc_P_copyFrom 38 rfl) rfl hC_P (Nat.le_of_ble_eq_true rfl) hw_20 rfl rfl ?_
  refine js_iconst (n := 68) 0 X (dg dc_P_copyFrom 39 rfl) rfl (by decide) ?_
  refine js_iload_n (n := 69) X (dg dc_P_copyFrom 40 rfl) rfl rfl rfl ?_
  refine js_copy (f := P1.2.2.2) (g := P.2.2.2) (n := 72) X (dg dc_P_copyFrom 41 rfl) rfl hw_15 hw_16 hw_17 hw_18 (Nat.le_of_ble_eq_true rfl) (by decide) rfl rfl ?_
  exact js_retV X (dg dc_P_copyFrom 42 rfl) rfl (Nat.le_of_ble_eq_true rfl) (Nat.le_of_ble_eq_true rfl) rfl
set_option maxRecDepth 100000 in
set_option maxHeartbeats 4000000 in
theorem jl_P_copyFrom_6_1_L2 (l : Launch) (Dv : va_G) (fu : Nat) (κ : ev_ka) (X : ev_X l Dv gaX mu_P_copyFrom κ) (h : S_H) (r : S_R) (out : Nat → Int64) (P1 : S_P) : ∀ (n : Nat) (P : S_P) (v2 : Int32), ev_J l Dv gaX mu_P_copyFrom κ 2 0 0 [some (.ref 6), some (.ref 1), some (.int v2)] [] (hpW (P1, P, h.2.2) r out) (f_P_copyFrom_L2 fu P1 n P v2) (fun q => (none, hpW (P1, q, h.2.2) r out)) := by
  intro n
  induction n with
  | zero => exact fun _ _ => js_none
  | succ n ih =>
    intro P v2
    unfold f_P_copyFrom_L2
    refine js_iload_n (n := 3) X (dg dc_P_copyFrom 2 rfl) rfl rfl rfl ?_
    refine js_iconst (n := 4) 3 X (dg dc_P_copyFrom 3 rfl) rfl (by decide) ?_
    refine js_icmp_ge (t := 25) (n := 7) X (dg dc_P_copyFrom 4 rfl) (by decide) rfl ?_ ?_
    · exact js_keep [true, true, false] (jl_P_copyFrom_6_1_L25 l Dv fu κ X h r out P1 P)
    refine js_aload_n (n := 8) X (dg dc_P_copyFrom 5 rfl) rfl rfl rfl ?_
    refine js_getf (j := 0) (v := .ref 7) (n := 11) X (dg dc_P_copyFrom 6 rfl) rfl hC_P (Nat.le_of_ble_eq_true rfl) hw_1 rfl rfl ?_
    refine js_iload_n (n := 12) X (dg dc_P_copyFrom 7 rfl) rfl rfl rfl ?_
    refine js_aload_n (n := 13) X (dg dc_P_copyFrom 8 rfl) rfl rfl rfl ?_
    refine js_getf (j := 0) (v := .ref 2) (n := 16) X (dg dc_P_copyFrom 9 rfl) rfl hC_P (Nat.le_of_ble_eq_true rfl) hw_1 rfl rfl ?_
    refine js_iload_n (n := 17) X (dg dc_P_copyFrom 10 rfl) rfl rfl rfl ?_
    refine js_iaload (f := P1.1) (n := 18) X (dg dc_P_copyFrom 11 rfl) rfl rfl ?_
    refine js_iastore (f := P.1) (n := 19) X (dg dc_P_copyFrom 12 rfl) rfl rfl ?_
    refine js_iinc (lo' := [some (.ref 6), some (.ref 1), some (.int (v2 + 1))]) (n := 22) 1 X (dg dc_P_copyFrom 13 rfl) rfl (by decide) (Nat.le_of_ble_eq_true rfl) rfl rfl ?_
    refine js_goto (t := 2) X (dg dc_P_copyFrom 14 rfl) (by decide) ?_
    exact js_keep [true, true, true] (ih ((upd P.1 (ix v2) (P1.1 (ix v2))), P.2) (v2 + 1))
set_option maxRecDepth 100000 in
set_option maxHeartbeats 4000000 in
theorem c_P_copyFrom_6_1 (l : Launch) (Dv : va_G) (fu : Nat) (h : S_H) (r : S_R) (out : Nat → Int64) (P : S_P) (P1 : S_P) : ev_M l Dv gaX mu_P_copyFrom [.ref 6, .ref 1] (hpW (P1, P, h.2.2) r out) (f_P_copyFrom fu P P1) (fun q => (none, hpW (P1, q, h.2.2) r out)) := by
  refine ev_met (lo0 := [some (.ref 6), some (.ref 1), none]) rfl rfl rfl (fun κ X => ?_)
  unfold f_P_copyFrom
  refine js_iconst (n := 1) 0 X (dg dc_P_copyFrom 0 rfl) rfl (by decide) ?_
  refine js_istore_n (lo' := [some (.ref 6), some (.ref 1), some (.int 0)]) (n := 2) X (dg dc_P_copyFrom 1 rfl) rfl rfl (Nat.le_of_ble_eq_true rfl) rfl ?_
  exact js_keep [true, true, true] (jl_P_copyFrom_6_1_L2 l Dv fu κ X h r out P1 fu P 0)
set_option maxRecDepth 100000 in
set_option maxHeartbeats 4000000 in
theorem c_P_start_6 (l : Launch) (Dv : va_G) (fu : Nat) (h : S_H) (r : S_R) (out : Nat → Int64) (P : S_P) (a1 : Int32) : ev_M l Dv gaX mu_P_start [.ref 6, .int a1] (hpW (h.1, P, h.2.2) r out) (f_P_start fu P a1) (fun q => (some (.int q), hpW (h.1, P, h.2.2) r out)) := by
  refine ev_met (lo0 := [some (.ref 6), some (.int a1)]) rfl rfl rfl (fun κ X => ?_)
  unfold f_P_start
  refine js_iload_n (n := 1) X (dg dc_P_start 0 rfl) rfl rfl rfl ?_
  refine js_lsw X (dg dc_P_start 1 rfl) (by decide) ?_
  refine js_sw1 28 (by decide) (by decide) ?_ ?_
  · refine js_iconst (n := 29) 0 X (dg dc_P_start 2 rfl) rfl (by decide) ?_
    exact js_retI X (dg dc_P_start 3 rfl) rfl (Nat.le_of_ble_eq_true rfl) (Nat.le_of_ble_eq_true rfl) rfl
  refine js_sw1 30 (by decide) (by decide) ?_ ?_
  · refine js_aload_n (n := 31) X (dg dc_P_start 4 rfl) rfl rfl rfl ?_
    refine js_getf (j := 0) (v := .ref 7) (n := 34) X (dg dc_P_start 5 rfl) rfl hC_P (Nat.le_of_ble_eq_true rfl) hw_1 rfl rfl ?_
    refine js_iconst (n := 35) 0 X (dg dc_P_start 6 rfl) rfl (by decide) ?_
    refine js_iaload (f := P.1) (n := 36) X (dg dc_P_start 7 rfl) rfl rfl ?_
    exact js_retI X (dg dc_P_start 8 rfl) rfl (Nat.le_of_ble_eq_true rfl) (Nat.le_of_ble_eq_true rfl) rfl
  refine js_sw0 37 (by decide) ?_
  refine js_aload_n (n := 38) X (dg dc_P_start 9 rfl) rfl rfl rfl ?_
  refine js_getf (j := 0) (v := .ref 7) (n := 41) X (dg dc_P_start 10 rfl) rfl hC_P (Nat.le_of_ble_eq_true rfl) hw_1 rfl rfl ?_
  refine js_iconst (n := 42) 0 X (dg dc_P_start 11 rfl) rfl (by decide) ?_
  refine js_iaload (f := P.1) (n := 43) X (dg dc_P_start 12 rfl) rfl rfl ?_
  refine js_aload_n (n := 44) X (dg dc_P_start 13 rfl) rfl rfl rfl ?_
  refine js_getf (j := 0) (v := .ref 7) (n := 47) X (dg dc_P_start 14 rfl) rfl hC_P (Nat.le_of_ble_eq_true rfl) hw_1 rfl rfl ?_
  refine js_iconst (n := 48) 1 X (dg dc_P_start 15 rfl) rfl (by decide) ?_
  refine js_iaload (f := P.1) (n := 49) X (dg dc_P_start 16 rfl) rfl rfl ?_
  refine js_iadd (n := 50) X (dg dc_P_start 17 rfl) rfl ?_
  exact js_retI X (dg dc_P_start 18 rfl) rfl (Nat.le_of_ble_eq_true rfl) (Nat.le_of_ble_eq_true rfl) rfl
set_option maxRecDepth 100000 in
set_option maxHeartbeats 4000000 in
theorem c_P_end_6 (l : Launch) (Dv : va_G) (fu : Nat) (h : S_H) (r : S_R) (out : Nat → Int64) (P : S_P) (a1 : Int32) : ev_M l Dv gaX mu_P_end [.ref 6, .int a1] (hpW (h.1, P, h.2.2) r out) (f_P_end fu P a1) (fun q => (some (.int q), hpW (h.1, P, h.2.2) r out)) := by
  refine ev_met (lo0 := [some (.ref 6), some (.int a1)]) rfl rfl rfl (fun κ X => ?_)
  unfold f_P_end
  refine js_aload_n (n := 1) X (dg dc_P_end 0 rfl) rfl rfl rfl ?_
  refine js_iload_n (n := 2) X (dg dc_P_end 1 rfl) rfl rfl rfl ?_
  refine js_callV (na := 1) (ci := 1) (n := 5) X (dg dc_P_end 2 rfl) rfl (c_P_start_6 l Dv fu (h.1, P, h.2.2) r out P a1) gV_P_24 rfl rfl hy_P_start ⟨(Nat.le_of_ble_eq_true rfl), (Nat.le_of_ble_eq_true rfl)⟩ rfl ⟨(Nat.le_of_ble_eq_true rfl), (Nat.le_of_ble_eq_true rfl)⟩ rfl rfl rfl rfl rfl ?_
  intro r2
  refine js_aload_n (n := 6) X (dg dc_P_end 3 rfl) rfl rfl rfl ?_
  refine js_getf (j := 0) (v := .ref 7) (n := 9) X (dg dc_P_end 4 rfl) rfl hC_P (Nat.le_of_ble_eq_true rfl) hw_1 rfl rfl ?_
  refine js_iload_n (n := 10) X (dg dc_P_end 5 rfl) rfl rfl rfl ?_
  refine js_iaload (f := P.1) (n := 11) X (dg dc_P_end 6 rfl) rfl rfl ?_
  refine js_iadd (n := 12) X (dg dc_P_end 7 rfl) rfl ?_
  exact js_retI X (dg dc_P_end 8 rfl) rfl (Nat.le_of_ble_eq_true rfl) (Nat.le_of_ble_eq_true rfl) rfl
set_option maxRecDepth 100000 in
set_option maxHeartbeats 4000000 in
theorem c_P_put_6 (l : Launch) (Dv : va_G) (fu : Nat) (h : S_H) (r : S_R) (out : Nat → Int64) (P : S_P) (a1 : Int32) (a2 : Int32) (a3 : Int32) (a4 : Int32) : ev_M l Dv gaX mu_P_put [.ref 6, .int a1, .int a2, .int a3, .int a4] (hpW (h.1, P, h.2.2) r out) (f_P_put fu P a1 a2 a3 a4) (fun q => (none, hpW (h.1, q, h.2.2) r out)) := by
  refine ev_met (lo0 := [some (.ref 6), some (.int a1), some (.int a2), some (.int a3), some (.int a4)]) rfl rfl rfl (fun κ X => ?_)
  unfold f_P_put
  refine js_aload_n (n := 1) X (dg dc_P_put 0 rfl) rfl rfl rfl ?_
  refine js_getf (j := 1) (v := .ref 8) (n := 4) X (dg dc_P_put 1 rfl) rfl hC_P (Nat.le_of_ble_eq_true rfl) hw_14 rfl rfl ?_
  refine js_iload_n (n := 5) X (dg dc_P_put 2 rfl) rfl rfl rfl ?_
  refine js_iload_n (n := 6) X (dg dc_P_put 3 rfl) rfl rfl rfl ?_
  refine js_iastore (f := P.2.1) (n := 7) X (dg dc_P_put 4 rfl) rfl rfl ?_
  refine js_aload_n (n := 8) X (dg dc_P_put 5 rfl) rfl rfl rfl ?_
  refine js_getf (j := 2) (v := .ref 9) (n := 11) X (dg dc_P_put 6 rfl) rfl hC_P (Nat.le_of_ble_eq_true rfl) hw_19 rfl rfl ?_
  refine js_iload_n (n := 12) X (dg dc_P_put 7 rfl) rfl rfl rfl ?_
  refine js_iload_n (n := 13) X (dg dc_P_put 8 rfl) rfl rfl rfl ?_
  refine js_iastore (f := P.2.2.1) (n := 14) X (dg dc_P_put 9 rfl) rfl rfl ?_
  refine js_aload_n (n := 15) X (dg dc_P_put 10 rfl) rfl rfl rfl ?_
  refine js_getf (j := 3) (v := .ref 10) (n := 18) X (dg dc_P_put 11 rfl) rfl hC_P (Nat.le_of_ble_eq_true rfl) hw_20 rfl rfl ?_
  refine js_iload_n (n := 19) X (dg dc_P_put 12 rfl) rfl rfl rfl ?_
  refine js_iload (n := 21) X (dg dc_P_put 13 rfl) rfl rfl ?_
  refine js_iastore (f := P.2.2.2) (n := 22) X (dg dc_P_put 14 rfl) rfl rfl ?_
  exact js_retV X (dg dc_P_put 15 rfl) rfl (Nat.le_of_ble_eq_true rfl) (Nat.le_of_ble_eq_true rfl) rfl
set_option maxRecDepth 100000 in
set_option maxHeartbeats 4000000 in
theorem jl_P_shiftUp_6_L2 (l : Launch) (Dv : va_G) (fu : Nat) (κ : ev_ka) (X : ev_X l Dv gaX mu_P_shiftUp κ) (h : S_H) (r : S_R) (out : Nat → Int64) : ∀ (n : Nat) (P : S_P) (v1 : Int32) (v3 : Int32), ev_J l Dv gaX mu_P_shiftUp κ 2 0 0 [some (.ref 6), some (.int v1), none, some (.int v3)] [] (hpW (h.1, P, h.2.2) r out) (f_P_shiftUp_L2 fu n P v1 v3) (fun q => (none, hpW (h.1, q, h.2.2) r out)) := by
  intro n
  induction n with
  | zero => exact fun _ _ _ => js_none
  | succ n ih =>
    intro P v1 v3
    unfold f_P_shiftUp_L2
    refine js_iload_n (n := 3) X (dg dc_P_shiftUp 2 rfl) rfl rfl rfl ?_
    refine js_iload_n (n := 4) X (dg dc_P_shiftUp 3 rfl) rfl rfl rfl ?_
    refine js_icmp_le (t := 42) (n := 7) X (dg dc_P_shiftUp 4 rfl) (by decide) rfl ?_ ?_
    · exact js_retV X (dg dc_P_shiftUp 28 rfl) rfl (Nat.le_of_ble_eq_true rfl) (Nat.le_of_ble_eq_true rfl) rfl
    refine js_aload_n (n := 8) X (dg dc_P_shiftUp 5 rfl) rfl rfl rfl ?_
    refine js_iload_n (n := 9) X (dg dc_P_shiftUp 6 rfl) rfl rfl rfl ?_
    refine js_aload_n (n := 10) X (dg dc_P_shiftUp 7 rfl) rfl rfl rfl ?_
    refine js_getf (j := 1) (v := .ref 8) (n := 13) X (dg dc_P_shiftUp 8 rfl) rfl hC_P (Nat.le_of_ble_eq_true rfl) hw_14 rfl rfl ?_
    refine js_iload_n (n := 14) X (dg dc_P_shiftUp 9 rfl) rfl rfl rfl ?_
    refine js_iconst (n := 15) 1 X (dg dc_P_shiftUp 10 rfl) rfl (by decide) ?_
    refine js_isub (n := 16) X (dg dc_P_shiftUp 11 rfl) rfl ?_
    refine js_iaload (f := P.2.1) (n := 17) X (dg dc_P_shiftUp 12 rfl) rfl rfl ?_
    refine js_aload_n (n := 18) X (dg dc_P_shiftUp 13 rfl) rfl rfl rfl ?_
    refine js_getf (j := 2) (v := .ref 9) (n := 21) X (dg dc_P_shiftUp 14 rfl) rfl hC_P (Nat.le_of_ble_eq_true rfl) hw_19 rfl rfl ?_
    refine js_iload_n (n := 22) X (dg dc_P_shiftUp 15 rfl) rfl rfl rfl ?_
    refine js_iconst (n := 23) 1 X (dg dc_P_shiftUp 16 rfl) rfl (by decide) ?_
    refine js_isub (n := 24) X (dg dc_P_shiftUp 17 rfl) rfl ?_
    refine js_iaload (f := P.2.2.1) (n := 25) X (dg dc_P_shiftUp 18 rfl) rfl rfl ?_
    refine js_aload_n (n := 26) X (dg dc_P_shiftUp 19 rfl) rfl rfl rfl ?_
    refine js_getf (j := 3) (v := .ref 10) (n := 29) X (dg dc_P_shiftUp 20 rfl) rfl hC_P (Nat.le_of_ble_eq_true rfl) hw_20 rfl rfl ?_
    refine js_iload_n (n := 30) X (dg dc_P_shiftUp 21 rfl) rfl rfl rfl ?_
    refine js_iconst (n := 31) 1 X (dg dc_P_shiftUp 22 rfl) rfl (by decide) ?_
    refine js_isub (n := 32) X (dg dc_P_shiftUp 23 rfl) rfl ?_
    refine js_iaload (f := P.2.2.2) (n := 33) X (dg dc_P_shiftUp 24 rfl) rfl rfl ?_
    refine js_callV (na := 4) (ci := 1) (n := 36) X (dg dc_P_shiftUp 25 rfl) rfl (c_P_put_6 l Dv fu (h.1, P, h.2.2) r out P v3 (P.2.1 (ix (v3 - 1))) (P.2.2.1 (ix (v3 - 1))) (P.2.2.2 (ix (v3 - 1)))) gV_P_48 rfl rfl hy_P_put ⟨(Nat.le_of_ble_eq_true rfl), (Nat.le_of_ble_eq_true rfl)⟩ rfl ⟨(Nat.le_of_ble_eq_true rfl), (Nat.le_of_ble_eq_true rfl)⟩ rfl rfl rfl rfl rfl ?_
    intro P_33
    refine js_iinc (lo' := [some (.ref 6), some (.int v1), none, some (.int (v3 + (-1)))]) (n := 39) (-1) X (dg dc_P_shiftUp 26 rfl) rfl (by decide) (Nat.le_of_ble_eq_true rfl) rfl rfl ?_
    refine js_goto (t := 2) X (dg dc_P_shiftUp 27 rfl) (by decide) ?_
    exact js_keep [true, true, false, true] (ih P_33 v1 (v3 + (-1)))
set_option maxRecDepth 100000 in
set_option maxHeartbeats 4000000 in
theorem c_P_shiftUp_6 (l : Launch) (Dv : va_G) (fu : Nat) (h : S_H) (r : S_R) (out : Nat → Int64) (P : S_P) (a1 : Int32) (a2 : Int32) : ev_M l Dv gaX mu_P_shiftUp [.ref 6, .int a1, .int a2] (hpW (h.1, P, h.2.2) r out) (f_P_shiftUp fu P a1 a2) (fun q => (none, hpW (h.1, q, h.2.2) r out)) := by
  refine ev_met (lo0 := [some (.ref 6), some (.int a1), some (.int a2), none]) rfl rfl rfl (fun κ X => ?_)
  unfold f_P_shiftUp
  refine js_iload_n (n := 1) X (dg dc_P_shiftUp 0 rfl) rfl rfl rfl ?_
  refine js_istore_n (lo' := [some (.ref 6), some (.int a1), some (.int a2), some (.int a2)]) (n := 2) X (dg dc_P_shiftUp 1 rfl) rfl rfl (Nat.le_of_ble_eq_true rfl) rfl ?_
  exact js_keep [true, true, false, true] (jl_P_shiftUp_6_L2 l Dv fu κ X h r out fu P a1 a2)
set_option maxRecDepth 100000 in
set_option maxHeartbeats 4000000 in
theorem jl_P_renumber_6_L8 (l : Launch) (Dv : va_G) (fu : Nat) (κ : ev_ka) (X : ev_X l Dv gaX mu_P_renumber κ) (h : S_H) (r : S_R) (out : Nat → Int64) : ∀ (n : Nat) (P : S_P) (v1 : Int32) (v2 : Int32) (v3 : Int32) (v4 : Int32), ev_J l Dv gaX mu_P_renumber κ 8 0 0 [some (.ref 6), some (.int v1), some (.int v2), some (.int v3), some (.int v4)] [] (hpW (h.1, P, h.2.2) r out) (f_P_renumber_L8 fu n P v1 v2 v3 v4) (fun q => (none, hpW (h.1, q, h.2.2) r out)) := by
  intro n
  induction n with
  | zero => exact fun _ _ _ _ _ => js_none
  | succ n ih =>
    intro P v1 v2 v3 v4
    unfold f_P_renumber_L8
    refine js_iload (n := 10) X (dg dc_P_renumber 5 rfl) rfl rfl ?_
    refine js_iload_n (n := 11) X (dg dc_P_renumber 6 rfl) rfl rfl rfl ?_
    refine js_icmp_ge (t := 45) (n := 14) X (dg dc_P_renumber 7 rfl) (by decide) rfl ?_ ?_
    · exact js_retV X (dg dc_P_renumber 26 rfl) rfl (Nat.le_of_ble_eq_true rfl) (Nat.le_of_ble_eq_true rfl) rfl
    refine js_aload_n (n := 15) X (dg dc_P_renumber 8 rfl) rfl rfl rfl ?_
    refine js_getf (j := 3) (v := .ref 10) (n := 18) X (dg dc_P_renumber 9 rfl) rfl hC_P (Nat.le_of_ble_eq_true rfl) hw_20 rfl rfl ?_
    refine js_iload (n := 20) X (dg dc_P_renumber 10 rfl) rfl rfl ?_
    refine js_iaload (f := P.2.2.2) (n := 21) X (dg dc_P_renumber 11 rfl) rfl rfl ?_
    refine js_bipush (n := 23) 8 X (dg dc_P_renumber 12 rfl) rfl (by decide) ?_
    refine js_iload_n (n := 24) X (dg dc_P_renumber 13 rfl) rfl rfl rfl ?_
    refine js_iadd (n := 25) X (dg dc_P_renumber 14 rfl) rfl ?_
    refine js_icmp_lt (t := 39) (n := 28) X (dg dc_P_renumber 15 rfl) (by decide) rfl ?_ ?_
    · refine js_iinc (lo' := [some (.ref 6), some (.int v1), some (.int v2), some (.int v3), some (.int (v4 + 1))]) (n := 42) 1 X (dg dc_P_renumber 24 rfl) rfl (by decide) (Nat.le_of_ble_eq_true rfl) rfl rfl ?_
      refine js_goto (t := 8) X (dg dc_P_renumber 25 rfl) (by decide) ?_
      exact js_keep [true, true, true, true, true] (ih P v1 v2 v3 (v4 + 1))
    refine js_aload_n (n := 29) X (dg dc_P_renumber 16 rfl) rfl rfl rfl ?_
    refine js_getf (j := 3) (v := .ref 10) (n := 32) X (dg dc_P_renumber 17 rfl) rfl hC_P (Nat.le_of_ble_eq_true rfl) hw_20 rfl rfl ?_
    refine js_iload (n := 34) X (dg dc_P_renumber 18 rfl) rfl rfl ?_
    refine js_dup2 (n := 35) X (dg dc_P_renumber 19 rfl) rfl rfl rfl ?_
    refine js_iaload (f := P.2.2.2) (n := 36) X (dg dc_P_renumber 20 rfl) rfl rfl ?_
    refine js_iload_n (n := 37) X (dg dc_P_renumber 21 rfl) rfl rfl rfl ?_
    refine js_iadd (n := 38) X (dg dc_P_renumber 22 rfl) rfl ?_
    refine js_iastore (f := P.2.2.2) (n := 39) X (dg dc_P_renumber 23 rfl) rfl rfl ?_
    refine js_iinc (lo' := [some (.ref 6), some (.int v1), some (.int v2), some (.int v3), some (.int (v4 + 1))]) (n := 42) 1 X (dg dc_P_renumber 24 rfl) rfl (by decide) (Nat.le_of_ble_eq_true rfl) rfl rfl ?_
    refine js_goto (t := 8) X (dg dc_P_renumber 25 rfl) (by decide) ?_
    exact js_keep [true, true, true, true, true] (ih (P.1, P.2.1, P.2.2.1, (upd P.2.2.2 (ix v4) ((P.2.2.2 (ix v4)) + v2))) v1 v2 v3 (v4 + 1))
set_option maxRecDepth 100000 in
set_option maxHeartbeats 4000000 in
theorem c_P_renumber_6 (l : Launch) (Dv : va_G) (fu : Nat) (h : S_H) (r : S_R) (out : Nat → Int64) (P : S_P) (a1 : Int32) (a2 : Int32) : ev_M l Dv gaX mu_P_renumber [.ref 6, .int a1, .int a2] (hpW (h.1, P, h.2.2) r out) (f_P_renumber fu P a1 a2) (fun q => (none, hpW (h.1, q, h.2.2) r out)) := by
  refine ev_met (lo0 := [some (.ref 6), some (.int a1), some (.int a2), none, none]) rfl rfl rfl (fun κ X => ?_)
  unfold f_P_renumber
  refine js_aload_n (n := 1) X (dg dc_P_renumber 0 rfl) rfl rfl rfl ?_
  refine js_callV (na := 0) (ci := 1) (n := 4) X (dg dc_P_renumber 1 rfl) rfl (c_P_size_6 l Dv fu (h.1, P, h.2.2) r out P) gV_P_31 rfl rfl hy_P_size ⟨(Nat.le_of_ble_eq_true rfl), (Nat.le_of_ble_eq_true rfl)⟩ rfl ⟨(Nat.le_of_ble_eq_true rfl), (Nat.le_of_ble_eq_true rfl)⟩ rfl rfl rfl rfl rfl ?_
  intro r1
  refine js_istore_n (lo' := [some (.ref 6), some (.int a1), some (.int a2), some (.int r1), none]) (n := 5) X (dg dc_P_renumber 2 rfl) rfl rfl (Nat.le_of_ble_eq_true rfl) rfl ?_
  refine js_iconst (n := 6) 0 X (dg dc_P_renumber 3 rfl) rfl (by decide) ?_
  refine js_istore (lo' := [some (.ref 6), some (.int a1), some (.int a2), some (.int r1), some (.int 0)]) (n := 8) X (dg dc_P_renumber 4 rfl) rfl (Nat.le_of_ble_eq_true rfl) rfl ?_
  exact js_keep [true, true, true, true, true] (jl_P_renumber_6_L8 l Dv fu κ X h r out fu P a1 a2 r1 0)
set_option maxRecDepth 100000 in
set_option maxHeartbeats 4000000 in
theorem c_P_append_6 (l : Launch) (Dv : va_G) (fu : Nat) (h : S_H) (r : S_R) (out : Nat → Int64) (P : S_P) (a1 : Int32) (a2 : Int32) (a3 : Int32) (a4 : Int32) : ev_M l Dv gaX mu_P_append [.ref 6, .int a1, .int a2, .int a3, .int a4] (hpW (h.1, P, h.2.2) r out) (f_P_append fu P a1 a2 a3 a4) (fun q => (none, hpW (h.1, q, h.2.2) r out)) := by
  refine ev_met (lo0 := [some (.ref 6), some (.int a1), some (.int a2), some (.int a3), some (.int a4), none]) rfl rfl rfl (fun κ X => ?_)
  unfold f_P_append
  refine js_aload_n (n := 1) X (dg dc_P_append 0 rfl) rfl rfl rfl ?_
  refine js_iload_n (n := 2) X (dg dc_P_append 1 rfl) rfl rfl rfl ?_
  refine js_callV (na := 1) (ci := 1) (n := 5) X (dg dc_P_append 2 rfl) rfl (c_P_end_6 l Dv fu (h.1, P, h.2.2) r out P a1) gV_P_28 rfl rfl hy_P_end ⟨(Nat.le_of_ble_eq_true rfl), (Nat.le_of_ble_eq_true rfl)⟩ rfl ⟨(Nat.le_of_ble_eq_true rfl), (Nat.le_of_ble_eq_true rfl)⟩ rfl rfl rfl rfl rfl ?_
  intro r2
  refine js_istore (lo' := [some (.ref 6), some (.int a1), some (.int a2), some (.int a3), some (.int a4), some (.int r2)]) (n := 7) X (dg dc_P_append 3 rfl) rfl (Nat.le_of_ble_eq_true rfl) rfl ?_
  refine js_aload_n (n := 8) X (dg dc_P_append 4 rfl) rfl rfl rfl ?_
  refine js_iload (n := 10) X (dg dc_P_append 5 rfl) rfl rfl ?_
  refine js_aload_n (n := 11) X (dg dc_P_append 6 rfl) rfl rfl rfl ?_
  refine js_callV (na := 0) (ci := 1) (n := 14) X (dg dc_P_append 7 rfl) rfl (c_P_size_6 l Dv fu (h.1, P, h.2.2) r out P) gV_P_31 rfl rfl hy_P_size ⟨(Nat.le_of_ble_eq_true rfl), (Nat.le_of_ble_eq_true rfl)⟩ rfl ⟨(Nat.le_of_ble_eq_true rfl), (Nat.le_of_ble_eq_true rfl)⟩ rfl rfl rfl rfl rfl ?_
  intro r11
  refine js_callV (na := 2) (ci := 1) (n := 17) X (dg dc_P_append 8 rfl) rfl (c_P_shiftUp_6 l Dv fu (h.1, P, h.2.2) r out P r2 r11) gV_P_41 rfl rfl hy_P_shiftUp ⟨(Nat.le_of_ble_eq_true rfl), (Nat.le_of_ble_eq_true rfl)⟩ rfl ⟨(Nat.le_of_ble_eq_true rfl), (Nat.le_of_ble_eq_true rfl)⟩ rfl rfl rfl rfl rfl ?_
  intro P_14
  refine js_aload_n (n := 18) X (dg dc_P_append 9 rfl) rfl rfl rfl ?_
  refine js_getf (j := 0) (v := .ref 7) (n := 21) X (dg dc_P_append 10 rfl) rfl hC_P (Nat.le_of_ble_eq_true rfl) hw_1 rfl rfl ?_
  refine js_iload_n (n := 22) X (dg dc_P_append 11 rfl) rfl rfl rfl ?_
  refine js_dup2 (n := 23) X (dg dc_P_append 12 rfl) rfl rfl rfl ?_
  refine js_iaload (f := P_14.1) (n := 24) X (dg dc_P_append 13 rfl) rfl rfl ?_
  refine js_iconst (n := 25) 1 X (dg dc_P_append 14 rfl) rfl (by decide) ?_
  refine js_iadd (n := 26) X (dg dc_P_append 15 rfl) rfl ?_
  refine js_iastore (f := P_14.1) (n := 27) X (dg dc_P_append 16 rfl) rfl rfl ?_
  refine js_aload_n (n := 28) X (dg dc_P_append 17 rfl) rfl rfl rfl ?_
  refine js_iload (n := 30) X (dg dc_P_append 18 rfl) rfl rfl ?_
  refine js_iconst (n := 31) 1 X (dg dc_P_append 19 rfl) rfl (by decide) ?_
  refine js_callV (na := 2) (ci := 1) (n := 34) X (dg dc_P_append 20 rfl) rfl (c_P_renumber_6 l Dv fu (h.1, ((upd P_14.1 (ix a1) ((P_14.1 (ix a1)) + 1)), P_14.2), h.2.2) r out ((upd P_14.1 (ix a1) ((P_14.1 (ix a1)) + 1)), P_14.2) r2 1) gV_P_45 rfl rfl hy_P_renumber ⟨(Nat.le_of_ble_eq_true rfl), (Nat.le_of_ble_eq_true rfl)⟩ rfl ⟨(Nat.le_of_ble_eq_true rfl), (Nat.le_of_ble_eq_true rfl)⟩ rfl rfl rfl rfl rfl ?_
  intro P_31
  refine js_aload_n (n := 35) X (dg dc_P_append 21 rfl) rfl rfl rfl ?_
  refine js_iload (n := 37) X (dg dc_P_append 22 rfl) rfl rfl ?_
  refine js_iload_n (n := 38) X (dg dc_P_append 23 rfl) rfl rfl rfl ?_
  refine js_iload_n (n := 39) X (dg dc_P_append 24 rfl) rfl rfl rfl ?_
  refine js_iload (n := 41) X (dg dc_P_append 25 rfl) rfl rfl ?_
  refine js_callV (na := 4) (ci := 1) (n := 44) X (dg dc_P_append 26 rfl) rfl (c_P_put_6 l Dv fu (h.1, P_31, h.2.2) r out P_31 r2 a2 a3 a4) gV_P_48 rfl rfl hy_P_put ⟨(Nat.le_of_ble_eq_true rfl), (Nat.le_of_ble_eq_true rfl)⟩ rfl ⟨(Nat.le_of_ble_eq_true rfl), (Nat.le_of_ble_eq_true rfl)⟩ rfl rfl rfl rfl rfl ?_
  intro P_41
  exact js_retV X (dg dc_P_append 27 rfl) rfl (Nat.le_of_ble_eq_true rfl) (Nat.le_of_ble_eq_true rfl) rfl
set_option maxRecDepth 100000 in
set_option maxHeartbeats 4000000 in
theorem c_O_isOpen (l : Launch) (Dv : va_G) (fu : Nat) (hp : ev_H) (a0 : Int32) (a1 : Int32) : ev_M l Dv gaX mu_O_isOpen [.int a0, .int a1] (hp) (f_O_isOpen fu a0 a1) (fun q => (some (.int q), hp)) := by
  refine ev_met (lo0 := [some (.int a0), some (.int a1)]) rfl rfl rfl (fun κ X => ?_)
  unfold f_O_isOpen
  refine js_iload_n (n := 1) X (dg dc_O_isOpen 0 rfl) rfl rfl rfl ?_
  refine js_iconst (n := 2) 4 X (dg dc_O_isOpen 1 rfl) rfl (by decide) ?_
  refine js_iload_n (n := 3) X (dg dc_O_isOpen 2 rfl) rfl rfl rfl ?_
  refine js_imul (n := 4) X (dg dc_O_isOpen 3 rfl) rfl ?_
  refine js_ishr (n := 5) X (dg dc_O_isOpen 4 rfl) rfl ?_
  refine js_bipush (n := 7) 8 X (dg dc_O_isOpen 5 rfl) rfl (by decide) ?_
  refine js_iand (n := 8) X (dg dc_O_isOpen 6 rfl) rfl ?_
  refine js_if_eq (t := 15) (n := 11) X (dg dc_O_isOpen 7 rfl) (by decide) rfl ?_ ?_
  · refine js_iconst (n := 16) 0 X (dg dc_O_isOpen 10 rfl) rfl (by decide) ?_
    exact js_retZ X (dg dc_O_isOpen 11 rfl) rfl (Nat.le_of_ble_eq_true rfl) (Nat.le_of_ble_eq_true rfl) rfl
  refine js_iconst (n := 12) 1 X (dg dc_O_isOpen 8 rfl) rfl (by decide) ?_
  refine js_goto (t := 16) X (dg dc_O_isOpen 9 rfl) (by decide) ?_
  exact js_retZ X (dg dc_O_isOpen 11 rfl) rfl (Nat.le_of_ble_eq_true rfl) (Nat.le_of_ble_eq_true rfl) rfl
set_option maxRecDepth 100000 in
set_option maxHeartbeats 4000000 in
theorem c_O_source (l : Launch) (Dv : va_G) (fu : Nat) (hp : ev_H) (a0 : Int32) : ev_M l Dv gaX mu_O_source [.int a0] (hp) (f_O_source fu a0) (fun q => (some (.int q), hp)) := by
  refine ev_met (lo0 := [some (.int a0)]) rfl rfl rfl (fun κ X => ?_)
  unfold f_O_source
  refine js_iload_n (n := 1) X (dg dc_O_source 0 rfl) rfl rfl rfl ?_
  refine js_iconst (n := 2) 1 X (dg dc_O_source 1 rfl) rfl (by decide) ?_
  refine js_iadd (n := 3) X (dg dc_O_source 2 rfl) rfl ?_
  refine js_iconst (n := 4) 3 X (dg dc_O_source 3 rfl) rfl (by decide) ?_
  refine js_irem (n := 5) X (dg dc_O_source 4 rfl) rfl ?_
  exact js_retI X (dg dc_O_source 5 rfl) rfl (Nat.le_of_ble_eq_true rfl) (Nat.le_of_ble_eq_true rfl) rfl
set_option maxRecDepth 100000 in
set_option maxHeartbeats 4000000 in
theorem c_O_allows (l : Launch) (Dv : va_G) (fu : Nat) (hp : ev_H) (a0 : Int32) (a1 : Int32) (a2 : Int32) : ev_M l Dv gaX mu_O_allows [.int a0, .int a1, .int a2] (hp) (f_O_allows fu a0 a1 a2) (fun q => (some (.int q), hp)) := by
  refine ev_met (lo0 := [some (.int a0), some (.int a1), some (.int a2)]) rfl rfl rfl (fun κ X => ?_)
  unfold f_O_allows
  refine js_iload_n (n := 1) X (dg dc_O_allows 0 rfl) rfl rfl rfl ?_
  refine js_lsw X (dg dc_O_allows 1 rfl) (by decide) ?_
  refine js_sw1 28 (by decide) (by decide) ?_ ?_
  · refine js_iload_n (n := 29) X (dg dc_O_allows 2 rfl) rfl rfl rfl ?_
    refine js_iload_n (n := 30) X (dg dc_O_allows 3 rfl) rfl rfl rfl ?_
    refine js_callS (na := 2) (n := 33) X (dg dc_O_allows 4 rfl) rfl (c_O_isOpen l Dv fu _ a0 a2) gS_O_11 rfl rfl hy_O_isOpen.2 ⟨(Nat.le_of_ble_eq_true rfl), (Nat.le_of_ble_eq_true rfl)⟩ ⟨(Nat.le_of_ble_eq_true rfl), (Nat.le_of_ble_eq_true rfl)⟩ rfl rfl rfl rfl ?_
    intro r30
    refine js_if_ne (t := 40) (n := 36) X (dg dc_O_allows 5 rfl) (by decide) rfl ?_ ?_
    · refine js_iconst (n := 41) 0 X (dg dc_O_allows 8 rfl) rfl (by decide) ?_
      exact js_retZ X (dg dc_O_allows 9 rfl) rfl (Nat.le_of_ble_eq_true rfl) (Nat.le_of_ble_eq_true rfl) rfl
    refine js_iconst (n := 37) 1 X (dg dc_O_allows 6 rfl) rfl (by decide) ?_
    refine js_goto (t := 41) X (dg dc_O_allows 7 rfl) (by decide) ?_
    exact js_retZ X (dg dc_O_allows 9 rfl) rfl (Nat.le_of_ble_eq_true rfl) (Nat.le_of_ble_eq_true rfl) rfl
  refine js_sw1 42 (by decide) (by decide) ?_ ?_
  · refine js_iload_n (n := 43) X (dg dc_O_allows 10 rfl) rfl rfl rfl ?_
    refine js_iload_n (n := 44) X (dg dc_O_allows 11 rfl) rfl rfl rfl ?_
    refine js_callS (na := 2) (n := 47) X (dg dc_O_allows 12 rfl) rfl (c_O_isOpen l Dv fu _ a0 a2) gS_O_11 rfl rfl hy_O_isOpen.2 ⟨(Nat.le_of_ble_eq_true rfl), (Nat.le_of_ble_eq_true rfl)⟩ ⟨(Nat.le_of_ble_eq_true rfl), (Nat.le_of_ble_eq_true rfl)⟩ rfl rfl rfl rfl ?_
    intro r44
    refine js_if_eq (t := 65) (n := 50) X (dg dc_O_allows 13 rfl) (by decide) rfl ?_ ?_
    · refine js_iconst (n := 66) 0 X (dg dc_O_allows 21 rfl) rfl (by decide) ?_
      exact js_retZ X (dg dc_O_allows 22 rfl) rfl (Nat.le_of_ble_eq_true rfl) (Nat.le_of_ble_eq_true rfl) rfl
    refine js_iload_n (n := 51) X (dg dc_O_allows 14 rfl) rfl rfl rfl ?_
    refine js_iload_n (n := 52) X (dg dc_O_allows 15 rfl) rfl rfl rfl ?_
    refine js_callS (na := 1) (n := 55) X (dg dc_O_allows 16 rfl) rfl (c_O_source l Dv fu _ a2) gS_O_15 rfl rfl hy_O_source.2 ⟨(Nat.le_of_ble_eq_true rfl), (Nat.le_of_ble_eq_true rfl)⟩ ⟨(Nat.le_of_ble_eq_true rfl), (Nat.le_of_ble_eq_true rfl)⟩ rfl rfl rfl rfl ?_
    intro r52
    refine js_callS (na := 2) (n := 58) X (dg dc_O_allows 17 rfl) rfl (c_O_isOpen l Dv fu _ a0 r52) gS_O_11 rfl rfl hy_O_isOpen.2 ⟨(Nat.le_of_ble_eq_true rfl), (Nat.le_of_ble_eq_true rfl)⟩ ⟨(Nat.le_of_ble_eq_true rfl), (Nat.le_of_ble_eq_true rfl)⟩ rfl rfl rfl rfl ?_
    intro r55
    refine js_if_eq (t := 65) (n := 61) X (dg dc_O_allows 18 rfl) (by decide) rfl ?_ ?_
    · refine js_iconst (n := 66) 0 X (dg dc_O_allows 21 rfl) rfl (by decide) ?_
      exact js_retZ X (dg dc_O_allows 22 rfl) rfl (Nat.le_of_ble_eq_true rfl) (Nat.le_of_ble_eq_true rfl) rfl
    refine js_iconst (n := 62) 1 X (dg dc_O_allows 19 rfl) rfl (by decide) ?_
    refine js_goto (t := 66) X (dg dc_O_allows 20 rfl) (by decide) ?_
    exact js_retZ X (dg dc_O_allows 22 rfl) rfl (Nat.le_of_ble_eq_true rfl) (Nat.le_of_ble_eq_true rfl) rfl
  refine js_sw0 67 (by decide) ?_
  refine js_iload_n (n := 68) X (dg dc_O_allows 23 rfl) rfl rfl rfl ?_
  refine js_iload_n (n := 69) X (dg dc_O_allows 24 rfl) rfl rfl rfl ?_
  refine js_callS (na := 2) (n := 72) X (dg dc_O_allows 25 rfl) rfl (c_O_isOpen l Dv fu _ a0 a2) gS_O_11 rfl rfl hy_O_isOpen.2 ⟨(Nat.le_of_ble_eq_true rfl), (Nat.le_of_ble_eq_true rfl)⟩ ⟨(Nat.le_of_ble_eq_true rfl), (Nat.le_of_ble_eq_true rfl)⟩ rfl rfl rfl rfl ?_
  intro r69
  exact js_retZ X (dg dc_O_allows 26 rfl) rfl (Nat.le_of_ble_eq_true rfl) (Nat.le_of_ble_eq_true rfl) rfl
set_option maxRecDepth 100000 in
set_option maxHeartbeats 4000000 in
theorem c_O_content (l : Launch) (Dv : va_G) (fu : Nat) (hp : ev_H) (a0 : Int32) (a1 : Int32) : ev_M l Dv gaX mu_O_content [.int a0, .int a1] (hp) (f_O_content fu a0 a1) (fun q => (some (.int q), hp)) := by
  refine ev_met (lo0 := [some (.int a0), some (.int a1)]) rfl rfl rfl (fun κ X => ?_)
  unfold f_O_content
  refine js_iload_n (n := 1) X (dg dc_O_content 0 rfl) rfl rfl rfl ?_
  refine js_iconst (n := 2) 4 X (dg dc_O_content 1 rfl) rfl (by decide) ?_
  refine js_iload_n (n := 3) X (dg dc_O_content 2 rfl) rfl rfl rfl ?_
  refine js_imul (n := 4) X (dg dc_O_content 3 rfl) rfl ?_
  refine js_ishr (n := 5) X (dg dc_O_content 4 rfl) rfl ?_
  refine js_bipush (n := 7) 15 X (dg dc_O_content 5 rfl) rfl (by decide) ?_
  refine js_iand (n := 8) X (dg dc_O_content 6 rfl) rfl ?_
  exact js_retI X (dg dc_O_content 7 rfl) rfl (Nat.le_of_ble_eq_true rfl) (Nat.le_of_ble_eq_true rfl) rfl
set_option maxRecDepth 100000 in
set_option maxHeartbeats 4000000 in
theorem c_O_held (l : Launch) (Dv : va_G) (fu : Nat) (hp : ev_H) (a0 : Int32) (a1 : Int32) : ev_M l Dv gaX mu_O_held [.int a0, .int a1] (hp) (f_O_held fu a0 a1) (fun q => (some (.int q), hp)) := by
  refine ev_met (lo0 := [some (.int a0), some (.int a1)]) rfl rfl rfl (fun κ X => ?_)
  unfold f_O_held
  refine js_iload_n (n := 1) X (dg dc_O_held 0 rfl) rfl rfl rfl ?_
  refine js_iconst (n := 2) 4 X (dg dc_O_held 1 rfl) rfl (by decide) ?_
  refine js_iload_n (n := 3) X (dg dc_O_held 2 rfl) rfl rfl rfl ?_
  refine js_imul (n := 4) X (dg dc_O_held 3 rfl) rfl ?_
  refine js_ishr (n := 5) X (dg dc_O_held 4 rfl) rfl ?_
  refine js_bipush (n := 7) 7 X (dg dc_O_held 5 rfl) rfl (by decide) ?_
  refine js_iand (n := 8) X (dg dc_O_held 6 rfl) rfl ?_
  exact js_retI X (dg dc_O_held 7 rfl) rfl (Nat.le_of_ble_eq_true rfl) (Nat.le_of_ble_eq_true rfl) rfl
set_option maxRecDepth 100000 in
set_option maxHeartbeats 4000000 in
theorem jl_O_after_L118 (l : Launch) (Dv : va_G) (fu : Nat) (κ : ev_ka) (X : ev_X l Dv gaX mu_O_after κ) (hp : ev_H) (v0 : Int32) (v2 : Int32) (v6 : Int32) : ev_J l Dv gaX mu_O_after κ 118 0 0 [some (.int v0), none, some (.int v2), none, none, none, some (.int v6)] [] (hp) (f_O_after_L118 fu v0 v2 v6) (fun q => (some (.int q), hp)) := by
  unfold f_O_after_L118
  refine js_iload_n (n := 119) X (dg dc_O_after 44 rfl) rfl rfl rfl ?_
  refine js_bipush (n := 121) 15 X (dg dc_O_after 45 rfl) rfl (by decide) ?_
  refine js_iconst (n := 122) 4 X (dg dc_O_after 46 rfl) rfl (by decide) ?_
  refine js_iload_n (n := 123) X (dg dc_O_after 47 rfl) rfl rfl rfl ?_
  refine js_imul (n := 124) X (dg dc_O_after 48 rfl) rfl ?_
  refine js_ishl (n := 125) X (dg dc_O_after 49 rfl) rfl ?_
  refine js_iconst (n := 126) (-1) X (dg dc_O_after 50 rfl) rfl (by decide) ?_
  refine js_ixor (n := 127) X (dg dc_O_after 51 rfl) rfl ?_
  refine js_iand (n := 128) X (dg dc_O_after 52 rfl) rfl ?_
  refine js_iload (n := 130) X (dg dc_O_after 53 rfl) rfl rfl ?_
  refine js_iconst (n := 131) 4 X (dg dc_O_after 54 rfl) rfl (by decide) ?_
  refine js_iload_n (n := 132) X (dg dc_O_after 55 rfl) rfl rfl rfl ?_
  refine js_imul (n := 133) X (dg dc_O_after 56 rfl) rfl ?_
  refine js_ishl (n := 134) X (dg dc_O_after 57 rfl) rfl ?_
  refine js_ior (n := 135) X (dg dc_O_after 58 rfl) rfl ?_
  exact js_retI X (dg dc_O_after 59 rfl) rfl (Nat.le_of_ble_eq_true rfl) (Nat.le_of_ble_eq_true rfl) rfl
set_option maxRecDepth 100000 in
set_option maxHeartbeats 4000000 in
theorem c_O_after (l : Launch) (Dv : va_G) (fu : Nat) (hp : ev_H) (a0 : Int32) (a1 : Int32) (a2 : Int32) (a3 : Int32) : ev_M l Dv gaX mu_O_after [.int a0, .int a1, .int a2, .int a3] (hp) (f_O_after fu a0 a1 a2 a3) (fun q => (some (.int q), hp)) := by
  refine ev_met (lo0 := [some (.int a0), some (.int a1), some (.int a2), some (.int a3), none, none, none]) rfl rfl rfl (fun κ X => ?_)
  unfold f_O_after
  refine js_iload_n (n := 1) X (dg dc_O_after 0 rfl) rfl rfl rfl ?_
  refine js_iload_n (n := 2) X (dg dc_O_after 1 rfl) rfl rfl rfl ?_
  refine js_callS (na := 2) (n := 5) X (dg dc_O_after 2 rfl) rfl (c_O_content l Dv fu _ a0 a2) gS_O_23 rfl rfl hy_O_content.2 ⟨(Nat.le_of_ble_eq_true rfl), (Nat.le_of_ble_eq_true rfl)⟩ ⟨(Nat.le_of_ble_eq_true rfl), (Nat.le_of_ble_eq_true rfl)⟩ rfl rfl rfl rfl ?_
  intro r2
  refine js_istore (lo' := [some (.int a0), some (.int a1), some (.int a2), some (.int a3), some (.int r2), none, none]) (n := 7) X (dg dc_O_after 3 rfl) rfl (Nat.le_of_ble_eq_true rfl) rfl ?_
  refine js_iload (n := 9) X (dg dc_O_after 4 rfl) rfl rfl ?_
  refine js_bipush (n := 11) 8 X (dg dc_O_after 5 rfl) rfl (by decide) ?_
  refine js_iand (n := 12) X (dg dc_O_after 6 rfl) rfl ?_
  refine js_istore (lo' := [some (.int a0), some (.int a1), some (.int a2), some (.int a3), some (.int r2), some (.int (r2 &&& 8)), none]) (n := 14) X (dg dc_O_after 7 rfl) rfl (Nat.le_of_ble_eq_true rfl) rfl ?_
  refine js_iload_n (n := 15) X (dg dc_O_after 8 rfl) rfl rfl rfl ?_
  refine js_tsw X (dg dc_O_after 9 rfl) (by decide) ?_
  refine js_sw1 56 (by decide) (by decide) ?_ ?_
  · refine js_bipush (n := 58) 8 X (dg dc_O_after 10 rfl) rfl (by decide) ?_
    refine js_iload_n (n := 59) X (dg dc_O_after 11 rfl) rfl rfl rfl ?_
    refine js_iadd (n := 60) X (dg dc_O_after 12 rfl) rfl ?_
    refine js_istore (lo' := [some (.int a0), some (.int a1), some (.int a2), some (.int a3), some (.int r2), some (.int (r2 &&& 8)), some (.int (8 + a3))]) (n := 62) X (dg dc_O_after 13 rfl) rfl (Nat.le_of_ble_eq_true rfl) rfl ?_
    refine js_goto (t := 118) X (dg dc_O_after 14 rfl) (by decide) ?_
    exact js_keep [true, false, true, false, false, false, true] (jl_O_after_L118 l Dv fu κ X hp a0 a2 (8 + a3))
  refine js_sw1 65 (by decide) (by decide) ?_ ?_
  · refine js_iconst (n := 66) 0 X (dg dc_O_after 15 rfl) rfl (by decide) ?_
    refine js_istore (lo' := [some (.int a0), some (.int a1), some (.int a2), some (.int a3), some (.int r2), some (.int (r2 &&& 8)), some (.int 0)]) (n := 68) X (dg dc_O_after 16 rfl) rfl (Nat.le_of_ble_eq_true rfl) rfl ?_
    refine js_goto (t := 118) X (dg dc_O_after 17 rfl) (by decide) ?_
    exact js_keep [true, false, true, false, false, false, true] (jl_O_after_L118 l Dv fu κ X hp a0 a2 0)
  refine js_sw1 71 (by decide) (by decide) ?_ ?_
  · refine js_iload (n := 73) X (dg dc_O_after 18 rfl) rfl rfl ?_
    refine js_istore (lo' := [some (.int a0), some (.int a1), some (.int a2), some (.int a3), some (.int r2), some (.int (r2 &&& 8)), some (.int r2)]) (n := 75) X (dg dc_O_after 19 rfl) rfl (Nat.le_of_ble_eq_true rfl) rfl ?_
    refine js_goto (t := 118) X (dg dc_O_after 20 rfl) (by decide) ?_
    exact js_keep [true, false, true, false, false, false, true] (jl_O_after_L118 l Dv fu κ X hp a0 a2 r2)
  refine js_sw1 112 (by decide) (by decide) ?_ ?_
  · refine js_iload (n := 114) X (dg dc_O_after 40 rfl) rfl rfl ?_
    refine js_iload_n (n := 115) X (dg dc_O_after 41 rfl) rfl rfl rfl ?_
    refine js_iadd (n := 116) X (dg dc_O_after 42 rfl) rfl ?_
    refine js_istore (lo' := [some (.int a0), some (.int a1), some (.int a2), some (.int a3), some (.int r2), some (.int (r2 &&& 8)), some (.int ((r2 &&& 8) + a3))]) (n := 118) X (dg dc_O_after 43 rfl) rfl (Nat.le_of_ble_eq_true rfl) rfl ?_
    exact js_keep [true, false, true, false, false, false, true] (jl_O_after_L118 l Dv fu κ X hp a0 a2 ((r2 &&& 8) + a3))
  refine js_sw1 78 (by decide) (by decide) ?_ ?_
  · refine js_iload (n := 80) X (dg dc_O_after 21 rfl) rfl rfl ?_
    refine js_iload_n (n := 81) X (dg dc_O_after 22 rfl) rfl rfl rfl ?_
    refine js_iload_n (n := 82) X (dg dc_O_after 23 rfl) rfl rfl rfl ?_
    refine js_callS (na := 2) (n := 85) X (dg dc_O_after 24 rfl) rfl (c_O_held l Dv fu _ a0 a2) gS_O_19 rfl rfl hy_O_held.2 ⟨(Nat.le_of_ble_eq_true rfl), (Nat.le_of_ble_eq_true rfl)⟩ ⟨(Nat.le_of_ble_eq_true rfl), (Nat.le_of_ble_eq_true rfl)⟩ rfl rfl rfl rfl ?_
    intro r82
    refine js_iload_n (n := 86) X (dg dc_O_after 25 rfl) rfl rfl rfl ?_
    refine js_iadd (n := 87) X (dg dc_O_after 26 rfl) rfl ?_
    refine js_bipush (n := 89) 8 X (dg dc_O_after 27 rfl) rfl (by decide) ?_
    refine js_irem (n := 90) X (dg dc_O_after 28 rfl) rfl ?_
    refine js_iadd (n := 91) X (dg dc_O_after 29 rfl) rfl ?_
    refine js_istore (lo' := [some (.int a0), some (.int a1), some (.int a2), some (.int a3), some (.int r2), some (.int (r2 &&& 8)), some (.int ((r2 &&& 8) + ((r82 + a3) - (r82 + a3) / 8 * 8)))]) (n := 93) X (dg dc_O_after 30 rfl) rfl (Nat.le_of_ble_eq_true rfl) rfl ?_
    refine js_goto (t := 118) X (dg dc_O_after 31 rfl) (by decide) ?_
    exact js_keep [true, false, true, false, false, false, true] (jl_O_after_L118 l Dv fu κ X hp a0 a2 ((r2 &&& 8) + ((r82 + a3) - (r82 + a3) / 8 * 8)))
  refine js_sw1 112 (by decide) (by decide) ?_ ?_
  · refine js_iload (n := 114) X (dg dc_O_after 40 rfl) rfl rfl ?_
    refine js_iload_n (n := 115) X (dg dc_O_after 41 rfl) rfl rfl rfl ?_
    refine js_iadd (n := 116) X (dg dc_O_after 42 rfl) rfl ?_
    refine js_istore (lo' := [some (.int a0), some (.int a1), some (.int a2), some (.int a3), some (.int r2), some (.int (r2 &&& 8)), some (.int ((r2 &&& 8) + a3))]) (n := 118) X (dg dc_O_after 43 rfl) rfl (Nat.le_of_ble_eq_true rfl) rfl ?_
    exact js_keep [true, false, true, false, false, false, true] (jl_O_after_L118 l Dv fu κ X hp a0 a2 ((r2 &&& 8) + a3))
  refine js_sw1 96 (by decide) (by decide) ?_ ?_
  · refine js_iload (n := 98) X (dg dc_O_after 32 rfl) rfl rfl ?_
    refine js_iload_n (n := 99) X (dg dc_O_after 33 rfl) rfl rfl rfl ?_
    refine js_iload_n (n := 100) X (dg dc_O_after 34 rfl) rfl rfl rfl ?_
    refine js_callS (na := 1) (n := 103) X (dg dc_O_after 35 rfl) rfl (c_O_source l Dv fu _ a2) gS_O_15 rfl rfl hy_O_source.2 ⟨(Nat.le_of_ble_eq_true rfl), (Nat.le_of_ble_eq_true rfl)⟩ ⟨(Nat.le_of_ble_eq_true rfl), (Nat.le_of_ble_eq_true rfl)⟩ rfl rfl rfl rfl ?_
    intro r100
    refine js_callS (na := 2) (n := 106) X (dg dc_O_after 36 rfl) rfl (c_O_held l Dv fu _ a0 r100) gS_O_19 rfl rfl hy_O_held.2 ⟨(Nat.le_of_ble_eq_true rfl), (Nat.le_of_ble_eq_true rfl)⟩ ⟨(Nat.le_of_ble_eq_true rfl), (Nat.le_of_ble_eq_true rfl)⟩ rfl rfl rfl rfl ?_
    intro r103
    refine js_iadd (n := 107) X (dg dc_O_after 37 rfl) rfl ?_
    refine js_istore (lo' := [some (.int a0), some (.int a1), some (.int a2), some (.int a3), some (.int r2), some (.int (r2 &&& 8)), some (.int ((r2 &&& 8) + r103))]) (n := 109) X (dg dc_O_after 38 rfl) rfl (Nat.le_of_ble_eq_true rfl) rfl ?_
    refine js_goto (t := 118) X (dg dc_O_after 39 rfl) (by decide) ?_
    exact js_keep [true, false, true, false, false, false, true] (jl_O_after_L118 l Dv fu κ X hp a0 a2 ((r2 &&& 8) + r103))
  refine js_sw0 112 (by decide) ?_
  refine js_iload (n := 114) X (dg dc_O_after 40 rfl) rfl rfl ?_
  refine js_iload_n (n := 115) X (dg dc_O_after 41 rfl) rfl rfl rfl ?_
  refine js_iadd (n := 116) X (dg dc_O_after 42 rfl) rfl ?_
  refine js_istore (lo' := [some (.int a0), some (.int a1), some (.int a2), some (.int a3), some (.int r2), some (.int (r2 &&& 8)), some (.int ((r2 &&& 8) + a3))]) (n := 118) X (dg dc_O_after 43 rfl) rfl (Nat.le_of_ble_eq_true rfl) rfl ?_
  exact js_keep [true, false, true, false, false, false, true] (jl_O_after_L118 l Dv fu κ X hp a0 a2 ((r2 &&& 8) + a3))
set_option maxRecDepth 100000 in
set_option maxHeartbeats 4000000 in
theorem jl_P_isValidBeside_6_L98 (l : Launch) (Dv : va_G) (fu : Nat) (κ : ev_ka) (X : ev_X l Dv gaX mu_P_isValidBeside κ) (h : S_H) (r : S_R) (out : Nat → Int64) (P : S_P) (v2 : Int32) (v3 : Int32) : ev_J l Dv gaX mu_P_isValidBeside κ 98 0 0 [some (.ref 6), none, some (.int v2), some (.int v3), none, none] [] (hpW (h.1, P, h.2.2) r out) (f_P_isValidBeside_L98 fu P v2 v3) (fun q => (some (.int q), hpW (h.1, P, h.2.2) r out)) := by
  unfold f_P_isValidBeside_L98
  refine js_iload_n (n := 99) X (dg dc_P_isValidBeside 56 rfl) rfl rfl rfl ?_
  refine js_iconst (n := 100) (-1) X (dg dc_P_isValidBeside 57 rfl) rfl (by decide) ?_
  refine js_icmp_eq (t := 122) (n := 103) X (dg dc_P_isValidBeside 58 rfl) (by decide) rfl ?_ ?_
  · refine js_iconst (n := 123) 1 X (dg dc_P_isValidBeside 70 rfl) rfl (by decide) ?_
    refine js_goto (t := 127) X (dg dc_P_isValidBeside 71 rfl) (by decide) ?_
    exact js_retZ X (dg dc_P_isValidBeside 73 rfl) rfl (Nat.le_of_ble_eq_true rfl) (Nat.le_of_ble_eq_true rfl) rfl
  refine js_iload_n (n := 104) X (dg dc_P_isValidBeside 59 rfl) rfl rfl rfl ?_
  refine js_aload_n (n := 105) X (dg dc_P_isValidBeside 60 rfl) rfl rfl rfl ?_
  refine js_getf (j := 1) (v := .ref 8) (n := 108) X (dg dc_P_isValidBeside 61 rfl) rfl hC_P (Nat.le_of_ble_eq_true rfl) hw_14 rfl rfl ?_
  refine js_iload_n (n := 109) X (dg dc_P_isValidBeside 62 rfl) rfl rfl rfl ?_
  refine js_iaload (f := P.2.1) (n := 110) X (dg dc_P_isValidBeside 63 rfl) rfl rfl ?_
  refine js_aload_n (n := 111) X (dg dc_P_isValidBeside 64 rfl) rfl rfl rfl ?_
  refine js_getf (j := 2) (v := .ref 9) (n := 114) X (dg dc_P_isValidBeside 65 rfl) rfl hC_P (Nat.le_of_ble_eq_true rfl) hw_19 rfl rfl ?_
  refine js_iload_n (n := 115) X (dg dc_P_isValidBeside 66 rfl) rfl rfl rfl ?_
  refine js_iaload (f := P.2.2.1) (n := 116) X (dg dc_P_isValidBeside 67 rfl) rfl rfl ?_
  refine js_callS (na := 3) (n := 119) X (dg dc_P_isValidBeside 68 rfl) rfl (c_O_allows l Dv fu _ v3 (P.2.1 (ix v2)) (P.2.2.1 (ix v2))) gS_P_64 rfl rfl hy_O_allows.2 ⟨(Nat.le_of_ble_eq_true rfl), (Nat.le_of_ble_eq_true rfl)⟩ ⟨(Nat.le_of_ble_eq_true rfl), (Nat.le_of_ble_eq_true rfl)⟩ rfl rfl rfl rfl ?_
  intro r116
  refine js_if_eq (t := 126) (n := 122) X (dg dc_P_isValidBeside 69 rfl) (by decide) rfl ?_ ?_
  · refine js_iconst (n := 127) 0 X (dg dc_P_isValidBeside 72 rfl) rfl (by decide) ?_
    exact js_retZ X (dg dc_P_isValidBeside 73 rfl) rfl (Nat.le_of_ble_eq_true rfl) (Nat.le_of_ble_eq_true rfl) rfl
  refine js_iconst (n := 123) 1 X (dg dc_P_isValidBeside 70 rfl) rfl (by decide) ?_
  refine js_goto (t := 127) X (dg dc_P_isValidBeside 71 rfl) (by decide) ?_
  exact js_retZ X (dg dc_P_isValidBeside 73 rfl) rfl (Nat.le_of_ble_eq_true rfl) (Nat.le_of_ble_eq_true rfl) rfl
set_option maxRecDepth 100000 in
set_option maxHeartbeats 4000000 in
theorem jl_P_isValidBeside_6_L49 (l : Launch) (Dv : va_G) (fu : Nat) (κ : ev_ka) (X : ev_X l Dv gaX mu_P_isValidBeside κ) (h : S_H) (r : S_R) (out : Nat → Int64) (P : S_P) (k16 : Int32 → Int32 → Int32 → Int32 → Option (Int32)) (hk16 : ∀ (v2 : Int32) (v3 : Int32) (v4 : Int32) (v5 : Int32), ev_J l Dv gaX mu_P_isValidBeside κ 16 0 0 [some (.ref 6), none, some (.int v2), some (.int v3), some (.int v4), some (.int v5)] [] (hpW (h.1, P, h.2.2) r out) (k16 v2 v3 v4 v5) (fun q => (some (.int q), hpW (h.1, P, h.2.2) r out))) (v2 : Int32) (v3 : Int32) (v4 : Int32) (v5 : Int32) : ev_J l Dv gaX mu_P_isValidBeside κ 49 0 0 [some (.ref 6), none, some (.int v2), some (.int v3), some (.int v4), some (.int v5)] [] (hpW (h.1, P, h.2.2) r out) (f_P_isValidBeside_L49 fu P k16 v2 v3 v4 v5) (fun q => (some (.int q), hpW (h.1, P, h.2.2) r out)) := by
  unfold f_P_isValidBeside_L49
  refine js_iload_n (n := 50) X (dg dc_P_isValidBeside 29 rfl) rfl rfl rfl ?_
  refine js_aload_n (n := 51) X (dg dc_P_isValidBeside 30 rfl) rfl rfl rfl ?_
  refine js_getf (j := 1) (v := .ref 8) (n := 54) X (dg dc_P_isValidBeside 31 rfl) rfl hC_P (Nat.le_of_ble_eq_true rfl) hw_14 rfl rfl ?_
  refine js_iload (n := 56) X (dg dc_P_isValidBeside 32 rfl) rfl rfl ?_
  refine js_iaload (f := P.2.1) (n := 57) X (dg dc_P_isValidBeside 33 rfl) rfl rfl ?_
  refine js_aload_n (n := 58) X (dg dc_P_isValidBeside 34 rfl) rfl rfl rfl ?_
  refine js_getf (j := 2) (v := .ref 9) (n := 61) X (dg dc_P_isValidBeside 35 rfl) rfl hC_P (Nat.le_of_ble_eq_true rfl) hw_19 rfl rfl ?_
  refine js_iload (n := 63) X (dg dc_P_isValidBeside 36 rfl) rfl rfl ?_
  refine js_iaload (f := P.2.2.1) (n := 64) X (dg dc_P_isValidBeside 37 rfl) rfl rfl ?_
  refine js_callS (na := 3) (n := 67) X (dg dc_P_isValidBeside 38 rfl) rfl (c_O_allows l Dv fu _ v3 (P.2.1 (ix v5)) (P.2.2.1 (ix v5))) gS_P_64 rfl rfl hy_O_allows.2 ⟨(Nat.le_of_ble_eq_true rfl), (Nat.le_of_ble_eq_true rfl)⟩ ⟨(Nat.le_of_ble_eq_true rfl), (Nat.le_of_ble_eq_true rfl)⟩ rfl rfl rfl rfl ?_
  intro r64
  refine js_if_ne (t := 72) (n := 70) X (dg dc_P_isValidBeside 39 rfl) (by decide) rfl ?_ ?_
  · refine js_iload_n (n := 73) X (dg dc_P_isValidBeside 42 rfl) rfl rfl rfl ?_
    refine js_aload_n (n := 74) X (dg dc_P_isValidBeside 43 rfl) rfl rfl rfl ?_
    refine js_getf (j := 1) (v := .ref 8) (n := 77) X (dg dc_P_isValidBeside 44 rfl) rfl hC_P (Nat.le_of_ble_eq_true rfl) hw_14 rfl rfl ?_
    refine js_iload (n := 79) X (dg dc_P_isValidBeside 45 rfl) rfl rfl ?_
    refine js_iaload (f := P.2.1) (n := 80) X (dg dc_P_isValidBeside 46 rfl) rfl rfl ?_
    refine js_aload_n (n := 81) X (dg dc_P_isValidBeside 47 rfl) rfl rfl rfl ?_
    refine js_getf (j := 2) (v := .ref 9) (n := 84) X (dg dc_P_isValidBeside 48 rfl) rfl hC_P (Nat.le_of_ble_eq_true rfl) hw_19 rfl rfl ?_
    refine js_iload (n := 86) X (dg dc_P_isValidBeside 49 rfl) rfl rfl ?_
    refine js_iaload (f := P.2.2.1) (n := 87) X (dg dc_P_isValidBeside 50 rfl) rfl rfl ?_
    refine js_iconst (n := 88) 0 X (dg dc_P_isValidBeside 51 rfl) rfl (by decide) ?_
    refine js_callS (na := 4) (n := 91) X (dg dc_P_isValidBeside 52 rfl) rfl (c_O_after l Dv fu _ v3 (P.2.1 (ix v5)) (P.2.2.1 (ix v5)) 0) gS_P_68 rfl rfl hy_O_after.2 ⟨(Nat.le_of_ble_eq_true rfl), (Nat.le_of_ble_eq_true rfl)⟩ ⟨(Nat.le_of_ble_eq_true rfl), (Nat.le_of_ble_eq_true rfl)⟩ rfl rfl rfl rfl ?_
    intro r88
    refine js_istore_n (lo' := [some (.ref 6), none, some (.int v2), some (.int r88), some (.int v4), some (.int v5)]) (n := 92) X (dg dc_P_isValidBeside 53 rfl) rfl rfl (Nat.le_of_ble_eq_true rfl) rfl ?_
    refine js_iinc (lo' := [some (.ref 6), none, some (.int v2), some (.int r88), some (.int v4), some (.int (v5 + 1))]) (n := 95) 1 X (dg dc_P_isValidBeside 54 rfl) rfl (by decide) (Nat.le_of_ble_eq_true rfl) rfl rfl ?_
    refine js_goto (t := 16) X (dg dc_P_isValidBeside 55 rfl) (by decide) ?_
    exact js_keep [true, false, true, true, true, true] (hk16 v2 r88 v4 (v5 + 1))
  refine js_iconst (n := 71) 0 X (dg dc_P_isValidBeside 40 rfl) rfl (by decide) ?_
  exact js_retZ X (dg dc_P_isValidBeside 41 rfl) rfl (Nat.le_of_ble_eq_true rfl) (Nat.le_of_ble_eq_true rfl) rfl
set_option maxRecDepth 100000 in
set_option maxHeartbeats 4000000 in
theorem jl_P_isValidBeside_6_L16 (l : Launch) (Dv : va_G) (fu : Nat) (κ : ev_ka) (X : ev_X l Dv gaX mu_P_isValidBeside κ) (h : S_H) (r : S_R) (out : Nat → Int64) (P : S_P) : ∀ (n : Nat) (v2 : Int32) (v3 : Int32) (v4 : Int32) (v5 : Int32), ev_J l Dv gaX mu_P_isValidBeside κ 16 0 0 [some (.ref 6), none, some (.int v2), some (.int v3), some (.int v4), some (.int v5)] [] (hpW (h.1, P, h.2.2) r out) (f_P_isValidBeside_L16 fu P n v2 v3 v4 v5) (fun q => (some (.int q), hpW (h.1, P, h.2.2) r out)) := by
  intro n
  induction n with
  | zero => exact fun _ _ _ _ => js_none
  | succ n ih =>
    intro v2 v3 v4 v5
    unfold f_P_isValidBeside_L16
    refine js_iload (n := 18) X (dg dc_P_isValidBeside 10 rfl) rfl rfl ?_
    refine js_iload (n := 20) X (dg dc_P_isValidBeside 11 rfl) rfl rfl ?_
    refine js_icmp_ge (t := 98) (n := 23) X (dg dc_P_isValidBeside 12 rfl) (by decide) rfl ?_ ?_
    · exact js_keep [true, false, true, true, false, false] (jl_P_isValidBeside_6_L98 l Dv fu κ X h r out P v2 v3)
    refine js_iload_n (n := 24) X (dg dc_P_isValidBeside 13 rfl) rfl rfl rfl ?_
    refine js_iconst (n := 25) (-1) X (dg dc_P_isValidBeside 14 rfl) rfl (by decide) ?_
    refine js_icmp_eq (t := 49) (n := 28) X (dg dc_P_isValidBeside 15 rfl) (by decide) rfl ?_ ?_
    · exact js_keep [true, false, true, true, true, true] (jl_P_isValidBeside_6_L49 l Dv fu κ X h r out P (f_P_isValidBeside_L16 fu P n) (fun z0 z1 z2 z3 => ih z0 z1 z2 z3) v2 v3 v4 v5)
    refine js_iload_n (n := 29) X (dg dc_P_isValidBeside 16 rfl) rfl rfl rfl ?_
    refine js_aload_n (n := 30) X (dg dc_P_isValidBeside 17 rfl) rfl rfl rfl ?_
    refine js_getf (j := 1) (v := .ref 8) (n := 33) X (dg dc_P_isValidBeside 18 rfl) rfl hC_P (Nat.le_of_ble_eq_true rfl) hw_14 rfl rfl ?_
    refine js_iload_n (n := 34) X (dg dc_P_isValidBeside 19 rfl) rfl rfl rfl ?_
    refine js_iaload (f := P.2.1) (n := 35) X (dg dc_P_isValidBeside 20 rfl) rfl rfl ?_
    refine js_aload_n (n := 36) X (dg dc_P_isValidBeside 21 rfl) rfl rfl rfl ?_
    refine js_getf (j := 2) (v := .ref 9) (n := 39) X (dg dc_P_isValidBeside 22 rfl) rfl hC_P (Nat.le_of_ble_eq_true rfl) hw_19 rfl rfl ?_
    refine js_iload_n (n := 40) X (dg dc_P_isValidBeside 23 rfl) rfl rfl rfl ?_
    refine js_iaload (f := P.2.2.1) (n := 41) X (dg dc_P_isValidBeside 24 rfl) rfl rfl ?_
    refine js_callS (na := 3) (n := 44) X (dg dc_P_isValidBeside 25 rfl) rfl (c_O_allows l Dv fu _ v3 (P.2.1 (ix v2)) (P.2.2.1 (ix v2))) gS_P_64 rfl rfl hy_O_allows.2 ⟨(Nat.le_of_ble_eq_true rfl), (Nat.le_of_ble_eq_true rfl)⟩ ⟨(Nat.le_of_ble_eq_true rfl), (Nat.le_of_ble_eq_true rfl)⟩ rfl rfl rfl rfl ?_
    intro r41
    refine js_if_ne (t := 49) (n := 47) X (dg dc_P_isValidBeside 26 rfl) (by decide) rfl ?_ ?_
    · exact js_keep [true, false, true, true, true, true] (jl_P_isValidBeside_6_L49 l Dv fu κ X h r out P (f_P_isValidBeside_L16 fu P n) (fun z0 z1 z2 z3 => ih z0 z1 z2 z3) v2 v3 v4 v5)
    refine js_iconst (n := 48) 0 X (dg dc_P_isValidBeside 27 rfl) rfl (by decide) ?_
    exact js_retZ X (dg dc_P_isValidBeside 28 rfl) rfl (Nat.le_of_ble_eq_true rfl) (Nat.le_of_ble_eq_true rfl) rfl
set_option maxRecDepth 100000 in
set_option maxHeartbeats 4000000 in
theorem c_P_isValidBeside_6 (l : Launch) (Dv : va_G) (fu : Nat) (h : S_H) (r : S_R) (out : Nat → Int64) (P : S_P) (a1 : Int32) (a2 : Int32) : ev_M l Dv gaX mu_P_isValidBeside [.ref 6, .int a1, .int a2] (hpW (h.1, P, h.2.2) r out) (f_P_isValidBeside fu P a1 a2) (fun q => (some (.int q), hpW (h.1, P, h.2.2) r out)) := by
  refine ev_met (lo0 := [some (.ref 6), some (.int a1), some (.int a2), none, none, none]) rfl rfl rfl (fun κ X => ?_)
  unfold f_P_isValidBeside
  refine js_iload_n (n := 1) X (dg dc_P_isValidBeside 0 rfl) rfl rfl rfl ?_
  refine js_istore_n (lo' := [some (.ref 6), some (.int a1), some (.int a2), some (.int a1), none, none]) (n := 2) X (dg dc_P_isValidBeside 1 rfl) rfl rfl (Nat.le_of_ble_eq_true rfl) rfl ?_
  refine js_aload_n (n := 3) X (dg dc_P_isValidBeside 2 rfl) rfl rfl rfl ?_
  refine js_iconst (n := 4) 2 X (dg dc_P_isValidBeside 3 rfl) rfl (by decide) ?_
  refine js_callV (na := 1) (ci := 1) (n := 7) X (dg dc_P_isValidBeside 4 rfl) rfl (c_P_end_6 l Dv fu (h.1, P, h.2.2) r out P 2) gV_P_28 rfl rfl hy_P_end ⟨(Nat.le_of_ble_eq_true rfl), (Nat.le_of_ble_eq_true rfl)⟩ rfl ⟨(Nat.le_of_ble_eq_true rfl), (Nat.le_of_ble_eq_true rfl)⟩ rfl rfl rfl rfl rfl ?_
  intro r4
  refine js_istore (lo' := [some (.ref 6), some (.int a1), some (.int a2), some (.int a1), some (.int r4), none]) (n := 9) X (dg dc_P_isValidBeside 5 rfl) rfl (Nat.le_of_ble_eq_true rfl) rfl ?_
  refine js_aload_n (n := 10) X (dg dc_P_isValidBeside 6 rfl) rfl rfl rfl ?_
  refine js_iconst (n := 11) 2 X (dg dc_P_isValidBeside 7 rfl) rfl (by decide) ?_
  refine js_callV (na := 1) (ci := 1) (n := 14) X (dg dc_P_isValidBeside 8 rfl) rfl (c_P_start_6 l Dv fu (h.1, P, h.2.2) r out P 2) gV_P_24 rfl rfl hy_P_start ⟨(Nat.le_of_ble_eq_true rfl), (Nat.le_of_ble_eq_true rfl)⟩ rfl ⟨(Nat.le_of_ble_eq_true rfl), (Nat.le_of_ble_eq_true rfl)⟩ rfl rfl rfl rfl rfl ?_
  intro r11
  refine js_istore (lo' := [some (.ref 6), some (.int a1), some (.int a2), some (.int a1), some (.int r4), some (.int r11)]) (n := 16) X (dg dc_P_isValidBeside 9 rfl) rfl (Nat.le_of_ble_eq_true rfl) rfl ?_
  exact js_keep [true, false, true, true, true, true] (jl_P_isValidBeside_6_L16 l Dv fu κ X h r out P fu a2 a1 r4 r11)
set_option maxRecDepth 100000 in
set_option maxHeartbeats 4000000 in
theorem jl_P_isValid_6_L117 (l : Launch) (Dv : va_G) (fu : Nat) (κ : ev_ka) (X : ev_X l Dv gaX mu_P_isValid κ) (h : S_H) (r : S_R) (out : Nat → Int64) (P : S_P) (v1 : Int32) : ev_J l Dv gaX mu_P_isValid κ 117 0 0 [some (.ref 6), some (.int v1), none, none, none] [] (hpW (h.1, P, h.2.2) r out) (f_P_isValid_L117 fu P v1) (fun q => (some (.int q), hpW (h.1, P, h.2.2) r out)) := by
  unfold f_P_isValid_L117
  refine js_aload_n (n := 118) X (dg dc_P_isValid 70 rfl) rfl rfl rfl ?_
  refine js_iload_n (n := 119) X (dg dc_P_isValid 71 rfl) rfl rfl rfl ?_
  refine js_iconst (n := 120) (-1) X (dg dc_P_isValid 72 rfl) rfl (by decide) ?_
  refine js_callV (na := 2) (ci := 1) (n := 123) X (dg dc_P_isValid 73 rfl) rfl (c_P_isValidBeside_6 l Dv fu (h.1, P, h.2.2) r out P v1 (-1)) gV_P_72 rfl rfl hy_P_isValidBeside ⟨(Nat.le_of_ble_eq_true rfl), (Nat.le_of_ble_eq_true rfl)⟩ rfl ⟨(Nat.le_of_ble_eq_true rfl), (Nat.le_of_ble_eq_true rfl)⟩ rfl rfl rfl rfl rfl ?_
  intro r120
  exact js_retZ X (dg dc_P_isValid 74 rfl) rfl (Nat.le_of_ble_eq_true rfl) (Nat.le_of_ble_eq_true rfl) rfl
set_option maxRecDepth 100000 in
set_option maxHeartbeats 4000000 in
theorem jl_P_isValid_6_L73 (l : Launch) (Dv : va_G) (fu : Nat) (κ : ev_ka) (X : ev_X l Dv gaX mu_P_isValid κ) (h : S_H) (r : S_R) (out : Nat → Int64) (P : S_P) : ∀ (n : Nat) (v1 : Int32) (v3 : Int32) (v4 : Int32), ev_J l Dv gaX mu_P_isValid κ 73 0 0 [some (.ref 6), some (.int v1), none, some (.int v3), some (.int v4)] [] (hpW (h.1, P, h.2.2) r out) (f_P_isValid_L73 fu P n v1 v3 v4) (fun q => (some (.int q), hpW (h.1, P, h.2.2) r out)) := by
  intro n
  induction n with
  | zero => exact fun _ _ _ => js_none
  | succ n ih =>
    intro v1 v3 v4
    unfold f_P_isValid_L73
    refine js_iload (n := 75) X (dg dc_P_isValid 46 rfl) rfl rfl ?_
    refine js_iload_n (n := 76) X (dg dc_P_isValid 47 rfl) rfl rfl rfl ?_
    refine js_icmp_ge (t := 117) (n := 79) X (dg dc_P_isValid 48 rfl) (by decide) rfl ?_ ?_
    · exact js_keep [true, true, false, false, false] (jl_P_isValid_6_L117 l Dv fu κ X h r out P v1)
    refine js_aload_n (n := 80) X (dg dc_P_isValid 49 rfl) rfl rfl rfl ?_
    refine js_iload_n (n := 81) X (dg dc_P_isValid 50 rfl) rfl rfl rfl ?_
    refine js_iload (n := 83) X (dg dc_P_isValid 51 rfl) rfl rfl ?_
    refine js_callV (na := 2) (ci := 1) (n := 86) X (dg dc_P_isValid 52 rfl) rfl (c_P_isValidBeside_6 l Dv fu (h.1, P, h.2.2) r out P v1 v4) gV_P_72 rfl rfl hy_P_isValidBeside ⟨(Nat.le_of_ble_eq_true rfl), (Nat.le_of_ble_eq_true rfl)⟩ rfl ⟨(Nat.le_of_ble_eq_true rfl), (Nat.le_of_ble_eq_true rfl)⟩ rfl rfl rfl rfl rfl ?_
    intro r83
    refine js_if_ne (t := 91) (n := 89) X (dg dc_P_isValid 53 rfl) (by decide) rfl ?_ ?_
    · refine js_iload_n (n := 92) X (dg dc_P_isValid 56 rfl) rfl rfl rfl ?_
      refine js_aload_n (n := 93) X (dg dc_P_isValid 57 rfl) rfl rfl rfl ?_
      refine js_getf (j := 1) (v := .ref 8) (n := 96) X (dg dc_P_isValid 58 rfl) rfl hC_P (Nat.le_of_ble_eq_true rfl) hw_14 rfl rfl ?_
      refine js_iload (n := 98) X (dg dc_P_isValid 59 rfl) rfl rfl ?_
      refine js_iaload (f := P.2.1) (n := 99) X (dg dc_P_isValid 60 rfl) rfl rfl ?_
      refine js_aload_n (n := 100) X (dg dc_P_isValid 61 rfl) rfl rfl rfl ?_
      refine js_getf (j := 2) (v := .ref 9) (n := 103) X (dg dc_P_isValid 62 rfl) rfl hC_P (Nat.le_of_ble_eq_true rfl) hw_19 rfl rfl ?_
      refine js_iload (n := 105) X (dg dc_P_isValid 63 rfl) rfl rfl ?_
      refine js_iaload (f := P.2.2.1) (n := 106) X (dg dc_P_isValid 64 rfl) rfl rfl ?_
      refine js_iconst (n := 107) 0 X (dg dc_P_isValid 65 rfl) rfl (by decide) ?_
      refine js_callS (na := 4) (n := 110) X (dg dc_P_isValid 66 rfl) rfl (c_O_after l Dv fu _ v1 (P.2.1 (ix v4)) (P.2.2.1 (ix v4)) 0) gS_P_68 rfl rfl hy_O_after.2 ⟨(Nat.le_of_ble_eq_true rfl), (Nat.le_of_ble_eq_true rfl)⟩ ⟨(Nat.le_of_ble_eq_true rfl), (Nat.le_of_ble_eq_true rfl)⟩ rfl rfl rfl rfl ?_
      intro r107
      refine js_istore_n (lo' := [some (.ref 6), some (.int r107), none, some (.int v3), some (.int v4)]) (n := 111) X (dg dc_P_isValid 67 rfl) rfl rfl (Nat.le_of_ble_eq_true rfl) rfl ?_
      refine js_iinc (lo' := [some (.ref 6), some (.int r107), none, some (.int v3), some (.int (v4 + 1))]) (n := 114) 1 X (dg dc_P_isValid 68 rfl) rfl (by decide) (Nat.le_of_ble_eq_true rfl) rfl rfl ?_
      refine js_goto (t := 73) X (dg dc_P_isValid 69 rfl) (by decide) ?_
      exact js_keep [true, true, false, true, true] (ih r107 v3 (v4 + 1))
    refine js_iconst (n := 90) 0 X (dg dc_P_isValid 54 rfl) rfl (by decide) ?_
    exact js_retZ X (dg dc_P_isValid 55 rfl) rfl (Nat.le_of_ble_eq_true rfl) (Nat.le_of_ble_eq_true rfl) rfl
set_option maxRecDepth 100000 in
set_option maxHeartbeats 4000000 in
theorem jl_P_isValid_6_L60 (l : Launch) (Dv : va_G) (fu : Nat) (κ : ev_ka) (X : ev_X l Dv gaX mu_P_isValid κ) (h : S_H) (r : S_R) (out : Nat → Int64) (P : S_P) (v1 : Int32) : ev_J l Dv gaX mu_P_isValid κ 60 0 0 [some (.ref 6), some (.int v1), none, none, none] [] (hpW (h.1, P, h.2.2) r out) (f_P_isValid_L60 fu P v1) (fun q => (some (.int q), hpW (h.1, P, h.2.2) r out)) := by
  unfold f_P_isValid_L60
  refine js_aload_n (n := 61) X (dg dc_P_isValid 38 rfl) rfl rfl rfl ?_
  refine js_iconst (n := 62) 1 X (dg dc_P_isValid 39 rfl) rfl (by decide) ?_
  refine js_callV (na := 1) (ci := 1) (n := 65) X (dg dc_P_isValid 40 rfl) rfl (c_P_end_6 l Dv fu (h.1, P, h.2.2) r out P 1) gV_P_28 rfl rfl hy_P_end ⟨(Nat.le_of_ble_eq_true rfl), (Nat.le_of_ble_eq_true rfl)⟩ rfl ⟨(Nat.le_of_ble_eq_true rfl), (Nat.le_of_ble_eq_true rfl)⟩ rfl rfl rfl rfl rfl ?_
  intro r62
  refine js_istore_n (lo' := [some (.ref 6), some (.int v1), none, some (.int r62), none]) (n := 66) X (dg dc_P_isValid 41 rfl) rfl rfl (Nat.le_of_ble_eq_true rfl) rfl ?_
  refine js_aload_n (n := 67) X (dg dc_P_isValid 42 rfl) rfl rfl rfl ?_
  refine js_iconst (n := 68) 1 X (dg dc_P_isValid 43 rfl) rfl (by decide) ?_
  refine js_callV (na := 1) (ci := 1) (n := 71) X (dg dc_P_isValid 44 rfl) rfl (c_P_start_6 l Dv fu (h.1, P, h.2.2) r out P 1) gV_P_24 rfl rfl hy_P_start ⟨(Nat.le_of_ble_eq_true rfl), (Nat.le_of_ble_eq_true rfl)⟩ rfl ⟨(Nat.le_of_ble_eq_true rfl), (Nat.le_of_ble_eq_true rfl)⟩ rfl rfl rfl rfl rfl ?_
  intro r68
  refine js_istore (lo' := [some (.ref 6), some (.int v1), none, some (.int r62), some (.int r68)]) (n := 73) X (dg dc_P_isValid 45 rfl) rfl (Nat.le_of_ble_eq_true rfl) rfl ?_
  exact js_keep [true, true, false, true, true] (jl_P_isValid_6_L73 l Dv fu κ X h r out P fu v1 r62 r68)
set_option maxRecDepth 100000 in
set_option maxHeartbeats 4000000 in
theorem jl_P_isValid_6_L10 (l : Launch) (Dv : va_G) (fu : Nat) (κ : ev_ka) (X : ev_X l Dv gaX mu_P_isValid κ) (h : S_H) (r : S_R) (out : Nat → Int64) (P : S_P) : ∀ (n : Nat) (v1 : Int32) (v2 : Int32) (v3 : Int32), ev_J l Dv gaX mu_P_isValid κ 10 0 0 [some (.ref 6), some (.int v1), some (.int v2), some (.int v3), none] [] (hpW (h.1, P, h.2.2) r out) (f_P_isValid_L10 fu P n v1 v2 v3) (fun q => (some (.int q), hpW (h.1, P, h.2.2) r out)) := by
  intro n
  induction n with
  | zero => exact fun _ _ _ => js_none
  | succ n ih =>
    intro v1 v2 v3
    unfold f_P_isValid_L10
    refine js_iload_n (n := 11) X (dg dc_P_isValid 8 rfl) rfl rfl rfl ?_
    refine js_iload_n (n := 12) X (dg dc_P_isValid 9 rfl) rfl rfl rfl ?_
    refine js_icmp_ge (t := 60) (n := 15) X (dg dc_P_isValid 10 rfl) (by decide) rfl ?_ ?_
    · exact js_keep [true, true, false, false, false] (jl_P_isValid_6_L60 l Dv fu κ X h r out P v1)
    refine js_iload_n (n := 16) X (dg dc_P_isValid 11 rfl) rfl rfl rfl ?_
    refine js_aload_n (n := 17) X (dg dc_P_isValid 12 rfl) rfl rfl rfl ?_
    refine js_getf (j := 1) (v := .ref 8) (n := 20) X (dg dc_P_isValid 13 rfl) rfl hC_P (Nat.le_of_ble_eq_true rfl) hw_14 rfl rfl ?_
    refine js_iload_n (n := 21) X (dg dc_P_isValid 14 rfl) rfl rfl rfl ?_
    refine js_iaload (f := P.2.1) (n := 22) X (dg dc_P_isValid 15 rfl) rfl rfl ?_
    refine js_aload_n (n := 23) X (dg dc_P_isValid 16 rfl) rfl rfl rfl ?_
    refine js_getf (j := 2) (v := .ref 9) (n := 26) X (dg dc_P_isValid 17 rfl) rfl hC_P (Nat.le_of_ble_eq_true rfl) hw_19 rfl rfl ?_
    refine js_iload_n (n := 27) X (dg dc_P_isValid 18 rfl) rfl rfl rfl ?_
    refine js_iaload (f := P.2.2.1) (n := 28) X (dg dc_P_isValid 19 rfl) rfl rfl ?_
    refine js_callS (na := 3) (n := 31) X (dg dc_P_isValid 20 rfl) rfl (c_O_allows l Dv fu _ v1 (P.2.1 (ix v3)) (P.2.2.1 (ix v3))) gS_P_64 rfl rfl hy_O_allows.2 ⟨(Nat.le_of_ble_eq_true rfl), (Nat.le_of_ble_eq_true rfl)⟩ ⟨(Nat.le_of_ble_eq_true rfl), (Nat.le_of_ble_eq_true rfl)⟩ rfl rfl rfl rfl ?_
    intro r28
    refine js_if_ne (t := 36) (n := 34) X (dg dc_P_isValid 21 rfl) (by decide) rfl ?_ ?_
    · refine js_iload_n (n := 37) X (dg dc_P_isValid 24 rfl) rfl rfl rfl ?_
      refine js_aload_n (n := 38) X (dg dc_P_isValid 25 rfl) rfl rfl rfl ?_
      refine js_getf (j := 1) (v := .ref 8) (n := 41) X (dg dc_P_isValid 26 rfl) rfl hC_P (Nat.le_of_ble_eq_true rfl) hw_14 rfl rfl ?_
      refine js_iload_n (n := 42) X (dg dc_P_isValid 27 rfl) rfl rfl rfl ?_
      refine js_iaload (f := P.2.1) (n := 43) X (dg dc_P_isValid 28 rfl) rfl rfl ?_
      refine js_aload_n (n := 44) X (dg dc_P_isValid 29 rfl) rfl rfl rfl ?_
      refine js_getf (j := 2) (v := .ref 9) (n := 47) X (dg dc_P_isValid 30 rfl) rfl hC_P (Nat.le_of_ble_eq_true rfl) hw_19 rfl rfl ?_
      refine js_iload_n (n := 48) X (dg dc_P_isValid 31 rfl) rfl rfl rfl ?_
      refine js_iaload (f := P.2.2.1) (n := 49) X (dg dc_P_isValid 32 rfl) rfl rfl ?_
      refine js_iconst (n := 50) 0 X (dg dc_P_isValid 33 rfl) rfl (by decide) ?_
      refine js_callS (na := 4) (n := 53) X (dg dc_P_isValid 34 rfl) rfl (c_O_after l Dv fu _ v1 (P.2.1 (ix v3)) (P.2.2.1 (ix v3)) 0) gS_P_68 rfl rfl hy_O_after.2 ⟨(Nat.le_of_ble_eq_true rfl), (Nat.le_of_ble_eq_true rfl)⟩ ⟨(Nat.le_of_ble_eq_true rfl), (Nat.le_of_ble_eq_true rfl)⟩ rfl rfl rfl rfl ?_
      intro r50
      refine js_istore_n (lo' := [some (.ref 6), some (.int r50), some (.int v2), some (.int v3), none]) (n := 54) X (dg dc_P_isValid 35 rfl) rfl rfl (Nat.le_of_ble_eq_true rfl) rfl ?_
      refine js_iinc (lo' := [some (.ref 6), some (.int r50), some (.int v2), some (.int (v3 + 1)), none]) (n := 57) 1 X (dg dc_P_isValid 36 rfl) rfl (by decide) (Nat.le_of_ble_eq_true rfl) rfl rfl ?_
      refine js_goto (t := 10) X (dg dc_P_isValid 37 rfl) (by decide) ?_
      exact js_keep [true, true, true, true, false] (ih r50 v2 (v3 + 1))
    refine js_iconst (n := 35) 0 X (dg dc_P_isValid 22 rfl) rfl (by decide) ?_
    exact js_retZ X (dg dc_P_isValid 23 rfl) rfl (Nat.le_of_ble_eq_true rfl) (Nat.le_of_ble_eq_true rfl) rfl
set_option maxRecDepth 100000 in
set_option maxHeartbeats 4000000 in
theorem c_P_isValid_6 (l : Launch) (Dv : va_G) (fu : Nat) (h : S_H) (r : S_R) (out : Nat → Int64) (P : S_P) : ev_M l Dv gaX mu_P_isValid [.ref 6] (hpW (h.1, P, h.2.2) r out) (f_P_isValid fu P) (fun q => (some (.int q), hpW (h.1, P, h.2.2) r out)) := by
  refine ev_met (lo0 := [some (.ref 6), none, none, none, none]) rfl rfl rfl (fun κ X => ?_)
  unfold f_P_isValid
  refine js_iconst (n := 1) 0 X (dg dc_P_isValid 0 rfl) rfl (by decide) ?_
  refine js_istore_n (lo' := [some (.ref 6), some (.int 0), none, none, none]) (n := 2) X (dg dc_P_isValid 1 rfl) rfl rfl (Nat.le_of_ble_eq_true rfl) rfl ?_
  refine js_aload_n (n := 3) X (dg dc_P_isValid 2 rfl) rfl rfl rfl ?_
  refine js_iconst (n := 4) 0 X (dg dc_P_isValid 3 rfl) rfl (by decide) ?_
  refine js_callV (na := 1) (ci := 1) (n := 7) X (dg dc_P_isValid 4 rfl) rfl (c_P_end_6 l Dv fu (h.1, P, h.2.2) r out P 0) gV_P_28 rfl rfl hy_P_end ⟨(Nat.le_of_ble_eq_true rfl), (Nat.le_of_ble_eq_true rfl)⟩ rfl ⟨(Nat.le_of_ble_eq_true rfl), (Nat.le_of_ble_eq_true rfl)⟩ rfl rfl rfl rfl rfl ?_
  intro r4
  refine js_istore_n (lo' := [some (.ref 6), some (.int 0), some (.int r4), none, none]) (n := 8) X (dg dc_P_isValid 5 rfl) rfl rfl (Nat.le_of_ble_eq_true rfl) rfl ?_
  refine js_iconst (n := 9) 0 X (dg dc_P_isValid 6 rfl) rfl (by decide) ?_
  refine js_istore_n (lo' := [some (.ref 6), some (.int 0), some (.int r4), some (.int 0), none]) (n := 10) X (dg dc_P_isValid 7 rfl) rfl rfl (Nat.le_of_ble_eq_true rfl) rfl ?_
  exact js_keep [true, true, true, true, false] (jl_P_isValid_6_L10 l Dv fu κ X h r out P fu 0 r4 0)
end
