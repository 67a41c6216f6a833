section
/-! worlds as lists of cells; a reference is a place in the list -/
abbrev ev_A : Type := FieldType × Nat × ((Nat → Int32) ⊕ (Nat → Int64))
abbrev ev_E : Type := ev_A ⊕ (Nat × List Value)
abbrev ev_H : Type := List ev_E
abbrev ev_R : Type := Nat → Nat × ClassId
abbrev ev_L : Type := List (Option Value)
abbrev ev_O : Type := Option Value × ev_H
abbrev ev_K : Type := ev_L → List Value → ev_H → Option ev_O
abbrev ev_N : Type := List (String × Nat × MethodName × String)
def ev_n {α : Type} : List α → Nat → Option α
  | [], _ => none
  | a :: _, 0 => some a
  | _ :: l, k + 1 => ev_n l k
def ev_s {α : Type} : List α → Nat → α → List α
  | [], _, _ => []
  | _ :: l, 0, x => x :: l
  | a :: l, k + 1, x => a :: ev_s l k x
theorem ev_n_eq {α : Type} : ∀ (l : List α) (k : Nat), ev_n l k = l[k]?
  | [], k => by simp [ev_n]
  | a :: l, 0 => by simp [ev_n]
  | a :: l, k + 1 => by simp [ev_n, ev_n_eq l k]
theorem ev_s_eq {α : Type} : ∀ (l : List α) (k : Nat) (x : α), ev_s l k x = l.set k x
  | [], k, x => by simp [ev_s]
  | a :: l, 0, x => by simp [ev_s]
  | a :: l, k + 1, x => by simp [ev_s, ev_s_eq l k x]
theorem ev_n_s {α : Type} (l : List α) (k j : Nat) (x y : α) (h : ev_n (ev_s l k x) j = some y) : (j = k ∧ y = x) ∨ (j ≠ k ∧ ev_n l j = some y) := by
  rw [ev_n_eq, ev_s_eq, List.getElem?_set] at h
  by_cases hk : k = j
  · subst hk
    rw [if_pos rfl] at h
    split at h
    · cases h
      exact Or.inl ⟨rfl, rfl⟩
    · cases h
  · rw [if_neg hk] at h
    exact Or.inr ⟨fun q => hk q.symm, by rw [ev_n_eq]; exact h⟩
theorem ev_s_len {α : Type} (l : List α) (k : Nat) (x : α) : (ev_s l k x).length = l.length := by rw [ev_s_eq, List.length_set]
/-- a value of the list as a value of the heap: a place's address; 'retAddr b' stands for the address b itself -/
def ev_v (ρ : ev_R) (v : Value) : Value := match v with
  | .ref a => .ref (ρ a).1
  | .retAddr b => .ref b
  | .int x => .int x
  | .long x => .long x
  | .float x => .float x
  | .double x => .double x
  | .null => .null
theorem ev_v_cat (ρ : ev_R) (v : Value) : (ev_v ρ v).category = v.category := by cases v <;> rfl
theorem ev_v_cats (ρ : ev_R) (st : List Value) : ((st.map (ev_v ρ)).map fun v => v.category) = st.map fun v => v.category := by
  rw [List.map_map]
  exact List.map_congr_left fun v _ => ev_v_cat ρ v
def ev_e (ρ : ev_R) (k : Nat) (x : ev_E) : va_E := match x with
  | .inl (_, n, .inl f) => .inl ((ρ k).2, n, .inl f)
  | .inl (_, n, .inr f) => .inl ((ρ k).2, n, .inr (.inl f))
  | .inr (ci, fs) => .inr (ci, fs.map (ev_v ρ))
def ev_w (ρ : ev_R) (A : ev_H) : va_W := A.mapIdx fun k x => ((ρ k).1, ev_e ρ k x)
theorem ev_w_get (ρ : ev_R) (A : ev_H) (k : Nat) : (ev_w ρ A)[k]? = A[k]?.map (fun x => ((ρ k).1, ev_e ρ k x)) := by
  unfold ev_w
  rw [List.getElem?_mapIdx]
theorem ev_w_at {ρ : ev_R} {A : ev_H} {k : Nat} {x : ev_E} (h : ev_n A k = some x) : (ev_w ρ A)[k]? = some ((ρ k).1, ev_e ρ k x) := by
  rw [ev_w_get, ← ev_n_eq, h]
  rfl
theorem ev_w_len (ρ : ev_R) (A : ev_H) : (ev_w ρ A).length = A.length := by unfold ev_w; exact List.length_mapIdx
theorem ev_w_set (ρ : ev_R) (A : ev_H) (k : Nat) (x : ev_E) : ev_w ρ (ev_s A k x) = (ev_w ρ A).set k ((ρ k).1, ev_e ρ k x) := by
  apply List.ext_getElem?
  intro i
  rw [ev_w_get, ev_s_eq, List.getElem?_set, List.getElem?_set, ev_w_len, ev_w_get]
  by_cases h : k = i
  · subst h
    rw [if_pos rfl, if_pos rfl]
    by_cases hl : k < A.length
    · rw [if_pos hl, if_pos hl]
      rfl
    · rw [if_neg hl, if_neg hl]
      rfl
  · rw [if_neg h, if_neg h]
def ev_okv (n : Nat) (v : Value) : Bool := match v with
  | .ref a => Nat.blt a n
  | _ => true
def ev_okl (n : Nat) : ev_L → Bool
  | [] => true
  | none :: l => ev_okl n l
  | some v :: l => ev_okv n v && ev_okl n l
def ev_oks (n : Nat) : List Value → Bool
  | [] => true
  | v :: l => ev_okv n v && ev_oks n l
def ev_okh (n : Nat) : ev_H → Bool
  | [] => true
  | .inl _ :: l => ev_okh n l
  | .inr (_, fs) :: l => ev_oks n fs && ev_okh n l
theorem ev_okv_eq {n : Nat} {ρ ρ' : ev_R} (ha : ∀ k, k < n → ρ' k = ρ k) {v : Value} (h : ev_okv n v = true) : ev_v ρ' v = ev_v ρ v := by
  cases v with
  | ref a =>
    have : a < n := by simpa [ev_okv, Nat.blt_eq] using h
    show Value.ref (ρ' a).1 = Value.ref (ρ a).1
    rw [ha a this]
  | _ => rfl
theorem ev_oks_eq {n : Nat} {ρ ρ' : ev_R} (ha : ∀ k, k < n → ρ' k = ρ k) : ∀ {st : List Value}, ev_oks n st = true → st.map (ev_v ρ') = st.map (ev_v ρ)
  | [], _ => rfl
  | v :: st, h => by
    simp only [ev_oks, Bool.and_eq_true] at h
    rw [List.map_cons, List.map_cons, ev_okv_eq ha h.1, ev_oks_eq ha h.2]
theorem ev_okl_eq {n : Nat} {ρ ρ' : ev_R} (ha : ∀ k, k < n → ρ' k = ρ k) : ∀ {lo : ev_L}, ev_okl n lo = true → ∀ (i : Nat) (v : Value), ev_n lo i = some (some v) → ev_v ρ' v = ev_v ρ v
  | [], _, i, v, hi => by simp [ev_n] at hi
  | none :: lo, h, 0, v, hi => by simp [ev_n] at hi
  | none :: lo, h, i + 1, v, hi => ev_okl_eq ha (lo := lo) h i v hi
  | some u :: lo, h, 0, v, hi => by
    simp only [ev_okl, Bool.and_eq_true] at h
    simp only [ev_n, Option.some.injEq] at hi
    subst hi
    exact ev_okv_eq ha h.1
  | some u :: lo, h, i + 1, v, hi => by
    simp only [ev_okl, Bool.and_eq_true] at h
    exact ev_okl_eq ha (lo := lo) h.2 i v hi
theorem ev_okh_eq {n : Nat} {ρ ρ' : ev_R} (ha : ∀ k, k < n → ρ' k = ρ k) : ∀ {A : ev_H}, ev_okh n A = true → ∀ (i : Nat) (x : ev_E), A[i]? = some x → i < n → ev_e ρ' i x = ev_e ρ i x
  | [], _, i, x, hi, _ => by simp at hi
  | a :: A, h, i, x, hi, hn => by
    have key : ∀ (j : Nat), j < n → ev_okh n [x] = true → ev_e ρ' j x = ev_e ρ j x := by
      intro j hj hx
      rcases x with ⟨ty, N, f | f⟩ | ⟨ci, fs⟩
      · show (Sum.inl ((ρ' j).2, N, Sum.inl f) : va_E) = Sum.inl ((ρ j).2, N, Sum.inl f)
        rw [ha j hj]
      · show (Sum.inl ((ρ' j).2, N, Sum.inr (Sum.inl f)) : va_E) = Sum.inl ((ρ j).2, N, Sum.inr (Sum.inl f))
        rw [ha j hj]
      · simp only [ev_okh, Bool.and_true] at hx
        show (Sum.inr (ci, fs.map (ev_v ρ')) : va_E) = Sum.inr (ci, fs.map (ev_v ρ))
        rw [ev_oks_eq ha hx]
    have mem : ∀ (B : ev_H) (j : Nat), ev_okh n B = true → B[j]? = some x → ev_okh n [x] = true := by
      intro B
      induction B with
      | nil => intro j _ h; simp at h
      | cons b B ih =>
        intro j hb hj
        cases j with
        | zero =>
          simp only [List.getElem?_cons_zero, Option.some.injEq] at hj
          subst hj
          rcases b with b | ⟨ci, fs⟩
          · rfl
          · simp only [ev_okh, Bool.and_eq_true] at hb
            simp only [ev_okh, Bool.and_true]
            exact hb.1
        | succ j =>
          rw [List.getElem?_cons_succ] at hj
          refine ih j ?_ hj
          rcases b with b | ⟨ci, fs⟩
          · exact hb
          · simp only [ev_okh, Bool.and_eq_true] at hb
            exact hb.2
    exact key i hn (mem (a :: A) i h hi)
theorem ev_w_eq {ρ ρ' : ev_R} {A : ev_H} (ha : ∀ k, k < A.length → ρ' k = ρ k) (h : ev_okh A.length A = true) : ev_w ρ' A = ev_w ρ A := by
  apply List.ext_getElem?
  intro i
  rw [ev_w_get, ev_w_get]
  cases hi : A[i]? with
  | none => rfl
  | some x =>
    have hl : i < A.length := (List.getElem?_eq_some_iff.mp hi).1
    show some ((ρ' i).1, ev_e ρ' i x) = some ((ρ i).1, ev_e ρ i x)
    rw [ha i hl, ev_okh_eq ha h i x hi hl]
def ev_up (ρ : ev_R) (n q : Nat) (c : ClassId) : ev_R := fun k => if k = n then (q, c) else ρ k
theorem ev_up_lt {ρ : ev_R} {n q : Nat} {c : ClassId} (k : Nat) (h : k < n) : ev_up ρ n q c k = ρ k := by
  unfold ev_up
  rw [if_neg (by omega)]
theorem ev_up_at {ρ : ev_R} {n q : Nat} {c : ClassId} : ev_up ρ n q c n = (q, c) := by
  unfold ev_up
  rw [if_pos rfl]
theorem ev_w_push {ρ : ev_R} {A : ev_H} {q : Nat} {c : ClassId} {x : ev_E} (h : ev_okh A.length A = true) : ev_w (ev_up ρ A.length q c) (A ++ [x]) = ev_w ρ A ++ [(q, ev_e (ev_up ρ A.length q c) A.length x)] := by
  have h1 : ev_w (ev_up ρ A.length q c) (A ++ [x]) = ev_w (ev_up ρ A.length q c) A ++ [((ev_up ρ A.length q c A.length).1, ev_e (ev_up ρ A.length q c) A.length x)] := by
    unfold ev_w
    rw [List.mapIdx_append]
    simp
  rw [h1, ev_w_eq (ρ' := ev_up ρ A.length q c) (ρ := ρ) (fun k hk => ev_up_lt k hk) h, ev_up_at]
def ev_T (ρ : ev_R) (A : ev_H) (U : State) : Prop := ∀ (k : Nat) (ty : FieldType) (x : Nat × ((Nat → Int32) ⊕ (Nat → Int64))), A[k]? = some (.inl (ty, x)) → ArrOfT U (ρ k).2 ty ∧ va_RA U (ρ k).2 ty
theorem ev_T.moved {ρ : ev_R} {A : ev_H} {u U : State} (hvm : u.vm.Alike U.vm) (h : ev_T ρ A u) : ev_T ρ A U := fun k ty x hk => ⟨arrOfT_moved hvm (h k ty x hk).1, (h k ty x hk).2.moved hvm⟩
theorem ev_T.set {ρ : ev_R} {A : ev_H} {U : State} (h : ev_T ρ A U) {k : Nat} {ty : FieldType} {x y : Nat × ((Nat → Int32) ⊕ (Nat → Int64))} (hk : ev_n A k = some (.inl (ty, x))) : ev_T ρ (ev_s A k (.inl (ty, y))) U := by
  intro j t z hj
  rw [← ev_n_eq] at hj
  rcases ev_n_s _ _ _ _ _ hj with ⟨rfl, e⟩ | ⟨_, e⟩
  · cases e
    exact h j ty x (by rw [← ev_n_eq]; exact hk)
  · exact h j t z (by rw [← ev_n_eq]; exact e)
theorem ev_T.seto {ρ : ev_R} {A : ev_H} {U : State} (h : ev_T ρ A U) {k : Nat} {x : Nat × List Value} : ev_T ρ (ev_s A k (.inr x)) U := by
  intro j t z hj
  rw [← ev_n_eq] at hj
  rcases ev_n_s _ _ _ _ _ hj with ⟨rfl, e⟩ | ⟨_, e⟩
  · cases e
  · exact h j t z (by rw [← ev_n_eq]; exact e)
/-- the array at place k is of type ty -/
theorem ev_T.K {ρ : ev_R} {A : ev_H} {U : State} {D : va_G} {cl : List vw_C} (h : ev_T ρ A U) (hK : va_K D cl [] U) {k : Nat} {ty : FieldType} {x : Nat × ((Nat → Int32) ⊕ (Nat → Int64))} (hk : ev_n A k = some (.inl (ty, x))) : va_K D cl [((ρ k).2, ty)] U := by
  refine ⟨hK.1, fun j q hj => ?_⟩
  cases j with
  | zero =>
    simp only [List.getElem?_cons_zero, Option.some.injEq] at hj
    subst hj
    exact h k ty x (by rw [← ev_n_eq]; exact hk)
  | succ j => simp at hj
def ev_wd (D : va_G) (cl : List vw_C) (A : Nat → Prop) (s : State) (ρ0 : ev_R) (n0 : Nat) (ρ : ev_R) (hp : ev_H) (H : Heap) (locs : List Loc) : Prop :=
  va_P D cl (ev_w ρ hp) H ∧ va_D A (ev_w ρ hp) ∧ va_S A s.heap H locs ∧ ev_T ρ hp s ∧ n0 ≤ hp.length ∧ ∀ k, k < n0 → ρ k = ρ0 k
/-! locals -/
def ev_lo (ρ : ev_R) (ls : Array Slot) (nL : Nat) (lo : ev_L) : Prop := ls.size = nL ∧ lv_wf ls ∧ ∀ (i : Nat) (v : Value), ev_n lo i = some (some v) → ls[i]? = some (.val (ev_v ρ v))
def ev_a1 (ρ : ev_R) (lo : ev_L) (i : Nat) : Option (Nat × Value) := match ev_n lo i with
  | some (some v) => some (i, ev_v ρ v)
  | _ => none
def ev_as (ρ : ev_R) (lo : ev_L) : List (Nat × Value) := (List.range lo.length).filterMap (ev_a1 ρ lo)
theorem ev_lo.has {ρ : ev_R} {ls : Array Slot} {nL : Nat} {lo : ev_L} (h : ev_lo ρ ls nL lo) : lv_has ls nL (ev_as ρ lo) := by
  refine ⟨h.1, h.2.1, fun q hq => ?_⟩
  obtain ⟨i, -, hi⟩ := List.mem_filterMap.mp hq
  unfold ev_a1 at hi
  split at hi
  · rename_i v hv
    cases hi
    exact h.2.2 i v hv
  · cases hi
theorem ev_n_lt {α : Type} {l : List α} {i : Nat} {x : α} (h : ev_n l i = some x) : i < l.length := by
  rw [ev_n_eq] at h
  exact (List.getElem?_eq_some_iff.mp h).1
theorem ev_as_mem {ρ : ev_R} {lo : ev_L} {i : Nat} {v : Value} (h : ev_n lo i = some (some v)) : (i, ev_v ρ v) ∈ ev_as ρ lo := by
  refine List.mem_filterMap.mpr ⟨i, List.mem_range.mpr (ev_n_lt h), ?_⟩
  unfold ev_a1
  rw [h]
def ev_pw (lo : ev_L) (j : Nat) : ev_L := match ev_n lo j with
  | some (some (.long _)) => ev_s lo j none
  | some (some (.double _)) => ev_s lo j none
  | _ => lo
def ev_pv (lo : ev_L) : Nat → ev_L
  | 0 => lo
  | j + 1 => ev_pw lo j
def ev_st (lo : ev_L) (i : Nat) (v : Value) : ev_L := ev_s (ev_pv lo i) i (some v)
theorem ev_st_n {lo : ev_L} {i j : Nat} {v u : Value} (h : ev_n (ev_st lo i v) j = some (some u)) : (j = i ∧ u = v) ∨ (j ≠ i ∧ ev_n lo j = some (some u) ∧ ¬ (j + 1 = i ∧ u.category = 2)) := by
  unfold ev_st at h
  rcases ev_n_s _ _ _ _ _ h with ⟨a, b⟩ | ⟨a, b⟩
  · cases b
    exact Or.inl ⟨a, rfl⟩
  · refine Or.inr ⟨a, ?_⟩
    cases i with
    | zero => exact ⟨b, fun q => by omega⟩
    | succ i =>
      have b2 : ev_n (ev_pw lo i) j = some (some u) := b
      clear b
      unfold ev_pw at b2
      split at b2
      · rename_i x hx
        rcases ev_n_s _ _ _ _ _ b2 with ⟨_, b⟩ | ⟨a1, b⟩
        · cases b
        · exact ⟨b, fun q => a1 (by omega)⟩
      · rename_i x hx
        rcases ev_n_s _ _ _ _ _ b2 with ⟨_, b⟩ | ⟨a1, b⟩
        · cases b
        · exact ⟨b, fun q => a1 (by omega)⟩
      · rename_i h1 h2
        refine ⟨b2, fun q => ?_⟩
        obtain ⟨q1, q2⟩ := q
        have : j = i := by omega
        subst this
        cases u with
        | long z => exact h1 z b2
        | double z => exact h2 z b2
        | _ => simp [Value.category] at q2
theorem ev_lo.store {ρ : ev_R} {ls ls' : Array Slot} {nL i : Nat} {lo : ev_L} {v : Value} (h : lv_has ls' nL ((i, ev_v ρ v) :: (ev_as ρ lo).filter (fun q => !(q.1 == i) && !(q.1 + 1 == i && q.2.category == 2)))) : ev_lo ρ ls' nL (ev_st lo i v) := by
  refine ⟨h.1, h.2.1, fun j u hj => ?_⟩
  rcases ev_st_n hj with ⟨rfl, rfl⟩ | ⟨a, b, d⟩
  · exact h.2.2 _ List.mem_cons_self
  · refine h.2.2 (j, ev_v ρ u) (List.mem_cons_of_mem _ (List.mem_filter.mpr ⟨ev_as_mem b, ?_⟩))
    simp only [Bool.and_eq_true, Bool.not_eq_true', beq_eq_false_iff_ne, ne_eq, Bool.and_eq_false_iff, ev_v_cat]
    refine ⟨a, ?_⟩
    by_cases h1 : j + 1 = i
    · exact Or.inr fun q => d ⟨h1, q⟩
    · exact Or.inl h1
theorem ev_lo.to {ρ ρ' : ev_R} {ls : Array Slot} {nL : Nat} {lo : ev_L} (h : ev_lo ρ ls nL lo) (he : ∀ (i : Nat) (v : Value), ev_n lo i = some (some v) → ev_v ρ' v = ev_v ρ v) : ev_lo ρ' ls nL lo := ⟨h.1, h.2.1, fun i v hi => by rw [he i v hi]; exact h.2.2 i v hi⟩
/-- what is dead is forgotten: only the places of the list ks stay -/
def ev_keep : List Bool → ev_L → ev_L
  | [], _ => []
  | _ :: _, [] => []
  | true :: b, v :: lo => v :: ev_keep b lo
  | false :: b, _ :: lo => none :: ev_keep b lo
theorem ev_keep_n : ∀ {b : List Bool} {lo : ev_L} {i : Nat} {v : Value}, ev_n (ev_keep b lo) i = some (some v) → ev_n lo i = some (some v)
  | [], lo, i, v, h => by simp [ev_keep, ev_n] at h
  | _ :: _, [], i, v, h => by simp [ev_keep, ev_n] at h
  | true :: b, x :: lo, 0, v, h => h
  | false :: b, x :: lo, 0, v, h => by simp [ev_keep, ev_n] at h
  | true :: b, x :: lo, i + 1, v, h => ev_keep_n (b := b) (lo := lo) (i := i) h
  | false :: b, x :: lo, i + 1, v, h => ev_keep_n (b := b) (lo := lo) (i := i) h
theorem ev_lo.keep {ρ : ev_R} {ls : Array Slot} {nL : Nat} {lo : ev_L} (b : List Bool) (h : ev_lo ρ ls nL lo) : ev_lo ρ ls nL (ev_keep b lo) := ⟨h.1, h.2.1, fun i v hi => h.2.2 i v (ev_keep_n hi)⟩
/-- a method's locals at its entry -/
def ev_ent : Nat → List Value → ev_L
  | 0, _ => []
  | n + 1, [] => none :: ev_ent n []
  | n + 1, .long x :: vs => match n with
    | 0 => [some (.long x)]
    | n + 1 => some (.long x) :: none :: ev_ent n vs
  | n + 1, .double x :: vs => match n with
    | 0 => [some (.double x)]
    | n + 1 => some (.double x) :: none :: ev_ent n vs
  | n + 1, v :: vs => some v :: ev_ent n vs
theorem ev_ent_nil : ∀ (n i : Nat) (v : Value), ¬ ev_n (ev_ent n []) i = some (some v)
  | 0, i, v => by simp [ev_ent, ev_n]
  | n + 1, 0, v => by simp [ev_ent, ev_n]
  | n + 1, i + 1, v => by
    intro h
    exact ev_ent_nil n i v (by simpa [ev_ent, ev_n] using h)
theorem ev_ent_n (ρ : ev_R) : ∀ (n : Nat) (vs : List Value) (i j : Nat) (v : Value), ev_n (ev_ent n vs) i = some (some v) → (j + i, ev_v ρ v) ∈ lv_args j (vs.map (ev_v ρ))
  | 0, vs, i, j, v, h => by simp [ev_ent, ev_n] at h
  | n + 1, [], i, j, v, h => absurd h (ev_ent_nil (n + 1) i v)
  | n + 1, u :: vs, i, j, v, h => by
    have one : u.category = 1 → ev_n (some u :: ev_ent n vs) i = some (some v) → (j + i, ev_v ρ v) ∈ lv_args j ((u :: vs).map (ev_v ρ)) := by
      intro hc h
      rw [List.map_cons, lv_args, ev_v_cat, hc, if_neg (by decide)]
      cases i with
      | zero =>
        simp only [ev_n, Option.some.injEq] at h
        subst h
        exact List.mem_cons_self
      | succ i =>
        have := ev_ent_n ρ n vs i (j + 1) v h
        rw [show j + (i + 1) = j + 1 + i by omega]
        exact List.mem_cons_of_mem _ this
    have two : u.category = 2 → ∀ n', ev_n (some u :: none :: ev_ent n' vs) i = some (some v) → n' < n + 1 → (j + i, ev_v ρ v) ∈ lv_args j ((u :: vs).map (ev_v ρ)) := by
      intro hc n' h hn'
      rw [List.map_cons, lv_args, ev_v_cat, hc, if_pos rfl]
      match i, h with
      | 0, h =>
        simp only [ev_n, Option.some.injEq] at h
        subst h
        exact List.mem_cons_self
      | 1, h => simp [ev_n] at h
      | i + 2, h =>
        have := ev_ent_n ρ n' vs i (j + 2) v h
        rw [show j + (i + 2) = j + 2 + i by omega]
        exact List.mem_cons_of_mem _ this
    have two1 : u.category = 2 → ev_n [some u] i = some (some v) → (j + i, ev_v ρ v) ∈ lv_args j ((u :: vs).map (ev_v ρ)) := by
      intro hc h
      rw [List.map_cons, lv_args]
      cases i with
      | zero =>
        simp only [ev_n, Option.some.injEq] at h
        subst h
        exact List.mem_cons_self
      | succ i => simp [ev_n] at h
    cases u with
    | long x =>
      cases n with
      | zero => exact two1 rfl h
      | succ n => exact two rfl n h (by omega)
    | double x =>
      cases n with
      | zero => exact two1 rfl h
      | succ n => exact two rfl n h (by omega)
    | int x => exact one rfl h
    | float x => exact one rfl h
    | null => exact one rfl h
    | ref x => exact one rfl h
    | retAddr x => exact one rfl h
termination_by n => n
theorem ev_ent_lo {ρ : ev_R} {ls : Array Slot} {nL : Nat} {as : List Value} (h : lv_has ls nL (lv_args 0 (as.map (ev_v ρ)))) : ev_lo ρ ls nL (ev_ent nL as) := by
  refine ⟨h.1, h.2.1, fun i v hi => ?_⟩
  have := ev_ent_n ρ nL as i 0 v hi
  rw [Nat.zero_add] at this
  exact h.2.2 _ this
end
section
/-! kinds, nest words and words of the tables; code, size of locals, answer's type, name, room, cells, slots; the machine's own state -/
abbrev ev_ga : Type := List vw_C × ev_N × List Jvm.Cond
abbrev ev_mu : Type := ByteArray × Nat × Option FieldType × MethodName × Room × Nat × Nat
abbrev ev_ka : Type := Program × Env × State × MethodId × Array Value × List Frame × Method × Code × (State → Prop) × (Nat → Prop) × ev_R × Nat × (ev_O → Prop)
def isB (x : Int32) : Bool := decide (x = 0 ∨ x = 1)
theorem isB_or {x : Int32} (h : isB x = true) : x = 0 ∨ x = 1 := of_decide_eq_true h
def ev_rd (cc : ByteArray) (ret : Option FieldType) (pc : Nat) (v : Option Value) : Prop := match v with
  | none => ret = none ∧ decode cc pc = .ok (.return_, 1)
  | some (.int x) => decode cc pc = .ok (.ireturn, 1) ∧ (ret = some .int ∨ (ret = some .boolean ∧ isB x = true))
  | _ => False
def ev_Ex (l : Launch) (D : va_G) (γ : ev_ga) (μ : ev_mu) (κ : ev_ka) (o : ev_O) : Prop := match κ with
  | (p, e, s, m, args, below, meth, c, Q, A, ρ0, n0, Ex) => ∀ (pc : Nat) (ρ : ev_R) (ls : Array Slot) (H : Heap) (locs : List Loc), ev_rd μ.1 μ.2.2.1 pc o.1 → ev_wd D γ.1 A s ρ0 n0 ρ o.2 H locs → W p l e μ.2.2.2.2.1 s m args below meth c H locs μ.2.2.2.2.2.1 μ.2.2.2.2.2.2 Q (F0 m pc ls (o.1.toList.map (ev_v ρ)))
def ev_X (l : Launch) (D : va_G) (γ : ev_ga) (μ : ev_mu) (κ : ev_ka) : Prop := match κ with
  | (p, e, s, m, args, below, meth, c, Q, A, ρ0, n0, Ex) => p.tables.exec = Jvm.exec ∧ c.code = μ.1 ∧ c.maxLocals = μ.2.1 ∧ s.vm.findClass μ.2.2.2.1.cls = some m.cls ∧ (∀ w ∈ γ.2.2, w.before args s = true) ∧ va_K D γ.1 [] s ∧ (∀ q, s.heap.size ≤ q → A q) ∧ (∀ q ∈ γ.2.1, va_Nw (.methodLinkNest q.1 q.2.1 q.2.2.1 q.2.2.2) s) ∧ meth.name = μ.2.2.2.1.name ∧ ∀ o, Ex o → ev_Ex l D γ μ (p, e, s, m, args, below, meth, c, Q, A, ρ0, n0, Ex) o
def ev_J {β : Type} (l : Launch) (D : va_G) (γ : ev_ga) (μ : ev_mu) (κ : ev_ka) (pc ce sl : Nat) (lo : ev_L) (st : List Value) (hp : ev_H) (y : Option β) (w : β → ev_O) : Prop := match κ with
  | (p, e, s, m, args, below, meth, c, Q, A, ρ0, n0, Ex) => ∀ (q : β), y = some q → Ex (w q) → ∀ (ρ : ev_R) (ls : Array Slot) (H : Heap) (locs : List Loc), ev_lo ρ ls μ.2.1 lo → ev_wd D γ.1 A s ρ0 n0 ρ hp H locs → W p l e μ.2.2.2.2.1 s m args below meth c H locs ce sl Q (F0 m pc ls (st.map (ev_v ρ)))
abbrev ix (i : Int32) : Nat := i.toNatClampNeg
def inb (i : Int32) (n : Nat) : Bool := decide (¬ (i < 0 ∨ n ≤ i.toNatClampNeg))
def nz (x : Int32) : Bool := decide (¬ x = 0)
def nzL (x : Int64) : Bool := decide (¬ x = 0)
theorem inb_in {i : Int32} {n : Nat} (h : inb i n = true) : vp_in i n := by
  have h1 : ¬ (i < 0 ∨ n ≤ i.toNatClampNeg) := of_decide_eq_true h
  exact h1
theorem nz_ne {x : Int32} (h : nz x = true) : ¬ x = 0 := of_decide_eq_true h
theorem nzL_ne {x : Int64} (h : nzL x = true) : ¬ x = 0 := of_decide_eq_true h
def ck {α : Type} (b : Bool) (k : Option α) : Option α := match b with
  | true => k
  | false => none
theorem ck_t {α : Type} {b : Bool} {k : Option α} {x : α} (h : ck b k = some x) : b = true ∧ k = some x := by
  cases b with
  | true => exact ⟨rfl, h⟩
  | false => cases h
def bd {α β : Type} (x : Option α) (k : α → Option β) : Option β := match x with
  | some a => k a
  | none => none
theorem bd_t {α β : Type} {x : Option α} {k : α → Option β} {z : β} (h : bd x k = some z) : ∃ a, x = some a ∧ k a = some z := by
  cases x with
  | some a => exact ⟨a, rfl, h⟩
  | none => cases h
section EVR
variable {β : Type} {l : Launch} {D : va_G} {γ : ev_ga} {μ : ev_mu} {κ : ev_ka} {pc n ce sl : Nat} {lo : ev_L} {st : List Value} {hp : ev_H} {y : Option β} {w : β → ev_O}
theorem js_iconst {i : Int} (v : Int32) (X : ev_X l D γ μ κ) (hd : decode μ.1 pc = .ok (.iconst i, 1)) (hn : pc + 1 = n) (hv : Int32.ofInt i = v) (hk : ev_J l D γ μ κ n ce sl lo (.int v :: st) hp y w) : ev_J l D γ μ κ pc ce sl lo (st) hp (y) w := by
  obtain ⟨p, e, s, m, args, below, meth, c, Q, A, ρ0, n0, Ex⟩ := κ
  subst hn
  intro q hy E ρ ls H locs hl hw
  exact lv_iconst X.1 X.2.1 hd hv (hk q hy E ρ ls H locs hl hw)
theorem js_bipush {i : Int} (v : Int32) (X : ev_X l D γ μ κ) (hd : decode μ.1 pc = .ok (.bipush i, 2)) (hn : pc + 2 = n) (hv : (Int8.ofInt i).toInt32 = v) (hk : ev_J l D γ μ κ n ce sl lo (.int v :: st) hp y w) : ev_J l D γ μ κ pc ce sl lo (st) hp (y) w := by
  obtain ⟨p, e, s, m, args, below, meth, c, Q, A, ρ0, n0, Ex⟩ := κ
  subst hn
  intro q hy E ρ ls H locs hl hw
  exact lv_bipush X.1 X.2.1 hd hv (hk q hy E ρ ls H locs hl hw)
theorem js_sipush {i : Int} (v : Int32) (X : ev_X l D γ μ κ) (hd : decode μ.1 pc = .ok (.sipush i, 3)) (hn : pc + 3 = n) (hv : (Int16.ofInt i).toInt32 = v) (hk : ev_J l D γ μ κ n ce sl lo (.int v :: st) hp y w) : ev_J l D γ μ κ pc ce sl lo (st) hp (y) w := by
  obtain ⟨p, e, s, m, args, below, meth, c, Q, A, ρ0, n0, Ex⟩ := κ
  subst hn
  intro q hy E ρ ls H locs hl hw
  exact lv_sipush X.1 X.2.1 hd hv (hk q hy E ρ ls H locs hl hw)
theorem js_lconst {i : Fin 2} (v : Int64) (X : ev_X l D γ μ κ) (hd : decode μ.1 pc = .ok (.lconst i, 1)) (hn : pc + 1 = n) (hv : Int64.ofNat (i : Nat) = v) (hk : ev_J l D γ μ κ n ce sl lo (.long v :: st) hp y w) : ev_J l D γ μ κ pc ce sl lo (st) hp (y) w := by
  obtain ⟨p, e, s, m, args, below, meth, c, Q, A, ρ0, n0, Ex⟩ := κ
  subst hn
  intro q hy E ρ ls H locs hl hw
  exact lv_lconst X.1 X.2.1 hd hv (hk q hy E ρ ls H locs hl hw)
theorem js_ldc {i : Nat} {v : Int32} (X : ev_X l D γ μ κ) (hd : decode μ.1 pc = .ok (.ldc i, 2)) (hn : pc + 2 = n) (hv : Jvm.Cond.constant μ.2.2.2.1.cls i v ∈ γ.2.2) (hk : ev_J l D γ μ κ n ce sl lo (.int v :: st) hp y w) : ev_J l D γ μ κ pc ce sl lo (st) hp (y) w := by
  obtain ⟨p, e, s, m, args, below, meth, c, Q, A, ρ0, n0, Ex⟩ := κ
  subst hn
  intro q hy E ρ ls H locs hl hw
  exact lv_ldc X.1 X.2.1 X.2.2.2.1 (X.2.2.2.2.1 _ hv) hd (hk q hy E ρ ls H locs hl hw)
theorem js_ldcw {i : Nat} {v : Int32} (X : ev_X l D γ μ κ) (hd : decode μ.1 pc = .ok (.ldc_w i, 3)) (hn : pc + 3 = n) (hv : Jvm.Cond.constant μ.2.2.2.1.cls i v ∈ γ.2.2) (hk : ev_J l D γ μ κ n ce sl lo (.int v :: st) hp y w) : ev_J l D γ μ κ pc ce sl lo (st) hp (y) w := by
  obtain ⟨p, e, s, m, args, below, meth, c, Q, A, ρ0, n0, Ex⟩ := κ
  subst hn
  intro q hy E ρ ls H locs hl hw
  exact lv_ldcw X.1 X.2.1 X.2.2.2.1 (X.2.2.2.2.1 _ hv) hd (hk q hy E ρ ls H locs hl hw)
theorem js_ldc2 {i : Nat} {v : Int64} (X : ev_X l D γ μ κ) (hd : decode μ.1 pc = .ok (.ldc2_w i, 3)) (hn : pc + 3 = n) (hv : Jvm.Cond.constantLong μ.2.2.2.1.cls i v ∈ γ.2.2) (hk : ev_J l D γ μ κ n ce sl lo (.long v :: st) hp y w) : ev_J l D γ μ κ pc ce sl lo (st) hp (y) w := by
  obtain ⟨p, e, s, m, args, below, meth, c, Q, A, ρ0, n0, Ex⟩ := κ
  subst hn
  intro q hy E ρ ls H locs hl hw
  exact lv_ldc2 X.1 X.2.1 X.2.2.2.1 (X.2.2.2.2.1 _ hv) hd (hk q hy E ρ ls H locs hl hw)
theorem js_iload {i : Nat} {x : Int32} (X : ev_X l D γ μ κ) (hd : decode μ.1 pc = .ok (.iload i, 2)) (hn : pc + 2 = n) (hx : ev_n lo i = some (some (.int x))) (hk : ev_J l D γ μ κ n ce sl lo (.int x :: st) hp y w) : ev_J l D γ μ κ pc ce sl lo (st) hp (y) w := by
  obtain ⟨p, e, s, m, args, below, meth, c, Q, A, ρ0, n0, Ex⟩ := κ
  subst hn
  intro q hy E ρ ls H locs hl hw
  exact lv_iload X.1 X.2.1 hd (hl.2.2 i _ hx) (hk q hy E ρ ls H locs hl hw)
theorem js_iload_n {i : Nat} {j : Fin 4} {x : Int32} (X : ev_X l D γ μ κ) (hd : decode μ.1 pc = .ok (.iload_n j, 1)) (hn : pc + 1 = n) (hj : (j : Nat) = i) (hx : ev_n lo i = some (some (.int x))) (hk : ev_J l D γ μ κ n ce sl lo (.int x :: st) hp y w) : ev_J l D γ μ κ pc ce sl lo (st) hp (y) w := by
  obtain ⟨p, e, s, m, args, below, meth, c, Q, A, ρ0, n0, Ex⟩ := κ
  subst hn
  intro q hy E ρ ls H locs hl hw
  exact lv_iload_n X.1 X.2.1 hd hj (hl.2.2 i _ hx) (hk q hy E ρ ls H locs hl hw)
theorem js_lload {i : Nat} {x : Int64} (X : ev_X l D γ μ κ) (hd : decode μ.1 pc = .ok (.lload i, 2)) (hn : pc + 2 = n) (hx : ev_n lo i = some (some (.long x))) (hk : ev_J l D γ μ κ n ce sl lo (.long x :: st) hp y w) : ev_J l D γ μ κ pc ce sl lo (st) hp (y) w := by
  obtain ⟨p, e, s, m, args, below, meth, c, Q, A, ρ0, n0, Ex⟩ := κ
  subst hn
  intro q hy E ρ ls H locs hl hw
  exact lv_lload X.1 X.2.1 hd (hl.2.2 i _ hx) (hk q hy E ρ ls H locs hl hw)
theorem js_lload_n {i : Nat} {j : Fin 4} {x : Int64} (X : ev_X l D γ μ κ) (hd : decode μ.1 pc = .ok (.lload_n j, 1)) (hn : pc + 1 = n) (hj : (j : Nat) = i) (hx : ev_n lo i = some (some (.long x))) (hk : ev_J l D γ μ κ n ce sl lo (.long x :: st) hp y w) : ev_J l D γ μ κ pc ce sl lo (st) hp (y) w := by
  obtain ⟨p, e, s, m, args, below, meth, c, Q, A, ρ0, n0, Ex⟩ := κ
  subst hn
  intro q hy E ρ ls H locs hl hw
  exact lv_lload_n X.1 X.2.1 hd hj (hl.2.2 i _ hx) (hk q hy E ρ ls H locs hl hw)
theorem js_aload {i : Nat} {x : Nat} (X : ev_X l D γ μ κ) (hd : decode μ.1 pc = .ok (.aload i, 2)) (hn : pc + 2 = n) (hx : ev_n lo i = some (some (.ref x))) (hk : ev_J l D γ μ κ n ce sl lo (.ref x :: st) hp y w) : ev_J l D γ μ κ pc ce sl lo (st) hp (y) w := by
  obtain ⟨p, e, s, m, args, below, meth, c, Q, A, ρ0, n0, Ex⟩ := κ
  subst hn
  intro q hy E ρ ls H locs hl hw
  exact lv_aload X.1 X.2.1 hd (hl.2.2 i _ hx) (hk q hy E ρ ls H locs hl hw)
theorem js_aload_n {i : Nat} {j : Fin 4} {x : Nat} (X : ev_X l D γ μ κ) (hd : decode μ.1 pc = .ok (.aload_n j, 1)) (hn : pc + 1 = n) (hj : (j : Nat) = i) (hx : ev_n lo i = some (some (.ref x))) (hk : ev_J l D γ μ κ n ce sl lo (.ref x :: st) hp y w) : ev_J l D γ μ κ pc ce sl lo (st) hp (y) w := by
  obtain ⟨p, e, s, m, args, below, meth, c, Q, A, ρ0, n0, Ex⟩ := κ
  subst hn
  intro q hy E ρ ls H locs hl hw
  exact lv_aload_n X.1 X.2.1 hd hj (hl.2.2 i _ hx) (hk q hy E ρ ls H locs hl hw)
theorem js_sload {i : Nat} {x : Nat} (X : ev_X l D γ μ κ) (hd : decode μ.1 pc = .ok (.aload i, 2)) (hn : pc + 2 = n) (hx : ev_n lo i = some (some (.retAddr x))) (hk : ev_J l D γ μ κ n ce sl lo (.retAddr x :: st) hp y w) : ev_J l D γ μ κ pc ce sl lo (st) hp (y) w := by
  obtain ⟨p, e, s, m, args, below, meth, c, Q, A, ρ0, n0, Ex⟩ := κ
  subst hn
  intro q hy E ρ ls H locs hl hw
  exact lv_aload X.1 X.2.1 hd (hl.2.2 i _ hx) (hk q hy E ρ ls H locs hl hw)
theorem js_sload_n {i : Nat} {j : Fin 4} {x : Nat} (X : ev_X l D γ μ κ) (hd : decode μ.1 pc = .ok (.aload_n j, 1)) (hn : pc + 1 = n) (hj : (j : Nat) = i) (hx : ev_n lo i = some (some (.retAddr x))) (hk : ev_J l D γ μ κ n ce sl lo (.retAddr x :: st) hp y w) : ev_J l D γ μ κ pc ce sl lo (st) hp (y) w := by
  obtain ⟨p, e, s, m, args, below, meth, c, Q, A, ρ0, n0, Ex⟩ := κ
  subst hn
  intro q hy E ρ ls H locs hl hw
  exact lv_aload_n X.1 X.2.1 hd hj (hl.2.2 i _ hx) (hk q hy E ρ ls H locs hl hw)
theorem js_istore {i : Nat} {x : Int32} (X : ev_X l D γ μ κ) (hd : decode μ.1 pc = .ok (.istore i, 2)) (hn : pc + 2 = n) (hi : i < μ.2.1) (hk : ev_J l D γ μ κ n ce sl (ev_st lo i (.int x)) (st) hp y w) : ev_J l D γ μ κ pc ce sl lo (.int x :: st) hp (y) w := by
  obtain ⟨p, e, s, m, args, below, meth, c, Q, A, ρ0, n0, Ex⟩ := κ
  subst hn
  intro q hy E ρ ls H locs hl hw
  exact lv_istore X.1 X.2.1 hd hl.has hi rfl (fun ls' h => hk q hy E ρ ls' H locs (ev_lo.store (v := .int x) (ls := ls) h) hw)
theorem js_istore_n {i : Nat} {j : Fin 4} {x : Int32} (X : ev_X l D γ μ κ) (hd : decode μ.1 pc = .ok (.istore_n j, 1)) (hn : pc + 1 = n) (hj : (j : Nat) = i) (hi : i < μ.2.1) (hk : ev_J l D γ μ κ n ce sl (ev_st lo i (.int x)) (st) hp y w) : ev_J l D γ μ κ pc ce sl lo (.int x :: st) hp (y) w := by
  obtain ⟨p, e, s, m, args, below, meth, c, Q, A, ρ0, n0, Ex⟩ := κ
  subst hn
  intro q hy E ρ ls H locs hl hw
  exact lv_istore_n X.1 X.2.1 hd hj hl.has hi rfl (fun ls' h => hk q hy E ρ ls' H locs (ev_lo.store (v := .int x) (ls := ls) h) hw)
theorem js_astore {i : Nat} {x : Nat} (X : ev_X l D γ μ κ) (hd : decode μ.1 pc = .ok (.astore i, 2)) (hn : pc + 2 = n) (hi : i < μ.2.1) (hk : ev_J l D γ μ κ n ce sl (ev_st lo i (.ref x)) (st) hp y w) : ev_J l D γ μ κ pc ce sl lo (.ref x :: st) hp (y) w := by
  obtain ⟨p, e, s, m, args, below, meth, c, Q, A, ρ0, n0, Ex⟩ := κ
  subst hn
  intro q hy E ρ ls H locs hl hw
  exact lv_astore X.1 X.2.1 hd hl.has hi rfl (fun ls' h => hk q hy E ρ ls' H locs (ev_lo.store (v := .ref x) (ls := ls) h) hw)
theorem js_astore_n {i : Nat} {j : Fin 4} {x : Nat} (X : ev_X l D γ μ κ) (hd : decode μ.1 pc = .ok (.astore_n j, 1)) (hn : pc + 1 = n) (hj : (j : Nat) = i) (hi : i < μ.2.1) (hk : ev_J l D γ μ κ n ce sl (ev_st lo i (.ref x)) (st) hp y w) : ev_J l D γ μ κ pc ce sl lo (.ref x :: st) hp (y) w := by
  obtain ⟨p, e, s, m, args, below, meth, c, Q, A, ρ0, n0, Ex⟩ := κ
  subst hn
  intro q hy E ρ ls H locs hl hw
  exact lv_astore_n X.1 X.2.1 hd hj hl.has hi rfl (fun ls' h => hk q hy E ρ ls' H locs (ev_lo.store (v := .ref x) (ls := ls) h) hw)
theorem js_iinc {i : Nat} {d : Int} (v : Int32) {x : Int32} (X : ev_X l D γ μ κ) (hd : decode μ.1 pc = .ok (.iinc i d, 3)) (hn : pc + 3 = n) (hv : Int32.ofInt d = v) (hi : i < μ.2.1) (hx : ev_n lo i = some (some (.int x))) (hk : ev_J l D γ μ κ n ce sl (ev_st lo i (.int (x + v))) (st) hp y w) : ev_J l D γ μ κ pc ce sl lo (st) hp (y) w := by
  obtain ⟨p, e, s, m, args, below, meth, c, Q, A, ρ0, n0, Ex⟩ := κ
  subst hn
  intro q hy E ρ ls H locs hl hw
  obtain ⟨j, hj⟩ := List.getElem?_of_mem (ev_as_mem (ρ := ρ) hx)
  exact lv_iinc X.1 X.2.1 hd hl.has (k := j) hj (by rw [hv]) hi rfl (fun ls' h => hk q hy E ρ ls' H locs (ev_lo.store (v := .int (x + v)) (ls := ls) h) hw)
theorem js_iadd {x z : Int32} (X : ev_X l D γ μ κ) (hd : decode μ.1 pc = .ok (.iadd, 1)) (hn : pc + 1 = n) (hk : ev_J l D γ μ κ n ce sl lo (.int (x + z) :: st) hp y w) : ev_J l D γ μ κ pc ce sl lo (.int z :: .int x :: st) hp (y) w := by
  obtain ⟨p, e, s, m, args, below, meth, c, Q, A, ρ0, n0, Ex⟩ := κ
  subst hn
  intro q hy E ρ ls H locs hl hw
  exact lv_iadd X.1 X.2.1 hd (hk q hy E ρ ls H locs hl hw)
theorem js_isub {x z : Int32} (X : ev_X l D γ μ κ) (hd : decode μ.1 pc = .ok (.isub, 1)) (hn : pc + 1 = n) (hk : ev_J l D γ μ κ n ce sl lo (.int (x - z) :: st) hp y w) : ev_J l D γ μ κ pc ce sl lo (.int z :: .int x :: st) hp (y) w := by
  obtain ⟨p, e, s, m, args, below, meth, c, Q, A, ρ0, n0, Ex⟩ := κ
  subst hn
  intro q hy E ρ ls H locs hl hw
  exact lv_isub X.1 X.2.1 hd (hk q hy E ρ ls H locs hl hw)
theorem js_imul {x z : Int32} (X : ev_X l D γ μ κ) (hd : decode μ.1 pc = .ok (.imul, 1)) (hn : pc + 1 = n) (hk : ev_J l D γ μ κ n ce sl lo (.int (x * z) :: st) hp y w) : ev_J l D γ μ κ pc ce sl lo (.int z :: .int x :: st) hp (y) w := by
  obtain ⟨p, e, s, m, args, below, meth, c, Q, A, ρ0, n0, Ex⟩ := κ
  subst hn
  intro q hy E ρ ls H locs hl hw
  exact lv_imul X.1 X.2.1 hd (hk q hy E ρ ls H locs hl hw)
theorem js_iand {x z : Int32} (X : ev_X l D γ μ κ) (hd : decode μ.1 pc = .ok (.iand, 1)) (hn : pc + 1 = n) (hk : ev_J l D γ μ κ n ce sl lo (.int (x &&& z) :: st) hp y w) : ev_J l D γ μ κ pc ce sl lo (.int z :: .int x :: st) hp (y) w := by
  obtain ⟨p, e, s, m, args, below, meth, c, Q, A, ρ0, n0, Ex⟩ := κ
  subst hn
  intro q hy E ρ ls H locs hl hw
  exact lv_iand X.1 X.2.1 hd (hk q hy E ρ ls H locs hl hw)
theorem js_ior {x z : Int32} (X : ev_X l D γ μ κ) (hd : decode μ.1 pc = .ok (.ior, 1)) (hn : pc + 1 = n) (hk : ev_J l D γ μ κ n ce sl lo (.int (x ||| z) :: st) hp y w) : ev_J l D γ μ κ pc ce sl lo (.int z :: .int x :: st) hp (y) w := by
  obtain ⟨p, e, s, m, args, below, meth, c, Q, A, ρ0, n0, Ex⟩ := κ
  subst hn
  intro q hy E ρ ls H locs hl hw
  exact lv_ior X.1 X.2.1 hd (hk q hy E ρ ls H locs hl hw)
theorem js_ixor {x z : Int32} (X : ev_X l D γ μ κ) (hd : decode μ.1 pc = .ok (.ixor, 1)) (hn : pc + 1 = n) (hk : ev_J l D γ μ κ n ce sl lo (.int (x ^^^ z) :: st) hp y w) : ev_J l D γ μ κ pc ce sl lo (.int z :: .int x :: st) hp (y) w := by
  obtain ⟨p, e, s, m, args, below, meth, c, Q, A, ρ0, n0, Ex⟩ := κ
  subst hn
  intro q hy E ρ ls H locs hl hw
  exact lv_ixor X.1 X.2.1 hd (hk q hy E ρ ls H locs hl hw)
theorem js_ishl {x z : Int32} (X : ev_X l D γ μ κ) (hd : decode μ.1 pc = .ok (.ishl, 1)) (hn : pc + 1 = n) (hk : ev_J l D γ μ κ n ce sl lo (.int (x <<< (z &&& 31)) :: st) hp y w) : ev_J l D γ μ κ pc ce sl lo (.int z :: .int x :: st) hp (y) w := by
  obtain ⟨p, e, s, m, args, below, meth, c, Q, A, ρ0, n0, Ex⟩ := κ
  subst hn
  intro q hy E ρ ls H locs hl hw
  exact lv_ishl X.1 X.2.1 hd (hk q hy E ρ ls H locs hl hw)
theorem js_ishr {x z : Int32} (X : ev_X l D γ μ κ) (hd : decode μ.1 pc = .ok (.ishr, 1)) (hn : pc + 1 = n) (hk : ev_J l D γ μ κ n ce sl lo (.int (x >>> (z &&& 31)) :: st) hp y w) : ev_J l D γ μ κ pc ce sl lo (.int z :: .int x :: st) hp (y) w := by
  obtain ⟨p, e, s, m, args, below, meth, c, Q, A, ρ0, n0, Ex⟩ := κ
  subst hn
  intro q hy E ρ ls H locs hl hw
  exact lv_ishr X.1 X.2.1 hd (hk q hy E ρ ls H locs hl hw)
theorem js_ineg {x : Int32} (X : ev_X l D γ μ κ) (hd : decode μ.1 pc = .ok (.ineg, 1)) (hn : pc + 1 = n) (hk : ev_J l D γ μ κ n ce sl lo (.int (-x) :: st) hp y w) : ev_J l D γ μ κ pc ce sl lo (.int x :: st) hp (y) w := by
  obtain ⟨p, e, s, m, args, below, meth, c, Q, A, ρ0, n0, Ex⟩ := κ
  subst hn
  intro q hy E ρ ls H locs hl hw
  exact lv_ineg X.1 X.2.1 hd (hk q hy E ρ ls H locs hl hw)
theorem js_idiv {x z : Int32} (X : ev_X l D γ μ κ) (hd : decode μ.1 pc = .ok (.idiv, 1)) (hn : pc + 1 = n) (hk : ev_J l D γ μ κ n ce sl lo (.int (x / z) :: st) hp y w) : ev_J l D γ μ κ pc ce sl lo (.int z :: .int x :: st) hp (ck (nz z) y) w := by
  obtain ⟨p, e, s, m, args, below, meth, c, Q, A, ρ0, n0, Ex⟩ := κ
  subst hn
  intro q hy E ρ ls H locs hl hw
  obtain ⟨h1, hy⟩ := ck_t hy
  exact lv_idiv X.1 X.2.1 hd (nz_ne h1) (hk q hy E ρ ls H locs hl hw)
theorem js_irem {x z : Int32} (X : ev_X l D γ μ κ) (hd : decode μ.1 pc = .ok (.irem, 1)) (hn : pc + 1 = n) (hk : ev_J l D γ μ κ n ce sl lo (.int (x - x / z * z) :: st) hp y w) : ev_J l D γ μ κ pc ce sl lo (.int z :: .int x :: st) hp (ck (nz z) y) w := by
  obtain ⟨p, e, s, m, args, below, meth, c, Q, A, ρ0, n0, Ex⟩ := κ
  subst hn
  intro q hy E ρ ls H locs hl hw
  obtain ⟨h1, hy⟩ := ck_t hy
  exact lv_irem X.1 X.2.1 hd (nz_ne h1) (hk q hy E ρ ls H locs hl hw)
theorem js_ladd {x z : Int64} (X : ev_X l D γ μ κ) (hd : decode μ.1 pc = .ok (.ladd, 1)) (hn : pc + 1 = n) (hk : ev_J l D γ μ κ n ce sl lo (.long (x + z) :: st) hp y w) : ev_J l D γ μ κ pc ce sl lo (.long z :: .long x :: st) hp (y) w := by
  obtain ⟨p, e, s, m, args, below, meth, c, Q, A, ρ0, n0, Ex⟩ := κ
  subst hn
  intro q hy E ρ ls H locs hl hw
  exact lv_ladd X.1 X.2.1 hd (hk q hy E ρ ls H locs hl hw)
theorem js_lmul {x z : Int64} (X : ev_X l D γ μ κ) (hd : decode μ.1 pc = .ok (.lmul, 1)) (hn : pc + 1 = n) (hk : ev_J l D γ μ κ n ce sl lo (.long (x * z) :: st) hp y w) : ev_J l D γ μ κ pc ce sl lo (.long z :: .long x :: st) hp (y) w := by
  obtain ⟨p, e, s, m, args, below, meth, c, Q, A, ρ0, n0, Ex⟩ := κ
  subst hn
  intro q hy E ρ ls H locs hl hw
  exact lv_lmul X.1 X.2.1 hd (hk q hy E ρ ls H locs hl hw)
theorem js_land {x z : Int64} (X : ev_X l D γ μ κ) (hd : decode μ.1 pc = .ok (.land, 1)) (hn : pc + 1 = n) (hk : ev_J l D γ μ κ n ce sl lo (.long (x &&& z) :: st) hp y w) : ev_J l D γ μ κ pc ce sl lo (.long z :: .long x :: st) hp (y) w := by
  obtain ⟨p, e, s, m, args, below, meth, c, Q, A, ρ0, n0, Ex⟩ := κ
  subst hn
  intro q hy E ρ ls H locs hl hw
  exact lv_land X.1 X.2.1 hd (hk q hy E ρ ls H locs hl hw)
theorem js_lor {x z : Int64} (X : ev_X l D γ μ κ) (hd : decode μ.1 pc = .ok (.lor, 1)) (hn : pc + 1 = n) (hk : ev_J l D γ μ κ n ce sl lo (.long (x ||| z) :: st) hp y w) : ev_J l D γ μ κ pc ce sl lo (.long z :: .long x :: st) hp (y) w := by
  obtain ⟨p, e, s, m, args, below, meth, c, Q, A, ρ0, n0, Ex⟩ := κ
  subst hn
  intro q hy E ρ ls H locs hl hw
  exact lv_lor X.1 X.2.1 hd (hk q hy E ρ ls H locs hl hw)
theorem js_lrem {x z : Int64} (X : ev_X l D γ μ κ) (hd : decode μ.1 pc = .ok (.lrem, 1)) (hn : pc + 1 = n) (hk : ev_J l D γ μ κ n ce sl lo (.long (x - x / z * z) :: st) hp y w) : ev_J l D γ μ κ pc ce sl lo (.long z :: .long x :: st) hp (ck (nzL z) y) w := by
  obtain ⟨p, e, s, m, args, below, meth, c, Q, A, ρ0, n0, Ex⟩ := κ
  subst hn
  intro q hy E ρ ls H locs hl hw
  obtain ⟨h1, hy⟩ := ck_t hy
  exact lv_lrem X.1 X.2.1 hd (nzL_ne h1) (hk q hy E ρ ls H locs hl hw)
theorem js_lushr {x : Int64} {z : Int32} (X : ev_X l D γ μ κ) (hd : decode μ.1 pc = .ok (.lushr, 1)) (hn : pc + 1 = n) (hk : ev_J l D γ μ κ n ce sl lo (.long ((x.toUInt64 >>> (z.toInt64.toUInt64 &&& Int64.toUInt64 63)).toInt64) :: st) hp y w) : ev_J l D γ μ κ pc ce sl lo (.int z :: .long x :: st) hp (y) w := by
  obtain ⟨p, e, s, m, args, below, meth, c, Q, A, ρ0, n0, Ex⟩ := κ
  subst hn
  intro q hy E ρ ls H locs hl hw
  exact lv_lushr X.1 X.2.1 hd rfl (hk q hy E ρ ls H locs hl hw)
theorem js_lshl {x : Int64} {z : Int32} (X : ev_X l D γ μ κ) (hd : decode μ.1 pc = .ok (.lshl, 1)) (hn : pc + 1 = n) (hk : ev_J l D γ μ κ n ce sl lo (.long (x <<< (z.toInt64 &&& 63)) :: st) hp y w) : ev_J l D γ μ κ pc ce sl lo (.int z :: .long x :: st) hp (y) w := by
  obtain ⟨p, e, s, m, args, below, meth, c, Q, A, ρ0, n0, Ex⟩ := κ
  subst hn
  intro q hy E ρ ls H locs hl hw
  exact lv_lshl X.1 X.2.1 hd rfl (hk q hy E ρ ls H locs hl hw)
theorem js_lshr {x : Int64} {z : Int32} (X : ev_X l D γ μ κ) (hd : decode μ.1 pc = .ok (.lshr, 1)) (hn : pc + 1 = n) (hk : ev_J l D γ μ κ n ce sl lo (.long (x >>> (z.toInt64 &&& 63)) :: st) hp y w) : ev_J l D γ μ κ pc ce sl lo (.int z :: .long x :: st) hp (y) w := by
  obtain ⟨p, e, s, m, args, below, meth, c, Q, A, ρ0, n0, Ex⟩ := κ
  subst hn
  intro q hy E ρ ls H locs hl hw
  exact lv_lshr X.1 X.2.1 hd rfl (hk q hy E ρ ls H locs hl hw)
theorem js_lcmp {x z : Int64} (X : ev_X l D γ μ κ) (hd : decode μ.1 pc = .ok (.lcmp, 1)) (hn : pc + 1 = n) (hk : ev_J l D γ μ κ n ce sl lo (.int (lg_cmp x z) :: st) hp y w) : ev_J l D γ μ κ pc ce sl lo (.long z :: .long x :: st) hp (y) w := by
  obtain ⟨p, e, s, m, args, below, meth, c, Q, A, ρ0, n0, Ex⟩ := κ
  subst hn
  intro q hy E ρ ls H locs hl hw
  exact W.lcmp X.1 X.2.1 hd (hk q hy E ρ ls H locs hl hw)
theorem js_i2l {x : Int32} (X : ev_X l D γ μ κ) (hd : decode μ.1 pc = .ok (.i2l, 1)) (hn : pc + 1 = n) (hk : ev_J l D γ μ κ n ce sl lo (.long x.toInt64 :: st) hp y w) : ev_J l D γ μ κ pc ce sl lo (.int x :: st) hp (y) w := by
  obtain ⟨p, e, s, m, args, below, meth, c, Q, A, ρ0, n0, Ex⟩ := κ
  subst hn
  intro q hy E ρ ls H locs hl hw
  exact lv_i2l X.1 X.2.1 hd rfl (hk q hy E ρ ls H locs hl hw)
theorem js_l2i {x : Int64} (X : ev_X l D γ μ κ) (hd : decode μ.1 pc = .ok (.l2i, 1)) (hn : pc + 1 = n) (hk : ev_J l D γ μ κ n ce sl lo (.int x.toInt32 :: st) hp y w) : ev_J l D γ μ κ pc ce sl lo (.long x :: st) hp (y) w := by
  obtain ⟨p, e, s, m, args, below, meth, c, Q, A, ρ0, n0, Ex⟩ := κ
  subst hn
  intro q hy E ρ ls H locs hl hw
  exact lv_l2i X.1 X.2.1 hd rfl (hk q hy E ρ ls H locs hl hw)
theorem js_dup {a : Value} (X : ev_X l D γ μ κ) (hd : decode μ.1 pc = .ok (.dup, 1)) (hn : pc + 1 = n) (ha : a.category = 1) (hk : ev_J l D γ μ κ n ce sl lo (a :: a :: st) hp y w) : ev_J l D γ μ κ pc ce sl lo (a :: st) hp (y) w := by
  obtain ⟨p, e, s, m, args, below, meth, c, Q, A, ρ0, n0, Ex⟩ := κ
  subst hn
  intro q hy E ρ ls H locs hl hw
  exact lv_dup X.1 X.2.1 hd (by rw [ev_v_cat]; exact ha) (hk q hy E ρ ls H locs hl hw)
theorem js_dup2 {a b : Value} (X : ev_X l D γ μ κ) (hd : decode μ.1 pc = .ok (.dup2, 1)) (hn : pc + 1 = n) (ha : a.category = 1) (hb : b.category = 1) (hk : ev_J l D γ μ κ n ce sl lo (a :: b :: a :: b :: st) hp y w) : ev_J l D γ μ κ pc ce sl lo (a :: b :: st) hp (y) w := by
  obtain ⟨p, e, s, m, args, below, meth, c, Q, A, ρ0, n0, Ex⟩ := κ
  subst hn
  intro q hy E ρ ls H locs hl hw
  exact lv_dup2_11 X.1 X.2.1 hd (by rw [ev_v_cat]; exact ha) (by rw [ev_v_cat]; exact hb) (hk q hy E ρ ls H locs hl hw)
theorem js_dup22 {a : Value} (X : ev_X l D γ μ κ) (hd : decode μ.1 pc = .ok (.dup2, 1)) (hn : pc + 1 = n) (ha : a.category = 2) (hk : ev_J l D γ μ κ n ce sl lo (a :: a :: st) hp y w) : ev_J l D γ μ κ pc ce sl lo (a :: st) hp (y) w := by
  obtain ⟨p, e, s, m, args, below, meth, c, Q, A, ρ0, n0, Ex⟩ := κ
  subst hn
  intro q hy E ρ ls H locs hl hw
  exact lv_dup2_2 X.1 X.2.1 hd (by rw [ev_v_cat]; exact ha) (hk q hy E ρ ls H locs hl hw)
theorem js_dup_x1 {a b : Value} (X : ev_X l D γ μ κ) (hd : decode μ.1 pc = .ok (.dup_x1, 1)) (hn : pc + 1 = n) (ha : a.category = 1) (hb : b.category = 1) (hk : ev_J l D γ μ κ n ce sl lo (a :: b :: a :: st) hp y w) : ev_J l D γ μ κ pc ce sl lo (a :: b :: st) hp (y) w := by
  obtain ⟨p, e, s, m, args, below, meth, c, Q, A, ρ0, n0, Ex⟩ := κ
  subst hn
  intro q hy E ρ ls H locs hl hw
  exact lv_dup_x1 X.1 X.2.1 hd (by rw [ev_v_cat]; exact ha) (by rw [ev_v_cat]; exact hb) (hk q hy E ρ ls H locs hl hw)
theorem js_pop {a : Value} (X : ev_X l D γ μ κ) (hd : decode μ.1 pc = .ok (.pop, 1)) (hn : pc + 1 = n) (ha : a.category = 1) (hk : ev_J l D γ μ κ n ce sl lo (st) hp y w) : ev_J l D γ μ κ pc ce sl lo (a :: st) hp (y) w := by
  obtain ⟨p, e, s, m, args, below, meth, c, Q, A, ρ0, n0, Ex⟩ := κ
  subst hn
  intro q hy E ρ ls H locs hl hw
  exact lv_pop (va := ev_v ρ a) X.1 X.2.1 hd (by rw [ev_v_cat]; exact ha) (hk q hy E ρ ls H locs hl hw)
theorem js_if_eq {x : Int32} {yt yf : Option β} {t : Nat} {off : Int} (X : ev_X l D γ μ κ) (hd : decode μ.1 pc = .ok (.ifCond .eq off, 3)) (ht : (pc : Int) + off = (t : Int)) (hn : pc + 3 = n) (hkt : ev_J l D γ μ κ t ce sl lo st hp yt w) (hkf : ev_J l D γ μ κ n ce sl lo st hp yf w) : ev_J l D γ μ κ pc ce sl lo (.int x :: st) hp (if x = 0 then yt else yf) w := by
  obtain ⟨p, e, s, m, args, below, meth, c, Q, A, ρ0, n0, Ex⟩ := κ
  subst hn
  intro q hy E ρ ls H locs hl hw
  exact lv_if_eq X.1 X.2.1 hd ht (fun h => hkt q (by rw [if_pos h] at hy; exact hy) E ρ ls H locs hl hw) (fun h => hkf q (by rw [if_neg h] at hy; exact hy) E ρ ls H locs hl hw)
theorem js_if_eq_t {x : Int32} {t : Nat} {off : Int} (X : ev_X l D γ μ κ) (hd : decode μ.1 pc = .ok (.ifCond .eq off, 3)) (ht : (pc : Int) + off = (t : Int)) (hc : x = 0) (hkt : ev_J l D γ μ κ t ce sl lo st hp y w) : ev_J l D γ μ κ pc ce sl lo (.int x :: st) hp y w := by
  obtain ⟨p, e, s, m, args, below, meth, c, Q, A, ρ0, n0, Ex⟩ := κ
  intro q hy E ρ ls H locs hl hw
  exact lv_if_eq X.1 X.2.1 hd ht (fun _ => hkt q hy E ρ ls H locs hl hw) (fun h => absurd hc h)
theorem js_if_eq_f {x : Int32} {t : Nat} {off : Int} (X : ev_X l D γ μ κ) (hd : decode μ.1 pc = .ok (.ifCond .eq off, 3)) (ht : (pc : Int) + off = (t : Int)) (hn : pc + 3 = n) (hc : ¬ x = 0) (hkf : ev_J l D γ μ κ n ce sl lo st hp y w) : ev_J l D γ μ κ pc ce sl lo (.int x :: st) hp y w := by
  obtain ⟨p, e, s, m, args, below, meth, c, Q, A, ρ0, n0, Ex⟩ := κ
  subst hn
  intro q hy E ρ ls H locs hl hw
  exact lv_if_eq X.1 X.2.1 hd ht (fun h => absurd h hc) (fun _ => hkf q hy E ρ ls H locs hl hw)
theorem js_if_ne {x : Int32} {yt yf : Option β} {t : Nat} {off : Int} (X : ev_X l D γ μ κ) (hd : decode μ.1 pc = .ok (.ifCond .ne off, 3)) (ht : (pc : Int) + off = (t : Int)) (hn : pc + 3 = n) (hkt : ev_J l D γ μ κ t ce sl lo st hp yt w) (hkf : ev_J l D γ μ κ n ce sl lo st hp yf w) : ev_J l D γ μ κ pc ce sl lo (.int x :: st) hp (if x = 0 then yf else yt) w := by
  obtain ⟨p, e, s, m, args, below, meth, c, Q, A, ρ0, n0, Ex⟩ := κ
  subst hn
  intro q hy E ρ ls H locs hl hw
  exact lv_if_ne X.1 X.2.1 hd ht (fun h => hkt q (by rw [if_neg h] at hy; exact hy) E ρ ls H locs hl hw) (fun h => hkf q (by rw [if_pos h] at hy; exact hy) E ρ ls H locs hl hw)
theorem js_if_ne_t {x : Int32} {t : Nat} {off : Int} (X : ev_X l D γ μ κ) (hd : decode μ.1 pc = .ok (.ifCond .ne off, 3)) (ht : (pc : Int) + off = (t : Int)) (hc : ¬ x = 0) (hkt : ev_J l D γ μ κ t ce sl lo st hp y w) : ev_J l D γ μ κ pc ce sl lo (.int x :: st) hp y w := by
  obtain ⟨p, e, s, m, args, below, meth, c, Q, A, ρ0, n0, Ex⟩ := κ
  intro q hy E ρ ls H locs hl hw
  exact lv_if_ne X.1 X.2.1 hd ht (fun _ => hkt q hy E ρ ls H locs hl hw) (fun h => absurd h hc)
theorem js_if_ne_f {x : Int32} {t : Nat} {off : Int} (X : ev_X l D γ μ κ) (hd : decode μ.1 pc = .ok (.ifCond .ne off, 3)) (ht : (pc : Int) + off = (t : Int)) (hn : pc + 3 = n) (hc : x = 0) (hkf : ev_J l D γ μ κ n ce sl lo st hp y w) : ev_J l D γ μ κ pc ce sl lo (.int x :: st) hp y w := by
  obtain ⟨p, e, s, m, args, below, meth, c, Q, A, ρ0, n0, Ex⟩ := κ
  subst hn
  intro q hy E ρ ls H locs hl hw
  exact lv_if_ne X.1 X.2.1 hd ht (fun h => absurd hc h) (fun _ => hkf q hy E ρ ls H locs hl hw)
theorem js_if_lt {x : Int32} {yt yf : Option β} {t : Nat} {off : Int} (X : ev_X l D γ μ κ) (hd : decode μ.1 pc = .ok (.ifCond .lt off, 3)) (ht : (pc : Int) + off = (t : Int)) (hn : pc + 3 = n) (hkt : ev_J l D γ μ κ t ce sl lo st hp yt w) (hkf : ev_J l D γ μ κ n ce sl lo st hp yf w) : ev_J l D γ μ κ pc ce sl lo (.int x :: st) hp (if x < 0 then yt else yf) w := by
  obtain ⟨p, e, s, m, args, below, meth, c, Q, A, ρ0, n0, Ex⟩ := κ
  subst hn
  intro q hy E ρ ls H locs hl hw
  exact lv_if_lt X.1 X.2.1 hd ht (fun h => hkt q (by rw [if_pos h] at hy; exact hy) E ρ ls H locs hl hw) (fun h => hkf q (by rw [if_neg h] at hy; exact hy) E ρ ls H locs hl hw)
theorem js_if_lt_t {x : Int32} {t : Nat} {off : Int} (X : ev_X l D γ μ κ) (hd : decode μ.1 pc = .ok (.ifCond .lt off, 3)) (ht : (pc : Int) + off = (t : Int)) (hc : x < 0) (hkt : ev_J l D γ μ κ t ce sl lo st hp y w) : ev_J l D γ μ κ pc ce sl lo (.int x :: st) hp y w := by
  obtain ⟨p, e, s, m, args, below, meth, c, Q, A, ρ0, n0, Ex⟩ := κ
  intro q hy E ρ ls H locs hl hw
  exact lv_if_lt X.1 X.2.1 hd ht (fun _ => hkt q hy E ρ ls H locs hl hw) (fun h => absurd hc h)
theorem js_if_lt_f {x : Int32} {t : Nat} {off : Int} (X : ev_X l D γ μ κ) (hd : decode μ.1 pc = .ok (.ifCond .lt off, 3)) (ht : (pc : Int) + off = (t : Int)) (hn : pc + 3 = n) (hc : ¬ x < 0) (hkf : ev_J l D γ μ κ n ce sl lo st hp y w) : ev_J l D γ μ κ pc ce sl lo (.int x :: st) hp y w := by
  obtain ⟨p, e, s, m, args, below, meth, c, Q, A, ρ0, n0, Ex⟩ := κ
  subst hn
  intro q hy E ρ ls H locs hl hw
  exact lv_if_lt X.1 X.2.1 hd ht (fun h => absurd h hc) (fun _ => hkf q hy E ρ ls H locs hl hw)
theorem js_if_ge {x : Int32} {yt yf : Option β} {t : Nat} {off : Int} (X : ev_X l D γ μ κ) (hd : decode μ.1 pc = .ok (.ifCond .ge off, 3)) (ht : (pc : Int) + off = (t : Int)) (hn : pc + 3 = n) (hkt : ev_J l D γ μ κ t ce sl lo st hp yt w) (hkf : ev_J l D γ μ κ n ce sl lo st hp yf w) : ev_J l D γ μ κ pc ce sl lo (.int x :: st) hp (if 0 ≤ x then yt else yf) w := by
  obtain ⟨p, e, s, m, args, below, meth, c, Q, A, ρ0, n0, Ex⟩ := κ
  subst hn
  intro q hy E ρ ls H locs hl hw
  exact lv_if_ge X.1 X.2.1 hd ht (fun h => hkt q (by rw [if_pos h] at hy; exact hy) E ρ ls H locs hl hw) (fun h => hkf q (by rw [if_neg h] at hy; exact hy) E ρ ls H locs hl hw)
theorem js_if_ge_t {x : Int32} {t : Nat} {off : Int} (X : ev_X l D γ μ κ) (hd : decode μ.1 pc = .ok (.ifCond .ge off, 3)) (ht : (pc : Int) + off = (t : Int)) (hc : 0 ≤ x) (hkt : ev_J l D γ μ κ t ce sl lo st hp y w) : ev_J l D γ μ κ pc ce sl lo (.int x :: st) hp y w := by
  obtain ⟨p, e, s, m, args, below, meth, c, Q, A, ρ0, n0, Ex⟩ := κ
  intro q hy E ρ ls H locs hl hw
  exact lv_if_ge X.1 X.2.1 hd ht (fun _ => hkt q hy E ρ ls H locs hl hw) (fun h => absurd hc h)
theorem js_if_ge_f {x : Int32} {t : Nat} {off : Int} (X : ev_X l D γ μ κ) (hd : decode μ.1 pc = .ok (.ifCond .ge off, 3)) (ht : (pc : Int) + off = (t : Int)) (hn : pc + 3 = n) (hc : ¬ 0 ≤ x) (hkf : ev_J l D γ μ κ n ce sl lo st hp y w) : ev_J l D γ μ κ pc ce sl lo (.int x :: st) hp y w := by
  obtain ⟨p, e, s, m, args, below, meth, c, Q, A, ρ0, n0, Ex⟩ := κ
  subst hn
  intro q hy E ρ ls H locs hl hw
  exact lv_if_ge X.1 X.2.1 hd ht (fun h => absurd h hc) (fun _ => hkf q hy E ρ ls H locs hl hw)
theorem js_if_gt {x : Int32} {yt yf : Option β} {t : Nat} {off : Int} (X : ev_X l D γ μ κ) (hd : decode μ.1 pc = .ok (.ifCond .gt off, 3)) (ht : (pc : Int) + off = (t : Int)) (hn : pc + 3 = n) (hkt : ev_J l D γ μ κ t ce sl lo st hp yt w) (hkf : ev_J l D γ μ κ n ce sl lo st hp yf w) : ev_J l D γ μ κ pc ce sl lo (.int x :: st) hp (if 0 < x then yt else yf) w := by
  obtain ⟨p, e, s, m, args, below, meth, c, Q, A, ρ0, n0, Ex⟩ := κ
  subst hn
  intro q hy E ρ ls H locs hl hw
  exact lv_if_gt X.1 X.2.1 hd ht (fun h => hkt q (by rw [if_pos h] at hy; exact hy) E ρ ls H locs hl hw) (fun h => hkf q (by rw [if_neg h] at hy; exact hy) E ρ ls H locs hl hw)
theorem js_if_gt_t {x : Int32} {t : Nat} {off : Int} (X : ev_X l D γ μ κ) (hd : decode μ.1 pc = .ok (.ifCond .gt off, 3)) (ht : (pc : Int) + off = (t : Int)) (hc : 0 < x) (hkt : ev_J l D γ μ κ t ce sl lo st hp y w) : ev_J l D γ μ κ pc ce sl lo (.int x :: st) hp y w := by
  obtain ⟨p, e, s, m, args, below, meth, c, Q, A, ρ0, n0, Ex⟩ := κ
  intro q hy E ρ ls H locs hl hw
  exact lv_if_gt X.1 X.2.1 hd ht (fun _ => hkt q hy E ρ ls H locs hl hw) (fun h => absurd hc h)
theorem js_if_gt_f {x : Int32} {t : Nat} {off : Int} (X : ev_X l D γ μ κ) (hd : decode μ.1 pc = .ok (.ifCond .gt off, 3)) (ht : (pc : Int) + off = (t : Int)) (hn : pc + 3 = n) (hc : ¬ 0 < x) (hkf : ev_J l D γ μ κ n ce sl lo st hp y w) : ev_J l D γ μ κ pc ce sl lo (.int x :: st) hp y w := by
  obtain ⟨p, e, s, m, args, below, meth, c, Q, A, ρ0, n0, Ex⟩ := κ
  subst hn
  intro q hy E ρ ls H locs hl hw
  exact lv_if_gt X.1 X.2.1 hd ht (fun h => absurd h hc) (fun _ => hkf q hy E ρ ls H locs hl hw)
theorem js_if_le {x : Int32} {yt yf : Option β} {t : Nat} {off : Int} (X : ev_X l D γ μ κ) (hd : decode μ.1 pc = .ok (.ifCond .le off, 3)) (ht : (pc : Int) + off = (t : Int)) (hn : pc + 3 = n) (hkt : ev_J l D γ μ κ t ce sl lo st hp yt w) (hkf : ev_J l D γ μ κ n ce sl lo st hp yf w) : ev_J l D γ μ κ pc ce sl lo (.int x :: st) hp (if x ≤ 0 then yt else yf) w := by
  obtain ⟨p, e, s, m, args, below, meth, c, Q, A, ρ0, n0, Ex⟩ := κ
  subst hn
  intro q hy E ρ ls H locs hl hw
  exact lv_if_le X.1 X.2.1 hd ht (fun h => hkt q (by rw [if_pos h] at hy; exact hy) E ρ ls H locs hl hw) (fun h => hkf q (by rw [if_neg h] at hy; exact hy) E ρ ls H locs hl hw)
theorem js_if_le_t {x : Int32} {t : Nat} {off : Int} (X : ev_X l D γ μ κ) (hd : decode μ.1 pc = .ok (.ifCond .le off, 3)) (ht : (pc : Int) + off = (t : Int)) (hc : x ≤ 0) (hkt : ev_J l D γ μ κ t ce sl lo st hp y w) : ev_J l D γ μ κ pc ce sl lo (.int x :: st) hp y w := by
  obtain ⟨p, e, s, m, args, below, meth, c, Q, A, ρ0, n0, Ex⟩ := κ
  intro q hy E ρ ls H locs hl hw
  exact lv_if_le X.1 X.2.1 hd ht (fun _ => hkt q hy E ρ ls H locs hl hw) (fun h => absurd hc h)
theorem js_if_le_f {x : Int32} {t : Nat} {off : Int} (X : ev_X l D γ μ κ) (hd : decode μ.1 pc = .ok (.ifCond .le off, 3)) (ht : (pc : Int) + off = (t : Int)) (hn : pc + 3 = n) (hc : ¬ x ≤ 0) (hkf : ev_J l D γ μ κ n ce sl lo st hp y w) : ev_J l D γ μ κ pc ce sl lo (.int x :: st) hp y w := by
  obtain ⟨p, e, s, m, args, below, meth, c, Q, A, ρ0, n0, Ex⟩ := κ
  subst hn
  intro q hy E ρ ls H locs hl hw
  exact lv_if_le X.1 X.2.1 hd ht (fun h => absurd h hc) (fun _ => hkf q hy E ρ ls H locs hl hw)
theorem js_icmp_eq {x z : Int32} {yt yf : Option β} {t : Nat} {off : Int} (X : ev_X l D γ μ κ) (hd : decode μ.1 pc = .ok (.if_icmp .eq off, 3)) (ht : (pc : Int) + off = (t : Int)) (hn : pc + 3 = n) (hkt : ev_J l D γ μ κ t ce sl lo st hp yt w) (hkf : ev_J l D γ μ κ n ce sl lo st hp yf w) : ev_J l D γ μ κ pc ce sl lo (.int z :: .int x :: st) hp (if x = z then yt else yf) w := by
  obtain ⟨p, e, s, m, args, below, meth, c, Q, A, ρ0, n0, Ex⟩ := κ
  subst hn
  intro q hy E ρ ls H locs hl hw
  exact lv_icmp_eq X.1 X.2.1 hd ht (fun h => hkt q (by rw [if_pos h] at hy; exact hy) E ρ ls H locs hl hw) (fun h => hkf q (by rw [if_neg h] at hy; exact hy) E ρ ls H locs hl hw)
theorem js_icmp_eq_t {x z : Int32} {t : Nat} {off : Int} (X : ev_X l D γ μ κ) (hd : decode μ.1 pc = .ok (.if_icmp .eq off, 3)) (ht : (pc : Int) + off = (t : Int)) (hc : x = z) (hkt : ev_J l D γ μ κ t ce sl lo st hp y w) : ev_J l D γ μ κ pc ce sl lo (.int z :: .int x :: st) hp y w := by
  obtain ⟨p, e, s, m, args, below, meth, c, Q, A, ρ0, n0, Ex⟩ := κ
  intro q hy E ρ ls H locs hl hw
  exact lv_icmp_eq X.1 X.2.1 hd ht (fun _ => hkt q hy E ρ ls H locs hl hw) (fun h => absurd hc h)
theorem js_icmp_eq_f {x z : Int32} {t : Nat} {off : Int} (X : ev_X l D γ μ κ) (hd : decode μ.1 pc = .ok (.if_icmp .eq off, 3)) (ht : (pc : Int) + off = (t : Int)) (hn : pc + 3 = n) (hc : ¬ x = z) (hkf : ev_J l D γ μ κ n ce sl lo st hp y w) : ev_J l D γ μ κ pc ce sl lo (.int z :: .int x :: st) hp y w := by
  obtain ⟨p, e, s, m, args, below, meth, c, Q, A, ρ0, n0, Ex⟩ := κ
  subst hn
  intro q hy E ρ ls H locs hl hw
  exact lv_icmp_eq X.1 X.2.1 hd ht (fun h => absurd h hc) (fun _ => hkf q hy E ρ ls H locs hl hw)
theorem js_icmp_ne {x z : Int32} {yt yf : Option β} {t : Nat} {off : Int} (X : ev_X l D γ μ κ) (hd : decode μ.1 pc = .ok (.if_icmp .ne off, 3)) (ht : (pc : Int) + off = (t : Int)) (hn : pc + 3 = n) (hkt : ev_J l D γ μ κ t ce sl lo st hp yt w) (hkf : ev_J l D γ μ κ n ce sl lo st hp yf w) : ev_J l D γ μ κ pc ce sl lo (.int z :: .int x :: st) hp (if x = z then yf else yt) w := by
  obtain ⟨p, e, s, m, args, below, meth, c, Q, A, ρ0, n0, Ex⟩ := κ
  subst hn
  intro q hy E ρ ls H locs hl hw
  exact lv_icmp_ne X.1 X.2.1 hd ht (fun h => hkt q (by rw [if_neg h] at hy; exact hy) E ρ ls H locs hl hw) (fun h => hkf q (by rw [if_pos h] at hy; exact hy) E ρ ls H locs hl hw)
theorem js_icmp_ne_t {x z : Int32} {t : Nat} {off : Int} (X : ev_X l D γ μ κ) (hd : decode μ.1 pc = .ok (.if_icmp .ne off, 3)) (ht : (pc : Int) + off = (t : Int)) (hc : ¬ x = z) (hkt : ev_J l D γ μ κ t ce sl lo st hp y w) : ev_J l D γ μ κ pc ce sl lo (.int z :: .int x :: st) hp y w := by
  obtain ⟨p, e, s, m, args, below, meth, c, Q, A, ρ0, n0, Ex⟩ := κ
  intro q hy E ρ ls H locs hl hw
  exact lv_icmp_ne X.1 X.2.1 hd ht (fun _ => hkt q hy E ρ ls H locs hl hw) (fun h => absurd h hc)
theorem js_icmp_ne_f {x z : Int32} {t : Nat} {off : Int} (X : ev_X l D γ μ κ) (hd : decode μ.1 pc = .ok (.if_icmp .ne off, 3)) (ht : (pc : Int) + off = (t : Int)) (hn : pc + 3 = n) (hc : x = z) (hkf : ev_J l D γ μ κ n ce sl lo st hp y w) : ev_J l D γ μ κ pc ce sl lo (.int z :: .int x :: st) hp y w := by
  obtain ⟨p, e, s, m, args, below, meth, c, Q, A, ρ0, n0, Ex⟩ := κ
  subst hn
  intro q hy E ρ ls H locs hl hw
  exact lv_icmp_ne X.1 X.2.1 hd ht (fun h => absurd hc h) (fun _ => hkf q hy E ρ ls H locs hl hw)
theorem js_icmp_lt {x z : Int32} {yt yf : Option β} {t : Nat} {off : Int} (X : ev_X l D γ μ κ) (hd : decode μ.1 pc = .ok (.if_icmp .lt off, 3)) (ht : (pc : Int) + off = (t : Int)) (hn : pc + 3 = n) (hkt : ev_J l D γ μ κ t ce sl lo st hp yt w) (hkf : ev_J l D γ μ κ n ce sl lo st hp yf w) : ev_J l D γ μ κ pc ce sl lo (.int z :: .int x :: st) hp (if x < z then yt else yf) w := by
  obtain ⟨p, e, s, m, args, below, meth, c, Q, A, ρ0, n0, Ex⟩ := κ
  subst hn
  intro q hy E ρ ls H locs hl hw
  exact lv_icmp_lt X.1 X.2.1 hd ht (fun h => hkt q (by rw [if_pos h] at hy; exact hy) E ρ ls H locs hl hw) (fun h => hkf q (by rw [if_neg h] at hy; exact hy) E ρ ls H locs hl hw)
theorem js_icmp_lt_t {x z : Int32} {t : Nat} {off : Int} (X : ev_X l D γ μ κ) (hd : decode μ.1 pc = .ok (.if_icmp .lt off, 3)) (ht : (pc : Int) + off = (t : Int)) (hc : x < z) (hkt : ev_J l D γ μ κ t ce sl lo st hp y w) : ev_J l D γ μ κ pc ce sl lo (.int z :: .int x :: st) hp y w := by
  obtain ⟨p, e, s, m, args, below, meth, c, Q, A, ρ0, n0, Ex⟩ := κ
  intro q hy E ρ ls H locs hl hw
  exact lv_icmp_lt X.1 X.2.1 hd ht (fun _ => hkt q hy E ρ ls H locs hl hw) (fun h => absurd hc h)
theorem js_icmp_lt_f {x z : Int32} {t : Nat} {off : Int} (X : ev_X l D γ μ κ) (hd : decode μ.1 pc = .ok (.if_icmp .lt off, 3)) (ht : (pc : Int) + off = (t : Int)) (hn : pc + 3 = n) (hc : ¬ x < z) (hkf : ev_J l D γ μ κ n ce sl lo st hp y w) : ev_J l D γ μ κ pc ce sl lo (.int z :: .int x :: st) hp y w := by
  obtain ⟨p, e, s, m, args, below, meth, c, Q, A, ρ0, n0, Ex⟩ := κ
  subst hn
  intro q hy E ρ ls H locs hl hw
  exact lv_icmp_lt X.1 X.2.1 hd ht (fun h => absurd h hc) (fun _ => hkf q hy E ρ ls H locs hl hw)
theorem js_icmp_ge {x z : Int32} {yt yf : Option β} {t : Nat} {off : Int} (X : ev_X l D γ μ κ) (hd : decode μ.1 pc = .ok (.if_icmp .ge off, 3)) (ht : (pc : Int) + off = (t : Int)) (hn : pc + 3 = n) (hkt : ev_J l D γ μ κ t ce sl lo st hp yt w) (hkf : ev_J l D γ μ κ n ce sl lo st hp yf w) : ev_J l D γ μ κ pc ce sl lo (.int z :: .int x :: st) hp (if z ≤ x then yt else yf) w := by
  obtain ⟨p, e, s, m, args, below, meth, c, Q, A, ρ0, n0, Ex⟩ := κ
  subst hn
  intro q hy E ρ ls H locs hl hw
  exact lv_icmp_ge X.1 X.2.1 hd ht (fun h => hkt q (by rw [if_pos h] at hy; exact hy) E ρ ls H locs hl hw) (fun h => hkf q (by rw [if_neg h] at hy; exact hy) E ρ ls H locs hl hw)
theorem js_icmp_ge_t {x z : Int32} {t : Nat} {off : Int} (X : ev_X l D γ μ κ) (hd : decode μ.1 pc = .ok (.if_icmp .ge off, 3)) (ht : (pc : Int) + off = (t : Int)) (hc : z ≤ x) (hkt : ev_J l D γ μ κ t ce sl lo st hp y w) : ev_J l D γ μ κ pc ce sl lo (.int z :: .int x :: st) hp y w := by
  obtain ⟨p, e, s, m, args, below, meth, c, Q, A, ρ0, n0, Ex⟩ := κ
  intro q hy E ρ ls H locs hl hw
  exact lv_icmp_ge X.1 X.2.1 hd ht (fun _ => hkt q hy E ρ ls H locs hl hw) (fun h => absurd hc h)
theorem js_icmp_ge_f {x z : Int32} {t : Nat} {off : Int} (X : ev_X l D γ μ κ) (hd : decode μ.1 pc = .ok (.if_icmp .ge off, 3)) (ht : (pc : Int) + off = (t : Int)) (hn : pc + 3 = n) (hc : ¬ z ≤ x) (hkf : ev_J l D γ μ κ n ce sl lo st hp y w) : ev_J l D γ μ κ pc ce sl lo (.int z :: .int x :: st) hp y w := by
  obtain ⟨p, e, s, m, args, below, meth, c, Q, A, ρ0, n0, Ex⟩ := κ
  subst hn
  intro q hy E ρ ls H locs hl hw
  exact lv_icmp_ge X.1 X.2.1 hd ht (fun h => absurd h hc) (fun _ => hkf q hy E ρ ls H locs hl hw)
theorem js_icmp_gt {x z : Int32} {yt yf : Option β} {t : Nat} {off : Int} (X : ev_X l D γ μ κ) (hd : decode μ.1 pc = .ok (.if_icmp .gt off, 3)) (ht : (pc : Int) + off = (t : Int)) (hn : pc + 3 = n) (hkt : ev_J l D γ μ κ t ce sl lo st hp yt w) (hkf : ev_J l D γ μ κ n ce sl lo st hp yf w) : ev_J l D γ μ κ pc ce sl lo (.int z :: .int x :: st) hp (if z < x then yt else yf) w := by
  obtain ⟨p, e, s, m, args, below, meth, c, Q, A, ρ0, n0, Ex⟩ := κ
  subst hn
  intro q hy E ρ ls H locs hl hw
  exact lv_icmp_gt X.1 X.2.1 hd ht (fun h => hkt q (by rw [if_pos h] at hy; exact hy) E ρ ls H locs hl hw) (fun h => hkf q (by rw [if_neg h] at hy; exact hy) E ρ ls H locs hl hw)
theorem js_icmp_gt_t {x z : Int32} {t : Nat} {off : Int} (X : ev_X l D γ μ κ) (hd : decode μ.1 pc = .ok (.if_icmp .gt off, 3)) (ht : (pc : Int) + off = (t : Int)) (hc : z < x) (hkt : ev_J l D γ μ κ t ce sl lo st hp y w) : ev_J l D γ μ κ pc ce sl lo (.int z :: .int x :: st) hp y w := by
  obtain ⟨p, e, s, m, args, below, meth, c, Q, A, ρ0, n0, Ex⟩ := κ
  intro q hy E ρ ls H locs hl hw
  exact lv_icmp_gt X.1 X.2.1 hd ht (fun _ => hkt q hy E ρ ls H locs hl hw) (fun h => absurd hc h)
theorem js_icmp_gt_f {x z : Int32} {t : Nat} {off : Int} (X : ev_X l D γ μ κ) (hd : decode μ.1 pc = .ok (.if_icmp .gt off, 3)) (ht : (pc : Int) + off = (t : Int)) (hn : pc + 3 = n) (hc : ¬ z < x) (hkf : ev_J l D γ μ κ n ce sl lo st hp y w) : ev_J l D γ μ κ pc ce sl lo (.int z :: .int x :: st) hp y w := by
  obtain ⟨p, e, s, m, args, below, meth, c, Q, A, ρ0, n0, Ex⟩ := κ
  subst hn
  intro q hy E ρ ls H locs hl hw
  exact lv_icmp_gt X.1 X.2.1 hd ht (fun h => absurd h hc) (fun _ => hkf q hy E ρ ls H locs hl hw)
theorem js_icmp_le {x z : Int32} {yt yf : Option β} {t : Nat} {off : Int} (X : ev_X l D γ μ κ) (hd : decode μ.1 pc = .ok (.if_icmp .le off, 3)) (ht : (pc : Int) + off = (t : Int)) (hn : pc + 3 = n) (hkt : ev_J l D γ μ κ t ce sl lo st hp yt w) (hkf : ev_J l D γ μ κ n ce sl lo st hp yf w) : ev_J l D γ μ κ pc ce sl lo (.int z :: .int x :: st) hp (if x ≤ z then yt else yf) w := by
  obtain ⟨p, e, s, m, args, below, meth, c, Q, A, ρ0, n0, Ex⟩ := κ
  subst hn
  intro q hy E ρ ls H locs hl hw
  exact lv_icmp_le X.1 X.2.1 hd ht (fun h => hkt q (by rw [if_pos h] at hy; exact hy) E ρ ls H locs hl hw) (fun h => hkf q (by rw [if_neg h] at hy; exact hy) E ρ ls H locs hl hw)
theorem js_icmp_le_t {x z : Int32} {t : Nat} {off : Int} (X : ev_X l D γ μ κ) (hd : decode μ.1 pc = .ok (.if_icmp .le off, 3)) (ht : (pc : Int) + off = (t : Int)) (hc : x ≤ z) (hkt : ev_J l D γ μ κ t ce sl lo st hp y w) : ev_J l D γ μ κ pc ce sl lo (.int z :: .int x :: st) hp y w := by
  obtain ⟨p, e, s, m, args, below, meth, c, Q, A, ρ0, n0, Ex⟩ := κ
  intro q hy E ρ ls H locs hl hw
  exact lv_icmp_le X.1 X.2.1 hd ht (fun _ => hkt q hy E ρ ls H locs hl hw) (fun h => absurd hc h)
theorem js_icmp_le_f {x z : Int32} {t : Nat} {off : Int} (X : ev_X l D γ μ κ) (hd : decode μ.1 pc = .ok (.if_icmp .le off, 3)) (ht : (pc : Int) + off = (t : Int)) (hn : pc + 3 = n) (hc : ¬ x ≤ z) (hkf : ev_J l D γ μ κ n ce sl lo st hp y w) : ev_J l D γ μ κ pc ce sl lo (.int z :: .int x :: st) hp y w := by
  obtain ⟨p, e, s, m, args, below, meth, c, Q, A, ρ0, n0, Ex⟩ := κ
  subst hn
  intro q hy E ρ ls H locs hl hw
  exact lv_icmp_le X.1 X.2.1 hd ht (fun h => absurd h hc) (fun _ => hkf q hy E ρ ls H locs hl hw)
theorem js_goto {t : Nat} {off : Int} (X : ev_X l D γ μ κ) (hd : decode μ.1 pc = .ok (.goto off, 3)) (ht : (pc : Int) + off = (t : Int)) (hk : ev_J l D γ μ κ t ce sl lo st hp y w) : ev_J l D γ μ κ pc ce sl lo st hp y w := by
  obtain ⟨p, e, s, m, args, below, meth, c, Q, A, ρ0, n0, Ex⟩ := κ
  intro q hy E ρ ls H locs hl hw
  exact lv_goto X.1 X.2.1 hd ht (hk q hy E ρ ls H locs hl hw)
theorem js_keep (b : List Bool) (hk : ev_J l D γ μ κ pc ce sl (ev_keep b lo) st hp y w) : ev_J l D γ μ κ pc ce sl lo st hp y w := by
  obtain ⟨p, e, s, m, args, below, meth, c, Q, A, ρ0, n0, Ex⟩ := κ
  intro q hy E ρ ls H locs hl hw
  exact hk q hy E ρ ls H locs (hl.keep b) hw
theorem js_none : ev_J l D γ μ κ pc ce sl lo st hp (none : Option β) w := by
  obtain ⟨p, e, s, m, args, below, meth, c, Q, A, ρ0, n0, Ex⟩ := κ
  intro q hy
  cases hy
theorem js_widen {ce' sl' : Nat} (h1 : ce ≤ ce') (h2 : sl ≤ sl') (hk : ev_J l D γ μ κ pc ce' sl' lo st hp y w) : ev_J l D γ μ κ pc ce sl lo st hp y w := by
  obtain ⟨p, e, s, m, args, below, meth, c, Q, A, ρ0, n0, Ex⟩ := κ
  intro q hy E ρ ls H locs hl hw
  exact W.widen h1 h2 (hk q hy E ρ ls H locs hl hw)
/-- a switch, one key after the other: ps are the keys that are left, with their targets -/
def ev_sj (l : Launch) (D : va_G) (γ : ev_ga) (μ : ev_mu) (κ : ev_ka) (pc ce sl : Nat) (lo : ev_L) (x : Int32) (st : List Value) (hp : ev_H) (ps : List (Int × Int)) (dflt : Int) (y : Option β) (w : β → ev_O) : Prop :=
  ∃ (off : Int) (t : Nat), Op.lookupswitch.offset ps dflt x.toInt = off ∧ (pc : Int) + off = (t : Int) ∧ ev_J l D γ μ κ t ce sl lo st hp y w
theorem js_sw0 {x : Int32} {dflt : Int} (t : Nat) (ht : (pc : Int) + dflt = (t : Int)) (hk : ev_J l D γ μ κ t ce sl lo st hp y w) : ev_sj l D γ μ κ pc ce sl lo x st hp [] dflt y w := ⟨dflt, t, rfl, ht, hk⟩
theorem js_sw1 {x v : Int32} {dflt k off : Int} {ps : List (Int × Int)} {y1 y2 : Option β} (t : Nat) (hv : v.toInt = k) (ht : (pc : Int) + off = (t : Int)) (hk : ev_J l D γ μ κ t ce sl lo st hp y1 w) (hr : ev_sj l D γ μ κ pc ce sl lo x st hp ps dflt y2 w) : ev_sj l D γ μ κ pc ce sl lo x st hp ((k, off) :: ps) dflt (if x = v then y1 else y2) w := by
  by_cases h : x = v
  · refine ⟨off, t, ?_, ht, ?_⟩
    · rw [Op.lookupswitch.offset_cons, if_pos (by rw [h]; exact hv.symm)]
    · rw [if_pos h]
      exact hk
  · obtain ⟨o1, t1, a, b, d⟩ := hr
    refine ⟨o1, t1, ?_, b, ?_⟩
    · rw [Op.lookupswitch.offset_cons, if_neg (fun z => h (Int32.toInt_inj.mp (z.symm.trans hv.symm)))]
      exact a
    · rw [if_neg h]
      exact d
theorem js_lsw {x : Int32} {len : Nat} {dflt : Int} {ps : Array (Int × Int)} (X : ev_X l D γ μ κ) (hd : decode μ.1 pc = .ok (.lookupswitch dflt ps, len)) (hsort : (ps.toList.zip (ps.toList.drop 1)).all (fun (a, next) => a.1 < next.1) = true) (hk : ev_sj l D γ μ κ pc ce sl lo x st hp ps.toList dflt y w) : ev_J l D γ μ κ pc ce sl lo (.int x :: st) hp y w := by
  obtain ⟨off, t, a, b, hk⟩ := hk
  obtain ⟨p, e, s, m, args, below, meth, c, Q, A, ρ0, n0, Ex⟩ := κ
  intro q hy E ρ ls H locs hl hw
  exact lv_lookup X.1 X.2.1 hd hsort a b (hk q hy E ρ ls H locs hl hw)
theorem ev_tab {lo1 dflt x : Int} : ∀ (offs : List Int) (i : Nat), (x < lo1 + i ∨ lo1 + i + offs.length ≤ x → Op.lookupswitch.offset ((offs.zipIdx i).map fun q => (lo1 + (q.2 : Int), q.1)) dflt x = dflt) ∧ ∀ (j : Nat) (o : Int), offs[j]? = some o → x = lo1 + (i + j : Nat) → Op.lookupswitch.offset ((offs.zipIdx i).map fun q => (lo1 + (q.2 : Int), q.1)) dflt x = o
  | [], i => ⟨fun _ => rfl, fun j o h => by simp at h⟩
  | a :: r, i => by
    obtain ⟨h1, h2⟩ := ev_tab (lo1 := lo1) (dflt := dflt) (x := x) r (i + 1)
    have e : (((a :: r).zipIdx i).map fun q => (lo1 + (q.2 : Int), q.1)) = (lo1 + (i : Int), a) :: ((r.zipIdx (i + 1)).map fun q => (lo1 + (q.2 : Int), q.1)) := by simp [List.zipIdx_cons]
    rw [e, Op.lookupswitch.offset_cons]
    refine ⟨fun h => ?_, fun j o hj hx => ?_⟩
    · rw [List.length_cons] at h
      rw [if_neg (by omega)]
      exact h1 (by omega)
    · cases j with
      | zero =>
        rw [if_pos (by omega)]
        simpa using hj
      | succ j =>
        rw [if_neg (by omega)]
        rw [List.getElem?_cons_succ] at hj
        exact h2 j o hj (by omega)
theorem js_tsw {x : Int32} {len : Nat} {dflt lo1 hi1 : Int} {offs : Array Int} (X : ev_X l D γ μ κ) (hd : decode μ.1 pc = .ok (.tableswitch dflt lo1 hi1 offs, len)) (hh : hi1 = lo1 + (offs.toList.length : Int) - 1) (hk : ev_sj l D γ μ κ pc ce sl lo x st hp ((offs.toList.zipIdx 0).map fun q => (lo1 + (q.2 : Int), q.1)) dflt y w) : ev_J l D γ μ κ pc ce sl lo (.int x :: st) hp y w := by
  obtain ⟨off, t, a, b, hk⟩ := hk
  obtain ⟨p, e, s, m, args, below, meth, c, Q, A, ρ0, n0, Ex⟩ := κ
  intro q hy E ρ ls H locs hl hw
  obtain ⟨h1, h2⟩ := ev_tab (lo1 := lo1) (dflt := dflt) (x := x.toInt) offs.toList 0
  by_cases hin : x.toInt < lo1 ∨ hi1 < x.toInt
  · have e1 := h1 (by omega)
    rw [e1] at a
    subst a
    exact lv_tableOut X.1 X.2.1 hd hin b (hk q hy E ρ ls H locs hl hw)
  · have n1 : ¬ x.toInt < lo1 := fun z => hin (Or.inl z)
    have n2 : ¬ hi1 < x.toInt := fun z => hin (Or.inr z)
    have hil : (x.toInt - lo1).toNat < offs.toList.length := by omega
    have hi : offs.toList[(x.toInt - lo1).toNat]? = some offs.toList[(x.toInt - lo1).toNat] := List.getElem?_eq_getElem hil
    have e2 := h2 _ _ hi (by omega)
    rw [e2] at a
    subst a
    exact lv_tableIn X.1 X.2.1 hd n1 n2 (by rw [← Array.getElem?_toList]; exact hi) b (hk q hy E ρ ls H locs hl hw)
end EVR
end
section
def ev_C (γ : ev_ga) (ci : Nat) (C : String) (T : u_T) (N : Nat) (ty : Nat → FieldType) : Prop :=
  γ.1[ci]? = some (C, T, N) ∧ (∀ w ∈ u_ws C T N, w ∈ γ.2.2) ∧ (∀ k, k < N → parseFieldDescriptor (T k).2.2.1 = some (ty k)) ∧ ∀ a, a < N → ∀ b, b < N → a ≠ b → (T a).2.1 ≠ (T b).2.1
theorem ev_w_setf (ρ : ev_R) (hp : ev_H) (a ci j : Nat) (fs : List Value) (v : Value) : ev_w ρ (ev_s hp a (.inr (ci, ev_s fs j v))) = (ev_w ρ hp).set a ((ρ a).1, .inr (ci, (fs.map (ev_v ρ)).set j (ev_v ρ v))) := by
  rw [ev_w_set]
  have h : ev_e ρ a (.inr (ci, ev_s fs j v)) = .inr (ci, (fs.map (ev_v ρ)).set j (ev_v ρ v)) := by
    show (Sum.inr (ci, (ev_s fs j v).map (ev_v ρ)) : va_E) = _
    rw [ev_s_eq, List.map_set]
  rw [h]
def cpok (sp dp n : Int32) (n0 n1 : Nat) : Bool := decide (¬ sp < 0 ∧ ¬ dp < 0 ∧ ¬ n < 0 ∧ sp.toNatClampNeg + n.toNatClampNeg ≤ n0 ∧ dp.toNatClampNeg + n.toNatClampNeg ≤ n1)
theorem cpok_of {sp dp n : Int32} {n0 n1 : Nat} (h : cpok sp dp n n0 n1 = true) : ¬ sp < 0 ∧ ¬ dp < 0 ∧ ¬ n < 0 ∧ sp.toNatClampNeg + n.toNatClampNeg ≤ n0 ∧ dp.toNatClampNeg + n.toNatClampNeg ≤ n1 := of_decide_eq_true h
theorem ev_lo.grow {ρ ρ' : ev_R} {ls : Array Slot} {lo : ev_L} {N nL : Nat} (hl : ev_lo ρ ls nL lo) (ha : ∀ k, k < N → ρ' k = ρ k) (h : ev_okl N lo = true) : ev_lo ρ' ls nL lo := hl.to fun i v hi => ev_okl_eq ha h i v hi
section EVC
variable {β : Type} {l : Launch} {D : va_G} {γ : ev_ga} {μ : ev_mu} {κ : ev_ka} {pc n ce sl : Nat} {lo : ev_L} {st : List Value} {hp : ev_H} {y : Option β} {w : β → ev_O}
theorem js_getf {ci j N idx a : Nat} {C : String} {T : u_T} {ty : Nat → FieldType} {fs : List Value} {v : Value} (X : ev_X l D γ μ κ) (hd : decode μ.1 pc = .ok (.getfield idx, 3)) (hn : pc + 3 = n) (hC : ev_C γ ci C T N ty) (hj : j < N) (hlink : Jvm.Cond.fieldLink μ.2.2.2.1.cls idx (T j).1 (T j).2.1 (T j).2.2.1 ∈ γ.2.2) (hx : ev_n hp a = some (.inr (ci, fs))) (hv : ev_n fs j = some v) (hk : ev_J l D γ μ κ n ce sl lo (v :: st) hp y w) : ev_J l D γ μ κ pc ce sl lo (.ref a :: st) hp y w := by
  obtain ⟨p, e, s, m, args, below, meth, c, Q, A, ρ0, n0, Ex⟩ := κ
  subst hn
  intro q hy E ρ ls H locs hl hw
  exact va_get X.1 X.2.1 X.2.2.2.2.1 hC.2.1 X.2.2.2.1 X.2.2.2.2.2.1 hw.1 a (ev_w_at hx) hC.1 j hj (X.2.2.2.2.1 _ hlink) (fun _ h => h) (v := ev_v ρ v) (by rw [List.getElem?_map, ← ev_n_eq, hv]; rfl) hd (hk q hy E ρ ls H locs hl hw)
theorem js_put0 {ci j N idx a : Nat} {C : String} {T : u_T} {ty : Nat → FieldType} {fs : List Value} {v : Value} (X : ev_X l D γ μ κ) (hd : decode μ.1 pc = .ok (.putfield idx, 3)) (hn : pc + 3 = n) (hC : ev_C γ ci C T N ty) (hj : j < N) (hlink : Jvm.Cond.fieldLink μ.2.2.2.1.cls idx (T j).1 (T j).2.1 (T j).2.2.1 ∈ γ.2.2) (hx : ev_n hp a = some (.inr (ci, fs)))
    (hfin : (T j).2.2.2 = false ∨ ((T j).2.2.2 = true ∧ μ.2.2.2.1.name = "<init>" ∧ (T j).1 = μ.2.2.2.1.cls)) (hlen : j < fs.length) (hv1 : ∀ ρ, narrow (ty j) (ev_v ρ v) = ev_v ρ v) (hv2 : ∀ ρ, fits (ty j) (ev_v ρ v) = true) (hk : ev_J l D γ μ κ n ce sl lo st (ev_s hp a (.inr (ci, ev_s fs j v))) y w) : ev_J l D γ μ κ pc ce sl lo (v :: .ref a :: st) hp y w := by
  obtain ⟨p, e, s, m, args, below, meth, c, Q, A, ρ0, n0, Ex⟩ := κ
  subst hn
  intro q hy E ρ ls H locs hl hw
  obtain ⟨hP, hD, hS, hT, hn0, hag⟩ := hw
  have hlen' : j < (fs.map (ev_v ρ)).length := by rw [List.length_map]; exact hlen
  rcases hfin with hfin | ⟨hfin, hin, hdecl⟩
  · refine va_put X.1 X.2.1 X.2.2.2.2.1 hC.2.1 ty hC.2.2.1 hC.2.2.2 X.2.2.2.1 X.2.2.2.2.2.1 hP hD hS a (ev_w_at hx) hC.1 j hj (X.2.2.2.2.1 _ hlink) (fun _ h => h) hfin (hC.2.2.1 j hj) (hv1 ρ) (hv2 ρ) hlen' hd (fun H1 locs1 hP1 hD1 hS1 => ?_)
    exact hk q hy E ρ ls H1 locs1 hl ⟨by rw [ev_w_setf]; exact hP1, by rw [ev_w_setf]; exact hD1, hS1, hT.seto, by rw [ev_s_len]; exact hn0, hag⟩
  · refine va_putF X.1 X.2.1 X.2.2.2.2.1 hC.2.1 ty hC.2.2.1 hC.2.2.2 X.2.2.2.1 X.2.2.2.2.2.1 hP hD hS a (ev_w_at hx) hC.1 j hj (X.2.2.2.2.1 _ hlink) (fun _ h => h) hfin (X.2.2.2.2.2.2.2.2.1.trans hin) hdecl (hC.2.2.1 j hj) (hv1 ρ) (hv2 ρ) hlen' hd (fun H1 locs1 hP1 hD1 hS1 => ?_)
    exact hk q hy E ρ ls H1 locs1 hl ⟨by rw [ev_w_setf]; exact hP1, by rw [ev_w_setf]; exact hD1, hS1, hT.seto, by rw [ev_s_len]; exact hn0, hag⟩
theorem js_puti {ci j N idx a : Nat} {C : String} {T : u_T} {ty : Nat → FieldType} {fs : List Value} {x : Int32} (X : ev_X l D γ μ κ) (hd : decode μ.1 pc = .ok (.putfield idx, 3)) (hn : pc + 3 = n) (hC : ev_C γ ci C T N ty) (hj : j < N) (hlink : Jvm.Cond.fieldLink μ.2.2.2.1.cls idx (T j).1 (T j).2.1 (T j).2.2.1 ∈ γ.2.2) (hx : ev_n hp a = some (.inr (ci, fs))) (hty : ty j = .int) (hfin : (T j).2.2.2 = false ∨ ((T j).2.2.2 = true ∧ μ.2.2.2.1.name = "<init>" ∧ (T j).1 = μ.2.2.2.1.cls)) (hlen : j < fs.length) (hk : ev_J l D γ μ κ n ce sl lo st (ev_s hp a (.inr (ci, ev_s fs j (.int x)))) y w) : ev_J l D γ μ κ pc ce sl lo (.int x :: .ref a :: st) hp y w :=
  js_put0 X hd hn hC hj hlink hx hfin hlen (fun _ => by rw [hty]; rfl) (fun _ => by rw [hty]; rfl) hk
theorem js_putj {ci j N idx a : Nat} {C : String} {T : u_T} {ty : Nat → FieldType} {fs : List Value} {x : Int64} (X : ev_X l D γ μ κ) (hd : decode μ.1 pc = .ok (.putfield idx, 3)) (hn : pc + 3 = n) (hC : ev_C γ ci C T N ty) (hj : j < N) (hlink : Jvm.Cond.fieldLink μ.2.2.2.1.cls idx (T j).1 (T j).2.1 (T j).2.2.1 ∈ γ.2.2) (hx : ev_n hp a = some (.inr (ci, fs))) (hty : ty j = .long) (hfin : (T j).2.2.2 = false ∨ ((T j).2.2.2 = true ∧ μ.2.2.2.1.name = "<init>" ∧ (T j).1 = μ.2.2.2.1.cls)) (hlen : j < fs.length) (hk : ev_J l D γ μ κ n ce sl lo st (ev_s hp a (.inr (ci, ev_s fs j (.long x)))) y w) : ev_J l D γ μ κ pc ce sl lo (.long x :: .ref a :: st) hp y w :=
  js_put0 X hd hn hC hj hlink hx hfin hlen (fun _ => by rw [hty]; rfl) (fun _ => by rw [hty]; rfl) hk
theorem js_putr {ci j N idx a : Nat} {C : String} {T : u_T} {ty : Nat → FieldType} {fs : List Value} {x : Nat} (X : ev_X l D γ μ κ) (hd : decode μ.1 pc = .ok (.putfield idx, 3)) (hn : pc + 3 = n) (hC : ev_C γ ci C T N ty) (hj : j < N) (hlink : Jvm.Cond.fieldLink μ.2.2.2.1.cls idx (T j).1 (T j).2.1 (T j).2.2.1 ∈ γ.2.2) (hx : ev_n hp a = some (.inr (ci, fs))) (hty : (∃ E, ty j = .object E) ∨ ∃ t, ty j = .array t) (hfin : (T j).2.2.2 = false ∨ ((T j).2.2.2 = true ∧ μ.2.2.2.1.name = "<init>" ∧ (T j).1 = μ.2.2.2.1.cls)) (hlen : j < fs.length) (hk : ev_J l D γ μ κ n ce sl lo st (ev_s hp a (.inr (ci, ev_s fs j (.ref x)))) y w) : ev_J l D γ μ κ pc ce sl lo (.ref x :: .ref a :: st) hp y w :=
  js_put0 X hd hn hC hj hlink hx hfin hlen (fun _ => by rcases hty with ⟨E, hty⟩ | ⟨t, hty⟩ <;> (rw [hty]; rfl)) (fun _ => by rcases hty with ⟨E, hty⟩ | ⟨t, hty⟩ <;> (rw [hty]; rfl)) hk
theorem js_putz {ci j N idx a : Nat} {C : String} {T : u_T} {ty : Nat → FieldType} {fs : List Value} {x : Int32} (X : ev_X l D γ μ κ) (hd : decode μ.1 pc = .ok (.putfield idx, 3)) (hn : pc + 3 = n) (hC : ev_C γ ci C T N ty) (hj : j < N) (hlink : Jvm.Cond.fieldLink μ.2.2.2.1.cls idx (T j).1 (T j).2.1 (T j).2.2.1 ∈ γ.2.2) (hx : ev_n hp a = some (.inr (ci, fs))) (hty : ty j = .boolean) (hfin : (T j).2.2.2 = false ∨ ((T j).2.2.2 = true ∧ μ.2.2.2.1.name = "<init>" ∧ (T j).1 = μ.2.2.2.1.cls)) (hlen : j < fs.length) (hk : ev_J l D γ μ κ n ce sl lo st (ev_s hp a (.inr (ci, ev_s fs j (.int x)))) y w) : ev_J l D γ μ κ pc ce sl lo (.int x :: .ref a :: st) hp (ck (isB x) y) w := by
  by_cases hb : isB x = true
  · rw [hb]
    exact js_put0 X hd hn hC hj hlink hx hfin hlen (fun _ => by rw [hty]; rcases isB_or hb with rfl | rfl <;> rfl) (fun _ => by rw [hty]; rcases isB_or hb with rfl | rfl <;> rfl) hk
  · rw [Bool.not_eq_true] at hb
    rw [hb]
    exact js_none
theorem js_iaload {a N : Nat} {i : Int32} {f : Nat → Int32} (X : ev_X l D γ μ κ) (hd : decode μ.1 pc = .ok (.iaload, 1)) (hn : pc + 1 = n) (hx : ev_n hp a = some (.inl (.int, N, .inl f))) (hk : ev_J l D γ μ κ n ce sl lo (.int (f (ix i)) :: st) hp y w) : ev_J l D γ μ κ pc ce sl lo (.int i :: .ref a :: st) hp (ck (inb i N) y) w := by
  obtain ⟨p, e, s, m, args, below, meth, c, Q, A, ρ0, n0, Ex⟩ := κ
  subst hn
  intro q hy E ρ ls H locs hl hw
  obtain ⟨h1, hy⟩ := ck_t hy
  exact va_iald X.1 X.2.1 (hw.2.2.2.1.K X.2.2.2.2.2.1 hx) hw.1 a 0 (ev_w_at hx) rfl (inb_in h1) hd (hk q hy E ρ ls H locs hl hw)
theorem js_baload {a N : Nat} {i : Int32} {f : Nat → Int32} (X : ev_X l D γ μ κ) (hd : decode μ.1 pc = .ok (.baload, 1)) (hn : pc + 1 = n) (hx : ev_n hp a = some (.inl (.boolean, N, .inl f))) (hk : ev_J l D γ μ κ n ce sl lo (.int (f (ix i)) :: st) hp y w) : ev_J l D γ μ κ pc ce sl lo (.int i :: .ref a :: st) hp (ck (inb i N) y) w := by
  obtain ⟨p, e, s, m, args, below, meth, c, Q, A, ρ0, n0, Ex⟩ := κ
  subst hn
  intro q hy E ρ ls H locs hl hw
  obtain ⟨h1, hy⟩ := ck_t hy
  exact va_zald X.1 X.2.1 (hw.2.2.2.1.K X.2.2.2.2.2.1 hx) hw.1 a 0 (ev_w_at hx) rfl (inb_in h1) hd (hk q hy E ρ ls H locs hl hw)
theorem js_laload {a N : Nat} {i : Int32} {f : Nat → Int64} (X : ev_X l D γ μ κ) (hd : decode μ.1 pc = .ok (.laload, 1)) (hn : pc + 1 = n) (hx : ev_n hp a = some (.inl (.long, N, .inr f))) (hk : ev_J l D γ μ κ n ce sl lo (.long (f (ix i)) :: st) hp y w) : ev_J l D γ μ κ pc ce sl lo (.int i :: .ref a :: st) hp (ck (inb i N) y) w := by
  obtain ⟨p, e, s, m, args, below, meth, c, Q, A, ρ0, n0, Ex⟩ := κ
  subst hn
  intro q hy E ρ ls H locs hl hw
  obtain ⟨h1, hy⟩ := ck_t hy
  exact va_lald X.1 X.2.1 (hw.2.2.2.1.K X.2.2.2.2.2.1 hx) hw.1 a 0 (ev_w_at hx) rfl (inb_in h1) hd (hk q hy E ρ ls H locs hl hw)
theorem js_iastore {a N : Nat} {i : Int32} {x : Int32} {f : Nat → Int32} (X : ev_X l D γ μ κ) (hd : decode μ.1 pc = .ok (.iastore, 1)) (hn : pc + 1 = n) (hx : ev_n hp a = some (.inl (.int, N, .inl f))) (hk : ev_J l D γ μ κ n ce sl lo st (ev_s hp a (.inl (.int, N, .inl (upd f (ix i) x)))) y w) : ev_J l D γ μ κ pc ce sl lo (.int x :: .int i :: .ref a :: st) hp (ck (inb i N) y) w := by
  obtain ⟨p, e, s, m, args, below, meth, c, Q, A, ρ0, n0, Ex⟩ := κ
  subst hn
  intro q hy E ρ ls H locs hl hw
  obtain ⟨h1, hy⟩ := ck_t hy
  obtain ⟨hP, hD, hS, hT, hn0, hag⟩ := hw
  refine va_iast X.1 X.2.1 (hT.K X.2.2.2.2.2.1 hx) hP hD hS a 0 (ev_w_at hx) rfl (inb_in h1) hd (fun H1 locs1 hP1 hD1 hS1 => ?_)
  exact hk q hy E ρ ls H1 locs1 hl ⟨by rw [ev_w_set]; exact hP1, by rw [ev_w_set]; exact hD1, hS1, hT.set hx, by rw [ev_s_len]; exact hn0, hag⟩
theorem js_lastore {a N : Nat} {i : Int32} {x : Int64} {f : Nat → Int64} (X : ev_X l D γ μ κ) (hd : decode μ.1 pc = .ok (.lastore, 1)) (hn : pc + 1 = n) (hx : ev_n hp a = some (.inl (.long, N, .inr f))) (hk : ev_J l D γ μ κ n ce sl lo st (ev_s hp a (.inl (.long, N, .inr (vp_updL f (ix i) x)))) y w) : ev_J l D γ μ κ pc ce sl lo (.long x :: .int i :: .ref a :: st) hp (ck (inb i N) y) w := by
  obtain ⟨p, e, s, m, args, below, meth, c, Q, A, ρ0, n0, Ex⟩ := κ
  subst hn
  intro q hy E ρ ls H locs hl hw
  obtain ⟨h1, hy⟩ := ck_t hy
  obtain ⟨hP, hD, hS, hT, hn0, hag⟩ := hw
  refine va_last X.1 X.2.1 (hT.K X.2.2.2.2.2.1 hx) hP hD hS a 0 (ev_w_at hx) rfl (inb_in h1) hd (fun H1 locs1 hP1 hD1 hS1 => ?_)
  exact hk q hy E ρ ls H1 locs1 hl ⟨by rw [ev_w_set]; exact hP1, by rw [ev_w_set]; exact hD1, hS1, hT.set hx, by rw [ev_s_len]; exact hn0, hag⟩
theorem js_bastore {a N : Nat} {i : Int32} {x : Int32} {f : Nat → Int32} (X : ev_X l D γ μ κ) (hd : decode μ.1 pc = .ok (.bastore, 1)) (hn : pc + 1 = n) (hx : ev_n hp a = some (.inl (.boolean, N, .inl f))) (hk : ev_J l D γ μ κ n ce sl lo st (ev_s hp a (.inl (.boolean, N, .inl (upd f (ix i) x)))) y w) : ev_J l D γ μ κ pc ce sl lo (.int x :: .int i :: .ref a :: st) hp (ck (inb i N) (ck (isB x) y)) w := by
  obtain ⟨p, e, s, m, args, below, meth, c, Q, A, ρ0, n0, Ex⟩ := κ
  subst hn
  intro q hy E ρ ls H locs hl hw
  obtain ⟨h1, hy⟩ := ck_t hy
  obtain ⟨h2, hy⟩ := ck_t hy
  have hz : vp_nar .boolean x = x := by rcases isB_or h2 with rfl | rfl <;> rfl
  obtain ⟨hP, hD, hS, hT, hn0, hag⟩ := hw
  refine va_zast X.1 X.2.1 (hT.K X.2.2.2.2.2.1 hx) hP hD hS a 0 (ev_w_at hx) rfl (inb_in h1) hd (fun H1 locs1 hP1 hD1 hS1 => ?_)
  rw [hz] at hP1 hD1
  exact hk q hy E ρ ls H1 locs1 hl ⟨by rw [ev_w_set]; exact hP1, by rw [ev_w_set]; exact hD1, hS1, hT.set hx, by rw [ev_s_len]; exact hn0, hag⟩
theorem js_alen {a N : Nat} {ty : FieldType} {f : Nat → Int32} (X : ev_X l D γ μ κ) (hd : decode μ.1 pc = .ok (.arraylength, 1)) (hn : pc + 1 = n) (hx : ev_n hp a = some (.inl (ty, N, .inl f))) (hk : ev_J l D γ μ κ n ce sl lo (.int (Int32.ofNat N) :: st) hp y w) : ev_J l D γ μ κ pc ce sl lo (.ref a :: st) hp y w := by
  obtain ⟨p, e, s, m, args, below, meth, c, Q, A, ρ0, n0, Ex⟩ := κ
  subst hn
  intro q hy E ρ ls H locs hl hw
  exact va_alen X.1 X.2.1 (hw.2.2.2.1.K X.2.2.2.2.2.1 hx) hw.1 a 0 (ev_w_at hx) rfl rfl hd (hk q hy E ρ ls H locs hl hw)
theorem js_copy {idx a b N0 N1 : Nat} {sp dp k9 : Int32} {f g : Nat → Int32} (X : ev_X l D γ μ κ) (hd : decode μ.1 pc = .ok (.invokestatic idx, 3)) (hn : pc + 3 = n) (w1 : Jvm.Cond.methodLink μ.2.2.2.1.cls idx arraycopyName ∈ γ.2.2) (w2 : Jvm.Cond.native arraycopyName ∈ γ.2.2) (w3 : Jvm.Cond.static arraycopyName ∈ γ.2.2) (w4 : Jvm.Cond.initialized "java/lang/System" ∈ γ.2.2) (hf : 1 ≤ μ.2.2.2.2.1.frames) (hlo : nativeFrameWords "java/lang/System" "arraycopy" 5 + 11 ≤ μ.2.2.2.2.1.locals)
    (hx : ev_n hp a = some (.inl (.int, N0, .inl f))) (hz : ev_n hp b = some (.inl (.int, N1, .inl g))) (hk : ev_J l D γ μ κ n ce sl lo [] (ev_s hp b (.inl (.int, N1, .inl (va_cpy f g (ix sp) (ix dp) (ix k9))))) y w) : ev_J l D γ μ κ pc ce sl lo [.int k9, .int dp, .ref b, .int sp, .ref a] hp (ck (cpok sp dp k9 N0 N1) y) w := by
  obtain ⟨p, e, s, m, args, below, meth, c, Q, A, ρ0, n0, Ex⟩ := κ
  subst hn
  intro q hy E ρ ls H locs hl hw
  obtain ⟨h1, hy⟩ := ck_t hy
  obtain ⟨c1, c2, c3, c4, c5⟩ := cpok_of h1
  obtain ⟨hP, hD, hS, hT, hn0, hag⟩ := hw
  refine va_copyi (rest := []) X.1 X.2.1 (X.2.2.1.trans hl.1.symm) X.2.2.2.1 (X.2.2.2.2.1 _ w1) (X.2.2.2.2.1 _ w2) (X.2.2.2.2.1 _ w3) (X.2.2.2.2.1 _ w4) ((hT.K X.2.2.2.2.2.1 hx).app (hT.K X.2.2.2.2.2.1 hz)) hP hD hS a b 0 1 (ev_w_at hx) (ev_w_at hz) rfl rfl rfl c1 c2 c3 c4 c5 (fun _ _ => rfl) hf (by simpa using hlo) hd (fun H1 locs1 hP1 hD1 hS1 => ?_)
  exact hk q hy E ρ ls H1 locs1 hl ⟨by rw [ev_w_set]; exact hP1, by rw [ev_w_set]; exact hD1, hS1, hT.set hz, by rw [ev_s_len]; exact hn0, hag⟩
theorem js_new {ci N idx : Nat} {C : String} {T : u_T} {ty : Nat → FieldType} {fs : List Value} (X : ev_X l D γ μ κ) (hd : decode μ.1 pc = .ok (.new idx, 3)) (hn : pc + 3 = n) (hC : ev_C γ ci C T N ty) (w1 : Jvm.Cond.classLink μ.2.2.2.1.cls idx C ∈ γ.2.2) (w2 : Jvm.Cond.instantiable C N ∈ γ.2.2) (w3 : Jvm.Cond.initialized C ∈ γ.2.2) (hfs : ∀ j, j < N → defaultValue (ty j) = vp_V fs j) (hfi : ∀ ρ : ev_R, fs.map (ev_v ρ) = fs) (h1 : ce + 1 ≤ μ.2.2.2.2.1.cells) (h2 : sl + N ≤ μ.2.2.2.2.1.slots)
    (o1 : ev_okh hp.length hp = true) (o2 : ev_okl hp.length lo = true) (o3 : ev_oks hp.length st = true) (hk : ev_J l D γ μ κ n (ce + 1) (sl + N) lo (.ref hp.length :: st) (hp ++ [.inr (ci, fs)]) y w) : ev_J l D γ μ κ pc ce sl lo st hp y w := by
  obtain ⟨p, e, s, m, args, below, meth, c, Q, A, ρ0, n0, Ex⟩ := κ
  subst hn
  intro q hy E ρ ls H locs hl hw
  obtain ⟨hP, hD, hS, hT, hn0, hag⟩ := hw
  refine va_new (fs := fs) X.1 X.2.1 X.2.2.2.2.1 hC.2.1 ty hC.2.2.1 X.2.2.2.1 (X.2.2.2.2.1 _ w1) (X.2.2.2.2.1 _ w2) (X.2.2.2.2.1 _ w3) X.2.2.2.2.2.1 hP hD hS X.2.2.2.2.2.2.1 hC.1 hfs h1 h2 hd (fun q9 H1 hP1 hD1 hS1 => ?_)
  have ha : ∀ k, k < hp.length → ev_up ρ hp.length q9 (ρ 0).2 k = ρ k := fun k hk => ev_up_lt k hk
  have he : ev_w (ev_up ρ hp.length q9 (ρ 0).2) (hp ++ [.inr (ci, fs)]) = ev_w ρ hp ++ [(q9, .inr (ci, fs))] := by
    rw [ev_w_push o1]
    show _ ++ [(q9, (Sum.inr (ci, fs.map (ev_v _)) : va_E))] = _
    rw [hfi]
  have hst : List.map (ev_v (ev_up ρ hp.length q9 (ρ 0).2)) (.ref hp.length :: st) = .ref q9 :: List.map (ev_v ρ) st := by
    rw [List.map_cons, ev_oks_eq ha o3]
    show Value.ref (ev_up ρ hp.length q9 (ρ 0).2 hp.length).1 :: _ = _
    rw [ev_up_at]
  have := hk q hy E (ev_up ρ hp.length q9 (ρ 0).2) ls H1 locs (hl.grow ha o2) ⟨by rw [he]; exact hP1, by rw [he]; exact hD1, hS1, ?_, by rw [List.length_append]; omega, fun k hk => by rw [ev_up_lt k (by omega)]; exact hag k hk⟩
  · rw [hst] at this
    exact this
  · intro k t x hx
    by_cases hkl : k < hp.length
    · rw [List.getElem?_append_left hkl] at hx
      rw [ev_up_lt k hkl]
      exact hT k t x hx
    · rw [List.getElem?_append_right (by omega)] at hx
      have hz : k - hp.length < 1 := (List.getElem?_eq_some_iff.mp hx).1
      have hz0 : k - hp.length = 0 := by omega
      rw [hz0] at hx
      cases hx
def ev_a0 (a : (Nat → Int32) ⊕ (Nat → Int64)) : (Nat → Int32) ⊕ (Nat → Int64) ⊕ (Nat → UInt32) ⊕ (Nat → UInt64) ⊕ (Nat → Option Nat) := match a with
  | .inl f => .inl f
  | .inr f => .inr (.inl f)
theorem js_newa {N : Nat} {ty : FieldType} {atype : ArrayType} (a : (Nat → Int32) ⊕ (Nat → Int64)) {k9 : Int32} (X : ev_X l D γ μ κ) (hd : decode μ.1 pc = .ok (.newarray atype, 2)) (hn : pc + 2 = n) (w1 : Jvm.Cond.arrayClass (newarray.typeOf atype) ∈ γ.2.2) (hty : newarray.typeOf atype = ty) (ha0 : ∀ cA : ClassId, vp_cell cA (N, ev_a0 a) = arrV cA N (fun _ => defaultValue ty)) (hby : N * componentBytes ty ≤ 536870912) (h1 : ce + 1 ≤ μ.2.2.2.2.1.cells) (h2 : sl + N ≤ μ.2.2.2.2.1.slots)
    (g1 : ¬ k9 < 0) (g2 : ix k9 = N) (o1 : ev_okh hp.length hp = true) (o2 : ev_okl hp.length lo = true) (o3 : ev_oks hp.length st = true) (hk : ev_J l D γ μ κ n (ce + 1) (sl + N) lo (.ref hp.length :: st) (hp ++ [.inl (ty, N, a)]) y w) : ev_J l D γ μ κ pc ce sl lo (.int k9 :: st) hp y w := by
  obtain ⟨p, e, s, m, args, below, meth, c, Q, A, ρ0, n0, Ex⟩ := κ
  subst hn
  intro q hy E ρ ls H locs hl hw
  obtain ⟨hP, hD, hS, hT, hn0, hag⟩ := hw
  refine va_newa (a0 := (N, ev_a0 a)) X.1 X.2.1 (X.2.2.2.2.1 _ w1) hty X.2.2.2.2.2.1 hP hD hS X.2.2.2.2.2.2.1 ha0 g1 g2 hby h1 h2 hd (fun q9 cA H1 hK1 hP1 hD1 hS1 => ?_)
  have ha : ∀ k, k < hp.length → ev_up ρ hp.length q9 cA k = ρ k := fun k hk => ev_up_lt k hk
  have he : ev_w (ev_up ρ hp.length q9 cA) (hp ++ [.inl (ty, N, a)]) = ev_w ρ hp ++ [(q9, .inl (cA, N, ev_a0 a))] := by
    rw [ev_w_push o1]
    have : ev_e (ev_up ρ hp.length q9 cA) hp.length (.inl (ty, N, a)) = .inl (cA, N, ev_a0 a) := by
      rcases a with f | f
      · show (Sum.inl ((ev_up ρ hp.length q9 cA hp.length).2, N, _) : va_E) = _
        rw [ev_up_at]
        rfl
      · show (Sum.inl ((ev_up ρ hp.length q9 cA hp.length).2, N, _) : va_E) = _
        rw [ev_up_at]
        rfl
    rw [this]
  have hst : List.map (ev_v (ev_up ρ hp.length q9 cA)) (.ref hp.length :: st) = .ref q9 :: List.map (ev_v ρ) st := by
    rw [List.map_cons, ev_oks_eq ha o3]
    show Value.ref (ev_up ρ hp.length q9 cA hp.length).1 :: _ = _
    rw [ev_up_at]
  have := hk q hy E (ev_up ρ hp.length q9 cA) ls H1 locs (hl.grow ha o2) ⟨by rw [he]; exact hP1, by rw [he]; exact hD1, hS1, ?_, by rw [List.length_append]; omega, fun k hk => by rw [ev_up_lt k (by omega)]; exact hag k hk⟩
  · rw [hst] at this
    exact this
  · intro k t x hx
    by_cases hkl : k < hp.length
    · rw [List.getElem?_append_left hkl] at hx
      rw [ev_up_lt k hkl]
      exact hT k t x hx
    · rw [List.getElem?_append_right (by omega)] at hx
      have hz : k - hp.length < 1 := (List.getElem?_eq_some_iff.mp hx).1
      have hz0 : k = hp.length := by omega
      subst hz0
      rw [Nat.sub_self] at hx
      cases hx
      rw [ev_up_at]
      exact hK1.2 0 (cA, ty) rfl
theorem js_objI {idx a : Nat} (X : ev_X l D γ μ κ) (hd : decode μ.1 pc = .ok (.invokespecial idx, 3)) (hn : pc + 3 = n) (w1 : Jvm.Cond.methodLink μ.2.2.2.1.cls idx Lib.objectInit ∈ γ.2.2) (w2 : Jvm.Cond.instanceMethod Lib.objectInit ∈ γ.2.2) (w3 : Jvm.Cond.code Lib.objectInit ⟨#[0xb1]⟩ 1 none ∈ γ.2.2) (hf : 1 ≤ μ.2.2.2.2.1.frames) (hlo : 12 ≤ μ.2.2.2.2.1.locals) (hk : ev_J l D γ μ κ n ce sl lo [] hp y w) : ev_J l D γ μ κ pc ce sl lo [.ref a] hp y w := by
  obtain ⟨p, e, s, m, args, below, meth, c, Q, A, ρ0, n0, Ex⟩ := κ
  subst hn
  intro q hy E ρ ls H locs hl hw
  refine W.objInit (rest := []) X.1 X.2.1 X.2.2.2.1 (X.2.2.2.2.1 _ w1) (X.2.2.2.2.1 _ w2) (X.2.2.2.2.1 _ w3) rfl (by rw [X.2.2.1]; exact hl.1) rfl hd hf hlo ?_
  exact hk q hy E ρ ls H locs hl hw
end EVC
end
section
def ev_Pw (D : va_G) (γ : ev_ga) (ρ : ev_R) (hp : ev_H) (sz : Nat) (U : State) : Prop :=
  U.heap.size = sz ∧ va_P D γ.1 (ev_w ρ hp) U.heap ∧ va_K D γ.1 [] U ∧ ev_T ρ hp U ∧ va_D (fun _ => True) (ev_w ρ hp) ∧ ∀ q ∈ γ.2.1, va_Nw (.methodLinkNest q.1 q.2.1 q.2.2.1 q.2.2.2) U
def ev_Bq (D : va_G) (γ : ev_ga) (ρ : ev_R) (hp hp' : ev_H) (sz : Nat) (ρ' : ev_R) (t : State) : Prop :=
  va_P D γ.1 (ev_w ρ' hp') t.heap ∧ ev_T ρ' hp' t ∧ va_D (va_A (ev_w ρ hp) sz) (ev_w ρ' hp')
def ev_ag (ρ : ev_R) (hp hp' : ev_H) (ρ' : ev_R) : Prop := (∀ k, k < hp.length → ρ' k = ρ k) ∧ hp.length ≤ hp'.length
def ev_Q (D : va_G) (γ : ev_ga) (ρ : ev_R) (hp : ev_H) (o : ev_O) (sz : Nat) : Array Value → State → Outcome → State → Prop := match o with
  | (none, hp') => va_Qv (ev_ag ρ hp hp') (ev_Bq D γ ρ hp hp' sz) (va_A (ev_w ρ hp) sz)
  | (some (.int r), hp') => va_Qi (fun r' ρ' => r' = r ∧ ev_ag ρ hp hp' ρ') (ev_Bq D γ ρ hp hp' sz) (va_A (ev_w ρ hp) sz)
  | _ => fun _ _ _ _ => False
/-- a method's contract at the values as over the world hp: what the pure side says, it does -/
def ev_M {α : Type} (l : Launch) (D : va_G) (γ : ev_ga) (μ : ev_mu) (as : List Value) (hp : ev_H) (y : Option α) (w : α → ev_O) : Prop :=
  ∀ (q : α), y = some q → ∀ (ρ : ev_R) (sz : Nat), Met l μ.2.2.2.1 (Jvm.Cond.code μ.2.2.2.1 μ.1 μ.2.1 μ.2.2.1 :: γ.2.2) μ.2.2.2.2.1 (va_Pc (as.map (ev_v ρ)) (ev_Pw D γ ρ hp sz)) (ev_Q D γ ρ hp (w q) sz) μ.2.2.2.2.2.1 μ.2.2.2.2.2.2 (va_A (ev_w ρ hp) sz)
theorem ev_blind {D : va_G} {γ : ev_ga} {ρ : ev_R} {hp : ev_H} {sz : Nat} {av : List Value} : FrameBlind (va_Pc av (ev_Pw D γ ρ hp sz)) := by
  intro a U g mk q
  obtain ⟨q0, q1, qP, qK, qT, qD, qN⟩ := q
  exact ⟨q0, q1, qP, va_K.moved (u := U) (U := U.calling g mk a) (Vm.Alike.refl U.vm) qK, ev_T.moved (u := U) (U := U.calling g mk a) (Vm.Alike.refl U.vm) qT, qD, fun z hz => va_Nw.same rfl (u := U) (U := U.calling g mk a) rfl (qN z hz)⟩
def ev_pop : Nat → List Value → List Value → Option (List Value × List Value)
  | 0, st, acc => some (acc, st)
  | _ + 1, [], _ => none
  | n + 1, v :: st, acc => ev_pop n st (v :: acc)
theorem ev_pop_eq : ∀ {n : Nat} {st acc as st' : List Value}, ev_pop n st acc = some (as, st') → as.reverse ++ st' = acc.reverse ++ st ∧ as.length = acc.length + n
  | 0, st, acc, as, st', h => by
    simp only [ev_pop, Option.some.injEq, Prod.mk.injEq] at h
    obtain ⟨rfl, rfl⟩ := h
    exact ⟨rfl, rfl⟩
  | n + 1, [], acc, as, st', h => by simp [ev_pop] at h
  | n + 1, v :: st, acc, as, st', h => by
    obtain ⟨h1, h2⟩ := ev_pop_eq (n := n) (st := st) (acc := v :: acc) h
    refine ⟨h1.trans (by simp), h2.trans ?_⟩
    rw [List.length_cons]
    omega
def ev_cs : List Value → Nat
  | [] => 0
  | .long _ :: st => ev_cs st + 2
  | .double _ :: st => ev_cs st + 2
  | _ :: st => ev_cs st + 1
theorem ev_cs_eq : ∀ (st : List Value), (st.map fun v => v.category).sum = ev_cs st
  | [] => rfl
  | v :: st => by
    rw [List.map_cons, List.sum_cons, ev_cs_eq st]
    cases v <;> simp [ev_cs, Value.category] <;> omega
def ev_push (v : Option Value) (st : List Value) : List Value := match v with
  | some v => v :: st
  | none => st
section EVM
variable {β : Type} {l : Launch} {D : va_G} {γ : ev_ga} {μ : ev_mu} {κ : ev_ka} {pc n ce sl : Nat} {lo : ev_L} {st : List Value} {hp : ev_H} {y : Option β} {w : β → ev_O}
theorem ev_after {p : Program} {e : Env} {R : Room} {s : State} {m : MethodId} {args : Array Value} {below : List Frame} {meth : Method} {c : Code} {Q : State → Prop} {A : Nat → Prop} {ρ0 ρ : ev_R} {n0 nL : Nat} {st' st0 : List Value} {ls : Array Slot} {H : Heap} {locs : List Loc} {o1 : ev_O} {a : Array Value} {mc' ms' : Nat} (hA : ∀ q, s.heap.size ≤ q → A q) (hl : ev_lo ρ ls nL lo) (hw : ev_wd D γ.1 A s ρ0 n0 ρ hp H locs) (o2 : ev_okl hp.length lo = true) (o3 : ev_oks hp.length st' = true)
    (hrun : va_Run p l e R s m args below meth c H locs ce sl mc' ms' (F0 m pc ls st0) (st'.map (ev_v ρ)) (ev_Q D γ ρ hp o1 H.size a) (va_A (ev_w ρ hp) H.size))
    (hk : ∀ (ρ' : ev_R) (H1 : Heap) (locs1 : List Loc), ev_lo ρ' ls nL lo → ev_wd D γ.1 A s ρ0 n0 ρ' o1.2 H1 locs1 → W p l e R s m args below meth c H1 locs1 (ce + mc') (sl + ms') Q (F0 m (pc + 3) ls ((ev_push o1.1 st').map (ev_v ρ')))) : W p l e R s m args below meth c H locs ce sl Q (F0 m pc ls st0) := by
  obtain ⟨hP, hD, hS, hT, hn0, hag⟩ := hw
  have hFc : ∀ q, va_A (ev_w ρ hp) H.size q → A q := by
    intro q h
    rcases h with ⟨j, x, hj⟩ | h
    · exact hD.2 j _ hj
    · exact hA q (Nat.le_trans hS.1 h)
  have fin : ∀ (ρ' : ev_R) (t : State) (H1 : Heap) (locs1 : List Loc), t.heap = H1 → s.vm.Alike t.vm → ev_ag ρ hp o1.2 ρ' → ev_Bq D γ ρ hp o1.2 H.size ρ' t → va_S A s.heap H1 locs1 → ev_lo ρ' ls nL lo ∧ st'.map (ev_v ρ') = st'.map (ev_v ρ) ∧ ev_wd D γ.1 A s ρ0 n0 ρ' o1.2 H1 locs1 := by
    intro ρ' t H1 locs1 ht hvm hg hB hS1
    obtain ⟨b1, b2, b3⟩ := hB
    rw [ht] at b1
    exact ⟨hl.grow hg.1 o2, ev_oks_eq hg.1 o3, b1, b3.weaken (fun _ _ _ h => hFc _ h), hS1, ev_T.moved hvm.symm b2, Nat.le_trans hn0 hg.2, fun j hj => by rw [hg.1 j (by omega)]; exact hag j hj⟩
  obtain ⟨v, hp'⟩ := o1
  have bad : (∀ T : State, T.heap = H → Stand p l e R s m args below meth c T locs ce sl → False) → W p l e R s m args below meth c H locs ce sl Q (F0 m pc ls st0) := fun h T hT' XS => (h T hT' XS).elim
  match v, hrun, hk, fin with
  | none, hrun, hk, fin =>
    refine va_callv (a := a) hrun hS (fun q _ h => hFc q h) hFc (fun ρ' t H1 locs1 ht hvm hg hB _ _ hS1 => ?_)
    obtain ⟨f1, f2, f3⟩ := fin ρ' t H1 locs1 ht hvm hg hB hS1
    rw [← f2]
    exact hk ρ' H1 locs1 f1 f3
  | some (.int r), hrun, hk, fin =>
    refine va_calli (a := a) hrun hS (fun q _ h => hFc q h) hFc (fun r' ρ' t H1 locs1 ht hvm hg hB _ _ hS1 => ?_)
    obtain ⟨rfl, hg⟩ := hg
    obtain ⟨f1, f2, f3⟩ := fin ρ' t H1 locs1 ht hvm hg hB hS1
    rw [← f2]
    exact hk ρ' H1 locs1 f1 f3
  | some (.long r), hrun, hk, fin => exact bad fun T hT' XS => by obtain ⟨_, _, _, _, _, _, _, _, _, _, hf, _⟩ := hrun T hT' XS; exact hf
  | some (.float r), hrun, hk, fin => exact bad fun T hT' XS => by obtain ⟨_, _, _, _, _, _, _, _, _, _, hf, _⟩ := hrun T hT' XS; exact hf
  | some (.double r), hrun, hk, fin => exact bad fun T hT' XS => by obtain ⟨_, _, _, _, _, _, _, _, _, _, hf, _⟩ := hrun T hT' XS; exact hf
  | some (.ref r), hrun, hk, fin => exact bad fun T hT' XS => by obtain ⟨_, _, _, _, _, _, _, _, _, _, hf, _⟩ := hrun T hT' XS; exact hf
  | some (.retAddr r), hrun, hk, fin => exact bad fun T hT' XS => by obtain ⟨_, _, _, _, _, _, _, _, _, _, hf, _⟩ := hrun T hT' XS; exact hf
  | some .null, hrun, hk, fin => exact bad fun T hT' XS => by obtain ⟨_, _, _, _, _, _, _, _, _, _, hf, _⟩ := hrun T hT' XS; exact hf
theorem ev_pre {s : State} {A : Nat → Prop} {ρ0 ρ : ev_R} {n0 : Nat} {H : Heap} {locs : List Loc} {as : List Value} (hK : va_K D γ.1 [] s) (hN : ∀ q ∈ γ.2.1, va_Nw (.methodLinkNest q.1 q.2.1 q.2.2.1 q.2.2.2) s) (hw : ev_wd D γ.1 A s ρ0 n0 ρ hp H locs) : PreS s H (va_Pc (as.map (ev_v ρ)) (ev_Pw D γ ρ hp H.size)) (as.map (ev_v ρ)) := by
  obtain ⟨hP, hD, hS, hT, hn0, hag⟩ := hw
  exact ⟨ev_blind, fun U hU hW => ⟨rfl, by rw [hU], by rw [hU]; exact hP, va_K.moved hW.alike hK, ev_T.moved hW.alike hT, hD.weaken (fun _ _ _ _ => trivial), fun q hq => va_Nw.warmM hW (hN q hq)⟩⟩
theorem js_callV {α : Type} {na idx ci b : Nat} {C : String} {μ' : ev_mu} {tl : u_T × Nat} {as' st' fs : List Value} {y1 : Option α} {w1 : α → ev_O} {k : α → Option β} (X : ev_X l D γ μ κ) (hd : decode μ.1 pc = .ok (.invokevirtual idx, 3)) (hn : pc + 3 = n) (hM : ev_M l D γ μ' (.ref b :: as') hp y1 w1) (hg : GoodIn γ.2.2 (wsV μ.2.2.2.1.cls idx C μ'.2.2.2.1 (Jvm.Cond.code μ'.2.2.2.1 μ'.1 μ'.2.1 μ'.2.2.1 :: γ.2.2))) (hrc : μ'.2.2.2.2.1.cells = μ'.2.2.2.2.2.1) (hrs : μ'.2.2.2.2.1.slots = μ'.2.2.2.2.2.2)
    (hyy : μ'.2.2.2.1.cls = C ∧ μ'.2.2.2.1.cls ≠ "java/lang/invoke/MethodHandle" ∧ μ'.2.2.2.1.cls ≠ "java/lang/invoke/VarHandle" ∧ (parseMethodDescriptor μ'.2.2.2.1.desc).map (fun d => d.parameters.length) = some na) (hR : μ'.2.2.2.2.1.frames + 1 ≤ μ.2.2.2.2.1.frames ∧ 8 + (μ'.2.1 + 11) + μ'.2.2.2.2.1.locals ≤ μ.2.2.2.2.1.locals) (hc : γ.1[ci]? = some (C, tl)) (hf : ce + μ'.2.2.2.2.2.1 ≤ μ.2.2.2.2.1.cells ∧ sl + μ'.2.2.2.2.2.2 ≤ μ.2.2.2.2.1.slots) (hpop : ev_pop (na + 1) st [] = some (.ref b :: as', st')) (hb : ev_n hp b = some (.inr (ci, fs))) (o2 : ev_okl hp.length lo = true) (o3 : ev_oks hp.length st' = true) (o4 : Nat.ble (ev_cs st') 8 = true) (hk : ∀ q1, ev_J l D γ μ κ n (ce + μ'.2.2.2.2.2.1) (sl + μ'.2.2.2.2.2.2) lo (ev_push (w1 q1).1 st') (w1 q1).2 (k q1) w) : ev_J l D γ μ κ pc ce sl lo st hp (bd y1 k) w := by
  obtain ⟨p, e, s, m, args, below, meth, c, Q, A, ρ0, n0, Ex⟩ := κ
  subst hn
  intro q hy E ρ ls H locs hl hw
  obtain ⟨q1, hy1, hy⟩ := bd_t hy
  obtain ⟨hst, hlen⟩ := ev_pop_eq hpop
  have hst' : st.map (ev_v ρ) = (as'.map (ev_v ρ)).reverse ++ .ref (ρ b).1 :: st'.map (ev_v ρ) := by
    rw [show st = _ from hst.symm]
    simp [ev_v]
  have hlen' : (as'.map (ev_v ρ)).length = na := by
    simp only [List.length_cons, List.length_nil] at hlen
    rw [List.length_map]
    omega
  have hroom : ((st'.map (ev_v ρ)).map fun v => v.category).sum ≤ 8 := by
    rw [ev_v_cats, ev_cs_eq]
    exact Nat.le_of_ble_eq_true o4
  have hpre := ev_pre (as := .ref b :: as') X.2.2.2.2.2.1 X.2.2.2.2.2.2.2.1 hw
  exact ev_after X.2.2.2.2.2.2.1 hl hw o2 o3 (va_runV (As := as'.map (ev_v ρ)) (rest := st'.map (ev_v ρ)) (b := (ρ b).1) ⟨X.1, X.2.1, X.2.2.1, X.2.2.2.1, X.2.2.2.2.1⟩ (hM q1 hy1 ρ H.size) (cwV na X.2.2.2.2.1 hg rfl hrc hrs hyy hR) ⟨hpre.1, va_recv X.2.2.2.2.2.1 hw.1 hc (ev_w_at hb), hpre.2⟩ rfl hlen' hl.1 hst' (lv_room hroom) hd hf) (fun ρ' H1 locs1 a1 a2 => hk q1 q hy E ρ' ls H1 locs1 a1 a2)
theorem js_callS {α : Type} {na idx : Nat} {μ' : ev_mu} {as st' : List Value} {y1 : Option α} {w1 : α → ev_O} {k : α → Option β} (X : ev_X l D γ μ κ) (hd : decode μ.1 pc = .ok (.invokestatic idx, 3)) (hn : pc + 3 = n) (hM : ev_M l D γ μ' as hp y1 w1) (hg : GoodIn γ.2.2 (va_wsS μ.2.2.2.1.cls idx μ'.2.2.2.1 (Jvm.Cond.code μ'.2.2.2.1 μ'.1 μ'.2.1 μ'.2.2.1 :: γ.2.2))) (hrc : μ'.2.2.2.2.1.cells = μ'.2.2.2.2.2.1) (hrs : μ'.2.2.2.2.1.slots = μ'.2.2.2.2.2.2)
    (hyy : μ'.2.2.2.1.cls ≠ "java/lang/invoke/MethodHandle" ∧ μ'.2.2.2.1.cls ≠ "java/lang/invoke/VarHandle" ∧ (parseMethodDescriptor μ'.2.2.2.1.desc).map (fun d => d.parameters.length) = some na) (hR : μ'.2.2.2.2.1.frames + 1 ≤ μ.2.2.2.2.1.frames ∧ 8 + (μ'.2.1 + 11) + μ'.2.2.2.2.1.locals ≤ μ.2.2.2.2.1.locals) (hf : ce + μ'.2.2.2.2.2.1 ≤ μ.2.2.2.2.1.cells ∧ sl + μ'.2.2.2.2.2.2 ≤ μ.2.2.2.2.1.slots) (hpop : ev_pop na st [] = some (as, st')) (o2 : ev_okl hp.length lo = true) (o3 : ev_oks hp.length st' = true) (o4 : Nat.ble (ev_cs st') 8 = true) (hk : ∀ q1, ev_J l D γ μ κ n (ce + μ'.2.2.2.2.2.1) (sl + μ'.2.2.2.2.2.2) lo (ev_push (w1 q1).1 st') (w1 q1).2 (k q1) w) : ev_J l D γ μ κ pc ce sl lo st hp (bd y1 k) w := by
  obtain ⟨p, e, s, m, args, below, meth, c, Q, A, ρ0, n0, Ex⟩ := κ
  subst hn
  intro q hy E ρ ls H locs hl hw
  obtain ⟨q1, hy1, hy⟩ := bd_t hy
  obtain ⟨hst, hlen⟩ := ev_pop_eq hpop
  have hst' : st.map (ev_v ρ) = (as.map (ev_v ρ)).reverse ++ st'.map (ev_v ρ) := by
    rw [show st = _ from hst.symm]
    simp
  have hlen' : (as.map (ev_v ρ)).length = na := by
    simp only [List.length_nil] at hlen
    rw [List.length_map]
    omega
  have hroom : ((st'.map (ev_v ρ)).map fun v => v.category).sum ≤ 8 := by
    rw [ev_v_cats, ev_cs_eq]
    exact Nat.le_of_ble_eq_true o4
  exact ev_after X.2.2.2.2.2.2.1 hl hw o2 o3 (va_runS (As := as.map (ev_v ρ)) (rest := st'.map (ev_v ρ)) ⟨X.1, X.2.1, X.2.2.1, X.2.2.2.1, X.2.2.2.2.1⟩ (hM q1 hy1 ρ H.size) (va_cwS na X.2.2.2.2.1 hg rfl hrc hrs hyy hR) (ev_pre X.2.2.2.2.2.1 X.2.2.2.2.2.2.2.1 hw) rfl hlen' hl.1 hst' (lv_room hroom) hd hf) (fun ρ' H1 locs1 a1 a2 => hk q1 q hy E ρ' ls H1 locs1 a1 a2)
theorem js_callI {α : Type} {na idx b : Nat} {μ' : ev_mu} {as' st' : List Value} {y1 : Option α} {w1 : α → ev_O} {k : α → Option β} (X : ev_X l D γ μ κ) (hd : decode μ.1 pc = .ok (.invokespecial idx, 3)) (hn : pc + 3 = n) (hM : ev_M l D γ μ' (.ref b :: as') hp y1 w1) (hg : GoodIn γ.2.2 (Jvm.Cond.code μ'.2.2.2.1 μ'.1 μ'.2.1 μ'.2.2.1 :: γ.2.2)) (hrc : μ'.2.2.2.2.1.cells = μ'.2.2.2.2.2.1) (hrs : μ'.2.2.2.2.1.slots = μ'.2.2.2.2.2.2) (hret : μ'.2.2.1 = none) (hini : Jvm.Cond.initialized μ'.2.2.2.1.cls ∈ γ.2.2) (hml : (Jvm.Cond.methodLink μ.2.2.2.1.cls idx μ'.2.2.2.1 ∈ γ.2.2) ∨ ∃ host, (μ.2.2.2.1.cls, idx, μ'.2.2.2.1, host) ∈ γ.2.1) (him : Jvm.Cond.instanceMethod μ'.2.2.2.1 ∈ γ.2.2) (hyn : μ'.2.2.2.1.name = "<init>")
    (hyy : μ'.2.2.2.1.cls ≠ "java/lang/invoke/MethodHandle" ∧ μ'.2.2.2.1.cls ≠ "java/lang/invoke/VarHandle" ∧ (parseMethodDescriptor μ'.2.2.2.1.desc).map (fun d => d.parameters.length) = some na) (hR : μ'.2.2.2.2.1.frames + 1 ≤ μ.2.2.2.2.1.frames ∧ 8 + (μ'.2.1 + 11) + μ'.2.2.2.2.1.locals ≤ μ.2.2.2.2.1.locals) (hf : ce + μ'.2.2.2.2.2.1 ≤ μ.2.2.2.2.1.cells ∧ sl + μ'.2.2.2.2.2.2 ≤ μ.2.2.2.2.1.slots) (hpop : ev_pop (na + 1) st [] = some (.ref b :: as', st')) (o2 : ev_okl hp.length lo = true) (o3 : ev_oks hp.length st' = true) (o4 : Nat.ble (ev_cs st') 8 = true) (hk : ∀ q1, ev_J l D γ μ κ n (ce + μ'.2.2.2.2.2.1) (sl + μ'.2.2.2.2.2.2) lo (ev_push (w1 q1).1 st') (w1 q1).2 (k q1) w) : ev_J l D γ μ κ pc ce sl lo st hp (bd y1 k) w := by
  obtain ⟨p, e, s, m, args, below, meth, c, Q, A, ρ0, n0, Ex⟩ := κ
  subst hn
  intro q hy E ρ ls H locs hl hw
  obtain ⟨q1, hy1, hy⟩ := bd_t hy
  obtain ⟨hst, hlen⟩ := ev_pop_eq hpop
  have hst' : st.map (ev_v ρ) = (as'.map (ev_v ρ)).reverse ++ .ref (ρ b).1 :: st'.map (ev_v ρ) := by
    rw [show st = _ from hst.symm]
    simp [ev_v]
  have hlen' : (as'.map (ev_v ρ)).length = na := by
    simp only [List.length_cons, List.length_nil] at hlen
    rw [List.length_map]
    omega
  have hroom : ((st'.map (ev_v ρ)).map fun v => v.category).sum ≤ 8 := by
    rw [ev_v_cats, ev_cs_eq]
    exact Nat.le_of_ble_eq_true o4
  have hpre := ev_pre (as := .ref b :: as') X.2.2.2.2.2.1 X.2.2.2.2.2.2.2.1 hw
  have hM1 := hM q1 hy1 ρ H.size
  rw [hret] at hg hM1
  rcases hml with hml | ⟨host, hml⟩
  · exact ev_after X.2.2.2.2.2.2.1 hl hw o2 o3 (va_runI (As := as'.map (ev_v ρ)) (rest := st'.map (ev_v ρ)) (b := (ρ b).1) ⟨X.1, X.2.1, X.2.2.1, X.2.2.2.1, X.2.2.2.2.1⟩ hM1 (cwI na X.2.2.2.2.1 hg rfl hrc hrs (X.2.2.2.2.1 _ hini) (X.2.2.2.2.1 _ hml) (X.2.2.2.2.1 _ him) hyn hyy hR) hpre rfl hlen' hl.1 hst' (lv_room hroom) hd hf) (fun ρ' H1 locs1 a1 a2 => hk q1 q hy E ρ' ls H1 locs1 a1 a2)
  · exact ev_after X.2.2.2.2.2.2.1 hl hw o2 o3 (va_runIN (As := as'.map (ev_v ρ)) (rest := st'.map (ev_v ρ)) (b := (ρ b).1) ⟨X.1, X.2.1, X.2.2.1, X.2.2.2.1, X.2.2.2.2.1⟩ hM1 ⟨va_cnB na X.2.2.2.2.1 hg rfl hrc hrs (X.2.2.2.2.2.2.2.1 _ hml) (X.2.2.2.2.1 _ hini) hyy hR, hyn, X.2.2.2.2.1 _ him⟩ hpre rfl hlen' hl.1 hst' (lv_room hroom) hd hf) (fun ρ' H1 locs1 a1 a2 => hk q1 q hy E ρ' ls H1 locs1 a1 a2)
/-! returns -/
theorem js_retI {x : Int32} {q : β} (X : ev_X l D γ μ κ) (hd : decode μ.1 pc = .ok (.ireturn, 1)) (hret : μ.2.2.1 = some .int) (h1 : ce ≤ μ.2.2.2.2.2.1) (h2 : sl ≤ μ.2.2.2.2.2.2) (hq : w q = (some (.int x), hp)) : ev_J l D γ μ κ pc ce sl lo [.int x] hp (some q) w := by
  obtain ⟨p, e, s, m, args, below, meth, c, Q, A, ρ0, n0, Ex⟩ := κ
  intro q' hy E ρ ls H locs hl hw
  cases hy
  rw [hq] at E
  have E := X.2.2.2.2.2.2.2.2.2 _ E
  exact W.widen h1 h2 (E pc ρ ls H locs ⟨hd, Or.inl hret⟩ hw)
theorem js_retZ {x : Int32} {q : β} (X : ev_X l D γ μ κ) (hd : decode μ.1 pc = .ok (.ireturn, 1)) (hret : μ.2.2.1 = some .boolean) (h1 : ce ≤ μ.2.2.2.2.2.1) (h2 : sl ≤ μ.2.2.2.2.2.2) (hq : w q = (some (.int x), hp)) : ev_J l D γ μ κ pc ce sl lo [.int x] hp (ck (isB x) (some q)) w := by
  obtain ⟨p, e, s, m, args, below, meth, c, Q, A, ρ0, n0, Ex⟩ := κ
  intro q' hy E ρ ls H locs hl hw
  obtain ⟨hb, hy⟩ := ck_t hy
  cases hy
  rw [hq] at E
  have E := X.2.2.2.2.2.2.2.2.2 _ E
  exact W.widen h1 h2 (E pc ρ ls H locs ⟨hd, Or.inr ⟨hret, hb⟩⟩ hw)
theorem js_retV {q : β} (X : ev_X l D γ μ κ) (hd : decode μ.1 pc = .ok (.return_, 1)) (hret : μ.2.2.1 = none) (h1 : ce ≤ μ.2.2.2.2.2.1) (h2 : sl ≤ μ.2.2.2.2.2.2) (hq : w q = (none, hp)) : ev_J l D γ μ κ pc ce sl lo [] hp (some q) w := by
  obtain ⟨p, e, s, m, args, below, meth, c, Q, A, ρ0, n0, Ex⟩ := κ
  intro q' hy E ρ ls H locs hl hw
  cases hy
  rw [hq] at E
  have E := X.2.2.2.2.2.2.2.2.2 _ E
  exact W.widen h1 h2 (E pc ρ ls H locs ⟨hret, hd⟩ hw)
end EVM
theorem ev_sl_len : ∀ (vs : List Value), (lg_sl vs).length = ev_cs vs
  | [] => rfl
  | v :: vs => by
    have h : lg_sl (v :: vs) = (if v.category = 2 then [.val v, .second] else [.val v]) ++ lg_sl vs := by simp [lg_sl]
    rw [h, List.length_append, ev_sl_len vs]
    cases v <;> simp [ev_cs, Value.category] <;> omega
theorem ev_cs_v (ρ : ev_R) (vs : List Value) : ev_cs (vs.map (ev_v ρ)) = ev_cs vs := by rw [← ev_cs_eq, ← ev_cs_eq, ev_v_cats]
set_option maxHeartbeats 4000000 in
theorem ev_met {α : Type} {l : Launch} {D : va_G} {γ : ev_ga} {μ : ev_mu} {as : List Value} {hp : ev_H} {y : Option α} {w : α → ev_O} (hpl : plainName μ.2.2.2.1.cls = true) (hlen : Nat.ble (ev_cs as) μ.2.1 = true)
    (hJ : ∀ κ : ev_ka, ev_X l D γ μ κ → ev_J l D γ μ κ 0 0 0 (ev_ent μ.2.1 as) [] hp y w) : ev_M l D γ μ as hp y w := by
  intro q hy ρ sz
  have hlen := Nat.le_of_ble_eq_true hlen
  refine Met.ofW (cc := μ.1) (maxL := μ.2.1) (ret := μ.2.2.1) hpl rfl ?_
  intro p e s m args below meth c s₁ B hml hv
  obtain ⟨rfl, hsz, hP, hK, hT, hD0, hN⟩ := hv
  have hts0 := atoms_spec (ws := Jvm.Cond.code μ.2.2.2.1 μ.1 μ.2.1 μ.2.2.1 :: γ.2.2) B.pre
  have hts : ∀ w ∈ γ.2.2, w.before (as.map (ev_v ρ)).toArray s = true := fun w h => hts0 w (List.mem_cons_of_mem _ h)
  have hown : s.vm.findClass μ.2.2.2.1.cls = some m.cls := findClass_of_methodNamed B.named
  have hlocks := B.notSynchronized
  have hin : meth.name = μ.2.2.2.1.name := (name_of_methodNamed B.named B.method).1
  subst hsz
  have hD := hD0.self (sz := s.heap.size)
  have hA : ∀ q : Nat, s.heap.size ≤ q → va_A (ev_w ρ hp) s.heap.size q := fun q h => Or.inr h
  have hl := lv_entry (as.map (ev_v ρ)) (n := μ.2.1) (by rw [ev_sl_len, ev_cs_v]; exact hlen)
  rw [lg_entry_eq]
  generalize (lg_sl (as.map (ev_v ρ)) ++ List.replicate (μ.2.1 - (lg_sl (as.map (ev_v ρ))).length) Slot.unset).toArray = ls at hl ⊢
  refine hJ (p, e, s, m, _, below, meth, c, _, va_A (ev_w ρ hp) s.heap.size, ρ, hp.length, ev_Ex l D γ μ (p, e, s, m, (as.map (ev_v ρ)).toArray, below, meth, c, MQ below (ev_Q D γ ρ hp (w q) s.heap.size) (as.map (ev_v ρ)).toArray s μ.2.2.2.2.2.1 μ.2.2.2.2.2.2 (va_A (ev_w ρ hp) s.heap.size), va_A (ev_w ρ hp) s.heap.size, ρ, hp.length, fun _ => True)) ⟨B.exec, B.bytes, hml, hown, hts, hK, hA, hN, hin, fun _ h => h⟩ q hy ?_ ρ ls s.heap [] (ev_ent_lo hl) ⟨hP, hD, va_S.rf, hT, Nat.le_refl _, fun _ _ => rfl⟩
  intro pc ρ' ls' H locs hrd hw
  obtain ⟨hP1, hD1, hS1, hT1, hn1, hag1⟩ := hw
  have hB : ∀ t : State, t.heap = H → s.WarmedH t.vm → ev_Bq D γ ρ hp (w q).2 s.heap.size ρ' t := fun t ht hW => ⟨by rw [ht]; exact hP1, ev_T.moved hW.alike hT1, hD1⟩
  have hr := B.returns
  generalize w q = o at hrd hn1 hB ⊢
  obtain ⟨v, hp'⟩ := o
  match v, hrd with
  | none, ⟨e1, hd⟩ =>
    rw [e1] at hr
    exact W.vret B.exec B.bytes hr (fun t ht hW => ⟨⟨ρ', rfl, ⟨hag1, hn1⟩, hB t ht hW⟩, hS1.F ht⟩) hS1.2.2 hd
  | some (.int x), ⟨hd, hret⟩ =>
    rcases hret with e1 | ⟨e1, hb⟩
    · rw [e1] at hr
      exact W.iret B.exec B.bytes hr (fun t ht hW => ⟨⟨x, ρ', rfl, ⟨rfl, hag1, hn1⟩, hB t ht hW⟩, hS1.F ht⟩) hS1.2.2 hd
    · rw [e1] at hr
      exact W.zret B.exec B.bytes hr (by rcases isB_or hb with rfl | rfl <;> rfl) (fun t ht hW => ⟨⟨x, ρ', rfl, ⟨rfl, hag1, hn1⟩, hB t ht hW⟩, hS1.F ht⟩) hS1.2.2 hd
def dq (b : ByteArray) (q : Nat × Instr × Nat) : Bool := decide (decode b q.1 = .ok q.2)
theorem dq_t {b : ByteArray} {q : Nat × Instr × Nat} (h : dq b q = true) : decode b q.1 = .ok q.2 := by
  unfold dq at h
  exact of_decide_eq_true h
theorem dg {b : ByteArray} {L : List (Nat × Instr × Nat)} (h : L.all (dq b) = true) (i : Nat) {pc len : Nat} {ins : Instr} (hi : L[i]? = some (pc, ins, len)) : decode b pc = .ok (ins, len) := by
  have h1 := dq_t (List.all_eq_true.mp h _ (List.mem_of_getElem? hi))
  exact h1
end
