section EVL
variable {β : Type} {l : Launch} {D : va_G} {γ : ev_ga} {μ : ev_mu} {κ : ev_ka} {pc n ce sl : Nat} {lo : ev_L} {st : List Value} {hp : ev_H} {y : Option β} {w : β → ev_O}
def ev_Sc (κ : ev_ka) (b N : Nat) (xs : Nat → Int32) : Prop := match κ with
  | (p, e, s, m, args, below, meth, c, Q, A, ρ0, n0, Ex) => va_X b N xs s s.heap ∧ b < s.heap.size ∧ ¬ A b
theorem js_sald {b N : Nat} {xs : Nat → Int32} {i : Int32} (X : ev_X l D γ μ κ) (hS : ev_Sc κ b N xs) (hd : decode μ.1 pc = .ok (.iaload, 1)) (hn : pc + 1 = n) (hk : ev_J l D γ μ κ n ce sl lo (.int (xs (ix i)) :: st) hp y w) : ev_J l D γ μ κ pc ce sl lo (.int i :: .retAddr b :: st) hp (ck (inb i N) y) w := by
  obtain ⟨p, e, s, m, args, below, meth, c, Q, A, ρ0, n0, Ex⟩ := κ
  subst hn
  intro q hy E ρ ls H locs hl hw
  obtain ⟨h1, hy⟩ := ck_t hy
  exact va_sld X.1 X.2.1 hS.1 hS.2.1 hS.2.2 hw.2.2.1 (inb_in h1) hd (hk q hy E ρ ls H locs hl hw)
theorem js_slen {b N : Nat} {xs : Nat → Int32} (X : ev_X l D γ μ κ) (hS : ev_Sc κ b N xs) (hd : decode μ.1 pc = .ok (.arraylength, 1)) (hn : pc + 1 = n) (hk : ev_J l D γ μ κ n ce sl lo (.int (Int32.ofNat N) :: st) hp y w) : ev_J l D γ μ κ pc ce sl lo (.retAddr b :: st) hp y w := by
  obtain ⟨p, e, s, m, args, below, meth, c, Q, A, ρ0, n0, Ex⟩ := κ
  subst hn
  intro q hy E ρ ls H locs hl hw
  exact va_slen X.1 X.2.1 hS.1 hS.2.1 hS.2.2 hw.2.2.1 hd (hk q hy E ρ ls H locs hl hw)
end EVL
