/-! ===== the shapes of the blocks ===== -/
def netSh : Nat → Sh := fun k => match k with
  | 0 => .inr (6, [(1, 1), (0, 0), (1, 10), (0, 0), (1, 11), (0, 0), (0, 0)])
  | 1 => .inl (2, 8, 2, 1)
  | 2 => .inr (9, [(0, 0), (0, 0), (0, 0), (0, 0), (0, 0), (0, 0), (2, 0), (0, 0), (0, 0), (0, 0)])
  | 3 => .inr (9, [(0, 0), (0, 0), (0, 0), (0, 0), (0, 0), (0, 0), (2, 0), (0, 0), (0, 0), (0, 0)])
  | 4 => .inr (9, [(0, 0), (0, 0), (0, 0), (0, 0), (0, 0), (0, 0), (2, 0), (0, 0), (0, 0), (0, 0)])
  | 5 => .inr (9, [(0, 0), (0, 0), (0, 0), (0, 0), (0, 0), (0, 0), (2, 0), (0, 0), (0, 0), (0, 0)])
  | 6 => .inr (9, [(0, 0), (0, 0), (0, 0), (0, 0), (0, 0), (0, 0), (2, 0), (0, 0), (0, 0), (0, 0)])
  | 7 => .inr (9, [(0, 0), (0, 0), (0, 0), (0, 0), (0, 0), (0, 0), (2, 0), (0, 0), (0, 0), (0, 0)])
  | 8 => .inr (9, [(0, 0), (0, 0), (0, 0), (0, 0), (0, 0), (0, 0), (2, 0), (0, 0), (0, 0), (0, 0)])
  | 9 => .inr (9, [(0, 0), (0, 0), (0, 0), (0, 0), (0, 0), (0, 0), (2, 0), (0, 0), (0, 0), (0, 0)])
  | 10 => .inl (0, 8, 0, 0)
  | 11 => .inr (10, [(1, 12), (1, 13), (1, 14), (0, 0)])
  | 12 => .inl (0, 16, 0, 0)
  | 13 => .inl (0, 16, 0, 0)
  | 14 => .inl (0, 16, 0, 0)
  | _ => .inl (0, 0, 0, 0)
def modSh : Nat → Sh := fun k => match k with
  | 0 => .inr (12, [(1, 1), (1, 2), (1, 3), (1, 4), (0, 0), (0, 0), (0, 0), (0, 0), (0, 0), (1, 5), (0, 0), (1, 6), (1, 7), (1, 8), (1, 9), (0, 0), (0, 0), (0, 0), (0, 0), (0, 0)])
  | 1 => .inl (0, 160, 0, 0)
  | 2 => .inl (0, 160, 0, 0)
  | 3 => .inl (0, 160, 0, 0)
  | 4 => .inl (0, 1280, 0, 0)
  | 5 => .inl (0, 40, 0, 0)
  | 6 => .inl (0, 60, 0, 0)
  | 7 => .inl (0, 32, 0, 0)
  | 8 => .inl (0, 192, 0, 0)
  | 9 => .inl (0, 6, 0, 0)
  | _ => .inl (0, 0, 0, 0)
def relSh : Nat → Sh := fun k => match k with
  | 0 => .inr (8, [(1, 1), (1, 2)])
  | 1 => .inl (0, 8, 0, 0)
  | 2 => .inl (0, 8, 0, 0)
  | _ => .inl (0, 0, 0, 0)
def rnSh : Nat → Sh := fun k => match k with
  | 0 => .inr (11, [(1, 1), (1, 16), (1, 31), (0, 0), (1, 46), (1, 168), (1, 171), (1, 200), (0, 0), (0, 0)])
  | _ => .inl (0, 0, 0, 0)
def histSh : Nat → Sh := fun k => match k with
  | 0 => .inr (5, [(1, 1), (0, 0), (0, 0)])
  | 1 => .inl (3, 8, 2, 15)
  | _ => .inl (0, 0, 0, 0)
def progSh : Nat → Sh := fun k => if k = 0 then .inr (7, [(1, 1), (0, 0), (1, 2), (0, 0), (0, 0)]) else if k = 1 then .inl (1, 60, 0, 0) else if k = 2 then .inl (4, 13, 3, 2) else if k < 29 then (if k % 2 = 1 then .inr (4, [(4, 0), (1, k + 1), (0, 0)]) else .inl (0, 6, 0, 0)) else .inl (0, 0, 0, 0)
def stn (k : Nat) : Bool := decide (2 ≤ k ∧ k < 10)
theorem stn_iff {k : Nat} (h : stn k = true) : 2 ≤ k ∧ k < 10 := @of_decide_eq_true (2 ≤ k ∧ k < 10) _ h
theorem stn_lt {k : Nat} (h : stn k = true) : k < 15 := by have := stn_iff h; omega
theorem stn_sh {k : Nat} (h : stn k = true) : netSh k = .inr (9, [(0, 0), (0, 0), (0, 0), (0, 0), (0, 0), (0, 0), (2, 0), (0, 0), (0, 0), (0, 0)]) := by
  have h2 := stn_iff h
  have h3 : k = 2 ∨ k = 3 ∨ k = 4 ∨ k = 5 ∨ k = 6 ∨ k = 7 ∨ k = 8 ∨ k = 9 := by omega
  rcases h3 with h | h | h | h | h | h | h | h <;> subst h <;> rfl
theorem stn_ld {i : Int32} (h : inb i 8 = true) : stn (2 + 1 * i.toNatClampNeg) = true := by
  have := inb_lt h
  exact decide_eq_true (by omega)
def cmdk (k : Nat) : Bool := decide (3 ≤ k ∧ k < 29 ∧ k % 2 = 1)
theorem cmd_iff {k : Nat} (h : cmdk k = true) : 3 ≤ k ∧ k < 29 ∧ k % 2 = 1 := @of_decide_eq_true (3 ≤ k ∧ k < 29 ∧ k % 2 = 1) _ h
theorem cmd_lt {k : Nat} (h : cmdk k = true) : k < 29 := (cmd_iff h).2.1
theorem cmd_sh {k : Nat} (h : cmdk k = true) : progSh k = .inr (4, [(4, 0), (1, k + 1), (0, 0)]) := by
  obtain ⟨h1, h2, h3⟩ := cmd_iff h
  unfold progSh
  rw [if_neg (by omega), if_neg (by omega), if_neg (by omega), if_pos h2, if_pos h3]
theorem val_lt {k : Nat} (h : cmdk k = true) : k + 1 < 29 := by have := cmd_iff h; omega
theorem val_sh {k : Nat} (h : cmdk k = true) : progSh (k + 1) = .inl (0, 6, 0, 0) := by
  obtain ⟨h1, h2, h3⟩ := cmd_iff h
  unfold progSh
  rw [if_neg (by omega), if_neg (by omega), if_neg (by omega), if_pos (by omega), if_neg (by omega)]
theorem cmd_ld {i : Int32} (h : inb i 13 = true) : cmdk (3 + 2 * i.toNatClampNeg) = true := by
  have := inb_lt h
  exact decide_eq_true (by omega)
def arrok (k n : Nat) : Bool := decide (k < 10 ∧ modSh k = .inl (0, n, 0, 0))
theorem arrok_lt {k n : Nat} (h : arrok k n = true) : k < 10 := (@of_decide_eq_true (k < 10 ∧ modSh k = .inl (0, n, 0, 0)) _ h).1
theorem arrok_sh {k n : Nat} (h : arrok k n = true) : modSh k = .inl (0, n, 0, 0) := (@of_decide_eq_true (k < 10 ∧ modSh k = .inl (0, n, 0, 0)) _ h).2
theorem i32ne {x y : Int32} {k : Int} (h : ¬ x = y) (hk : y.toInt = k) : x.toInt ≠ k := fun z => h (Int32.toInt_inj.mp (z.trans hk.symm))
theorem hu_iv {b n k : Nat} {H H1 : Heap} (hk : k < n) (hu : ∀ q : Nat, q ≠ b + k → H1[q]? = H[q]?) : ∀ q : Nat, q < H.size → ¬ iv b n q → H1[q]? = H[q]? := fun q _ h => hu q (fun e => h (by subst e; exact iv_mem hk))
