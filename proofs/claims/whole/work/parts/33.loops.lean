/-! ===== loops over the stations: the first, how many, the sum ===== -/
def fstF (p : Nat → Bool) : Nat → Nat → Int32
  | 0, _ => -1
  | k + 1, i => if p i = true then nI i else fstF p k (i + 1)
/-- the first number below n that p holds of, or -1 -/
def first (p : Nat → Bool) (n : Nat) : Int32 := fstF p n 0
theorem lp_first {f : Int32 → Option (Int32 ⊕ Int32)} {p : Nat → Bool} {n : Nat} (hs : ∀ i, i < n → f (nI i) = some (if p i = true then .inr (nI i) else .inl (nI (i + 1)))) (he : f (nI n) = some (.inr (-1))) : lp f 0 = some (first p n) := by
  have key : ∀ k i, i + k = n → lp f (nI i) = some (fstF p k i) := by
    intro k
    induction k with
    | zero =>
      intro i hi
      have e : i = n := by omega
      subst e
      exact lp_inr he
    | succ k ih =>
      intro i hi
      have h := hs i (by omega)
      unfold fstF
      by_cases c : p i = true
      · rw [if_pos c] at h ⊢
        exact lp_inr h
      · rw [if_neg c] at h ⊢
        rw [lp_inl h]
        exact ih (i + 1) (by omega)
  exact key n 0 (by omega)
theorem fstF_spec (p : Nat → Bool) : ∀ k i, (fstF p k i = -1 ∧ ∀ j, i ≤ j → j < i + k → p j = false) ∨ ∃ j, i ≤ j ∧ j < i + k ∧ p j = true ∧ (∀ q, i ≤ q → q < j → p q = false) ∧ fstF p k i = nI j := by
  intro k
  induction k with
  | zero => intro i; exact Or.inl ⟨rfl, fun j h1 h2 => by omega⟩
  | succ k ih =>
    intro i
    unfold fstF
    by_cases c : p i = true
    · rw [if_pos c]
      exact Or.inr ⟨i, Nat.le_refl i, by omega, c, fun q h1 h2 => by omega, rfl⟩
    · rw [if_neg c]
      have c0 : p i = false := by simpa using c
      rcases ih (i + 1) with ⟨h1, h2⟩ | ⟨j, h1, h2, h3, h4, h5⟩
      · refine Or.inl ⟨h1, fun j a b => ?_⟩
        by_cases e : j = i
        · rw [e]; exact c0
        · exact h2 j (by omega) (by omega)
      · refine Or.inr ⟨j, by omega, by omega, h3, fun q a b => ?_, h5⟩
        by_cases e : q = i
        · rw [e]; exact c0
        · exact h4 q (by omega) b
theorem first_spec (p : Nat → Bool) (n : Nat) : (first p n = -1 ∧ ∀ j, j < n → p j = false) ∨ ∃ j, j < n ∧ p j = true ∧ (∀ q, q < j → p q = false) ∧ first p n = nI j := by
  rcases fstF_spec p n 0 with ⟨h1, h2⟩ | ⟨j, h1, h2, h3, h4, h5⟩
  · exact Or.inl ⟨h1, fun j hj => h2 j (Nat.zero_le j) (by omega)⟩
  · exact Or.inr ⟨j, by omega, h3, fun q hq => h4 q (Nat.zero_le q) hq, h5⟩
theorem first_congr {p q : Nat → Bool} {n : Nat} (h : ∀ i, i < n → p i = q i) : first p n = first q n := by
  have key : ∀ k i, i + k ≤ n → fstF p k i = fstF q k i := by
    intro k
    induction k with
    | zero => intro i _; rfl
    | succ k ih =>
      intro i hi
      unfold fstF
      rw [h i (by omega), ih (i + 1) (by omega)]
  exact key n 0 (by omega)
/-- how many numbers below n p holds of -/
def cnt (p : Nat → Bool) : Nat → Nat
  | 0 => 0
  | n + 1 => cnt p n + (if p n = true then 1 else 0)
theorem cnt_le (p : Nat → Bool) : ∀ n, cnt p n ≤ n := by
  intro n
  induction n with
  | zero => exact Nat.le_refl 0
  | succ n ih =>
    unfold cnt
    by_cases c : p n = true
    · rw [if_pos c]; omega
    · rw [if_neg c]; omega
theorem cnt_congr {p q : Nat → Bool} : ∀ {n : Nat}, (∀ i, i < n → p i = q i) → cnt p n = cnt q n := by
  intro n
  induction n with
  | zero => intro _; rfl
  | succ n ih =>
    intro h
    unfold cnt
    rw [ih (fun i hi => h i (by omega)), h n (by omega)]
theorem lp_count {f : Int32 × Int32 → Option ((Int32 × Int32) ⊕ Int32)} {p : Nat → Bool} {n : Nat} (hs : ∀ i, i < n → ∀ a : Nat, a ≤ i → f (nI a, nI i) = some (.inl (nI (a + (if p i = true then 1 else 0)), nI (i + 1)))) (he : ∀ a : Nat, a ≤ n → f (nI a, nI n) = some (.inr (nI a))) : lp f (0, 0) = some (nI (cnt p n)) := by
  refine lp_up (fun t => (nI (cnt p t), nI t)) n (fun t ht => ?_) (he _ (cnt_le p n))
  exact hs t ht (cnt p t) (cnt_le p t)
/-- the sum of v below n -/
def sumI (v : Nat → Int32) : Nat → Int32
  | 0 => 0
  | n + 1 => sumI v n + v n
theorem sumI_congr {v w : Nat → Int32} : ∀ {n : Nat}, (∀ i, i < n → v i = w i) → sumI v n = sumI w n := by
  intro n
  induction n with
  | zero => intro _; rfl
  | succ n ih =>
    intro h
    unfold sumI
    rw [ih (fun i hi => h i (by omega)), h n (by omega)]
theorem lp_sum {f : Int32 × Int32 → Option ((Int32 × Int32) ⊕ Int32)} {v : Nat → Int32} {n : Nat} (hs : ∀ i, i < n → ∀ a : Int32, f (a, nI i) = some (.inl (a + v i, nI (i + 1)))) (he : ∀ a : Int32, f (a, nI n) = some (.inr a)) : lp f (0, 0) = some (sumI v n) :=
  lp_up (fun t => (sumI v t, nI t)) n (fun t ht => hs t ht (sumI v t)) (he _)
