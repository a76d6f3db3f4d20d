/-! ===== hops of sets: eight rounds and nine are the same ===== -/
theorem sel_89 {A B : Type} {P : Nat → Bool} (o1 : Nat → A) (n1 : A) (o2 : Nat → B) (n2 : B) (h : P 8 = true → P 7 = true) : (sel P o1 n1 8 = n1 ∧ sel P o2 n2 9 = n2 ∧ ∀ t, t < 9 → P t = false) ∨ ∃ t, t < 8 ∧ P t = true ∧ sel P o1 n1 8 = o1 t ∧ sel P o2 n2 9 = o2 t := by
  have key : ∀ d i, i + d = 8 → (∀ j, j < i → P j = false) → (selF P o1 n1 d i = n1 ∧ selF P o2 n2 (d + 1) i = n2 ∧ ∀ t, t < 9 → P t = false) ∨ ∃ t, t < 8 ∧ P t = true ∧ selF P o1 n1 d i = o1 t ∧ selF P o2 n2 (d + 1) i = o2 t := by
    intro d
    induction d with
    | zero =>
      intro i hi hf
      have e : i = 8 := by omega
      subst e
      have h8 : P 8 = false := by
        cases z : P 8 with
        | false => rfl
        | true => rw [hf 7 (by omega)] at h; exact (h z).symm
      refine .inl ⟨rfl, ?_, fun t ht => ?_⟩
      · show (if P 8 = true then o2 8 else n2) = n2
        rw [h8, if_neg (by decide)]
      · by_cases c : t = 8
        · rw [c]; exact h8
        · exact hf t (by omega)
    | succ d ih =>
      intro i hi hf
      cases z : P i with
      | true =>
        refine .inr ⟨i, by omega, z, ?_, ?_⟩
        · show (if P i = true then o1 i else selF P o1 n1 d (i + 1)) = o1 i
          rw [if_pos z]
        · show (if P i = true then o2 i else selF P o2 n2 (d + 1) (i + 1)) = o2 i
          rw [if_pos z]
      | false =>
        have g1 : selF P o1 n1 (d + 1) i = selF P o1 n1 d (i + 1) := by
          show (if P i = true then o1 i else selF P o1 n1 d (i + 1)) = _
          rw [z, if_neg (by decide)]
        have g2 : selF P o2 n2 (d + 1 + 1) i = selF P o2 n2 (d + 1) (i + 1) := by
          show (if P i = true then o2 i else selF P o2 n2 (d + 1) (i + 1)) = _
          rw [z, if_neg (by decide)]
        rw [g1, g2]
        refine ih (i + 1) (by omega) (fun j hj => ?_)
        by_cases c : j = i
        · rw [c]; exact z
        · exact hf j (by omega)
  exact key 8 0 rfl (fun j hj => by omega)
/-- hopsOfSets of the class and hopsOf of the reference, under equal views -/
theorem hops_eq {N M : Mem} {n : Nat} (h : NV N n) (hM : MV M n) (R : Mem) {a b : Nat} (ha : a < n) (hb : b < n) (hset : ∀ t, setAt (vN N) n a t = setAt (vM M) n a t) :
    (fX8_hopsOfSets R N (nI a) (nI b) = some (-1) ∧ fX12_hopsOf M (nI a) (nI b) = some (0, up2 (up2 M 0 4 0) 0 4 2)) ∨ ∃ t, t < 8 ∧ fX8_hopsOfSets R N (nI a) (nI b) = some (nI t) ∧ fX12_hopsOf M (nI a) (nI b) = some (nI t, up2 M 0 4 0) := by
  have h8 := h.1
  rw [c_hopsOfSets h R (by omega) (by omega), r_hopsOf hM ha hb]
  have e : (fun t => (setAt (vN N) n a t).testBit b) = fun t => (setAt (vM M) n a t).testBit b := by
    funext t
    rw [hset t]
  rw [e]
  rcases sel_89 (P := fun t => (setAt (vM M) n a t).testBit b) nI (-1) (fun t => (nI t, up2 M 0 4 0)) (0, up2 (up2 M 0 4 0) 0 4 2) (fun z => setAt_seven (vM M) h8 (show a < 8 by omega) (show b < 8 by omega) z) with ⟨g1, g2, _⟩ | ⟨t, ht, _, g1, g2⟩
  · exact .inl ⟨by rw [g1], by rw [g2]⟩
  · exact .inr ⟨t, ht, by rw [g1], by rw [g2]⟩
/-- the views for the fields that hearing reads give the same sets -/
theorem hearP_congr {v w : Nat → Nat → Int32} {n : Nat} (h : ∀ i f, i < n → f ≤ 6 → v i f = w i f) {i j : Nat} (hi : i < n) (hj : j < n) : hearP v i j = hearP w i j := by
  unfold hearP sqr
  rw [h i 5 hi (by decide), h j 5 hj (by decide), h i 2 hi (by decide), h j 2 hj (by decide), h i 3 hi (by decide), h j 3 hj (by decide), h j 4 hj (by decide)]
theorem rowF_congr {v w : Nat → Nat → Int32} {n : Nat} (h : ∀ i f, i < n → f ≤ 6 → v i f = w i f) {k : Nat} (hk : k < n) (y : Nat) : ∀ m, m ≤ n → rowF v k y m = rowF w k y m := by
  intro m
  induction m with
  | zero => intro _; rfl
  | succ m ih =>
    intro hm
    unfold rowF
    rw [ih (by omega), hearP_congr h (show m < n by omega) hk]
theorem extF_congr {v w : Nat → Nat → Int32} {n : Nat} (h : ∀ i f, i < n → f ≤ 6 → v i f = w i f) (x : Nat) : ∀ m, m ≤ n → extF v n x m = extF w n x m := by
  intro m
  induction m with
  | zero => intro _; rfl
  | succ m ih =>
    intro hm
    unfold extF
    rw [ih (by omega), rowF_congr h (show m < n by omega) _ n (Nat.le_refl n)]
theorem setAt_congr {v w : Nat → Nat → Int32} {n : Nat} (h : ∀ i f, i < n → f ≤ 6 → v i f = w i f) (a : Nat) : ∀ t, setAt v n a t = setAt w n a t := by
  intro t
  induction t with
  | zero => rfl
  | succ t ih =>
    show extF v n (setAt v n a t) n = extF w n (setAt w n a t) n
    rw [ih, extF_congr h _ n (Nat.le_refl n)]
theorem distP_congr {v w : Nat → Nat → Int32} {n : Nat} (h : ∀ i f, i < n → f ≤ 6 → v i f = w i f) {i j : Nat} (hi : i < n) (hj : j < n) : distP v i j = distP w i j := by
  unfold distP sqr
  rw [h i 6 hi (by decide), h i 5 hi (by decide), h j 5 hj (by decide), h i 2 hi (by decide), h j 2 hj (by decide), h i 3 hi (by decide), h j 3 hj (by decide), h i 4 hi (by decide)]
