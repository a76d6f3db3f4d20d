/-! ===== stations reached, reference; the sets stop growing at seven hops ===== -/
theorem bit_add : ∀ x : Fin 256, ∀ i : Fin 8, (nI x.val >>> (nI i.val &&& 31)) &&& 1 = nI (if x.val.testBit i.val = true then 1 else 0) := by decide +kernel
theorem r_reachable {M : Mem} {n : Nat} (h : MV M n) {a : Nat} (ha : a < n) : fX12_reachable M (nI a) = some (nI (cnt (fun i => (setAt (vM M) n a 8).testBit i) 8), up2 M 0 4 0) := by
  have h8 := h.1
  have hS := setAt_lt (vM M) h8 (show a < 8 by omega)
  unfold fX12_reachable
  rw [r_areStations_yes h ha ha]
  simp only [Option.bind_some]
  rw [if_neg (by decide), (bit_one ⟨a, by omega⟩).1]
  refine (lp_run (fun t => (0, nI (setAt (vM M) n a t), nI t, 0, up2 M 0 4 0)) 8 (fun t ht => ?_)).trans ((lp_inl (s' := (1, nI (setAt (vM M) n a 8), 0, 0, up2 M 0 4 0)) ?_).trans (lp_up (fun i => (1, nI (setAt (vM M) n a 8), nI (cnt (fun i => (setAt (vM M) n a 8).testBit i) i), nI i, up2 M 0 4 0)) 8 (fun i hi => ?_) ?_))
  · unfold fX12_reachable_s
    dsimp only
    rw [if_pos rfl, if_neg (show ¬ (8 : Int32) ≤ nI t from nI_ge (b := 8) ht (by omega)), r_relayed (MV_04 h 0) (hS t), vM_04, nI_1]
    rfl
  · unfold fX12_reachable_s
    dsimp only
    rw [if_pos rfl, if_pos (by decide)]
  · have es : cnt (fun i => (setAt (vM M) n a 8).testBit i) (i + 1) = cnt (fun i => (setAt (vM M) n a 8).testBit i) i + (if (setAt (vM M) n a 8).testBit i = true then 1 else 0) := rfl
    unfold fX12_reachable_s
    dsimp only
    rw [if_neg (by decide), if_neg (show ¬ (8 : Int32) ≤ nI i from nI_ge (b := 8) hi (by omega)), bit_add ⟨_, hS 8⟩ ⟨i, hi⟩, nI_add, nI_1, es]
  · unfold fX12_reachable_s
    dsimp only
    rw [if_neg (by decide), if_pos (by decide)]
theorem cnt_sub {p q : Nat → Bool} : ∀ n, (∀ i, i < n → p i = true → q i = true) → cnt p n ≤ cnt q n := by
  intro n
  induction n with
  | zero => intro _; exact Nat.le_refl 0
  | succ n ih =>
    intro h
    have h1 := ih (fun i hi => h i (by omega))
    have h2 := h n (by omega)
    unfold cnt
    by_cases c : p n = true
    · rw [if_pos c, if_pos (h2 c)]; omega
    · rw [if_neg c]; omega
theorem cnt_lt {p q : Nat → Bool} {x : Nat} : ∀ n, (∀ i, i < n → p i = true → q i = true) → x < n → p x = false → q x = true → cnt p n < cnt q n := by
  intro n
  induction n with
  | zero => intro _ h; omega
  | succ n ih =>
    intro h hx hp hq
    have h2 := h n (by omega)
    unfold cnt
    by_cases e : x = n
    · subst e
      have h1 := cnt_sub (p := p) (q := q) x (fun i hi => h i (by omega))
      rw [hp, if_neg (by decide), if_pos hq]
      omega
    · have h1 := ih (fun i hi => h i (by omega)) (by omega) hp hq
      by_cases c : p n = true
      · rw [if_pos c, if_pos (h2 c)]; omega
      · rw [if_neg c]; omega
theorem rowF_sub (v : Nat → Nat → Int32) (k y i : Nat) (h : y.testBit i = true) : ∀ m, (rowF v k y m).testBit i = true := by
  intro m
  induction m with
  | zero => exact h
  | succ m ih =>
    unfold rowF
    by_cases c : hearP v m k = true
    · rw [if_pos c, Nat.testBit_or, ih, Bool.true_or]
    · rw [if_neg c]; exact ih
theorem extF_sub (v : Nat → Nat → Int32) (n x i : Nat) (h : x.testBit i = true) : ∀ m, (extF v n x m).testBit i = true := by
  intro m
  induction m with
  | zero => exact h
  | succ m ih =>
    unfold extF
    by_cases c : x.testBit m = true
    · rw [if_pos c]; exact rowF_sub v m _ i ih n
    · rw [if_neg c]; exact ih
theorem bits_eq {x y : Nat} (hx : x < 256) (hy : y < 256) (h : ∀ i, i < 8 → x.testBit i = y.testBit i) : x = y := by
  refine Nat.eq_of_testBit_eq (fun i => ?_)
  by_cases c : i < 8
  · exact h i c
  · have e : 2 ^ 8 ≤ 2 ^ i := Nat.pow_le_pow_right (by decide) (by omega)
    rw [Nat.testBit_lt_two_pow (show x < 2 ^ i by omega), Nat.testBit_lt_two_pow (show y < 2 ^ i by omega)]
/-- at t hops the set either stands still or has more than t stations -/
theorem setAt_grows (v : Nat → Nat → Int32) {n a : Nat} (hn : n ≤ 8) (ha : a < 8) : ∀ t, setAt v n a (t + 1) = setAt v n a t ∨ t < cnt (fun i => (setAt v n a t).testBit i) 8 := by
  have hS := setAt_lt v hn ha
  intro t
  induction t with
  | zero =>
    refine .inr ?_
    have h := cnt_lt (p := fun _ => false) (q := fun i => (setAt v n a 0).testBit i) (x := a) 8 (fun i _ z => Bool.noConfusion z) ha rfl (Nat.testBit_two_pow_self)
    omega
  | succ t ih =>
    by_cases c : setAt v n a (t + 1) = setAt v n a t
    · refine .inl ?_
      show extF v n (setAt v n a (t + 1)) n = extF v n (setAt v n a t) n
      rw [c]
    · refine .inr ?_
      have h1 := ih.resolve_left c
      have hsub : ∀ i, i < 8 → (setAt v n a t).testBit i = true → (setAt v n a (t + 1)).testBit i = true := fun i _ z => extF_sub v n _ i z n
      by_cases g : ∀ i, i < 8 → (setAt v n a (t + 1)).testBit i = (setAt v n a t).testBit i
      · exact absurd (bits_eq (hS _) (hS _) g) c
      · have ⟨i, hi⟩ := Classical.not_forall.mp g
        have ⟨hi8, hne⟩ := Classical.not_imp.mp hi
        have hp : (setAt v n a t).testBit i = false := by
          cases z : (setAt v n a t).testBit i with
          | false => rfl
          | true => exact absurd ((hsub i hi8 z).trans z.symm) hne
        have hq : (setAt v n a (t + 1)).testBit i = true := by
          cases z : (setAt v n a (t + 1)).testBit i with
          | true => rfl
          | false => exact absurd (z.trans hp.symm) hne
        have h2 := cnt_lt (p := fun i => (setAt v n a t).testBit i) (q := fun i => (setAt v n a (t + 1)).testBit i) (x := i) 8 hsub hi8 hp hq
        omega
theorem setAt_seven (v : Nat → Nat → Int32) {n a b : Nat} (hn : n ≤ 8) (ha : a < 8) (hb : b < 8) (h : (setAt v n a 8).testBit b = true) : (setAt v n a 7).testBit b = true := by
  rcases setAt_grows v hn ha 7 with e | e
  · rw [← e]; exact h
  · cases z : (setAt v n a 7).testBit b with
    | true => rfl
    | false =>
      have h2 := cnt_lt (p := fun i => (setAt v n a 7).testBit i) (q := fun _ => true) (x := b) 8 (fun _ _ _ => rfl) hb z rfl
      have h3 := cnt_le (fun _ => true) 8
      omega
