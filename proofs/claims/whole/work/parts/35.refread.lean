/-! ===== .. and what the reference reads ===== -/
theorem r_t (M : Mem) {i o : Nat} (hi : i < 8) (ho : o < 12) : fX12_t M (nI i) (nI o) = some (M 1 (8 + 12 * i + o)) := by
  unfold fX12_t
  have e : ((8 : Int32) + ((12 : Int32) * nI i)) + nI o = nI (8 + 12 * i + o) := by
    rw [show (12 : Int32) = nI 12 from rfl, show (8 : Int32) = nI 8 from rfl, pk_mul, nI_add, nI_add]
  rw [e, gd_t (inb_nI (by omega) (by decide)), nI_clamp (by omega)]
theorem r_f (M : Mem) {i f : Nat} (hi : i < 8) (hf : f ≤ 7) : fX12_t M (nI i) (nI f) = some (vM M i f) := by
  rw [r_t M hi (by omega)]
  unfold vM
  rw [if_pos hf]
theorem r_g (M : Mem) {i f : Nat} (hi : i < 8) (hf : 7 < f) (hf2 : f < 11) : fX12_t M (nI i) (nI (f + 1)) = some (vM M i f) := by
  rw [r_t M hi (by omega)]
  unfold vM
  rw [if_neg (by omega)]
theorem r_0 (M : Mem) {i : Nat} (hi : i < 8) : fX12_t M (nI i) 0 = some (vM M i 0) := r_f M hi (f := 0) (by decide)
theorem r_1 (M : Mem) {i : Nat} (hi : i < 8) : fX12_t M (nI i) 1 = some (vM M i 1) := r_f M hi (f := 1) (by decide)
theorem r_2 (M : Mem) {i : Nat} (hi : i < 8) : fX12_t M (nI i) 2 = some (vM M i 2) := r_f M hi (f := 2) (by decide)
theorem r_3 (M : Mem) {i : Nat} (hi : i < 8) : fX12_t M (nI i) 3 = some (vM M i 3) := r_f M hi (f := 3) (by decide)
theorem r_4 (M : Mem) {i : Nat} (hi : i < 8) : fX12_t M (nI i) 4 = some (vM M i 4) := r_f M hi (f := 4) (by decide)
theorem r_5 (M : Mem) {i : Nat} (hi : i < 8) : fX12_t M (nI i) 5 = some (vM M i 5) := r_f M hi (f := 5) (by decide)
theorem r_6 (M : Mem) {i : Nat} (hi : i < 8) : fX12_t M (nI i) 6 = some (vM M i 6) := r_f M hi (f := 6) (by decide)
theorem r_7 (M : Mem) {i : Nat} (hi : i < 8) : fX12_t M (nI i) 7 = some (vM M i 7) := r_f M hi (f := 7) (by decide)
theorem r_8 (M : Mem) {i : Nat} (hi : i < 8) : fX12_t M (nI i) 8 = some (M 1 (8 + 12 * i + 8)) := r_t M hi (o := 8) (by decide)
theorem r_9 (M : Mem) {i : Nat} (hi : i < 8) : fX12_t M (nI i) 9 = some (vM M i 8) := r_g M hi (f := 8) (by decide) (by decide)
theorem r_10 (M : Mem) {i : Nat} (hi : i < 8) : fX12_t M (nI i) 10 = some (vM M i 9) := r_g M hi (f := 9) (by decide) (by decide)
/-- a station's ticket -/
def tk (M : Mem) (i : Nat) : Int32 := M 1 (8 + 12 * i + 11)
theorem r_11 (M : Mem) {i : Nat} (hi : i < 8) : fX12_t M (nI i) 11 = some (tk M i) := r_t M hi (o := 11) (by decide)
theorem r_sqr (M : Mem) {i j : Nat} (hi : i < 8) (hj : j < 8) : fX12_squared M (nI i) (nI j) = some (sqr (vM M) i j) := by
  unfold fX12_squared
  rw [r_2 M hi, r_2 M hj, r_3 M hi, r_3 M hj]
  rfl
theorem r_hears (M : Mem) {i j : Nat} (hi : i < 8) (hj : j < 8) : fX12_hears M (nI i) (nI j) = some (b2i (hearP (vM M) i j)) := by
  unfold fX12_hears hearP
  by_cases h1 : i = j
  · rw [if_pos (by rw [h1]), b2i_f (decide_eq_false (fun z => z.1 h1))]
  · rw [if_neg (by rw [nI_eq (by omega) (by omega)]; exact h1), r_5 M hi, r_5 M hj]
    simp only [Option.bind_some]
    by_cases h2 : vM M i 5 = vM M j 5
    · rw [if_pos h2, r_sqr M hi hj, r_4 M hj]
      simp only [Option.bind_some]
      by_cases h3 : vM M j 4 * vM M j 4 < sqr (vM M) i j
      · rw [if_pos h3, b2i_f (decide_eq_false (fun z => (i32_nlt.mpr z.2.2) h3))]
      · rw [if_neg h3, b2i_t (decide_eq_true ⟨h1, h2, i32_nlt.mp h3⟩)]
    · rw [if_neg h2, b2i_f (decide_eq_false (fun z => h2 z.2.1))]
theorem r_disturbs (M : Mem) {i j : Nat} (hi : i < 8) (hj : j < 8) : fX12_disturbs M (nI i) (nI j) = some (b2i (distP (vM M) i j)) := by
  unfold fX12_disturbs distP
  rw [r_5 M hi, r_5 M hj, r_6 M hi, r_sqr M hi hj, r_4 M hi]
  simp only [Option.bind_some]
  by_cases h1 : vM M i 6 = 1
  · rw [if_pos h1]
    by_cases h2 : vM M i 5 - vM M j 5 = 1
    · rw [if_pos h2]
      by_cases h3 : vM M i 4 * vM M i 4 < 4 * sqr (vM M) i j
      · rw [if_pos h3, b2i_f (decide_eq_false (fun z => (i32_nlt.mpr z.2.2) h3))]
      · rw [if_neg h3, b2i_t (decide_eq_true ⟨h1, Or.inl h2, i32_nlt.mp h3⟩)]
    · rw [if_neg h2]
      by_cases h4 : vM M i 5 - vM M j 5 = -1
      · rw [if_pos h4]
        by_cases h3 : vM M i 4 * vM M i 4 < 4 * sqr (vM M) i j
        · rw [if_pos h3, b2i_f (decide_eq_false (fun z => (i32_nlt.mpr z.2.2) h3))]
        · rw [if_neg h3, b2i_t (decide_eq_true ⟨h1, Or.inr h4, i32_nlt.mp h3⟩)]
      · rw [if_neg h4, b2i_f (decide_eq_false (fun z => z.2.1.elim h2 h4))]
  · rw [if_neg h1, b2i_f (decide_eq_false (fun z => h1 z.1))]
/-- the reference's row of n stations -/
def MV (M : Mem) (n : Nat) : Prop := n ≤ 8 ∧ M 1 0 = nI n
theorem r_speakerOn {M : Mem} {n : Nat} (h : MV M n) (c : Int32) : fX12_speakerOn M c = some (first (spkP (vM M) c) n) := by
  obtain ⟨h1, h2⟩ := h
  unfold fX12_speakerOn
  refine lp_first (fun i hi => ?_) ?_
  · unfold fX12_speakerOn_s
    rw [h2, if_neg (lt_step h1 hi), r_6 M (by omega), r_5 M (by omega)]
    simp only [Option.bind_some]
    by_cases g2 : vM M i 6 = 1
    · rw [if_pos g2]
      by_cases g1 : vM M i 5 = c
      · rw [if_pos g1, if_pos (show spkP (vM M) c i = true from decide_eq_true ⟨g1, g2⟩)]
      · rw [if_neg g1, if_neg (by rw [show spkP (vM M) c i = false from decide_eq_false (fun z => g1 z.1)]; decide), nI_1]
    · rw [if_neg g2, if_neg (by rw [show spkP (vM M) c i = false from decide_eq_false (fun z => g2 z.2)]; decide), nI_1]
  · unfold fX12_speakerOn_s
    rw [h2, if_pos (nI_le (Nat.le_refl n) (by omega))]
/-- somebody -/
def anyP (p : Nat → Bool) (n : Nat) : Bool := decide (first p n ≠ -1)
theorem lp_any {f : Int32 → Option (Int32 ⊕ Int32)} {p : Nat → Bool} {n : Nat} (hn : n ≤ 8) (hs : ∀ i, i < n → f (nI i) = some (if p i = true then .inr 1 else .inl (nI (i + 1)))) (he : f (nI n) = some (.inr 0)) : lp f 0 = some (b2i (anyP p n)) := by
  have key : ∀ k i, i + k = n → lp f (nI i) = some (b2i (decide (fstF p k i ≠ -1))) := by
    intro k
    induction k with
    | zero =>
      intro i hi
      have e : i = n := by omega
      subst e
      rw [lp_inr he]
      rfl
    | succ k ih =>
      intro i hi
      have h := hs i (by omega)
      unfold fstF
      by_cases c : p i = true
      · rw [if_pos c] at h ⊢
        have hne : nI i ≠ -1 := by
          intro z
          have z2 := congrArg Int32.toInt z
          rw [nI_toInt (by omega)] at z2
          have e : (-1 : Int32).toInt = -1 := by decide
          omega
        rw [lp_inr h, b2i_t (decide_eq_true hne)]
      · rw [if_neg c] at h ⊢
        rw [lp_inl h]
        exact ih (i + 1) (by omega)
  exact key n 0 (by omega)
theorem c_anyJams {N : Mem} {n : Nat} (h : NV N n) {j : Nat} (hj : j < 8) : fX6_anyJams N (2 + j) = some (b2i (anyP (fun k => distP (vN N) k j) n)) := by
  obtain ⟨h1, h2, h3⟩ := h
  unfold fX6_anyJams
  rw [gd_t (stn_2 hj)]
  refine lp_any h1 (fun i hi => ?_) ?_
  · unfold fX6_anyJams_s
    have hc : (nI i).toNatClampNeg = i := nI_clamp (by omega)
    rw [h2, if_neg (lt_step h1 hi), gd_t (inb_nI (by omega) (by decide))]
    simp only [hc, Nat.one_mul]
    rw [c_disturbs N (by omega) hj (h3 i hi)]
    simp only [Option.bind_some]
    cases hd : distP (vN N) i j with
    | true => rw [b2i_t rfl]; simp
    | false => rw [b2i_f rfl]; simp [nI_1]
  · unfold fX6_anyJams_s
    rw [h2, if_pos (nI_le (Nat.le_refl n) (by omega))]
theorem r_isDisturbed {M : Mem} {n : Nat} (h : MV M n) {j : Nat} (hj : j < 8) : fX12_isDisturbed M (nI j) = some (b2i (anyP (fun k => distP (vM M) k j) n)) := by
  obtain ⟨h1, h2⟩ := h
  unfold fX12_isDisturbed
  refine lp_any h1 (fun i hi => ?_) ?_
  · unfold fX12_isDisturbed_s
    rw [h2, if_neg (lt_step h1 hi), r_disturbs M (by omega) hj]
    simp only [Option.bind_some]
    cases hd : distP (vM M) i j with
    | true => rw [b2i_t rfl]; simp
    | false => rw [b2i_f rfl]; simp [nI_1]
  · unfold fX12_isDisturbed_s
    rw [h2, if_pos (nI_le (Nat.le_refl n) (by omega))]
