/-! ===== sums, signs, pairs ===== -/
theorem c_sumOfPowers {N : Mem} {n : Nat} (h : NV N n) : fX6_sumOfPowers N = some (sumI (fun i => vN N i 4) n) := by
  obtain ⟨h1, h2, h3⟩ := h
  unfold fX6_sumOfPowers
  refine lp_sum (fun i hi a => ?_) (fun a => ?_)
  · unfold fX6_sumOfPowers_s
    have hc : (nI i).toNatClampNeg = i := nI_clamp (by omega)
    dsimp only
    rw [h2, if_neg (lt_step h1 hi), gd_t (inb_nI (by omega) (by decide)), nI_1]
    simp only [hc, Nat.one_mul]
    rfl
  · unfold fX6_sumOfPowers_s
    dsimp only
    rw [h2, if_pos (nI_le (Nat.le_refl n) (by omega))]
theorem c_sumOfSpoken {N : Mem} {n : Nat} (h : NV N n) : fX6_sumOfSpoken N = some (sumI (fun i => vN N i 8) n) := by
  obtain ⟨h1, h2, h3⟩ := h
  unfold fX6_sumOfSpoken
  refine lp_sum (fun i hi a => ?_) (fun a => ?_)
  · unfold fX6_sumOfSpoken_s
    have hc : (nI i).toNatClampNeg = i := nI_clamp (by omega)
    dsimp only
    rw [h2, if_neg (lt_step h1 hi), gd_t (inb_nI (by omega) (by decide)), nI_1]
    simp only [hc, Nat.one_mul]
    rfl
  · unfold fX6_sumOfSpoken_s
    dsimp only
    rw [h2, if_pos (nI_le (Nat.le_refl n) (by omega))]
theorem r_sum4 {M : Mem} {n : Nat} (h : MV M n) : fX12_sum M 4 = some (sumI (fun i => vM M i 4) n) := by
  obtain ⟨h1, h2⟩ := h
  unfold fX12_sum
  refine lp_sum (fun i hi a => ?_) (fun a => ?_)
  · unfold fX12_sum_s
    dsimp only
    rw [h2, if_neg (lt_step h1 hi), r_4 M (by omega), nI_1]
    rfl
  · unfold fX12_sum_s
    dsimp only
    rw [h2, if_pos (nI_le (Nat.le_refl n) (by omega))]
theorem r_sum9 {M : Mem} {n : Nat} (h : MV M n) : fX12_sum M 9 = some (sumI (fun i => vM M i 8) n) := by
  obtain ⟨h1, h2⟩ := h
  unfold fX12_sum
  refine lp_sum (fun i hi a => ?_) (fun a => ?_)
  · unfold fX12_sum_s
    dsimp only
    rw [h2, if_neg (lt_step h1 hi), r_9 M (by omega), nI_1]
    rfl
  · unfold fX12_sum_s
    dsimp only
    rw [h2, if_pos (nI_le (Nat.le_refl n) (by omega))]
def sgnP (v : Nat → Nat → Int32) (a b : Int32) (i : Nat) : Bool := decide (v i 0 = a ∧ v i 1 = b)
theorem c_stationOfSign {N : Mem} {n : Nat} (h : NV N n) (a b : Int32) : fX6_stationOfSign N a b = some (first (sgnP (vN N) a b) n) := by
  obtain ⟨h1, h2, h3⟩ := h
  unfold fX6_stationOfSign
  refine lp_first (fun i hi => ?_) ?_
  · unfold fX6_stationOfSign_s
    have hc : (nI i).toNatClampNeg = i := nI_clamp (by omega)
    rw [h2, if_neg (lt_step h1 hi), gd_t (inb_nI (by omega) (by decide))]
    simp only [hc, Nat.one_mul]
    by_cases g1 : N (2 + i) 0 = a
    · rw [if_pos g1, gd_t (inb_nI (by omega) (by decide))]
      by_cases g2 : N (2 + i) 1 = b
      · rw [if_pos g2, if_pos (show sgnP (vN N) a b i = true from decide_eq_true ⟨g1, g2⟩)]
      · rw [if_neg g2, if_neg (by rw [show sgnP (vN N) a b i = false from decide_eq_false (fun z => g2 z.2)]; decide), nI_1]
    · rw [if_neg g1, if_neg (by rw [show sgnP (vN N) a b i = false from decide_eq_false (fun z => g1 z.1)]; decide), nI_1]
  · unfold fX6_stationOfSign_s
    rw [h2, if_pos (nI_le (Nat.le_refl n) (by omega))]
theorem r_signed {M : Mem} {n : Nat} (h : MV M n) (a b : Int32) : fX12_signed M a b = some (first (sgnP (vM M) a b) n) := by
  obtain ⟨h1, h2⟩ := h
  unfold fX12_signed
  refine lp_first (fun i hi => ?_) ?_
  · unfold fX12_signed_s
    rw [h2, if_neg (lt_step h1 hi), r_0 M (by omega), r_1 M (by omega)]
    simp only [Option.bind_some]
    by_cases g1 : vM M i 0 = a
    · rw [if_pos g1]
      by_cases g2 : vM M i 1 = b
      · rw [if_pos g2, if_pos (show sgnP (vM M) a b i = true from decide_eq_true ⟨g1, g2⟩)]
      · rw [if_neg g2, if_neg (by rw [show sgnP (vM M) a b i = false from decide_eq_false (fun z => g2 z.2)]; decide), nI_1]
    · rw [if_neg g1, if_neg (by rw [show sgnP (vM M) a b i = false from decide_eq_false (fun z => g1 z.1)]; decide), nI_1]
  · unfold fX12_signed_s
    rw [h2, if_pos (nI_le (Nat.le_refl n) (by omega))]
/-- pairs: over a below k, b below n -/
def cnt2 (p : Nat → Nat → Bool) (n : Nat) : Nat → Nat
  | 0 => 0
  | k + 1 => cnt2 p n k + cnt (p k) n
theorem cnt2_le (p : Nat → Nat → Bool) (n : Nat) : ∀ k, cnt2 p n k ≤ k * n := by
  intro k
  induction k with
  | zero => exact Nat.zero_le _
  | succ k ih =>
    have h := cnt_le (p k) n
    unfold cnt2
    rw [Nat.succ_mul]
    omega
theorem lp_pairs {f : Nat × Int32 × Int32 × Int32 → Option ((Nat × Int32 × Int32 × Int32) ⊕ Int32)} {p : Nat → Nat → Bool} {n : Nat} (hn : n ≤ 8)
    (h0 : ∀ k, k < n → ∀ a : Nat, f (0, nI a, nI k, 0) = some (.inl (1, nI a, nI k, 0))) (h1 : ∀ k j, k < n → j < n → ∀ a : Nat, a ≤ 64 → f (1, nI a, nI k, nI j) = some (.inl (1, nI (a + (if p k j = true then 1 else 0)), nI k, nI (j + 1)))) (h2 : ∀ k, k < n → ∀ a : Nat, f (1, nI a, nI k, nI n) = some (.inl (0, nI a, nI (k + 1), 0))) (he : ∀ a : Nat, f (0, nI a, nI n, 0) = some (.inr (nI a))) : lp f (0, 0, 0, 0) = some (nI (cnt2 p n n)) := by
  have inner : ∀ k, k < n → ∀ d j, j + d = n → ∀ a, a + n * n ≤ 64 + k * n + j ∨ True → (a = cnt2 p n k + cnt (p k) j) → lp f (1, nI a, nI k, nI j) = lp f (0, nI (cnt2 p n (k + 1)), nI (k + 1), 0) := by
    intro k hk d
    induction d with
    | zero =>
      intro j hj a _ ha
      have e : j = n := by omega
      subst e
      rw [lp_inl (h2 k hk a), ha]
      rfl
    | succ d ih =>
      intro j hj a _ ha
      have b1 := cnt2_le p n k
      have b2 := cnt_le (p k) j
      have b3 : k * n ≤ 7 * n := Nat.mul_le_mul_right n (by omega)
      rw [lp_inl (h1 k j hk (by omega) a (by omega))]
      refine ih (j + 1) (by omega) _ (Or.inr trivial) ?_
      rw [ha]
      show _ = cnt2 p n k + (cnt (p k) j + _)
      omega
  have outer : ∀ d k, k + d = n → lp f (0, nI (cnt2 p n k), nI k, 0) = some (nI (cnt2 p n n)) := by
    intro d
    induction d with
    | zero =>
      intro k hk
      have e : k = n := by omega
      subst e
      exact lp_inr (he _)
    | succ d ih =>
      intro k hk
      rw [lp_inl (h0 k (by omega) _)]
      have h := inner k (by omega) n 0 (by omega) (cnt2 p n k) (Or.inr trivial) rfl
      have h : lp f (1, nI (cnt2 p n k), nI k, 0) = lp f (0, nI (cnt2 p n (k + 1)), nI (k + 1), 0) := h
      rw [h]
      exact ih (k + 1) (by omega)
  exact outer n 0 (by omega)
theorem c_jamsOfStations {N : Mem} {n : Nat} (h : NV N n) : fX6_jamsOfStations N = some (nI (cnt2 (distP (vN N)) n n)) := by
  obtain ⟨h1, h2, h3⟩ := h
  unfold fX6_jamsOfStations
  refine lp_pairs h1 (fun k hk a => ?_) (fun k j hk hj a ha => ?_) (fun k hk a => ?_) (fun a => ?_)
  · unfold fX6_jamsOfStations_s
    dsimp only
    rw [if_pos rfl, h2, if_neg (lt_step h1 hk)]
  · unfold fX6_jamsOfStations_s
    have hc : (nI k).toNatClampNeg = k := nI_clamp (by omega)
    have hd : (nI j).toNatClampNeg = j := nI_clamp (by omega)
    dsimp only
    rw [if_neg (by decide), h2, if_neg (lt_step h1 hj), gd_t (inb_nI (by omega) (by decide)), gd_t (inb_nI (by omega) (by decide))]
    simp only [hc, hd, Nat.one_mul]
    rw [c_disturbs N (by omega) (by omega) (h3 k hk)]
    simp only [Option.bind_some]
    cases hp : distP (vN N) k j with
    | true => rw [b2i_t rfl]; simp [nI_1]
    | false => rw [b2i_f rfl]; simp [nI_1]
  · unfold fX6_jamsOfStations_s
    dsimp only
    rw [if_neg (by decide), h2, if_pos (nI_le (Nat.le_refl n) (by omega)), nI_1]
  · unfold fX6_jamsOfStations_s
    dsimp only
    rw [if_pos rfl, h2, if_pos (nI_le (Nat.le_refl n) (by omega))]
theorem r_pairs {M : Mem} {n : Nat} (h : MV M n) : fX12_pairs M = some (nI (cnt2 (distP (vM M)) n n)) := by
  obtain ⟨h1, h2⟩ := h
  unfold fX12_pairs
  refine lp_pairs h1 (fun k hk a => ?_) (fun k j hk hj a ha => ?_) (fun k hk a => ?_) (fun a => ?_)
  · unfold fX12_pairs_s
    dsimp only
    rw [if_pos rfl, h2, if_neg (lt_step h1 hk)]
  · unfold fX12_pairs_s
    dsimp only
    rw [if_neg (by decide), h2, if_neg (lt_step h1 hj), r_disturbs M (by omega) (by omega)]
    simp only [Option.bind_some]
    cases hp : distP (vM M) k j with
    | true => rw [b2i_t rfl]; simp [nI_1]
    | false => rw [b2i_f rfl]; simp [nI_1]
  · unfold fX12_pairs_s
    dsimp only
    rw [if_neg (by decide), h2, if_pos (nI_le (Nat.le_refl n) (by omega)), nI_1]
  · unfold fX12_pairs_s
    dsimp only
    rw [if_pos rfl, h2, if_pos (nI_le (Nat.le_refl n) (by omega))]
