/-! ===== ranks ===== -/
def selF {R : Type} (P : Nat → Bool) (out : Nat → R) (no : R) : Nat → Nat → R
  | 0, _ => no
  | k + 1, i => if P i = true then out i else selF P out no k (i + 1)
def sel {R : Type} (P : Nat → Bool) (out : Nat → R) (no : R) (n : Nat) : R := selF P out no n 0
theorem sel_spec {R : Type} (P : Nat → Bool) (out : Nat → R) (no : R) (n : Nat) : (sel P out no n = no ∧ ∀ j, j < n → P j = false) ∨ ∃ j, j < n ∧ P j = true ∧ sel P out no n = out j := by
  have key : ∀ k i, (selF P out no k i = no ∧ ∀ j, i ≤ j → j < i + k → P j = false) ∨ ∃ j, i ≤ j ∧ j < i + k ∧ P j = true ∧ selF P out no k i = out j := by
    intro k
    induction k with
    | zero => intro i; exact Or.inl ⟨rfl, fun j h1 h2 => by omega⟩
    | succ k ih =>
      intro i
      unfold selF
      by_cases c : P i = true
      · rw [if_pos c]
        exact Or.inr ⟨i, Nat.le_refl i, by omega, c, rfl⟩
      · rw [if_neg c]
        have c0 : P i = false := by simpa using c
        rcases ih (i + 1) with ⟨h1, h2⟩ | ⟨j, h1, h2, h3, h4⟩
        · refine Or.inl ⟨h1, fun j a b => ?_⟩
          by_cases e : j = i
          · rw [e]; exact c0
          · exact h2 j (by omega) (by omega)
        · exact Or.inr ⟨j, by omega, by omega, h3, h4⟩
  rcases key n 0 with ⟨h1, h2⟩ | ⟨j, h1, h2, h3, h4⟩
  · exact Or.inl ⟨h1, fun j hj => h2 j (Nat.zero_le j) (by omega)⟩
  · exact Or.inr ⟨j, by omega, h3, h4⟩
theorem lp_rank {S R : Type} {f : S → Option (S ⊕ R)} (s0 : Nat → S) (s1 : Nat → Nat → Nat → S) (out : Nat → R) (no : R) (p : Nat → Nat → Bool) (q : Nat → Bool) (n : Nat)
    (h0 : ∀ k, k < n → f (s0 k) = some (.inl (s1 k 0 0))) (h1 : ∀ k j, k < n → j < n → ∀ a, a ≤ j → f (s1 k a j) = some (.inl (s1 k (a + (if p j k = true then 1 else 0)) (j + 1)))) (h2 : ∀ k, k < n → ∀ a, a ≤ n → f (s1 k a n) = some (if q a = true then .inr (out k) else .inl (s0 (k + 1)))) (he : f (s0 n) = some (.inr no)) : lp f (s0 0) = some (sel (fun k => q (cnt (fun j => p j k) n)) out no n) := by
  have inner : ∀ k, k < n → ∀ d j, j + d = n → lp f (s1 k (cnt (fun j => p j k) j) j) = lp f (s1 k (cnt (fun j => p j k) n) n) := by
    intro k hk d
    induction d with
    | zero => intro j hj; have e : j = n := by omega
              subst e; rfl
    | succ d ih =>
      intro j hj
      rw [lp_inl (h1 k j hk (by omega) _ (cnt_le _ j))]
      exact ih (j + 1) (by omega)
  have outer : ∀ d k, k + d = n → lp f (s0 k) = some (selF (fun k => q (cnt (fun j => p j k) n)) out no d k) := by
    intro d
    induction d with
    | zero => intro k hk; have e : k = n := by omega
              subst e; exact lp_inr he
    | succ d ih =>
      intro k hk
      rw [lp_inl (h0 k (by omega))]
      have e := inner k (by omega) n 0 (by omega)
      have e : lp f (s1 k 0 0) = lp f (s1 k (cnt (fun j => p j k) n) n) := e
      rw [e]
      have h := h2 k (by omega) _ (cnt_le (fun j => p j k) n)
      unfold selF
      by_cases c : q (cnt (fun j => p j k) n) = true
      · rw [if_pos c] at h ⊢
        exact lp_inr h
      · rw [if_neg c] at h ⊢
        rw [lp_inl h]
        exact ih (k + 1) (by omega)
  exact outer n 0 (by omega)
/-- i ranks before j -/
def rankP (v : Nat → Nat → Int32) (i j : Nat) : Bool := decide (if v i 8 = v j 8 then (if v i 9 = v j 9 then (if v i 0 = v j 0 then v i 1 < v j 1 else v i 0 < v j 0) else v j 9 < v i 9) else v j 8 < v i 8)
theorem i32_nle {a b : Int32} : ¬ a ≤ b ↔ b < a := by
  rw [Int32.lt_iff_toInt_lt, Int32.le_iff_toInt_le]
  omega
theorem ite_le {a b : Int32} : (if a ≤ b then (some 0 : Option Int32) else some 1) = some (b2i (decide (b < a))) := by
  by_cases h : a ≤ b
  · rw [if_pos h, b2i_f (decide_eq_false (fun z => (i32_nle.mpr z) h))]
  · rw [if_neg h, b2i_t (decide_eq_true (i32_nle.mp h))]
theorem c_ranksBefore (N : Mem) {i j : Nat} (hi : i < 8) (hj : j < 8) : fX9_ranksBefore N (2 + i) (2 + j) = some (b2i (rankP (vN N) i j)) := by
  unfold fX9_ranksBefore rankP
  rw [gd_t (stn_2 hi), gd_t (stn_2 hj)]
  by_cases h1 : N (2 + i) 8 = N (2 + j) 8
  · have g1 : vN N i 8 = vN N j 8 := h1
    simp only [if_pos h1, if_pos g1]
    by_cases h2 : N (2 + i) 9 = N (2 + j) 9
    · have g2 : vN N i 9 = vN N j 9 := h2
      simp only [if_pos h2, if_pos g2]
      by_cases h3 : N (2 + i) 0 = N (2 + j) 0
      · have g3 : vN N i 0 = vN N j 0 := h3
        simp only [if_pos h3, if_pos g3]
        exact ite_le
      · have g3 : ¬ vN N i 0 = vN N j 0 := h3
        simp only [if_neg h3, if_neg g3]
        exact ite_le
    · have g2 : ¬ vN N i 9 = vN N j 9 := h2
      simp only [if_neg h2, if_neg g2]
      exact ite_le
  · have g1 : ¬ vN N i 8 = vN N j 8 := h1
    simp only [if_neg h1, if_neg g1]
    exact ite_le
theorem c_stationOfRank {N : Mem} {n : Nat} (h : NV N n) (a : Int32) : fX6_stationOfRank N a = some (sel (fun k => decide (nI (cnt (fun j => rankP (vN N) j k) n) = a)) nI (-1) n) := by
  obtain ⟨h1, h2, h3⟩ := h
  unfold fX6_stationOfRank
  refine lp_rank (fun k => (0, nI k, 0, 0)) (fun k a j => (1, nI k, nI a, nI j)) nI (-1) (rankP (vN N)) (fun c => decide (nI c = a)) n (fun k hk => ?_) (fun k j hk hj c hc => ?_) (fun k hk c hc => ?_) ?_
  · unfold fX6_stationOfRank_s
    dsimp only
    rw [if_pos rfl, h2, if_neg (lt_step h1 hk)]
    rfl
  · unfold fX6_stationOfRank_s
    have ek : (nI k).toNatClampNeg = k := nI_clamp (by omega)
    have ej : (nI j).toNatClampNeg = j := nI_clamp (by omega)
    dsimp only
    rw [if_neg (by decide), h2, if_neg (lt_step h1 hj), gd_t (inb_nI (by omega) (by decide)), gd_t (inb_nI (by omega) (by decide))]
    simp only [ek, ej, Nat.one_mul]
    rw [c_ranksBefore N (by omega) (by omega)]
    simp only [Option.bind_some]
    cases hp : rankP (vN N) j k with
    | true => rw [b2i_t rfl]; simp [nI_1]
    | false => rw [b2i_f rfl]; simp [nI_1]
  · unfold fX6_stationOfRank_s
    dsimp only
    rw [if_neg (by decide), h2, if_pos (nI_le (Nat.le_refl n) (by omega)), nI_1]
    by_cases e : nI c = a
    · rw [if_pos e, if_pos (decide_eq_true e)]
    · rw [if_neg e, if_neg (by rw [decide_eq_false e]; decide)]
  · unfold fX6_stationOfRank_s
    dsimp only
    rw [if_pos rfl, h2, if_pos (nI_le (Nat.le_refl n) (by omega))]
/-- call signs: a capital letter, a digit -/
def SG (v : Nat → Nat → Int32) (n : Nat) : Prop := ∀ i, i < n → ∃ l d : Nat, v i 0 = nI l ∧ l ≤ 90 ∧ v i 1 = nI d ∧ d ≤ 9
theorem r_isAhead {M : Mem} {n : Nat} (hs : SG (vM M) n) (hn : n ≤ 8) {i j : Nat} (hi : i < n) (hj : j < n) : fX12_isAhead M (nI i) (nI j) = some (b2i (rankP (vM M) i j)) := by
  obtain ⟨l1, d1, e1, b1, e2, b2⟩ := hs i hi
  obtain ⟨l2, d2, e3, b3, e4, b4⟩ := hs j hj
  unfold fX12_isAhead rankP
  rw [r_9 M (by omega), r_9 M (by omega), r_10 M (by omega), r_10 M (by omega), r_0 M (by omega), r_0 M (by omega), r_1 M (by omega), r_1 M (by omega)]
  simp only [Option.bind_some]
  by_cases h1 : vM M i 8 = vM M j 8
  · simp only [if_pos h1]
    by_cases h2 : vM M i 9 = vM M j 9
    · simp only [if_pos h2]
      rw [ite_le, e1, e2, e3, e4, show (10 : Int32) = nI 10 from rfl, pk_mul, pk_mul, nI_add, nI_add]
      have hA : (nI (10 * l1 + d1) < nI (10 * l2 + d2)) ↔ (10 * l1 + d1 < 10 * l2 + d2) := nI_ltI (by omega) (by omega)
      have hB : (nI l1 = nI l2) ↔ l1 = l2 := nI_eq (by omega) (by omega)
      have hC : (nI d1 < nI d2) ↔ d1 < d2 := nI_ltI (by omega) (by omega)
      have hD : (nI l1 < nI l2) ↔ l1 < l2 := nI_ltI (by omega) (by omega)
      by_cases h3 : l1 = l2
      · simp only [if_pos (hB.mpr h3)]
        by_cases h4 : d1 < d2
        · rw [decide_eq_true (hA.mpr (by omega)), decide_eq_true (hC.mpr h4)]
        · rw [decide_eq_false (fun z => absurd (hA.mp z) (by omega)), decide_eq_false (fun z => h4 (hC.mp z))]
      · simp only [if_neg (fun z => h3 (hB.mp z))]
        by_cases h4 : l1 < l2
        · rw [decide_eq_true (hA.mpr (by omega)), decide_eq_true (hD.mpr h4)]
        · rw [decide_eq_false (fun z => absurd (hA.mp z) (by omega)), decide_eq_false (fun z => h4 (hD.mp z))]
    · simp only [if_neg h2]
      exact ite_le
  · simp only [if_neg h1]
    exact ite_le
theorem vM_04 (M : Mem) (v : Int32) : vM (up2 M 0 4 v) = vM M := by
  funext i f
  unfold vM
  rw [up2_at, if_neg (by omega)]
theorem MV_04 {M : Mem} {n : Nat} (h : MV M n) (v : Int32) : MV (up2 M 0 4 v) n := ⟨h.1, by rw [up2_at, if_neg (by omega)]; exact h.2⟩
theorem r_stationByMinutes {M : Mem} {n : Nat} (h : MV M n) (hs : SG (vM M) n) (a : Int32) : fX12_stationByMinutes M a = some (sel (fun k => decide (nI (cnt (fun j => rankP (vM M) j k) n) = a)) (fun k => (nI k, up2 M 0 4 0)) (0, up2 (up2 M 0 4 0) 0 4 1) n) := by
  obtain ⟨h1, h2⟩ := MV_04 h 0
  have hs2 : SG (vM (up2 M 0 4 0)) n := by rw [vM_04]; exact hs
  unfold fX12_stationByMinutes
  refine lp_rank (fun k => (0, nI k, 0, 0, up2 M 0 4 0)) (fun k a j => (1, nI k, nI a, nI j, up2 M 0 4 0)) (fun k => (nI k, up2 M 0 4 0)) _ (rankP (vM M)) (fun c => decide (nI c = a)) n (fun k hk => ?_) (fun k j hk hj c hc => ?_) (fun k hk c hc => ?_) ?_
  · unfold fX12_stationByMinutes_s
    dsimp only
    rw [if_pos rfl, if_neg (show ¬ up2 M 0 4 0 1 0 ≤ nI k by rw [h2]; exact lt_step h1 hk)]
    rfl
  · unfold fX12_stationByMinutes_s
    dsimp only
    rw [if_neg (by decide), if_neg (show ¬ up2 M 0 4 0 1 0 ≤ nI j by rw [h2]; exact lt_step h1 hj), r_isAhead hs2 h1 hj hk, vM_04]
    simp only [Option.bind_some]
    cases hp : rankP (vM M) j k with
    | true => rw [b2i_t rfl]; simp [nI_1]
    | false => rw [b2i_f rfl]; simp [nI_1]
  · unfold fX12_stationByMinutes_s
    dsimp only
    rw [if_neg (by decide), if_pos (show up2 M 0 4 0 1 0 ≤ nI n by rw [h2]; exact nI_le (Nat.le_refl n) (by omega)), nI_1]
    by_cases e : nI c = a
    · rw [if_pos e, if_pos (decide_eq_true e)]
    · rw [if_neg e, if_neg (by rw [decide_eq_false e]; decide)]
  · unfold fX12_stationByMinutes_s
    dsimp only
    rw [if_pos rfl, if_pos (show up2 M 0 4 0 1 0 ≤ nI n by rw [h2]; exact nI_le (Nat.le_refl n) (by omega))]
    rfl
