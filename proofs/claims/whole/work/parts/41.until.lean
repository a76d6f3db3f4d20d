/-! Who is a station, and the reference's minutes until a turn -/
theorem st_no {n : Nat} (hn : n ≤ 8) {a : Int32} (h : ∀ i, i < n → a ≠ nI i) : a < 0 ∨ nI n ≤ a := by
  by_cases c : a < 0
  · exact .inl c
  · refine .inr ?_
    have en : (nI n).toInt = n := nI_toInt (by omega)
    rw [Int32.lt_iff_toInt_lt, Int32.toInt_zero] at c
    rw [Int32.le_iff_toInt_le, en]
    by_cases g : (n : Int) ≤ a.toInt
    · exact g
    · exfalso
      refine h a.toInt.toNat (by omega) ?_
      apply Int32.toInt_inj.mp
      rw [nI_toInt (by omega)]
      omega
theorem r_st_yes {M : Mem} {n : Nat} (h : MV M n) {i : Nat} (hi : i < n) : fX12_isStation M (nI i) = some 1 := by
  obtain ⟨h1, h2⟩ := h
  have en : (nI n).toInt = n := nI_toInt (by omega)
  have ei : (nI i).toInt = i := nI_toInt (by omega)
  have e1 : nI n - 1 = nI (n - 1) := by
    apply Int32.toInt_inj.mp
    rw [nI_toInt (by omega), Int32.toInt_sub, en, Int32.toInt_one]
    rw [Int.bmod_def]
    omega
  unfold fX12_isStation fX12_in
  rw [h2, e1, if_neg (by rw [Int32.lt_iff_toInt_lt, ei, Int32.toInt_zero]; omega), if_neg (by rw [Int32.lt_iff_toInt_lt, ei, nI_toInt (by omega)]; omega)]
  rfl
theorem r_st_no {M : Mem} {n : Nat} (h : MV M n) {a : Int32} (ha : ∀ i, i < n → a ≠ nI i) : fX12_isStation M a = some 0 := by
  obtain ⟨h1, h2⟩ := h
  have en : (nI n).toInt = n := nI_toInt (by omega)
  unfold fX12_isStation fX12_in
  rw [h2]
  rcases st_no h1 ha with c | c
  · rw [if_pos c]; rfl
  · by_cases g : a < 0
    · rw [if_pos g]; rfl
    · rw [if_neg g, if_pos (by
        rw [Int32.le_iff_toInt_le, en] at c
        rw [Int32.lt_iff_toInt_lt, Int32.toInt_sub, en, Int32.toInt_one, Int.bmod_def]
        omega)]
      rfl
theorem r_unless_yes {M : Mem} {n : Nat} (h : MV M n) {i : Nat} (hi : i < n) (m : Int32) : fX12_unless M (nI i) m = some (if vM M i 6 = m then 0 else 2) := by
  have h8 := h.1
  unfold fX12_unless
  rw [r_st_yes h hi]
  simp only [Option.bind_some]
  rw [if_neg (by decide), r_6 M (by omega)]
  simp only [Option.bind_some]
  by_cases c : vM M i 6 = m
  · rw [if_pos c, if_pos c]
  · rw [if_neg c, if_neg c]
theorem r_unless_no {M : Mem} {n : Nat} (h : MV M n) {a : Int32} (ha : ∀ i, i < n → a ≠ nI i) (m : Int32) : fX12_unless M a m = some 1 := by
  unfold fX12_unless
  rw [r_st_no h ha]
  rfl
theorem tk_04 (M : Mem) (v : Int32) : tk (up2 M 0 4 v) = tk M := by
  funext i
  unfold tk
  rw [up2_at, if_neg (by omega)]
theorem aheadP_04 (M : Mem) (v : Int32) : aheadP (up2 M 0 4 v) = aheadP M := by
  funext i k
  unfold aheadP
  rw [vM_04, tk_04]
theorem r_untilTurn {M : Mem} {n : Nat} (h : MV M n) {i : Nat} (hi : i < n) (hm : vM M i 6 = 2) {s : Nat} (hs : s < n) (hsp : first (spkP (vM M) (vM M i 5)) n = nI s) :
    fX12_untilTurn M (nI i) = some (left1 (M 1 2 - M 1 (8 + 12 * s + 8)) + nI (cnt (aheadP M i) n) * M 1 2, up2 M 0 4 0) := by
  have h8 := h.1
  unfold fX12_untilTurn
  rw [r_unless_yes h hi, if_pos hm]
  simp only [Option.bind_some]
  rw [if_pos (show up2 M 0 4 0 0 4 ≤ 0 by rw [up2_at, if_pos ⟨rfl, rfl⟩]; decide), r_5 _ (by omega)]
  simp only [Option.bind_some]
  rw [r_speakerOn (MV_04 h 0), vM_04, hsp]
  simp only [Option.bind_some]
  rw [r_8 _ (by omega), r_positionOf (MV_04 h 0) (by omega), aheadP_04]
  simp only [Option.bind_some]
  have e1 : ∀ o, up2 M 0 4 0 1 o = M 1 o := fun o => by rw [up2_at, if_neg (by omega)]
  rw [e1, e1, Nat.add_comm 1, nI_pred]
  unfold left1
  by_cases c : 1 ≤ M 1 2 - M 1 (8 + 12 * s + 8)
  · rw [if_pos c, if_pos c]
  · rw [if_neg c, if_neg c]
theorem r_untilTurn_no {M : Mem} {a : Int32} {r : Int32} (hr : fX12_unless M a 2 = some r) (h0 : ¬ r ≤ 0) : fX12_untilTurn M a = some (0, up2 M 0 4 r) := by
  unfold fX12_untilTurn
  rw [hr]
  simp only [Option.bind_some]
  rw [if_neg (show ¬ up2 M 0 4 r 0 4 ≤ 0 by rw [up2_at, if_pos ⟨rfl, rfl⟩]; exact h0)]
