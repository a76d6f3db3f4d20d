/-! ===== nets copied: the slots that count ===== -/
def sameNet (N O : Mem) : Prop := N 0 1 = O 0 1 ∧ N 0 3 = O 0 3 ∧ N 0 5 = O 0 5 ∧ N 0 6 = O 0 6 ∧ N 11 3 = O 11 3 ∧ (∀ i, i < 8 → ∀ f, f < 10 → N (2 + i) f = O (2 + i) f) ∧ (∀ j, j < 8 → N 10 j = O 10 j) ∧ (∀ j, j < 16 → N 12 j = O 12 j ∧ N 13 j = O 13 j ∧ N 14 j = O 14 j)
theorem sameNet.rfl' (N : Mem) : sameNet N N := ⟨rfl, rfl, rfl, rfl, rfl, fun _ _ _ _ => rfl, fun _ _ => rfl, fun _ _ => ⟨rfl, rfl, rfl⟩⟩
theorem stn_2 {i : Nat} (h : i < 8) : stn (2 + i) = true := decide_eq_true (by omega)
theorem st_copy (N O : Mem) {i : Nat} (hi : i < 8) (hc : isC (O (2 + i) 0) = true) : ok (fX9_copyFrom N O (2 + i) (2 + i)) (fun r => ∀ k f, r k f = if k = 2 + i ∧ f < 10 then O (2 + i) f else N k f) := by
  unfold fX9_copyFrom
  rw [gd_t (stn_2 hi), gd_t (stn_2 hi), gd_t hc]
  refine ok_some.mpr (fun k f => ?_)
  simp only [up2_at]
  by_cases hk : k = 2 + i
  · subst hk
    by_cases hf : f < 10
    · rcases (show f = 0 ∨ f = 1 ∨ f = 2 ∨ f = 3 ∨ f = 4 ∨ f = 5 ∨ f = 6 ∨ f = 7 ∨ f = 8 ∨ f = 9 by omega) with h | h | h | h | h | h | h | h | h | h <;> subst h <;> simp
    · have h0 : ¬ f = 0 := by omega
      have h1 : ¬ f = 1 := by omega
      have h2 : ¬ f = 2 := by omega
      have h3 : ¬ f = 3 := by omega
      have h4 : ¬ f = 4 := by omega
      have h5 : ¬ f = 5 := by omega
      have h6 : ¬ f = 6 := by omega
      have h7 : ¬ f = 7 := by omega
      have h8 : ¬ f = 8 := by omega
      have h9 : ¬ f = 9 := by omega
      simp [h0, h1, h2, h3, h4, h5, h6, h7, h8, h9, hf]
  · simp [hk]
theorem log_copy (N O : Mem) : ok (fX10_copyFrom N O) (fun r => r 11 3 = O 11 3 ∧ (∀ j, j < 16 → r 12 j = O 12 j ∧ r 13 j = O 13 j ∧ r 14 j = O 14 j) ∧ ∀ k f, k ≠ 12 → k ≠ 13 → k ≠ 14 → ¬ (k = 11 ∧ f = 3) → r k f = N k f) := by
  unfold fX10_copyFrom
  refine ok_lp (fun z => ∃ t, t ≤ 16 ∧ z.1 = nI t ∧ z.2 11 3 = O 11 3 ∧ (∀ j, j < t → z.2 12 j = O 12 j ∧ z.2 13 j = O 13 j ∧ z.2 14 j = O 14 j) ∧ ∀ k f, k ≠ 12 → k ≠ 13 → k ≠ 14 → ¬ (k = 11 ∧ f = 3) → z.2 k f = N k f) (fun z => 16 - z.1.toNatClampNeg) ?_ _ ⟨0, by omega, rfl, by simp [up2_at], fun j h => absurd h (Nat.not_lt_zero j), fun k f _ _ _ h => by simp [up2_at, h]⟩
  rintro ⟨i, z⟩ ⟨t, h1, h2, h3, h4, h5⟩
  have h2 : i = nI t := h2
  subst h2
  dsimp only at h3 h4 h5
  unfold fX10_copyFrom_s
  refine ok_ite.mpr ⟨fun c => ?_, fun c => ?_⟩
  · have c : (16 : Int32) ≤ nI t := c
    have c : nI 16 ≤ nI t := c
    rw [nI_leI (by decide) (by omega)] at c
    obtain rfl : t = 16 := by omega
    exact ok_some.mpr ⟨h3, h4, h5⟩
  · have c : ¬ nI 16 ≤ nI t := c
    rw [nI_leI (by decide) (by omega)] at c
    have hi : inb (nI t) 16 = true := inb_nI (by omega) (by decide)
    have hc : (nI t).toNatClampNeg = t := nI_clamp (by omega)
    show ok (gd (inb (nI t) 16) _) _
    simp only [hi, gd_t, hc]
    refine ok_some.mpr ⟨⟨t + 1, by omega, nI_1 t, ?_, ?_, ?_⟩, ?_⟩
    · simp [up2_at, h3]
    · intro j hj
      by_cases e : j = t
      · subst e; simp [up2_at]
      · obtain ⟨g1, g2, g3⟩ := h4 j (by omega)
        simp [up2_at, e, g1, g2, g3]
    · intro k f k1 k2 k3 k4
      simp [up2_at, k1, k2, k3, h5 k f k1 k2 k3 k4]
    · show 16 - (nI t + 1).toNatClampNeg < 16 - t
      rw [nI_1, nI_clamp (by omega)]
      omega
theorem net_copy (N O : Mem) (hch : ∀ i, i < 8 → isC (O (2 + i) 0) = true) : ok (fX6_copyFrom N O) (fun r => sameNet r O) := by
  unfold fX6_copyFrom
  refine ok_lp (fun z => ∃ t, t ≤ 8 ∧ z.1 = nI t ∧ (∀ i, i < t → ∀ f, f < 10 → z.2 (2 + i) f = O (2 + i) f) ∧ (∀ j, j < t → z.2 10 j = O 10 j)) (fun z => 8 - z.1.toNatClampNeg) ?_ _ ⟨0, by omega, rfl, fun j h => absurd h (Nat.not_lt_zero j), fun j h => absurd h (Nat.not_lt_zero j)⟩
  rintro ⟨i, z⟩ ⟨t, h1, h2, h3, h4⟩
  have h2 : i = nI t := h2
  subst h2
  dsimp only at h3 h4
  unfold fX6_copyFrom_s
  refine ok_ite.mpr ⟨fun c => ?_, fun c => ?_⟩
  · have c : nI 8 ≤ nI t := c
    rw [nI_leI (by decide) (by omega)] at c
    obtain rfl : t = 8 := by omega
    refine ok_bind.mpr (ok_mono (log_copy _ _) ?_)
    rintro r ⟨g1, g2, g3⟩
    refine ok_some.mpr ⟨?_, ?_, ?_, ?_, ?_, ?_, ?_, ?_⟩
    · simp [up2_at, g3 0 1]
    · simp [up2_at, g3 0 3]
    · simp [up2_at]
    · simp [up2_at]
    · simp [up2_at, g1]
    · intro i hi f hf
      have e := g3 (2 + i) f (by omega) (by omega) (by omega) (by omega)
      have e2 : ¬ (2 + i = 0) := by omega
      simp only [up2_at, e2, false_and, if_false] at e ⊢
      rw [e]
      exact h3 i hi f hf
    · intro j hj
      have e := g3 10 j (by decide) (by decide) (by decide) (by omega)
      simp only [up2_at] at e ⊢
      simp at e ⊢
      rw [e]
      exact h4 j hj
    · intro j hj
      obtain ⟨q1, q2, q3⟩ := g2 j hj
      simp [up2_at, q1, q2, q3]
  · have c : ¬ nI 8 ≤ nI t := c
    rw [nI_leI (by decide) (by omega)] at c
    have hi : inb (nI t) 8 = true := inb_nI (by omega) (by decide)
    have hc : (nI t).toNatClampNeg = t := nI_clamp (by omega)
    show ok (gd (inb (nI t) 8) _) _
    simp only [hi, gd_t, hc, Nat.one_mul]
    refine ok_bind.mpr (ok_mono (st_copy z O (i := t) (by omega) (hch t (by omega))) ?_)
    intro r hr
    refine ok_some.mpr ⟨⟨t + 1, by omega, nI_1 t, ?_, ?_⟩, ?_⟩
    · intro i hi f hf
      dsimp only
      rw [up2_at, if_neg (by omega), hr]
      by_cases e : i = t
      · subst e; rw [if_pos ⟨rfl, hf⟩]
      · rw [if_neg (by omega)]
        exact h3 i (by omega) f hf
    · intro j hj
      dsimp only
      rw [up2_at]
      by_cases e : j = t
      · subst e; rw [if_pos ⟨rfl, rfl⟩]
      · rw [if_neg (by omega), hr, if_neg (by omega)]
        exact h4 j (by omega)
    · show 8 - (nI t + 1).toNatClampNeg < 8 - t
      rw [nI_1, nI_clamp (by omega)]
      omega
