/-! ===== a command executed on both sides ===== -/
theorem passes_one {M M' : Mem} {a : Int32} (h : fX12_minutePasses M = some (a, M')) : fX12_passes M 1 = some (a, M') := by
  unfold fX12_passes
  rw [lp_inl (s' := (0 + a, 1, M'))]
  · refine lp_inr ?_
    unfold fX12_passes_s
    dsimp only
    rw [if_pos (by decide), Int32.zero_add]
  · unfold fX12_passes_s
    dsimp only
    rw [if_neg (by decide), h]
    rfl
theorem nv_of : nvl (patK 0) = 6 ∧ nvl (patK 1) = 3 ∧ nvl (patK 2) = 2 ∧ nvl (patK 3) = 2 ∧ nvl (patK 4) = 1 ∧ nvl (patK 5) = 1 ∧ nvl (patK 6) = 1 ∧ nvl (patK 7) = 1 ∧ nvl (patK 8) = 0 ∧ nvl (patK 9) = 1 := by decide +kernel
/-- command k done, on both sides, or refused, on both sides -/
def EX (x y : Option (Int32 × Mem)) (T M : Mem) (B : Nat) : Prop := (∃ T' M', x = some (1, T') ∧ y = some (0, M') ∧ Fr1 M M' ∧ RCx T' M' 59 (B + 1)) ∨ (x = some (0, T) ∧ y = some (1, M))
theorem exec_both {P T M : Mem} {B n w : Nat} {L : Nat → Nat} (h : RC T M 59 B n w L) (hB : B < 2 ^ 30) {k : Nat} (hk : k < 13) (hC : CM P M k) : EX (fX1_succeedsOn P T (3 + 2 * k)) (fX12_cannot M (nI k)) T M B := by
  obtain ⟨κ, κ1, κ2, κ3, κ4, κ5, κ6⟩ := hC
  have hck : cmdk (3 + 2 * k) = true := decide_eq_true (by omega)
  have eκ : (nI κ).toNatClampNeg = κ := nI_clamp (by omega)
  have hκ10 : inb (nI κ) 10 = true := inb_nI κ1 (by decide)
  have ek : (nI k).toNatClampNeg = k := nI_clamp (by omega)
  have i0 : (6 : Int32) * nI k = nI (6 * k) := pk_mul 6 k
  have i1 : nI (6 * k) + 1 = nI (6 * k + 1) := nI_1 _
  have i2 : nI (6 * k) + 2 = nI (6 * k + 2) := nI_add _ 2
  have i3 : nI (6 * k) + 3 = nI (6 * k + 3) := nI_add _ 3
  have i4 : nI (6 * k) + 4 = nI (6 * k + 4) := nI_add _ 4
  have i5 : nI (6 * k) + 5 = nI (6 * k + 5) := nI_add _ 5
  have c0 : (nI (6 * k)).toNatClampNeg = 6 * k := nI_clamp (by omega)
  have c1 : (nI (6 * k + 1)).toNatClampNeg = 6 * k + 1 := nI_clamp (by omega)
  have c2 : (nI (6 * k + 2)).toNatClampNeg = 6 * k + 2 := nI_clamp (by omega)
  have c3 : (nI (6 * k + 3)).toNatClampNeg = 6 * k + 3 := nI_clamp (by omega)
  have c4 : (nI (6 * k + 4)).toNatClampNeg = 6 * k + 4 := nI_clamp (by omega)
  have c5 : (nI (6 * k + 5)).toNatClampNeg = 6 * k + 5 := nI_clamp (by omega)
  have b0 : inb (nI (6 * k)) 192 = true := inb_nI (by omega) (by decide)
  have b1 : inb (nI (6 * k + 1)) 192 = true := inb_nI (by omega) (by decide)
  have b2 : inb (nI (6 * k + 2)) 192 = true := inb_nI (by omega) (by decide)
  have b3 : inb (nI (6 * k + 3)) 192 = true := inb_nI (by omega) (by decide)
  have b4 : inb (nI (6 * k + 4)) 192 = true := inb_nI (by omega) (by decide)
  have b5 : inb (nI (6 * k + 5)) 192 = true := inb_nI (by omega) (by decide)
  have bk : inb (nI k) 32 = true := inb_nI (by omega) (by decide)
  obtain ⟨n0, n1, n2, n3, n4, n5, n6, n7, n8, n9⟩ := nv_of
  unfold fX1_succeedsOn fX1_faultOn fX12_cannot
  simp only [κ2, eκ, κ3, gd_t hck, gd_t hκ10, ek, i0, i1, i2, i3, i4, i5, c0, c1, c2, c3, c4, c5, gd_t b0, gd_t b1, gd_t b2, gd_t b3, gd_t b4, gd_t b5, gd_t bk]
  rcases (show κ = 0 ∨ κ = 1 ∨ κ = 2 ∨ κ = 3 ∨ κ = 4 ∨ κ = 5 ∨ κ = 6 ∨ κ = 7 ∨ κ = 8 ∨ κ = 9 by omega) with e | e | e | e | e | e | e | e | e | e <;> subst e
  · have p0 : P (3 + 2 * k + 1) 0 = M 8 (6 * k) := κ4 0 (by rw [n0]; decide)
    have p1 : P (3 + 2 * k + 1) 1 = M 8 (6 * k + 1) := κ4 1 (by rw [n0]; decide)
    have p2 : P (3 + 2 * k + 1) 2 = M 8 (6 * k + 2) := κ4 2 (by rw [n0]; decide)
    have p3 : P (3 + 2 * k + 1) 3 = M 8 (6 * k + 3) := κ4 3 (by rw [n0]; decide)
    have p4 : P (3 + 2 * k + 1) 4 = M 8 (6 * k + 4) := κ4 4 (by rw [n0]; decide)
    have p5 : P (3 + 2 * k + 1) 5 = M 8 (6 * k + 5) := κ4 5 (by rw [n0]; decide)
    have hch : ((M 8 (6 * k)).toUInt32 % 65536).toInt32 = M 8 (6 * k) := κ6 rfl
    simp only [p0, p1, p2, p3, p4, p5, hch]
    rcases add_or h (M 8 (6 * k)) (M 8 (6 * k + 1)) (M 8 (6 * k + 2)) (M 8 (6 * k + 3)) (M 8 (6 * k + 4)) (M 8 (6 * k + 5)) with ⟨g1, g2, g3, g4, g5, g6, g7, g8, hf, hc⟩ | ⟨hf, hc⟩ | ⟨hf, hc⟩ | ⟨hf, hc⟩
    · have hcc := co_add h g1 g2 g3 g4 g5 g6 g7 g8
      obtain ⟨v, T', M', d1, d2, d3, d4⟩ := hcc
      refine Or.inl ⟨T', M', ?_, ?_, d3, d4.mono (Nat.le_succ B)⟩
      · rw [if_pos (show swK.getD 0 0 = 1 by decide), hf]
        simp only [Option.bind_some]
        rw [gd_t (by decide), if_pos trivial, if_pos (show swK.getD 0 0 = 1 by decide), d1]
        rfl
      · rw [if_pos (show nI (min 0 8) = 0 by decide), hc]
        simp only [Option.bind_some]
        rw [if_pos (by decide), d2]
        rfl
    · refine Or.inr ⟨?_, ?_⟩
      · rw [if_pos (show swK.getD 0 0 = 1 by decide), hf]
        simp only [Option.bind_some]
        rw [gd_t (by decide), if_neg (by decide)]
      · rw [if_pos (show nI (min 0 8) = 0 by decide), hc]
        simp only [Option.bind_some]
        rw [if_neg (by decide)]
    · refine Or.inr ⟨?_, ?_⟩
      · rw [if_pos (show swK.getD 0 0 = 1 by decide), hf]
        simp only [Option.bind_some]
        rw [gd_t (by decide), if_neg (by decide)]
      · rw [if_pos (show nI (min 0 8) = 0 by decide), hc]
        simp only [Option.bind_some]
        rw [if_neg (by decide)]
    · refine Or.inr ⟨?_, ?_⟩
      · rw [if_pos (show swK.getD 0 0 = 1 by decide), hf]
        simp only [Option.bind_some]
        rw [gd_t (by decide), if_neg (by decide)]
      · rw [if_pos (show nI (min 0 8) = 0 by decide), hc]
        simp only [Option.bind_some]
        rw [if_neg (by decide)]
  · have p0 : P (3 + 2 * k + 1) 0 = M 8 (6 * k) := κ4 0 (by rw [n1]; decide)
    have p1 : P (3 + 2 * k + 1) 1 = M 8 (6 * k + 1) := κ4 1 (by rw [n1]; decide)
    have p2 : P (3 + 2 * k + 1) 2 = M 8 (6 * k + 2) := κ4 2 (by rw [n1]; decide)
    simp only [p0, p1, p2]
    rcases move_or h (M 8 (6 * k)) (M 8 (6 * k + 1)) (M 8 (6 * k + 2)) with ⟨i, hi, e, g1, g2, hf, hc⟩ | ⟨hf, hc⟩ | ⟨hf, hc⟩
    · have hcc := co_move h hi g1 g2
      rw [← e] at hcc
      obtain ⟨v, T', M', d1, d2, d3, d4⟩ := hcc
      refine Or.inl ⟨T', M', ?_, ?_, d3, d4.mono (Nat.le_succ B)⟩
      · rw [if_neg (show ¬ swK.getD 1 0 = 1 by decide), if_pos (show swK.getD 1 0 = 2 by decide), hf]
        simp only [Option.bind_some]
        rw [gd_t (by decide), if_pos trivial, if_neg (show ¬ swK.getD 1 0 = 1 by decide), if_pos (show swK.getD 1 0 = 2 by decide), d1]
        rfl
      · rw [if_neg (show ¬ nI (min 1 8) = 0 by decide), if_pos (show nI (min 1 8) = 1 by decide), hc]
        simp only [Option.bind_some]
        rw [if_pos (by decide), d2]
        rfl
    · refine Or.inr ⟨?_, ?_⟩
      · rw [if_neg (show ¬ swK.getD 1 0 = 1 by decide), if_pos (show swK.getD 1 0 = 2 by decide), hf]
        simp only [Option.bind_some]
        rw [gd_t (by decide), if_neg (by decide)]
      · rw [if_neg (show ¬ nI (min 1 8) = 0 by decide), if_pos (show nI (min 1 8) = 1 by decide), hc]
        simp only [Option.bind_some]
        rw [if_neg (by decide)]
    · refine Or.inr ⟨?_, ?_⟩
      · rw [if_neg (show ¬ swK.getD 1 0 = 1 by decide), if_pos (show swK.getD 1 0 = 2 by decide), hf]
        simp only [Option.bind_some]
        rw [gd_t (by decide), if_neg (by decide)]
      · rw [if_neg (show ¬ nI (min 1 8) = 0 by decide), if_pos (show nI (min 1 8) = 1 by decide), hc]
        simp only [Option.bind_some]
        rw [if_neg (by decide)]
  · have p0 : P (3 + 2 * k + 1) 0 = M 8 (6 * k) := κ4 0 (by rw [n2]; decide)
    have p1 : P (3 + 2 * k + 1) 1 = M 8 (6 * k + 1) := κ4 1 (by rw [n2]; decide)
    simp only [p0, p1]
    rcases power_or h (M 8 (6 * k)) (M 8 (6 * k + 1)) with ⟨i, hi, e, g1, hf, hc⟩ | ⟨hf, hc⟩ | ⟨hf, hc⟩
    · have hcc := co_power h hi g1
      rw [← e] at hcc
      obtain ⟨v, T', M', d1, d2, d3, d4⟩ := hcc
      refine Or.inl ⟨T', M', ?_, ?_, d3, d4.mono (Nat.le_succ B)⟩
      · rw [if_neg (show ¬ swK.getD 2 0 = 1 by decide), if_neg (show ¬ swK.getD 2 0 = 2 by decide), if_pos (show swK.getD 2 0 = 3 by decide), hf]
        simp only [Option.bind_some]
        rw [gd_t (by decide), if_pos trivial, if_neg (show ¬ swK.getD 2 0 = 1 by decide), if_neg (show ¬ swK.getD 2 0 = 2 by decide), if_pos (show swK.getD 2 0 = 3 by decide), d1]
        rfl
      · rw [if_neg (show ¬ nI (min 2 8) = 0 by decide), if_neg (show ¬ nI (min 2 8) = 1 by decide), if_pos (show nI (min 2 8) = 2 by decide), hc]
        simp only [Option.bind_some]
        rw [if_pos (by decide), d2]
        rfl
    · refine Or.inr ⟨?_, ?_⟩
      · rw [if_neg (show ¬ swK.getD 2 0 = 1 by decide), if_neg (show ¬ swK.getD 2 0 = 2 by decide), if_pos (show swK.getD 2 0 = 3 by decide), hf]
        simp only [Option.bind_some]
        rw [gd_t (by decide), if_neg (by decide)]
      · rw [if_neg (show ¬ nI (min 2 8) = 0 by decide), if_neg (show ¬ nI (min 2 8) = 1 by decide), if_pos (show nI (min 2 8) = 2 by decide), hc]
        simp only [Option.bind_some]
        rw [if_neg (by decide)]
    · refine Or.inr ⟨?_, ?_⟩
      · rw [if_neg (show ¬ swK.getD 2 0 = 1 by decide), if_neg (show ¬ swK.getD 2 0 = 2 by decide), if_pos (show swK.getD 2 0 = 3 by decide), hf]
        simp only [Option.bind_some]
        rw [gd_t (by decide), if_neg (by decide)]
      · rw [if_neg (show ¬ nI (min 2 8) = 0 by decide), if_neg (show ¬ nI (min 2 8) = 1 by decide), if_pos (show nI (min 2 8) = 2 by decide), hc]
        simp only [Option.bind_some]
        rw [if_neg (by decide)]
  · have p0 : P (3 + 2 * k + 1) 0 = M 8 (6 * k) := κ4 0 (by rw [n3]; decide)
    have p1 : P (3 + 2 * k + 1) 1 = M 8 (6 * k + 1) := κ4 1 (by rw [n3]; decide)
    simp only [p0, p1]
    rcases tune_or h (M 8 (6 * k)) (M 8 (6 * k + 1)) with ⟨i, hi, e, g1, g2, hf, hc⟩ | ⟨hf, hc⟩ | ⟨hf, hc⟩ | ⟨hf, hc⟩
    · have hcc := co_tune h hi g2 g1
      rw [← e] at hcc
      obtain ⟨v, T', M', d1, d2, d3, d4⟩ := hcc
      refine Or.inl ⟨T', M', ?_, ?_, d3, d4.mono (Nat.le_succ B)⟩
      · rw [if_neg (show ¬ swK.getD 3 0 = 1 by decide), if_neg (show ¬ swK.getD 3 0 = 2 by decide), if_neg (show ¬ swK.getD 3 0 = 3 by decide), if_pos (show swK.getD 3 0 = 4 by decide), hf]
        simp only [Option.bind_some]
        rw [gd_t (by decide), if_pos trivial, if_neg (show ¬ swK.getD 3 0 = 1 by decide), if_neg (show ¬ swK.getD 3 0 = 2 by decide), if_neg (show ¬ swK.getD 3 0 = 3 by decide), if_pos (show swK.getD 3 0 = 4 by decide), d1]
        rfl
      · rw [if_neg (show ¬ nI (min 3 8) = 0 by decide), if_neg (show ¬ nI (min 3 8) = 1 by decide), if_neg (show ¬ nI (min 3 8) = 2 by decide), if_pos (show nI (min 3 8) = 3 by decide), hc]
        simp only [Option.bind_some]
        rw [if_pos (by decide), d2]
        rfl
    · refine Or.inr ⟨?_, ?_⟩
      · rw [if_neg (show ¬ swK.getD 3 0 = 1 by decide), if_neg (show ¬ swK.getD 3 0 = 2 by decide), if_neg (show ¬ swK.getD 3 0 = 3 by decide), if_pos (show swK.getD 3 0 = 4 by decide), hf]
        simp only [Option.bind_some]
        rw [gd_t (by decide), if_neg (by decide)]
      · rw [if_neg (show ¬ nI (min 3 8) = 0 by decide), if_neg (show ¬ nI (min 3 8) = 1 by decide), if_neg (show ¬ nI (min 3 8) = 2 by decide), if_pos (show nI (min 3 8) = 3 by decide), hc]
        simp only [Option.bind_some]
        rw [if_neg (by decide)]
    · refine Or.inr ⟨?_, ?_⟩
      · rw [if_neg (show ¬ swK.getD 3 0 = 1 by decide), if_neg (show ¬ swK.getD 3 0 = 2 by decide), if_neg (show ¬ swK.getD 3 0 = 3 by decide), if_pos (show swK.getD 3 0 = 4 by decide), hf]
        simp only [Option.bind_some]
        rw [gd_t (by decide), if_neg (by decide)]
      · rw [if_neg (show ¬ nI (min 3 8) = 0 by decide), if_neg (show ¬ nI (min 3 8) = 1 by decide), if_neg (show ¬ nI (min 3 8) = 2 by decide), if_pos (show nI (min 3 8) = 3 by decide), hc]
        simp only [Option.bind_some]
        rw [if_neg (by decide)]
    · refine Or.inr ⟨?_, ?_⟩
      · rw [if_neg (show ¬ swK.getD 3 0 = 1 by decide), if_neg (show ¬ swK.getD 3 0 = 2 by decide), if_neg (show ¬ swK.getD 3 0 = 3 by decide), if_pos (show swK.getD 3 0 = 4 by decide), hf]
        simp only [Option.bind_some]
        rw [gd_t (by decide), if_neg (by decide)]
      · rw [if_neg (show ¬ nI (min 3 8) = 0 by decide), if_neg (show ¬ nI (min 3 8) = 1 by decide), if_neg (show ¬ nI (min 3 8) = 2 by decide), if_pos (show nI (min 3 8) = 3 by decide), hc]
        simp only [Option.bind_some]
        rw [if_neg (by decide)]
  · have p0 : P (3 + 2 * k + 1) 0 = M 8 (6 * k) := κ4 0 (by rw [n4]; decide)
    simp only [p0]
    rcases mode_or h (M 8 (6 * k)) (m := 0) (by decide) with ⟨i, hi, e, g1, hf, hc⟩ | ⟨hf, hc⟩ | ⟨hf, hc⟩
    · have hcc := co_request h hB hi g1
      rw [← e] at hcc
      obtain ⟨v, T', M', d1, d2, d3, d4⟩ := hcc
      refine Or.inl ⟨T', M', ?_, ?_, d3, d4⟩
      · rw [if_neg (show ¬ swK.getD 4 0 = 1 by decide), if_neg (show ¬ swK.getD 4 0 = 2 by decide), if_neg (show ¬ swK.getD 4 0 = 3 by decide), if_neg (show ¬ swK.getD 4 0 = 4 by decide), if_pos (show swK.getD 4 0 = 5 by decide), hf]
        simp only [Option.bind_some]
        rw [gd_t (by decide), if_pos trivial, if_neg (show ¬ swK.getD 4 0 = 1 by decide), if_neg (show ¬ swK.getD 4 0 = 2 by decide), if_neg (show ¬ swK.getD 4 0 = 3 by decide), if_neg (show ¬ swK.getD 4 0 = 4 by decide), if_pos (show swK.getD 4 0 = 5 by decide), d1]
        rfl
      · rw [if_neg (show ¬ nI (min 4 8) = 0 by decide), if_neg (show ¬ nI (min 4 8) = 1 by decide), if_neg (show ¬ nI (min 4 8) = 2 by decide), if_neg (show ¬ nI (min 4 8) = 3 by decide), if_pos (show nI (min 4 8) = 4 by decide), hc]
        simp only [Option.bind_some]
        rw [if_pos (by decide), d2]
        rfl
    · refine Or.inr ⟨?_, ?_⟩
      · rw [if_neg (show ¬ swK.getD 4 0 = 1 by decide), if_neg (show ¬ swK.getD 4 0 = 2 by decide), if_neg (show ¬ swK.getD 4 0 = 3 by decide), if_neg (show ¬ swK.getD 4 0 = 4 by decide), if_pos (show swK.getD 4 0 = 5 by decide), hf]
        simp only [Option.bind_some]
        rw [gd_t (by decide), if_neg (by decide)]
      · rw [if_neg (show ¬ nI (min 4 8) = 0 by decide), if_neg (show ¬ nI (min 4 8) = 1 by decide), if_neg (show ¬ nI (min 4 8) = 2 by decide), if_neg (show ¬ nI (min 4 8) = 3 by decide), if_pos (show nI (min 4 8) = 4 by decide), hc]
        simp only [Option.bind_some]
        rw [if_neg (by decide)]
    · refine Or.inr ⟨?_, ?_⟩
      · rw [if_neg (show ¬ swK.getD 4 0 = 1 by decide), if_neg (show ¬ swK.getD 4 0 = 2 by decide), if_neg (show ¬ swK.getD 4 0 = 3 by decide), if_neg (show ¬ swK.getD 4 0 = 4 by decide), if_pos (show swK.getD 4 0 = 5 by decide), hf]
        simp only [Option.bind_some]
        rw [gd_t (by decide), if_neg (by decide)]
      · rw [if_neg (show ¬ nI (min 4 8) = 0 by decide), if_neg (show ¬ nI (min 4 8) = 1 by decide), if_neg (show ¬ nI (min 4 8) = 2 by decide), if_neg (show ¬ nI (min 4 8) = 3 by decide), if_pos (show nI (min 4 8) = 4 by decide), hc]
        simp only [Option.bind_some]
        rw [if_neg (by decide)]
  · have p0 : P (3 + 2 * k + 1) 0 = M 8 (6 * k) := κ4 0 (by rw [n5]; decide)
    simp only [p0]
    rcases mode_or h (M 8 (6 * k)) (m := 1) (by decide) with ⟨i, hi, e, g1, hf, hc⟩ | ⟨hf, hc⟩ | ⟨hf, hc⟩
    · obtain ⟨N1, M1, x, d1, d2, d3, ⟨w1, L1, d4⟩, _⟩ := co_ends h (by decide) hi g1
      rw [← e] at d1 d2
      refine Or.inl ⟨N1, M1, ?_, ?_, d3, n, w1, L1, d4.mono (Nat.le_refl _) (Nat.le_succ B)⟩
      · rw [if_neg (show ¬ swK.getD 5 0 = 1 by decide), if_neg (show ¬ swK.getD 5 0 = 2 by decide), if_neg (show ¬ swK.getD 5 0 = 3 by decide), if_neg (show ¬ swK.getD 5 0 = 4 by decide), if_neg (show ¬ swK.getD 5 0 = 5 by decide), if_pos (show swK.getD 5 0 = 6 by decide), hf]
        simp only [Option.bind_some]
        rw [gd_t (by decide), if_pos trivial, if_neg (show ¬ swK.getD 5 0 = 1 by decide), if_neg (show ¬ swK.getD 5 0 = 2 by decide), if_neg (show ¬ swK.getD 5 0 = 3 by decide), if_neg (show ¬ swK.getD 5 0 = 4 by decide), if_neg (show ¬ swK.getD 5 0 = 5 by decide), if_pos (show swK.getD 5 0 = 6 by decide), d1]
        rfl
      · rw [if_neg (show ¬ nI (min 5 8) = 0 by decide), if_neg (show ¬ nI (min 5 8) = 1 by decide), if_neg (show ¬ nI (min 5 8) = 2 by decide), if_neg (show ¬ nI (min 5 8) = 3 by decide), if_neg (show ¬ nI (min 5 8) = 4 by decide), if_pos (show nI (min 5 8) = 5 by decide), hc]
        simp only [Option.bind_some]
        rw [if_pos (by decide), d2]
        rfl
    · refine Or.inr ⟨?_, ?_⟩
      · rw [if_neg (show ¬ swK.getD 5 0 = 1 by decide), if_neg (show ¬ swK.getD 5 0 = 2 by decide), if_neg (show ¬ swK.getD 5 0 = 3 by decide), if_neg (show ¬ swK.getD 5 0 = 4 by decide), if_neg (show ¬ swK.getD 5 0 = 5 by decide), if_pos (show swK.getD 5 0 = 6 by decide), hf]
        simp only [Option.bind_some]
        rw [gd_t (by decide), if_neg (by decide)]
      · rw [if_neg (show ¬ nI (min 5 8) = 0 by decide), if_neg (show ¬ nI (min 5 8) = 1 by decide), if_neg (show ¬ nI (min 5 8) = 2 by decide), if_neg (show ¬ nI (min 5 8) = 3 by decide), if_neg (show ¬ nI (min 5 8) = 4 by decide), if_pos (show nI (min 5 8) = 5 by decide), hc]
        simp only [Option.bind_some]
        rw [if_neg (by decide)]
    · refine Or.inr ⟨?_, ?_⟩
      · rw [if_neg (show ¬ swK.getD 5 0 = 1 by decide), if_neg (show ¬ swK.getD 5 0 = 2 by decide), if_neg (show ¬ swK.getD 5 0 = 3 by decide), if_neg (show ¬ swK.getD 5 0 = 4 by decide), if_neg (show ¬ swK.getD 5 0 = 5 by decide), if_pos (show swK.getD 5 0 = 6 by decide), hf]
        simp only [Option.bind_some]
        rw [gd_t (by decide), if_neg (by decide)]
      · rw [if_neg (show ¬ nI (min 5 8) = 0 by decide), if_neg (show ¬ nI (min 5 8) = 1 by decide), if_neg (show ¬ nI (min 5 8) = 2 by decide), if_neg (show ¬ nI (min 5 8) = 3 by decide), if_neg (show ¬ nI (min 5 8) = 4 by decide), if_pos (show nI (min 5 8) = 5 by decide), hc]
        simp only [Option.bind_some]
        rw [if_neg (by decide)]
  · have p0 : P (3 + 2 * k + 1) 0 = M 8 (6 * k) := κ4 0 (by rw [n6]; decide)
    simp only [p0]
    rcases mode_or h (M 8 (6 * k)) (m := 2) (by decide) with ⟨i, hi, e, g1, hf, hc⟩ | ⟨hf, hc⟩ | ⟨hf, hc⟩
    · have hcc := co_cancel h hi g1
      rw [← e] at hcc
      obtain ⟨v, T', M', d1, d2, d3, d4⟩ := hcc
      refine Or.inl ⟨T', M', ?_, ?_, d3, d4.mono (Nat.le_succ B)⟩
      · rw [if_neg (show ¬ swK.getD 6 0 = 1 by decide), if_neg (show ¬ swK.getD 6 0 = 2 by decide), if_neg (show ¬ swK.getD 6 0 = 3 by decide), if_neg (show ¬ swK.getD 6 0 = 4 by decide), if_neg (show ¬ swK.getD 6 0 = 5 by decide), if_neg (show ¬ swK.getD 6 0 = 6 by decide), if_pos (show swK.getD 6 0 = 7 by decide), hf]
        simp only [Option.bind_some]
        rw [gd_t (by decide), if_pos trivial, if_neg (show ¬ swK.getD 6 0 = 1 by decide), if_neg (show ¬ swK.getD 6 0 = 2 by decide), if_neg (show ¬ swK.getD 6 0 = 3 by decide), if_neg (show ¬ swK.getD 6 0 = 4 by decide), if_neg (show ¬ swK.getD 6 0 = 5 by decide), if_neg (show ¬ swK.getD 6 0 = 6 by decide), if_pos (show swK.getD 6 0 = 7 by decide), d1]
        rfl
      · rw [if_neg (show ¬ nI (min 6 8) = 0 by decide), if_neg (show ¬ nI (min 6 8) = 1 by decide), if_neg (show ¬ nI (min 6 8) = 2 by decide), if_neg (show ¬ nI (min 6 8) = 3 by decide), if_neg (show ¬ nI (min 6 8) = 4 by decide), if_neg (show ¬ nI (min 6 8) = 5 by decide), if_pos (show nI (min 6 8) = 6 by decide), hc]
        simp only [Option.bind_some]
        rw [if_pos (by decide), d2]
        rfl
    · refine Or.inr ⟨?_, ?_⟩
      · rw [if_neg (show ¬ swK.getD 6 0 = 1 by decide), if_neg (show ¬ swK.getD 6 0 = 2 by decide), if_neg (show ¬ swK.getD 6 0 = 3 by decide), if_neg (show ¬ swK.getD 6 0 = 4 by decide), if_neg (show ¬ swK.getD 6 0 = 5 by decide), if_neg (show ¬ swK.getD 6 0 = 6 by decide), if_pos (show swK.getD 6 0 = 7 by decide), hf]
        simp only [Option.bind_some]
        rw [gd_t (by decide), if_neg (by decide)]
      · rw [if_neg (show ¬ nI (min 6 8) = 0 by decide), if_neg (show ¬ nI (min 6 8) = 1 by decide), if_neg (show ¬ nI (min 6 8) = 2 by decide), if_neg (show ¬ nI (min 6 8) = 3 by decide), if_neg (show ¬ nI (min 6 8) = 4 by decide), if_neg (show ¬ nI (min 6 8) = 5 by decide), if_pos (show nI (min 6 8) = 6 by decide), hc]
        simp only [Option.bind_some]
        rw [if_neg (by decide)]
    · refine Or.inr ⟨?_, ?_⟩
      · rw [if_neg (show ¬ swK.getD 6 0 = 1 by decide), if_neg (show ¬ swK.getD 6 0 = 2 by decide), if_neg (show ¬ swK.getD 6 0 = 3 by decide), if_neg (show ¬ swK.getD 6 0 = 4 by decide), if_neg (show ¬ swK.getD 6 0 = 5 by decide), if_neg (show ¬ swK.getD 6 0 = 6 by decide), if_pos (show swK.getD 6 0 = 7 by decide), hf]
        simp only [Option.bind_some]
        rw [gd_t (by decide), if_neg (by decide)]
      · rw [if_neg (show ¬ nI (min 6 8) = 0 by decide), if_neg (show ¬ nI (min 6 8) = 1 by decide), if_neg (show ¬ nI (min 6 8) = 2 by decide), if_neg (show ¬ nI (min 6 8) = 3 by decide), if_neg (show ¬ nI (min 6 8) = 4 by decide), if_neg (show ¬ nI (min 6 8) = 5 by decide), if_pos (show nI (min 6 8) = 6 by decide), hc]
        simp only [Option.bind_some]
        rw [if_neg (by decide)]
  · have p0 : P (3 + 2 * k + 1) 0 = M 8 (6 * k) := κ4 0 (by rw [n7]; decide)
    simp only [p0]
    rcases mn_or (M 8 (6 * k)) with ⟨m, g1, g2, e, hf, hc⟩ | ⟨hf, hc⟩
    · have hcc := co_limit h g1 g2
      rw [← e] at hcc
      obtain ⟨v, T', M', d1, d2, d3, d4⟩ := hcc
      refine Or.inl ⟨T', M', ?_, ?_, d3, d4.mono (Nat.le_succ B)⟩
      · rw [if_neg (show ¬ swK.getD 7 0 = 1 by decide), if_neg (show ¬ swK.getD 7 0 = 2 by decide), if_neg (show ¬ swK.getD 7 0 = 3 by decide), if_neg (show ¬ swK.getD 7 0 = 4 by decide), if_neg (show ¬ swK.getD 7 0 = 5 by decide), if_neg (show ¬ swK.getD 7 0 = 6 by decide), if_neg (show ¬ swK.getD 7 0 = 7 by decide), if_pos (show swK.getD 7 0 = 8 by decide), hf]
        simp only [Option.bind_some]
        rw [gd_t (by decide), if_pos trivial, if_neg (show ¬ swK.getD 7 0 = 1 by decide), if_neg (show ¬ swK.getD 7 0 = 2 by decide), if_neg (show ¬ swK.getD 7 0 = 3 by decide), if_neg (show ¬ swK.getD 7 0 = 4 by decide), if_neg (show ¬ swK.getD 7 0 = 5 by decide), if_neg (show ¬ swK.getD 7 0 = 6 by decide), if_neg (show ¬ swK.getD 7 0 = 7 by decide), if_pos (show swK.getD 7 0 = 8 by decide), d1]
        rfl
      · rw [if_neg (show ¬ nI (min 7 8) = 0 by decide), if_neg (show ¬ nI (min 7 8) = 1 by decide), if_neg (show ¬ nI (min 7 8) = 2 by decide), if_neg (show ¬ nI (min 7 8) = 3 by decide), if_neg (show ¬ nI (min 7 8) = 4 by decide), if_neg (show ¬ nI (min 7 8) = 5 by decide), if_neg (show ¬ nI (min 7 8) = 6 by decide), if_pos (show nI (min 7 8) = 7 by decide), hc]
        simp only [Option.bind_some]
        rw [if_neg (by decide), d2]
        rfl
    · refine Or.inr ⟨?_, ?_⟩
      · rw [if_neg (show ¬ swK.getD 7 0 = 1 by decide), if_neg (show ¬ swK.getD 7 0 = 2 by decide), if_neg (show ¬ swK.getD 7 0 = 3 by decide), if_neg (show ¬ swK.getD 7 0 = 4 by decide), if_neg (show ¬ swK.getD 7 0 = 5 by decide), if_neg (show ¬ swK.getD 7 0 = 6 by decide), if_neg (show ¬ swK.getD 7 0 = 7 by decide), if_pos (show swK.getD 7 0 = 8 by decide), hf]
        simp only [Option.bind_some]
        rw [gd_t (by decide), if_neg (by decide)]
      · rw [if_neg (show ¬ nI (min 7 8) = 0 by decide), if_neg (show ¬ nI (min 7 8) = 1 by decide), if_neg (show ¬ nI (min 7 8) = 2 by decide), if_neg (show ¬ nI (min 7 8) = 3 by decide), if_neg (show ¬ nI (min 7 8) = 4 by decide), if_neg (show ¬ nI (min 7 8) = 5 by decide), if_neg (show ¬ nI (min 7 8) = 6 by decide), if_pos (show nI (min 7 8) = 7 by decide), hc]
        simp only [Option.bind_some]
        rw [if_pos trivial]
  · obtain ⟨a, T', M', w', L', lim, d1, d2, d3, d4, _⟩ := co_minute h
    refine Or.inl ⟨T', M', ?_, ?_, d3, n, w', L', d4.mono (Nat.le_refl _) (Nat.le_succ B)⟩
    · rw [if_neg (show ¬ swK.getD 8 0 = 1 by decide), if_neg (show ¬ swK.getD 8 0 = 2 by decide), if_neg (show ¬ swK.getD 8 0 = 3 by decide), if_neg (show ¬ swK.getD 8 0 = 4 by decide), if_neg (show ¬ swK.getD 8 0 = 5 by decide), if_neg (show ¬ swK.getD 8 0 = 6 by decide), if_neg (show ¬ swK.getD 8 0 = 7 by decide), if_neg (show ¬ swK.getD 8 0 = 8 by decide), if_neg (show ¬ swK.getD 8 0 = 9 by decide)]
      simp only [Option.bind_some]
      rw [gd_t (by decide), if_pos trivial, if_neg (show ¬ swK.getD 8 0 = 1 by decide), if_neg (show ¬ swK.getD 8 0 = 2 by decide), if_neg (show ¬ swK.getD 8 0 = 3 by decide), if_neg (show ¬ swK.getD 8 0 = 4 by decide), if_neg (show ¬ swK.getD 8 0 = 5 by decide), if_neg (show ¬ swK.getD 8 0 = 6 by decide), if_neg (show ¬ swK.getD 8 0 = 7 by decide), if_neg (show ¬ swK.getD 8 0 = 8 by decide), if_neg (show ¬ swK.getD 8 0 = 9 by decide), d1]
      rfl
    · rw [if_neg (show ¬ nI (min 8 8) = 0 by decide), if_neg (show ¬ nI (min 8 8) = 1 by decide), if_neg (show ¬ nI (min 8 8) = 2 by decide), if_neg (show ¬ nI (min 8 8) = 3 by decide), if_neg (show ¬ nI (min 8 8) = 4 by decide), if_neg (show ¬ nI (min 8 8) = 5 by decide), if_neg (show ¬ nI (min 8 8) = 6 by decide), if_neg (show ¬ nI (min 8 8) = 7 by decide), κ5 rfl, show fX12_in 1 1 60 = some 1 by decide +kernel]
      simp only [Option.bind_some]
      rw [if_neg (by decide), passes_one d2]
      rfl
  · have p0 : P (3 + 2 * k + 1) 0 = M 8 (6 * k) := κ4 0 (by rw [n9]; decide)
    simp only [p0]
    rcases mn_or (M 8 (6 * k)) with ⟨m, g1, g2, e, hf, hc⟩ | ⟨hf, hc⟩
    · have hcc := co_passes h g2
      rw [← e] at hcc
      obtain ⟨v, T', M', d1, d2, d3, d4⟩ := hcc
      refine Or.inl ⟨T', M', ?_, ?_, d3, d4.mono (Nat.le_succ B)⟩
      · rw [if_neg (show ¬ swK.getD 9 0 = 1 by decide), if_neg (show ¬ swK.getD 9 0 = 2 by decide), if_neg (show ¬ swK.getD 9 0 = 3 by decide), if_neg (show ¬ swK.getD 9 0 = 4 by decide), if_neg (show ¬ swK.getD 9 0 = 5 by decide), if_neg (show ¬ swK.getD 9 0 = 6 by decide), if_neg (show ¬ swK.getD 9 0 = 7 by decide), if_neg (show ¬ swK.getD 9 0 = 8 by decide), if_pos (show swK.getD 9 0 = 9 by decide), hf]
        simp only [Option.bind_some]
        rw [gd_t (by decide), if_pos trivial, if_neg (show ¬ swK.getD 9 0 = 1 by decide), if_neg (show ¬ swK.getD 9 0 = 2 by decide), if_neg (show ¬ swK.getD 9 0 = 3 by decide), if_neg (show ¬ swK.getD 9 0 = 4 by decide), if_neg (show ¬ swK.getD 9 0 = 5 by decide), if_neg (show ¬ swK.getD 9 0 = 6 by decide), if_neg (show ¬ swK.getD 9 0 = 7 by decide), if_neg (show ¬ swK.getD 9 0 = 8 by decide), if_pos (show swK.getD 9 0 = 9 by decide), d1]
        rfl
      · rw [if_neg (show ¬ nI (min 9 8) = 0 by decide), if_neg (show ¬ nI (min 9 8) = 1 by decide), if_neg (show ¬ nI (min 9 8) = 2 by decide), if_neg (show ¬ nI (min 9 8) = 3 by decide), if_neg (show ¬ nI (min 9 8) = 4 by decide), if_neg (show ¬ nI (min 9 8) = 5 by decide), if_neg (show ¬ nI (min 9 8) = 6 by decide), if_neg (show ¬ nI (min 9 8) = 7 by decide), hc]
        simp only [Option.bind_some]
        rw [if_neg (by decide), d2]
        rfl
    · refine Or.inr ⟨?_, ?_⟩
      · rw [if_neg (show ¬ swK.getD 9 0 = 1 by decide), if_neg (show ¬ swK.getD 9 0 = 2 by decide), if_neg (show ¬ swK.getD 9 0 = 3 by decide), if_neg (show ¬ swK.getD 9 0 = 4 by decide), if_neg (show ¬ swK.getD 9 0 = 5 by decide), if_neg (show ¬ swK.getD 9 0 = 6 by decide), if_neg (show ¬ swK.getD 9 0 = 7 by decide), if_neg (show ¬ swK.getD 9 0 = 8 by decide), if_pos (show swK.getD 9 0 = 9 by decide), hf]
        simp only [Option.bind_some]
        rw [gd_t (by decide), if_neg (by decide)]
      · rw [if_neg (show ¬ nI (min 9 8) = 0 by decide), if_neg (show ¬ nI (min 9 8) = 1 by decide), if_neg (show ¬ nI (min 9 8) = 2 by decide), if_neg (show ¬ nI (min 9 8) = 3 by decide), if_neg (show ¬ nI (min 9 8) = 4 by decide), if_neg (show ¬ nI (min 9 8) = 5 by decide), if_neg (show ¬ nI (min 9 8) = 6 by decide), if_neg (show ¬ nI (min 9 8) = 7 by decide), hc]
        simp only [Option.bind_some]
        rw [if_pos trivial]
