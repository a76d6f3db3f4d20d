/-! ===== adding the first station ===== -/
theorem set0 (M : Mem) {k : Nat} (hk : k < 12) (v : Int32) : fX12_set M 0 (nI k) v = some (up2 M 1 (8 + k) v) := by
  unfold fX12_set
  have e : ((8 : Int32) + ((12 : Int32) * 0)) + nI k = nI (8 + k) := by
    rw [show ((8 : Int32) + ((12 : Int32) * 0)) = nI 8 by decide, nI_add]
  rw [e, gd_t (inb_nI (by omega) (by decide)), nI_clamp (by omega)]
theorem radds0 (a b c d e f : Int32) : ok (fX12_adds MB a b c d e f) (fun y => y.1 = 0 ∧ y.2 0 5 = 0 ∧ y.2 0 4 = 0) := by
  unfold fX12_adds
  refine ok_lp (fun z => z.1 = 0 ∧ z.2.2 0 5 = 0 ∧ z.2.2 0 4 = 0 ∧ ∃ t, t ≤ 12 ∧ z.2.1 = nI t) (fun z => 12 - z.2.1.toNatClampNeg) ?_ _ ⟨MB_n, (by show MB 0 5 = 0; rw [MB_0]; rfl), (by show MB 0 4 = 0; rw [MB_0]; rfl), 0, by omega, rfl⟩
  rintro ⟨x, i, M⟩ ⟨h1, h5, h6, t, h3, h4⟩
  dsimp only at h1 h4 h5 h6
  subst h1
  subst h4
  unfold fX12_adds_s
  dsimp only
  refine ok_ite.mpr ⟨fun _ => ?_, fun cc => ?_⟩
  · have s0 := fun (M : Mem) (v : Int32) => set0 M (k := 0) (by decide) v
    have s1 := fun (M : Mem) (v : Int32) => set0 M (k := 1) (by decide) v
    have s2 := fun (M : Mem) (v : Int32) => set0 M (k := 2) (by decide) v
    have s3 := fun (M : Mem) (v : Int32) => set0 M (k := 3) (by decide) v
    have s4 := fun (M : Mem) (v : Int32) => set0 M (k := 4) (by decide) v
    have s5 := fun (M : Mem) (v : Int32) => set0 M (k := 5) (by decide) v
    have s0 : ∀ (M : Mem) (v : Int32), fX12_set M 0 0 v = some (up2 M 1 8 v) := s0
    have s1 : ∀ (M : Mem) (v : Int32), fX12_set M 0 1 v = some (up2 M 1 9 v) := s1
    have s2 : ∀ (M : Mem) (v : Int32), fX12_set M 0 2 v = some (up2 M 1 10 v) := s2
    have s3 : ∀ (M : Mem) (v : Int32), fX12_set M 0 3 v = some (up2 M 1 11 v) := s3
    have s4 : ∀ (M : Mem) (v : Int32), fX12_set M 0 4 v = some (up2 M 1 12 v) := s4
    have s5 : ∀ (M : Mem) (v : Int32), fX12_set M 0 5 v = some (up2 M 1 13 v) := s5
    simp only [s0, s1, s2, s3, s4, s5, Option.bind_some]
    refine ok_some.mpr ⟨rfl, ?_, ?_⟩
    · simp [up2_at, h5]
    · simp [up2_at, h6]
  · have c2 : ¬ nI 12 ≤ nI t := cc
    rw [nI_leI (by decide) (by omega)] at c2
    rw [set0 M (k := t) (by omega)]
    refine ok_some.mpr ⟨⟨rfl, ?_, ?_, t + 1, by omega, nI_1 t⟩, ?_⟩
    · show up2 M 1 (8 + t) 0 0 5 = 0
      rw [up2_at, if_neg (by omega)]; exact h5
    · show up2 M 1 (8 + t) 0 0 4 = 0
      rw [up2_at, if_neg (by omega)]; exact h6
    · show 12 - (nI t + 1).toNatClampNeg < 12 - (nI t).toNatClampNeg
      rw [nI_1, nI_clamp (by omega), nI_clamp (by omega)]
      omega
theorem adding (a b c d e f : Int32) : (fX6_faultOfAdding N0 a b c d e f = some 2 ∧ fX12_cannotAdd MB a b c d e f = some 1) ∨ (fX6_faultOfAdding N0 a b c d e f = some 0 ∧ fX12_cannotAdd MB a b c d e f = some 0) := by
  unfold fX6_faultOfAdding fX12_cannotAdd fX11_isLetter fX11_isPlace fX11_isPower fX12_isPlace fX12_in
  by_cases h1 : a < 65
  · left; simp [h1]
  by_cases h2 : (90 : Int32) < a
  · left; simp [h1, h2]
  by_cases h3 : b < 0
  · left; simp [h1, h2, h3]
  by_cases h4 : (9 : Int32) < b
  · left; simp [h1, h2, h3, h4]
  by_cases h5 : c < 0
  · left; simp [h1, h2, h3, h4, h5]
  by_cases h6 : (99 : Int32) < c
  · left; simp [h1, h2, h3, h4, h5, h6]
  by_cases h7 : d < 0
  · left; simp [h1, h2, h3, h4, h5, h6, h7]
  by_cases h8 : (99 : Int32) < d
  · left; simp [h1, h2, h3, h4, h5, h6, h7, h8]
  by_cases h9 : e < 1
  · left; simp [h1, h2, h3, h4, h5, h6, h7, h8, h9]
  by_cases h10 : (99 : Int32) < e
  · left; simp [h1, h2, h3, h4, h5, h6, h7, h8, h9, h10]
  rcases chan f with ⟨g1, g2⟩ | ⟨g1, g2⟩
  · left; simp [h1, h2, h3, h4, h5, h6, h7, h8, h9, h10, g1, g2]
  · right; simp [h1, h2, h3, h4, h5, h6, h7, h8, h9, h10, g1, g2, sos0, rsi0 MB_n, N0_n, MB_n]
theorem f0_addStation (a b c d e f : Int32) : ∃ r, fC_addStation z00 M0 a b c d e f = some r := by
  rcases adding (ch a) b c d e f with ⟨h1, h2⟩ | ⟨h1, h2⟩
  · simp [fC_addStation, fL_addStation, fX11_addStation, zG, zN, zT, zV, zHs, zQ, zR, zP, h1, ref2, sx, fX12_addStation, begin0, h2, fX12_fail, up2_at, gd]
  · obtain ⟨w, hw⟩ := push0
    have ha : ∃ N', fX6_add N0 (ch a) b c d e f = some (0, N') := by
      unfold fX6_add
      rw [gd_t (show inb (N0 0 1) 8 = true by rw [N0_n]; decide), gd_t (isC_ch a)]
      exact ⟨_, rfl⟩
    obtain ⟨N', ha⟩ := ha
    unfold fC_addStation
    refine fin0 (z := z00) (M := M0) (v := 0) ?_ ?_
    · unfold fL_addStation fX11_addStation
      simp only [zG, zN, zT, zV, zHs, zQ, zR, zP, h1, ref0, sx, hw, ha, Option.bind_some]
      exact ok_some.mpr ⟨rfl, rfl⟩
    · unfold fX12_addStation
      rw [begin0]
      simp only [Option.bind_some, h2]
      rw [if_pos (by decide)]
      refine ok_bind.mpr (ok_mono (radds0 (ch a) b c d e f) ?_)
      rintro y ⟨g1, g2, g3⟩
      refine ok_bind.mpr (ok_mono (commit0 y.2 y.1 g2) ?_)
      rintro y2 ⟨g4, g5⟩
      refine ok_some.mpr ⟨?_, ?_⟩
      · show y2.2 0 4 = 0
        rw [g5, g3]
      · show y2.1 = 0
        rw [g4, g1]
/-! ===== running an empty text ===== -/
theorem len0 : ∀ t, t < 10 → fJ0_length_8abf5 (nI t) = some (nI (paLen.getD t 0)) ∧ ¬ nI (paLen.getD t 0) ≤ 0 := by decide +kernel
theorem chr0 : ∀ t, t < 10 → (fJ0_charAt_5068e (nI t) 0).isSome = true := by decide +kernel
theorem rp0 (P : Mem) (a : Int32) (h : P 0 1 = 0) : fX7_readPart P a 0 3 = some (0, P) := by
  unfold fX7_readPart
  rw [gd_t (by decide), h, if_neg (by decide)]
theorem rk0 (P : Mem) {t : Nat} (ht : t < 10) (h1 : P 0 1 = 0) (h2 : P 0 4 = 0) : ok (fX7_readKind P (nI t) 0 3) (fun y => y.1 = -1 ∧ y.2 0 1 = 0 ∧ y.2 0 4 = 0) := by
  obtain ⟨g1, g2⟩ := len0 t ht
  obtain ⟨cv, g3⟩ := Option.isSome_iff_exists.mp (chr0 t ht)
  have hi : inb (nI t) 10 = true := inb_nI ht (by decide)
  unfold fX7_readKind
  rw [gd_t (by decide)]
  unfold fX1_begin
  rw [gd_t (by decide)]
  simp only [Option.bind_some]
  have k1 : up2 (up2 P 3 0 (nI t)) 3 2 0 0 1 = 0 := by simp [up2_at, h1]
  have k2 : up2 (up2 P 3 0 (nI t)) 3 2 0 0 4 = 0 := by simp [up2_at, h2]
  refine ⟨_, lp_inr (r := (-1, up2 (up2 (up2 P 3 0 (nI t)) 3 2 0) 0 4 0)) ?_, rfl, ?_, ?_⟩
  · unfold fX7_readKind_s
    dsimp only
    rw [gd_t hi, g1]
    simp only [Option.bind_some]
    rw [if_neg g2, gd_t hi, g3]
    simp only [Option.bind_some]
    rw [rp0 _ _ k1]
    simp only [Option.bind_some]
    rw [if_pos trivial, k2]
    simp
  · simp [up2_at, h1]
  · simp [up2_at]
theorem rc0 (P : Mem) (h1 : P 0 1 = 0) : ok (fX7_readCommand P 0 3) (fun y => y.1 = -1 ∧ y.2 0 1 = 0 ∧ y.2 0 4 = 0) := by
  unfold fX7_readCommand
  rw [gd_t (by decide)]
  refine ok_lp (fun z => z.2 0 1 = 0 ∧ z.2 0 4 = 0 ∧ ∃ t, t ≤ 10 ∧ z.1 = nI t) (fun z => 10 - z.1.toNatClampNeg) ?_ _ ⟨(by simp [up2_at, h1]), (by simp [up2_at]), 0, by omega, rfl⟩
  rintro ⟨i, P'⟩ ⟨h2, h3, t, h4, h5⟩
  dsimp only at h2 h3 h5
  subst h5
  unfold fX7_readCommand_s
  dsimp only
  refine ok_ite.mpr ⟨fun _ => ok_some.mpr ⟨rfl, h2, h3⟩, fun c => ?_⟩
  have c2 : ¬ nI 10 ≤ nI t := c
  rw [nI_leI (by decide) (by omega)] at c2
  rw [gd_t (inb_nI (by omega) (by decide))]
  refine ok_bind.mpr (ok_mono (rk0 P' (t := t) (by omega) h2 h3) ?_)
  rintro ⟨v, P2⟩ ⟨g1, g2, g3⟩
  dsimp only at g1 g2 g3
  subst g1
  dsimp only
  rw [if_pos (by decide)]
  refine ok_some.mpr ⟨⟨g2, g3, t + 1, by omega, nI_1 t⟩, ?_⟩
  show 10 - (nI t + 1).toNatClampNeg < 10 - (nI t).toNatClampNeg
  rw [nI_1, nI_clamp (by omega), nI_clamp (by omega)]
  omega
theorem parse0 : ok (fX7_parse P0) (fun y => y.1 = 0) := by
  unfold fX7_parse
  have k1 : up2 P0 0 3 0 0 1 = 0 := by rw [up2_at, if_neg (by decide)]; rfl
  have k3 : up2 P0 0 3 0 0 3 = 0 := by rw [up2_at, if_pos (by decide)]
  obtain ⟨y, hy, g1, g2, g3⟩ := rc0 (up2 P0 0 3 0) k1
  refine ⟨_, lp_inr (r := (0, y.2)) ?_, rfl⟩
  have c1 : ¬ (13 : Int32) ≤ 0 := by decide
  have c2 : ¬ (0 : Int32) ≤ -1 := by decide
  have c3 : inb 0 13 = true := by decide
  simp [fX7_parse_s, k3, c1, c2, c3, hy, g1, g3, gd]
def Wr (M : Mem) : Prop := M 0 19 = 1 ∧ M 0 17 = 0 ∧ M 0 16 = 0
theorem wr_mark {M : Mem} (h : Wr M) : fX12_mark M = some (-1) := by
  unfold fX12_mark
  rw [h.1, if_neg (by decide)]
theorem wr_9 {M : Mem} (h : Wr M) (f : Nat) (v : Int32) : Wr (up2 M 9 f v) := by
  obtain ⟨h1, h2, h3⟩ := h
  exact ⟨by simp [up2_at, h1], by simp [up2_at, h2], by simp [up2_at, h3]⟩
theorem wr_expect {M : Mem} (h : Wr M) {c : Int32} (hc : ¬ (-1 : Int32) = c) : ok (fX12_expect M c) Wr := by
  unfold fX12_expect
  rw [wr_mark h]
  simp only [Option.bind_some]
  obtain ⟨h1, h2, h3⟩ := h
  rw [if_neg hc, h1, gd_t (by decide), if_neg (by simp [up2_at])]
  exact ok_some.mpr ⟨by simp [up2_at], by simp [up2_at, h2], by simp [up2_at, h3]⟩
theorem wr_number {M : Mem} (h : Wr M) (d : Int32) : ok (fX12_number M d) (fun y => Wr y.2) := by
  unfold fX12_number
  have hw := h
  rw [wr_mark h]
  simp only [Option.bind_some]
  have e : fX12_in (-1) 48 57 = some 0 := by decide
  rw [e]
  simp only [Option.bind_some]
  obtain ⟨h1, h2, h3⟩ := h
  rw [if_pos trivial, h1, gd_t (by decide)]
  have w2 : Wr (up2 M 0 19 (1 ||| 1)) := ⟨by simp [up2_at], by simp [up2_at, h2], by simp [up2_at, h3]⟩
  refine ⟨_, lp_inr (r := (0, up2 M 0 19 (1 ||| 1))) ?_, w2⟩
  unfold fX12_number_s
  dsimp only
  by_cases c : d ≤ 0
  · rw [if_pos c]
  · rw [if_neg c, wr_mark w2]
    simp only [Option.bind_some]
    rw [e]
    simp
theorem wr_capital {M : Mem} (h : Wr M) : ok (fX12_capital M) (fun y => Wr y.2) := by
  unfold fX12_capital
  rw [wr_mark h]
  simp only [Option.bind_some]
  have e : fX12_in (-1) 65 90 = some 0 := by decide
  rw [e]
  simp only [Option.bind_some]
  obtain ⟨h1, h2, h3⟩ := h
  rw [if_pos trivial, h1, gd_t (by decide), if_neg (by simp [up2_at])]
  exact ok_some.mpr ⟨by simp [up2_at], by simp [up2_at, h2], by simp [up2_at, h3]⟩
theorem wr_station {M : Mem} (h : Wr M) : ok (fX12_readsStation M) Wr := by
  unfold fX12_readsStation
  refine ok_bind.mpr (ok_mono (wr_capital h) (fun y hy => ?_))
  refine ok_bind.mpr (ok_mono (wr_number (wr_9 hy _ _) _) (fun y hy => ?_))
  refine ok_bind.mpr (ok_mono (wr_expect (wr_9 hy _ _) (by decide)) (fun y hy => ?_))
  refine ok_bind.mpr (ok_mono (wr_number hy _) (fun y hy => ?_))
  refine ok_bind.mpr (ok_mono (wr_expect (wr_9 hy _ _) (by decide)) (fun y hy => ?_))
  refine ok_bind.mpr (ok_mono (wr_number hy _) (fun y hy => ?_))
  refine ok_bind.mpr (ok_mono (wr_expect (wr_9 hy _ _) (by decide)) (fun y hy => ?_))
  refine ok_bind.mpr (ok_mono (wr_number hy _) (fun y hy => ?_))
  refine ok_bind.mpr (ok_mono (wr_expect (wr_9 hy _ _) (by decide)) (fun y hy => ?_))
  refine ok_bind.mpr (ok_mono (wr_number hy _) (fun y hy => ?_))
  exact ok_some.mpr (wr_9 hy _ _)
theorem spl0 : ∀ t, t < 9 → fX12_spelled (nI t) 0 = some (([115, 109, 112, 116, 99, 111, 99, 108, 119] : List Int32).getD t 0) ∧ ¬ (([115, 109, 112, 116, 99, 111, 99, 108, 119] : List Int32).getD t 0) ≤ 0 ∧ ¬ (([115, 109, 112, 116, 99, 111, 99, 108, 119] : List Int32).getD t 0) = 0 := by decide +kernel
theorem word0 (M : Mem) (h1 : M 0 16 = 0) (h2 : M 0 17 = 0) : ok (fX12_word M) (fun y => y.1 = 0 ∧ Wr y.2) := by
  unfold fX12_word
  refine ok_lp (fun z => z.2.1 = 0 ∧ z.2.2.2.2 = M ∧ z.2.2.2.1 = 0 ∧ ∃ t, z.2.2.1 = nI t ∧ ((z.1 = 0 ∧ t ≤ 9) ∨ (z.1 = 1 ∧ t < 9))) (fun z => 20 - (2 * z.2.2.1.toNatClampNeg + z.1)) ?_ _ ⟨rfl, rfl, rfl, 0, rfl, Or.inl ⟨rfl, by omega⟩⟩
  rintro ⟨w, l, i, k, M'⟩ ⟨g1, g2, g3, t, g4, g5⟩
  dsimp only at g1 g2 g3 g4 g5
  subst g1 g2 g3 g4
  unfold fX12_word_s
  dsimp only
  rcases g5 with ⟨rfl, g6⟩ | ⟨rfl, g6⟩
  · rw [if_pos rfl]
    refine ok_ite.mpr ⟨fun _ => ok_some.mpr ⟨rfl, by simp [up2_at], by simp [up2_at, h2], by simp [up2_at, h1]⟩, fun c => ?_⟩
    have c2 : ¬ nI 9 ≤ nI t := c
    rw [nI_leI (by decide) (by omega)] at c2
    refine ok_some.mpr ⟨⟨rfl, rfl, rfl, t, rfl, Or.inr ⟨rfl, by omega⟩⟩, ?_⟩
    show 20 - (2 * (nI t).toNatClampNeg + 1) < 20 - (2 * (nI t).toNatClampNeg + 0)
    rw [nI_clamp (by omega)]
    omega
  · obtain ⟨s1, s2, s3⟩ := spl0 t g6
    rw [if_neg (by decide), s1]
    simp only [Option.bind_some]
    rw [if_neg s2, h1, h2, if_pos (by decide), if_neg s3, if_pos (by decide)]
    refine ok_some.mpr ⟨⟨rfl, rfl, rfl, t + 1, nI_1 t, Or.inl ⟨rfl, by omega⟩⟩, ?_⟩
    show 20 - (2 * (nI t + 1).toNatClampNeg + 0) < 20 - (2 * (nI t).toNatClampNeg + 1)
    rw [nI_1, nI_clamp (by omega), nI_clamp (by omega)]
    omega
theorem command0 (M : Mem) (h1 : M 0 16 = 0) (h2 : M 0 17 = 0) : ok (fX12_command M) Wr := by
  unfold fX12_command
  refine ok_bind.mpr (ok_mono (word0 M h1 h2) ?_)
  rintro ⟨v, M1⟩ ⟨g1, g2⟩
  dsimp only at g1 g2
  subst g1
  dsimp only
  rw [if_pos (by decide)]
  refine ok_bind.mpr (ok_mono (wr_expect (wr_9 g2 _ _) (by decide)) (fun y hy => ?_))
  unfold fX12_command_j33
  rw [if_neg (by decide)]
  unfold fX12_command_j67
  rw [if_pos rfl]
  refine ok_bind.mpr (ok_mono (wr_station hy) (fun y hy => ?_))
  rw [if_neg (by decide)]
  unfold fX12_command_j85
  rw [if_pos (by decide)]
  unfold fX12_command_j107
  rw [if_neg (by decide), if_neg (by decide), if_neg (by decide), if_neg (by decide)]
  unfold fX12_command_j170
  rw [hy.1, if_neg (by decide)]
  exact ok_some.mpr hy
theorem rparse0 : ok (fX12_parse MB) Wr := by
  unfold fX12_parse
  have e : MB 0 15 = 0 := by rw [MB_0]; rfl
  refine ok_bind.mpr (ok_mono (command0 _ (by simp [up2_at, e]) (by simp [up2_at])) (fun y hy => ?_))
  have w2 : Wr (up2 y 0 19 (1 ||| 0)) := ⟨by simp [up2_at], by simp [up2_at, hy.2.1], by simp [up2_at, hy.2.2]⟩
  refine ⟨_, lp_inr (r := up2 y 0 19 (1 ||| 0)) ?_, w2⟩
  unfold fX12_parse_s
  rw [wr_mark hy]
  simp only [Option.bind_some]
  rw [if_neg (by decide), hy.2.1, hy.2.2, hy.1, if_pos (by decide), gd_t (by decide)]
theorem f0_run : ∃ r, fC_run z00 M0 = some r := by
  obtain ⟨y, hy, g1⟩ := parse0
  obtain ⟨M1, hM, g2⟩ := rparse0
  have e1 : ¬ y.1 < 0 := by rw [g1]; decide
  have e2 : ¬ (1 : Int32) = 0 := by decide
  simp [fC_run, fL_run, fX11_run, zG, zN, zT, zV, zHs, zQ, zR, zP, hy, fX7_empty, e1, sx, fX12_run, begin0, hM, g2.1, fX12_fail, up2_at, gd]
/-! ===== one call, any call ===== -/
theorem ex_ite {α : Type} {c : Prop} [Decidable c] {x y : Option α} (h1 : ∃ r, x = some r) (h2 : ∃ r, y = some r) : ∃ r, (if c then x else y) = some r := by
  by_cases h : c
  · rw [if_pos h]; exact h1
  · rw [if_neg h]; exact h2
set_option maxRecDepth 20000 in
theorem f0_step (p0 p1 p2 p3 p4 p5 p6 : Int32) : ∃ r, fl_step z00 M0 p0 p1 p2 p3 p4 p5 p6 = some r := by
  unfold fl_step
  exact (ex_ite (f0_addStation _ _ _ _ _ _)
    (ex_ite (f0_move _ _ _)
    (ex_ite (f0_setPower _ _)
    (ex_ite (f0_tune _ _)
    (ex_ite (f0_request _)
    (ex_ite (f0_release _)
    (ex_ite (f0_cancel _)
    (ex_ite (f0_setTurnLimit _)
    (ex_ite (f0_pass _)
    (ex_ite (f0_stations)
    (ex_ite (f0_find _ _)
    (ex_ite (f0_letter _)
    (ex_ite (f0_digit _)
    (ex_ite (f0_channel _)
    (ex_ite (f0_power _)
    (ex_ite (f0_isSpeaking _)
    (ex_ite (f0_isWaiting _)
    (ex_ite (f0_minutesSpoken _)
    (ex_ite (f0_minutesReceived _)
    (ex_ite (f0_stationByMinutes _)
    (ex_ite (f0_speaker _)
    (ex_ite (f0_lineLength _)
    (ex_ite (f0_waiting _ _)
    (ex_ite (f0_minutesUntilTurn _)
    (ex_ite (f0_minutesUntilTurnBySimulation _)
    (ex_ite (f0_canHear _ _)
    (ex_ite (f0_isJammed _)
    (ex_ite (f0_jams)
    (ex_ite (f0_jamsByChannels)
    (ex_ite (f0_hops _ _)
    (ex_ite (f0_hopsBySets _ _)
    (ex_ite (f0_reachable _)
    (ex_ite (f0_logLength)
    (ex_ite (f0_logStation _)
    (ex_ite (f0_logBegin _)
    (ex_ite (f0_logMinutes _)
    (ex_ite (f0_time)
    (ex_ite (f0_turnLimit)
    (ex_ite (f0_meanPower)
    (ex_ite (f0_airtime)
    (ex_ite (f0_isConsistent)
    (ex_ite (f0_writeStation _)
    (ex_ite (f0_writeChannel _)
    (ex_ite (f0_charAt _)
    (ex_ite (f0_type _)
    (ex_ite (f0_run)
    (ex_ite (f0_errorPosition)
    (ex_ite (f0_failedCommand)
    (ex_ite (f0_undo)
    (ex_ite (f0_save)
    (ex_ite (f0_restore)
    ⟨_, rfl⟩)))))))))))))))))))))))))))))))))))))))))))))))))))
theorem law_defined (xs : Nat → Int32) (k : Nat) (hk : k ≤ 1) : ∃ r, fl_run xs k 0 z00 M0 = some r := by
  rcases (show k = 0 ∨ k = 1 by omega) with rfl | rfl
  · exact ⟨_, rfl⟩
  · obtain ⟨r, hr⟩ := f0_step (xs (7 * 0)) (xs (7 * 0 + 1)) (xs (7 * 0 + 2)) (xs (7 * 0 + 3)) (xs (7 * 0 + 4)) (xs (7 * 0 + 5)) (xs (7 * 0 + 6))
    exact ⟨r, by
      unfold fl_run
      rw [hr]
      rfl⟩
