theorem isC_ch (x : Int32) : isC (ch x) = true := by
  unfold isC
  rw [Bool.and_eq_true]
  exact ⟨decide_eq_true (pk_nc x), pk_fc x⟩
theorem isC_0 : isC 0 = true := by decide +kernel
theorem N0_c : ∀ i, i < 8 → isC (N0 (2 + i) 0) = true := by
  intro i _
  have e : N0 (2 + i) 0 = 0 := if_neg (by omega)
  rw [e]
  exact isC_0
theorem push0 : ∃ w, fX3_push (fun _ _ => 0) (fun _ => N0) N0 = some w := by
  obtain ⟨w, hw, -⟩ := net_copy N0 N0 N0_c
  unfold fX3_push
  simp [hw, gd]
  decide
theorem commit0 (M : Mem) (v : Int32) (h : M 0 5 = 0) : ok (fX12_commit M v) (fun y => y.1 = v ∧ y.2 0 4 = M 0 4) := by
  unfold fX12_commit
  have hc := copy_spec M (k1 := 2) (n1 := 160) (s := 0) (k3 := 4) (n3 := 1280) (d := 0) (by decide) (by decide) (by decide) (by decide) (by decide) (by decide) (Or.inl (by decide))
  have hc : fX12_copy M 2 160 0 4 1280 0 = some (cpy M 2 0 4 0 160) := hc
  have e0 : (160 : Int32) * (M 0 5) = 0 := by rw [h]; decide
  rw [e0, hc, if_neg (by rw [h]; decide)]
  refine ok_some.mpr ⟨rfl, ?_⟩
  dsimp only
  rw [up2_at, if_neg (by decide)]
  unfold cpy
  rw [if_neg (by decide)]
theorem fin0 {z : KS} {M : Mem} {F : Option (Int32 × KS)} {Rr : Option (Int32 × Mem)} {v : Int32} (hF : ok F (fun y => y.1 = 0 ∧ y.2.o = v.toInt64)) (hR : ok Rr (fun y => y.2 0 4 = 0 ∧ y.1 = v)) : ∃ r, (F.bind fun z1 => Rr.bind fun y1 => gd (decide (y1.2 0 4 = z1.1)) (gd (decide (z1.1 = 0 → z1.2.o = Int32.toInt64 y1.1)) (some (z1.2, y1.2)))) = some r := by
  obtain ⟨a, ha, h1, h2⟩ := hF
  obtain ⟨b, hb, h3, h4⟩ := hR
  rw [ha, hb]
  simp only [Option.bind_some]
  rw [gd_t (decide_eq_true (by rw [h1, h3])), gd_t (decide_eq_true (fun _ => by rw [h2, h4]))]
  exact ⟨_, rfl⟩
theorem mins (a : Int32) : (fX11_faultOfMinutes a = some 2 ∧ fX12_in a 1 60 = some 0) ∨ (fX11_faultOfMinutes a = some 0 ∧ fX12_in a 1 60 = some 1 ∧ ∃ k, k ≤ 60 ∧ a = nI k) := by
  unfold fX11_faultOfMinutes fX12_in
  by_cases h : a < 1
  · left; simp [h]
  · by_cases h2 : (60 : Int32) < a
    · left; simp [h, h2]
    · right
      refine ⟨by simp [h, h2], by simp [h, h2], ?_⟩
      have h0 : ¬ a < 0 := by
        rw [Int32.lt_iff_toInt_lt] at h ⊢
        have e1 : (1 : Int32).toInt = 1 := by decide
        rw [Int32.toInt_zero]
        omega
      obtain ⟨k, hk, e⟩ := nI_of2 (x := a) (M := 60) (n := 60) (by decide) h0 (by
        rw [Int32.lt_iff_toInt_lt] at h2
        rw [Int32.le_iff_toInt_le]
        omega)
      exact ⟨k, hk, e⟩
theorem MB_0 (f : Nat) : MB 0 f = if f = 4 then 0 else M0 0 f := by
  rw [MB_at (by decide)]
  by_cases h : f = 4
  · rw [if_pos ⟨rfl, h⟩, if_pos h]
  · rw [if_neg (fun z => h z.2), if_neg h]
theorem MB_1 (f : Nat) : MB 1 f = M0 1 f := by
  rw [MB_at (by decide), if_neg (fun z => absurd z.1 (by decide))]
theorem f0_setTurnLimit (a : Int32) : ∃ r, fC_setTurnLimit z00 M0 a = some r := by
  rcases mins a with ⟨h1, h2⟩ | ⟨h1, h2, -⟩
  · simp [fC_setTurnLimit, fL_setTurnLimit, fX11_setTurnLimit, zG, zN, zT, zV, zHs, zQ, zR, zP, h1, ref2, sx, fX12_setTurnLimit, begin0, h2, fX12_fail, up2_at, gd]
  · obtain ⟨w, hw⟩ := push0
    unfold fC_setTurnLimit
    refine fin0 (z := z00) (M := M0) (v := 10) ?_ ?_
    · simp [fL_setTurnLimit, fX11_setTurnLimit, zG, zN, zT, zV, zHs, zQ, zR, zP, h1, ref0, sx, hw, fX6_changeTurnLimit, ok]
      rfl
    · unfold fX12_setTurnLimit
      rw [begin0]
      simp only [Option.bind_some, h2]
      rw [if_neg (by decide)]
      unfold fX12_limits
      simp only [Option.bind_some]
      refine ok_bind.mpr (ok_mono (commit0 (up2 MB 1 2 a) (MB 1 2) (by rw [up2_at, if_neg (by decide), MB_0]; rfl)) ?_)
      rintro y ⟨g1, g2⟩
      refine ok_some.mpr ⟨?_, ?_⟩
      · show y.2 0 4 = 0
        rw [g2, up2_at, if_neg (by decide), MB_0]; rfl
      · show y.1 = 10
        rw [g1, MB_1]; rfl
theorem pm0 (N : Mem) (h : N 0 1 = 0) : fX6_passMinute N = some (0, up2 N 0 5 (N 0 5 + 1)) := by
  unfold fX6_passMinute
  have e : fX6_endLongTurns (up2 N 0 5 (N 0 5 + 1)) = some (up2 N 0 5 (N 0 5 + 1)) := by
    unfold fX6_endLongTurns
    exact lp_inr (by simp [fX6_endLongTurns_s, up2_at, h])
  exact lp_inr (by simp [fX6_passMinute_s, h, e])
theorem pms0 (k : Nat) (hk : k ≤ 60) : ok (fX6_passMinutes N0 (nI k)) (fun y => y.1 = 0) := by
  unfold fX6_passMinutes
  refine ok_lp (fun z => z.1 = 0 ∧ z.2.2 0 1 = 0 ∧ ∃ t, t ≤ k ∧ z.2.1 = nI t) (fun z => k - z.2.1.toNatClampNeg) ?_ _ ⟨rfl, rfl, 0, by omega, rfl⟩
  rintro ⟨a, i, N⟩ ⟨h1, h2, t, h3, h4⟩
  dsimp only at h1 h2 h4
  subst h1
  subst h4
  unfold fX6_passMinutes_s
  dsimp only
  refine ok_ite.mpr ⟨fun c => ok_some.mpr rfl, fun c => ?_⟩
  rw [nI_leI (by omega) (by omega)] at c
  rw [pm0 N h2]
  refine ok_some.mpr ⟨⟨(by show (0 : Int32) + 0 = 0; decide), ?_, t + 1, by omega, nI_1 t⟩, ?_⟩
  · show up2 N 0 5 (N 0 5 + 1) 0 1 = 0
    rw [up2_at, if_neg (by decide)]
    exact h2
  · show k - (nI t + 1).toNatClampNeg < k - (nI t).toNatClampNeg
    rw [nI_1, nI_clamp (by omega), nI_clamp (by omega)]
    omega
theorem rmp0 (M : Mem) (h : M 1 0 = 0) : fX12_minutePasses M = some (0, up2 M 1 1 (M 1 1 + 1)) := by
  unfold fX12_minutePasses
  rw [lp_inl (s' := (1, 0, 0, 0, 0, up2 M 1 1 (M 1 1 + 1))) (by simp [fX12_minutePasses_s, h])]
  exact lp_inr (by simp [fX12_minutePasses_s, up2_at, h])
theorem rps0 (k : Nat) (hk : k ≤ 60) : ok (fX12_passes MB (nI k)) (fun y => y.1 = 0 ∧ y.2 0 5 = 0 ∧ y.2 0 4 = 0) := by
  unfold fX12_passes
  refine ok_lp (fun z => z.1 = 0 ∧ z.2.2 1 0 = 0 ∧ z.2.2 0 5 = 0 ∧ z.2.2 0 4 = 0 ∧ ∃ t, t ≤ k ∧ z.2.1 = nI t) (fun z => k - z.2.1.toNatClampNeg) ?_ _ ⟨rfl, MB_n, (by show MB 0 5 = 0; rw [MB_0]; rfl), (by show MB 0 4 = 0; rw [MB_0]; rfl), 0, by omega, rfl⟩
  rintro ⟨a, i, M⟩ ⟨h1, h2, h5, h6, t, h3, h4⟩
  dsimp only at h1 h2 h4 h5 h6
  subst h1
  subst h4
  unfold fX12_passes_s
  dsimp only
  refine ok_ite.mpr ⟨fun c => ok_some.mpr ⟨rfl, h5, h6⟩, fun c => ?_⟩
  rw [nI_leI (by omega) (by omega)] at c
  rw [rmp0 M h2]
  refine ok_some.mpr ⟨⟨(by show (0 : Int32) + 0 = 0; decide), ?_, ?_, ?_, t + 1, by omega, nI_1 t⟩, ?_⟩
  · show up2 M 1 1 (M 1 1 + 1) 1 0 = 0
    rw [up2_at, if_neg (by decide)]
    exact h2
  · show up2 M 1 1 (M 1 1 + 1) 0 5 = 0
    rw [up2_at, if_neg (by decide)]
    exact h5
  · show up2 M 1 1 (M 1 1 + 1) 0 4 = 0
    rw [up2_at, if_neg (by decide)]
    exact h6
  · show k - (nI t + 1).toNatClampNeg < k - (nI t).toNatClampNeg
    rw [nI_1, nI_clamp (by omega), nI_clamp (by omega)]
    omega
theorem f0_pass (a : Int32) : ∃ r, fC_pass z00 M0 a = some r := by
  rcases mins a with ⟨h1, h2⟩ | ⟨h1, h2, k, hk, rfl⟩
  · simp [fC_pass, fL_pass, fX11_pass, zG, zN, zT, zV, zHs, zQ, zR, zP, h1, ref2, sx, fX12_pass, begin0, h2, fX12_fail, up2_at, gd]
  · obtain ⟨w, hw⟩ := push0
    obtain ⟨q, hq, hq1⟩ := pms0 k hk
    unfold fC_pass
    refine fin0 (z := z00) (M := M0) (v := 0) ?_ ?_
    · simp [fL_pass, fX11_pass, zG, zN, zT, zV, zHs, zQ, zR, zP, h1, ref0, sx, hw, hq, hq1, ok]
    · unfold fX12_pass
      rw [begin0]
      simp only [Option.bind_some, h2]
      rw [if_neg (by decide)]
      refine ok_bind.mpr (ok_mono (rps0 k hk) ?_)
      rintro y ⟨g1, g2, g3⟩
      refine ok_bind.mpr (ok_mono (commit0 y.2 y.1 g2) ?_)
      rintro y2 ⟨g4, g5⟩
      refine ok_some.mpr ⟨?_, ?_⟩
      · show y2.2 0 4 = 0
        rw [g5, g3]
      · show y2.1 = 0
        rw [g4, g1]
theorem f0_save : ∃ r, fC_save z00 M0 = some r := by
  obtain ⟨w, hw, -⟩ := net_copy N0 N0 N0_c
  have hc := copy_spec (up2 M0 0 4 0) (k1 := 1) (n1 := 160) (s := 0) (k3 := 3) (n3 := 160) (d := 0) (by decide) (by decide) (by decide) (by decide) (by decide) (by decide) (Or.inl (by decide))
  have hc : fX12_copy (up2 M0 0 4 0) 1 160 0 3 160 0 = some (cpy (up2 M0 0 4 0) 1 0 3 0 160) := hc
  have e1 : up2 (cpy (up2 M0 0 4 0) 1 0 3 0 160) 0 8 1 1 0 = 0 := by
    rw [up2_at, if_neg (by decide)]
    unfold cpy
    rw [if_neg (by decide), up2_at, if_neg (by decide)]
    rfl
  simp [fC_save, fX11_save, zG, zN, zT, zV, zHs, zQ, zR, zP, hw, N0_n, fX12_save, hc, e1, gd]
theorem f0_charAt (a : Int32) : ∃ r, fC_charAt z00 M0 a = some r := by
  have hs : KS.Sb z00 = (fun _ _ => 0, 16) := rfl
  have h1 : M0 0 10 = 0 := rfl
  by_cases c : a < 0
  · simp [fC_charAt, fL_charAt, fX11_charAt, zG, zN, zT, zV, zHs, zQ, zR, zP, hs, c, sx, fX12_charAt, h1, in0, up2_at, gd]
    rw [show (-1 : Int32) = 0 - 1 by decide, in0]
    simp [up2_at]
  · simp [fC_charAt, fL_charAt, fX11_charAt, zG, zN, zT, zV, zHs, zQ, zR, zP, hs, c, sx, fJ4_length_8abf5, fJ5_length_8abf5, fX12_charAt, h1, up2_at, gd]
    rw [show (-1 : Int32) = 0 - 1 by decide, in0]
    simp [up2_at]
theorem f0_type (a : Int32) : ∃ r, fC_type z00 M0 a = some r := by
  have h1 : M0 0 15 = 0 := rfl
  have h2 : P0 0 1 = 0 := rfl
  have h3 : inb 0 60 = true := by decide
  simp [fC_type, fL_type, fX11_type, zG, zN, zT, zV, zHs, zQ, zR, zP, h2, sx, fX7_append, fX12_type, h1, h3, up2_at, gd]
theorem f0_writeChannel (a : Int32) : ∃ r, fC_writeChannel z00 M0 a = some r := by
  have hs : KS.Sb z00 = (fun _ _ => 0, 16) := rfl
  have hl : fJ4_setLength_d00df (fun _ _ => 0, 16) 0 = some (sbU (up2 (fun _ _ => 0) 0 3 0) (fun _ _ => 0) 16) := by
    unfold fJ4_setLength_d00df fJ5_setLength_d00df fJ5_ensureCapacityInternal_d00df
    rw [if_pos (by decide), if_pos (by decide)]
    simp
  rcases chan a with ⟨h1, h2⟩ | ⟨h1, h2⟩
  · simp [fC_writeChannel, fL_writeChannel, fX11_writeChannel, fX11_requireChannel, zG, zN, zT, zV, zHs, zQ, zR, zP, h1, h2, sx, fX12_writeChannel, up2_at, gd]
  · have g : up2 (up2 M0 0 4 0) 0 10 0 1 0 = 0 := by rw [up2_at, if_neg (by decide), up2_at, if_neg (by decide)]; rfl
    simp [fC_writeChannel, fL_writeChannel, fX11_writeChannel, fX11_requireChannel, zG, zN, zT, zV, zHs, zQ, zR, zP, hs, h1, h2, hl, sp0, sx, fJ4_length_8abf5, fJ5_length_8abf5, fX12_writeChannel, rsp0 g, up2_at, gd, sbU]
