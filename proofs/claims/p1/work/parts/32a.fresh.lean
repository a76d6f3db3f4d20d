/-! ===== one call on a fresh object ===== -/
def MB : Mem := cpy (up2 M0 0 4 0) 1 0 2 0 160
theorem MB_at {k : Nat} (h : k ≠ 2) (f : Nat) : MB k f = if k = 0 ∧ f = 4 then 0 else M0 k f := by
  unfold MB cpy
  rw [if_neg (fun z => h z.1), up2_at]
theorem begin0 : fX12_begin M0 = some MB := by
  unfold fX12_begin
  have h := copy_spec (up2 M0 0 4 0) (k1 := 1) (n1 := 160) (s := 0) (k3 := 2) (n3 := 160) (d := 0) (by decide) (by decide) (by decide) (by decide) (by decide) (by decide) (Or.inl (by decide))
  have h : fX12_copy (up2 M0 0 4 0) 1 160 0 2 160 0 = some MB := h
  rw [h]
  rfl
theorem isSt0 {M : Mem} (h : M 1 0 = 0) (a : Int32) : fX12_isStation M a = some 0 := by
  unfold fX12_isStation fX12_in
  rw [h]
  by_cases c : a < 0
  · rw [if_pos c]; rfl
  · rw [if_neg c]
    have c2 : (0 : Int32) - 1 < a := by
      rw [Int32.lt_iff_toInt_lt] at c ⊢
      have e : ((0 : Int32) - 1).toInt = -1 := by decide
      rw [e]
      rw [Int32.toInt_zero] at c
      omega
    rw [if_pos c2]; rfl
theorem MB_n : MB 1 0 = 0 := by rw [MB_at (by decide)]; rfl
theorem up4_n {M : Mem} (h : M 1 0 = 0) (v : Int32) : up2 M 0 4 v 1 0 = 0 := by rw [up2_at, if_neg (by decide)]; exact h
theorem M0_n : M0 1 0 = 0 := rfl
theorem N0_n : N0 0 1 = 0 := rfl
theorem has0 (a : Int32) : fX6_has N0 a = some 0 := by
  unfold fX6_has
  by_cases c : a < 0
  · rw [if_pos c]
  · rw [if_neg c, N0_n]
    have c2 : (0 : Int32) ≤ a := by
      rw [Int32.lt_iff_toInt_lt] at c
      rw [Int32.le_iff_toInt_le]
      omega
    rw [if_pos c2]
theorem ref0 : fX11_refuse 0 = some (.inr ()) := by decide +kernel
theorem ref1 : fX11_refuse 1 = some (.inl 0) := by decide +kernel
theorem ref2 : fX11_refuse 2 = some (.inl 1) := by decide +kernel
theorem ref3 : fX11_refuse 3 = some (.inl 2) := by decide +kernel
theorem ref4 : fX11_refuse 4 = some (.inl 3) := by decide +kernel
theorem zG : KS.G z00 = G0 := rfl
theorem zN : KS.N z00 = N0 := rfl
theorem zT : KS.T z00 = N0 := rfl
theorem zV : KS.V z00 = N0 := rfl
theorem zHs : KS.Hs z00 = fun _ _ => 0 := rfl
theorem zQ : KS.Q z00 = fun _ => N0 := rfl
theorem zR : KS.R z00 = fun _ _ => 0 := rfl
theorem zP : KS.P z00 = P0 := rfl
theorem f0_move (a b c : Int32) : ∃ r, fC_move z00 M0 a b c = some r := by
  simp [fC_move, fL_move, fX11_move, zG, zN, zT, zV, zHs, zQ, zR, zP, fX6_faultOfMoving, has0, ref1, sx, fX12_move, begin0, fX12_cannotMove, isSt0 MB_n, fX12_fail, up2_at, gd]
theorem f0_setPower (a b : Int32) : ∃ r, fC_setPower z00 M0 a b = some r := by
  simp [fC_setPower, fL_setPower, fX11_setPower, zG, zN, zT, zV, zHs, zQ, zR, zP, fX6_faultOfPower, has0, ref1, sx, fX12_setPower, begin0, fX12_cannotPower, isSt0 MB_n, fX12_fail, up2_at, gd]
theorem f0_tune (a b : Int32) : ∃ r, fC_tune z00 M0 a b = some r := by
  simp [fC_tune, fL_tune, fX11_tune, zG, zN, zT, zV, zHs, zQ, zR, zP, fX6_faultOfTuning, has0, ref1, sx, fX12_tune, begin0, fX12_cannotTune, isSt0 MB_n, fX12_fail, up2_at, gd]
theorem f0_request (a : Int32) : ∃ r, fC_request z00 M0 a = some r := by
  simp [fC_request, fL_request, fX11_request, zG, zN, zT, zV, zHs, zQ, zR, zP, fX6_faultOfMode, has0, ref1, sx, fX12_request, begin0, fX12_unless, isSt0 MB_n, fX12_fail, up2_at, gd]
theorem f0_release (a : Int32) : ∃ r, fC_release z00 M0 a = some r := by
  simp [fC_release, fL_release, fX11_release, zG, zN, zT, zV, zHs, zQ, zR, zP, fX6_faultOfMode, has0, ref1, sx, fX12_release, begin0, fX12_unless, isSt0 MB_n, fX12_fail, up2_at, gd]
theorem f0_cancel (a : Int32) : ∃ r, fC_cancel z00 M0 a = some r := by
  simp [fC_cancel, fL_cancel, fX11_cancel, zG, zN, zT, zV, zHs, zQ, zR, zP, fX6_faultOfMode, has0, ref1, sx, fX12_cancel, begin0, fX12_unless, isSt0 MB_n, fX12_fail, up2_at, gd]
theorem f0_letter (a : Int32) : ∃ r, fC_letter z00 M0 a = some r := by
  simp [fC_letter, fL_letter, fX11_letter, zG, zN, zT, zV, zHs, zQ, zR, zP, fX11_known, fX11_requireStation, has0, sx, fX12_letter, fX12_ofStation, isSt0 M0_n, up2_at, gd, isZ]
theorem f0_digit (a : Int32) : ∃ r, fC_digit z00 M0 a = some r := by
  simp [fC_digit, fL_digit, fX11_digit, zG, zN, zT, zV, zHs, zQ, zR, zP, fX11_known, fX11_requireStation, has0, sx, fX12_digit, fX12_ofStation, isSt0 M0_n, up2_at, gd, isZ]
theorem f0_channel (a : Int32) : ∃ r, fC_channel z00 M0 a = some r := by
  simp [fC_channel, fL_channel, fX11_channel, zG, zN, zT, zV, zHs, zQ, zR, zP, fX11_known, fX11_requireStation, has0, sx, fX12_channel, fX12_ofStation, isSt0 M0_n, up2_at, gd, isZ]
theorem f0_power (a : Int32) : ∃ r, fC_power z00 M0 a = some r := by
  simp [fC_power, fL_power, fX11_power, zG, zN, zT, zV, zHs, zQ, zR, zP, fX11_known, fX11_requireStation, has0, sx, fX12_power, fX12_ofStation, isSt0 M0_n, up2_at, gd, isZ]
theorem f0_minutesSpoken (a : Int32) : ∃ r, fC_minutesSpoken z00 M0 a = some r := by
  simp [fC_minutesSpoken, fL_minutesSpoken, fX11_minutesSpoken, zG, zN, zT, zV, zHs, zQ, zR, zP, fX11_known, fX11_requireStation, has0, sx, fX12_minutesSpoken, fX12_ofStation, isSt0 M0_n, up2_at, gd, isZ]
theorem f0_minutesReceived (a : Int32) : ∃ r, fC_minutesReceived z00 M0 a = some r := by
  simp [fC_minutesReceived, fL_minutesReceived, fX11_minutesReceived, zG, zN, zT, zV, zHs, zQ, zR, zP, fX11_known, fX11_requireStation, has0, sx, fX12_minutesReceived, fX12_ofStation, isSt0 M0_n, up2_at, gd, isZ]
theorem f0_isSpeaking (a : Int32) : ∃ r, fC_isSpeaking z00 M0 a = some r := by
  simp [fC_isSpeaking, fL_isSpeaking, fX11_isSpeaking, zG, zN, zT, zV, zHs, zQ, zR, zP, fX11_known, fX11_requireStation, has0, sx, fX12_isSpeaking, fX12_ofStation, isSt0 M0_n, up2_at, gd, isZ]
theorem f0_isWaiting (a : Int32) : ∃ r, fC_isWaiting z00 M0 a = some r := by
  simp [fC_isWaiting, fL_isWaiting, fX11_isWaiting, zG, zN, zT, zV, zHs, zQ, zR, zP, fX11_known, fX11_requireStation, has0, sx, fX12_isWaiting, fX12_ofStation, isSt0 M0_n, up2_at, gd, isZ]
theorem f0_canHear (a b : Int32) : ∃ r, fC_canHear z00 M0 a b = some r := by
  simp [fC_canHear, fL_canHear, fX11_canHear, zG, zN, zT, zV, zHs, zQ, zR, zP, fX11_known, fX11_requireStation, has0, sx, fX12_canHear, fX12_hopsOf, fX12_areStations, isSt0 M0_n, up2_at, gd, isZ]
theorem f0_isJammed (a : Int32) : ∃ r, fC_isJammed z00 M0 a = some r := by
  simp [fC_isJammed, fL_isJammed, fX11_isJammed, zG, zN, zT, zV, zHs, zQ, zR, zP, fX11_known, fX11_requireStation, has0, sx, fX12_isJammed, fX12_hopsOf, fX12_areStations, isSt0 M0_n, up2_at, gd, isZ]
theorem f0_hops (a b : Int32) : ∃ r, fC_hops z00 M0 a b = some r := by
  simp [fC_hops, fL_hops, fX11_hops, zG, zN, zT, zV, zHs, zQ, zR, zP, fX11_known, fX11_requireStation, has0, sx, fX12_hops, fX12_hopsOf, fX12_areStations, isSt0 M0_n, up2_at, gd, isZ]
theorem f0_hopsBySets (a b : Int32) : ∃ r, fC_hopsBySets z00 M0 a b = some r := by
  simp [fC_hopsBySets, fL_hopsBySets, fX11_hopsBySets, zG, zN, zT, zV, zHs, zQ, zR, zP, fX11_known, fX11_requireStation, has0, sx, fX12_hopsBySets, fX12_hopsOf, fX12_areStations, isSt0 M0_n, up2_at, gd, isZ]
theorem f0_reachable (a : Int32) : ∃ r, fC_reachable z00 M0 a = some r := by
  simp [fC_reachable, fL_reachable, fX11_reachable, zG, zN, zT, zV, zHs, zQ, zR, zP, fX11_known, fX11_requireStation, has0, sx, fX12_reachable, fX12_hopsOf, fX12_areStations, isSt0 M0_n, up2_at, gd, isZ]
theorem f0_writeStation (a : Int32) : ∃ r, fC_writeStation z00 M0 a = some r := by
  simp [fC_writeStation, fL_writeStation, fX11_writeStation, zG, zN, zT, zV, zHs, zQ, zR, zP, fX11_known, fX11_requireStation, has0, sx, fX12_writeStation, fX12_hopsOf, fX12_areStations, isSt0 M0_n, up2_at, gd, isZ]
theorem f0_minutesUntilTurn (a : Int32) : ∃ r, fC_minutesUntilTurn z00 M0 a = some r := by
  simp [fC_minutesUntilTurn, fL_minutesUntilTurn, fX11_minutesUntilTurn, zG, zN, zT, zV, zHs, zQ, zR, zP, fX6_faultOfMode, has0, ref1, sx, fX12_minutesUntilTurn, fX12_untilTurn, fX12_unless, isSt0 M0_n, up2_at, gd, isZ]
theorem f0_minutesUntilTurnBySimulation (a : Int32) : ∃ r, fC_minutesUntilTurnBySimulation z00 M0 a = some r := by
  simp [fC_minutesUntilTurnBySimulation, fL_minutesUntilTurnBySimulation, fX11_minutesUntilTurnBySimulation, zG, zN, zT, zV, zHs, zQ, zR, zP, fX6_faultOfMode, has0, ref1, sx, fX12_minutesUntilTurnBySimulation, fX12_untilTurn, fX12_unless, isSt0 M0_n, up2_at, gd, isZ]
theorem sp0 (c : Int32) : fX6_speakerOn N0 c = some (-1) := by
  unfold fX6_speakerOn
  exact lp_inr (by simp [fX6_speakerOn_s, N0_n])
theorem N0_w : N0 0 3 = 0 := rfl
theorem wo0 (c : Int32) : fX6_waitingOn N0 c = some 0 := by
  unfold fX6_waitingOn
  exact lp_inr (by simp [fX6_waitingOn_s, N0_w])
theorem sil0 (c p : Int32) : fX6_stationInLine N0 c p = some (-1) := by
  unfold fX6_stationInLine
  exact lp_inr (by simp [fX6_stationInLine_s, N0_w])
theorem sos0 (a b : Int32) : fX6_stationOfSign N0 a b = some (-1) := by
  unfold fX6_stationOfSign
  exact lp_inr (by simp [fX6_stationOfSign_s, N0_n])
theorem sor0 (a : Int32) : fX6_stationOfRank N0 a = some (-1) := by
  unfold fX6_stationOfRank
  exact lp_inr (by simp [fX6_stationOfRank_s, N0_n])
theorem jos0 : fX6_jamsOfStations N0 = some 0 := by
  unfold fX6_jamsOfStations
  exact lp_inr (by simp [fX6_jamsOfStations_s, N0_n])
theorem jb0 (a b : Int32) : fX6_jamsBetween N0 a b = some 0 := by
  unfold fX6_jamsBetween
  rw [sp0]
  exact lp_inr (by simp [fX6_jamsBetween_s, N0_n])
theorem joc0 : fX6_jamsOfChannels N0 = some 0 := by
  unfold fX6_jamsOfChannels
  exact lp_up (fun t => ((0 : Int32), nI t)) 9 (fun t ht => by
    show fX6_jamsOfChannels_s N0 (0, nI t) = some (.inl (0, nI (t + 1)))
    unfold fX6_jamsOfChannels_s
    have c : ¬ (10 : Int32) ≤ nI t + 1 := by rw [nI_1]; exact nI_ge (a := t + 1) (b := 10) (by omega) (by decide)
    simp [c, jb0]
    exact nI_1 t) (by simp [fX6_jamsOfChannels_s]; decide)
theorem co0 (a b : Int32) : fX6_countOn N0 a b = some 0 := by
  unfold fX6_countOn
  exact lp_inr (by simp [fX6_countOn_s, N0_n])
theorem cao0 : fX6_channelsAreOrdered N0 = some 1 := by
  unfold fX6_channelsAreOrdered
  exact lp_up (fun t => nI t) 10 (fun t ht => by
    show fX6_channelsAreOrdered_s N0 (nI t) = some (.inl (nI (t + 1)))
    unfold fX6_channelsAreOrdered_s
    have c : ¬ (10 : Int32) ≤ nI t := nI_ge (a := t) (b := 10) (by omega) (by decide)
    simp [c, co0]
    exact nI_1 t) (by simp [fX6_channelsAreOrdered_s]; decide)
theorem ha0 (G R : Mem) : fX11_hopsAgree G N0 R = some (1, R) := by
  unfold fX11_hopsAgree
  exact lp_inr (by simp [fX11_hopsAgree_s, N0_n])
theorem ta0 (G T : Mem) : fX11_turnsAgree G N0 T = some (1, T) := by
  unfold fX11_turnsAgree
  exact lp_inr (by simp [fX11_turnsAgree_s, N0_n])
theorem rsp0 {M : Mem} (h : M 1 0 = 0) (c : Int32) : fX12_speakerOn M c = some (-1) := by
  unfold fX12_speakerOn
  exact lp_inr (by simp [fX12_speakerOn_s, h])
theorem rlo0 {M : Mem} (h : M 1 0 = 0) (c : Int32) : fX12_lineOf M c = some 0 := by
  unfold fX12_lineOf
  exact lp_inr (by simp [fX12_lineOf_s, h])
theorem ril0 {M : Mem} (h : M 1 0 = 0) (c p : Int32) : fX12_inLine M c p = some (-1) := by
  unfold fX12_inLine
  exact lp_inr (by simp [fX12_inLine_s, h])
theorem rsi0 {M : Mem} (h : M 1 0 = 0) (a b : Int32) : fX12_signed M a b = some (-1) := by
  unfold fX12_signed
  exact lp_inr (by simp [fX12_signed_s, h])
theorem rpa0 {M : Mem} (h : M 1 0 = 0) : fX12_pairs M = some 0 := by
  unfold fX12_pairs
  exact lp_inr (by simp [fX12_pairs_s, h])
theorem M4_n (v : Int32) : up2 M0 0 4 v 1 0 = 0 := up4_n M0_n v
theorem rsb0 (a : Int32) : fX12_stationByMinutes M0 a = some (0, up2 (up2 M0 0 4 0) 0 4 1) := by
  unfold fX12_stationByMinutes
  exact lp_inr (by simp [fX12_stationByMinutes_s, M4_n, fX12_fail])
theorem f0_stations : ∃ r, fC_stations z00 M0 = some r := by
  simp [fC_stations, fX11_stations, zG, zN, zT, zV, zHs, zQ, zR, zP, N0_n, fX12_stations, fX12_plain, M0_n, gd]
theorem f0_find (a b : Int32) : ∃ r, fC_find z00 M0 a b = some r := by
  simp [fC_find, fL_find, fX11_find, zG, zN, zT, zV, zHs, zQ, zR, zP, sos0, sx, fX12_find, rsi0 (M4_n 0), fX12_fail, up2_at, gd]
theorem f0_stationByMinutes (a : Int32) : ∃ r, fC_stationByMinutes z00 M0 a = some r := by
  simp [fC_stationByMinutes, fL_stationByMinutes, fX11_stationByMinutes, zG, zN, zT, zV, zHs, zQ, zR, zP, sor0, sx, rsb0, up2_at, gd]
theorem chan (c : Int32) : (fX11_isChannel c = some 0 ∧ fX12_isChannel c = some 0) ∨ (fX11_isChannel c = some 1 ∧ fX12_isChannel c = some 1) := by
  unfold fX11_isChannel fX12_isChannel fX12_in
  by_cases h : c < 0
  · left
    simp [h, gd, isZ]
  · rw [if_neg h]
    rcases pk_ix c (n := 10) (by decide) with h1 | h1 | ⟨j, hj, rfl⟩
    · exact absurd h1 h
    · left
      have h2 : (10 : Int32) ≤ c := h1
      have h3 : (9 : Int32) < c := by
        rw [Int32.le_iff_toInt_le] at h2
        rw [Int32.lt_iff_toInt_lt]
        have e1 : (10 : Int32).toInt = 10 := by decide
        have e2 : (9 : Int32).toInt = 9 := by decide
        omega
      simp [h, h2, h3, gd, isZ]
    · right
      rw [if_neg h, if_neg (show ¬ (10 : Int32) ≤ nI j from nI_ge (a := j) (b := 10) hj (by decide)), if_neg (show ¬ (9 : Int32) < nI j from fun z => by
        have z : nI 9 < nI j := z
        rw [nI_ltI (by decide) (by omega)] at z
        omega)]
      exact ⟨rfl, rfl⟩
theorem f0_speaker (a : Int32) : ∃ r, fC_speaker z00 M0 a = some r := by
  rcases chan a with ⟨h1, h2⟩ | ⟨h1, h2⟩ <;> simp [fC_speaker, fL_speaker, fX11_speaker, fX11_requireChannel, zG, zN, zT, zV, zHs, zQ, zR, zP, h1, h2, sp0, sx, fX12_speaker, rsp0 M0_n, rsp0 (M4_n _), up2_at, gd]
theorem f0_lineLength (a : Int32) : ∃ r, fC_lineLength z00 M0 a = some r := by
  rcases chan a with ⟨h1, h2⟩ | ⟨h1, h2⟩ <;> simp [fC_lineLength, fL_lineLength, fX11_lineLength, fX11_requireChannel, zG, zN, zT, zV, zHs, zQ, zR, zP, h1, h2, wo0, sx, fX12_lineLength, rlo0 (M4_n _), up2_at, gd]
theorem f0_waiting (a b : Int32) : ∃ r, fC_waiting z00 M0 a b = some r := by
  rcases chan a with ⟨h1, h2⟩ | ⟨h1, h2⟩ <;> simp [fC_waiting, fL_waiting, fX11_waiting, fX11_requireChannel, zG, zN, zT, zV, zHs, zQ, zR, zP, h1, h2, sil0, sx, fX12_waiting, ril0 M0_n, ril0 (M4_n _), up2_at, gd]
theorem f0_jams : ∃ r, fC_jams z00 M0 = some r := by
  simp [fC_jams, fX11_jams, zG, zN, zT, zV, zHs, zQ, zR, zP, jos0, fX12_jams, rpa0 M0_n, fX12_plain, gd]
theorem f0_jamsByChannels : ∃ r, fC_jamsByChannels z00 M0 = some r := by
  simp [fC_jamsByChannels, fX11_jamsByChannels, zG, zN, zT, zV, zHs, zQ, zR, zP, joc0, fX12_jamsByChannels, rpa0 M0_n, fX12_plain, gd]
theorem f0_logLength : ∃ r, fC_logLength z00 M0 = some r := by
  have h1 : N0 11 3 = 0 := rfl
  have h2 : M0 1 4 = 0 := rfl
  simp [fC_logLength, fX11_logLength, zG, zN, zT, zV, zHs, zQ, zR, zP, h1, h2, fX12_logLength, fX12_plain, gd]
theorem f0_time : ∃ r, fC_time z00 M0 = some r := by
  have h1 : N0 0 5 = 0 := rfl
  have h2 : M0 1 1 = 0 := rfl
  simp [fC_time, fX11_time, zG, zN, zT, zV, zHs, zQ, zR, zP, h1, h2, fX12_time, fX12_plain, gd]
theorem f0_turnLimit : ∃ r, fC_turnLimit z00 M0 = some r := by
  have h1 : N0 0 6 = 10 := rfl
  have h2 : M0 1 2 = 10 := rfl
  simp [fC_turnLimit, fX11_turnLimit, zG, zN, zT, zV, zHs, zQ, zR, zP, h1, h2, fX12_turnLimit, fX12_plain, gd]
theorem f0_isConsistent : ∃ r, fC_isConsistent z00 M0 = some r := by
  simp [fC_isConsistent, fX11_isConsistent, zG, zN, zT, zV, zHs, zQ, zR, zP, ha0, jos0, joc0, ta0, cao0, fX12_isConsistent, fX12_plain, gd, isZ]
theorem in0 (a : Int32) : fX12_in a 0 (0 - 1) = some 0 := by
  unfold fX12_in
  by_cases c : a < 0
  · rw [if_pos c]
  · rw [if_neg c]
    have c2 : (0 : Int32) - 1 < a := by
      rw [Int32.lt_iff_toInt_lt] at c ⊢
      have e : ((0 : Int32) - 1).toInt = -1 := by decide
      rw [e]
      rw [Int32.toInt_zero] at c
      omega
    rw [if_pos c2]
theorem ent0 (G : Mem) (a : Int32) : fX11_requireEntry G N0 a = some (.inl 0) := by
  unfold fX11_requireEntry
  have h1 : N0 11 3 = 0 := rfl
  rw [h1]
  by_cases c : a < 0
  · rw [if_pos c]
  · rw [if_neg c, if_neg c]
theorem lg0 (a b : Int32) : fX12_logged M0 a b = some (0, up2 M0 0 4 1) := by
  unfold fX12_logged
  have h2 : M0 1 4 = 0 := rfl
  rw [h2, in0]
  simp [up2_at]

theorem f0_logStation (a : Int32) : ∃ r, fC_logStation z00 M0 a = some r := by
  simp [fC_logStation, fL_logStation, fX11_logStation, zG, zN, zT, zV, zHs, zQ, zR, zP, ent0, sx, fX12_logStation, lg0, up2_at, gd]
theorem f0_logBegin (a : Int32) : ∃ r, fC_logBegin z00 M0 a = some r := by
  simp [fC_logBegin, fL_logBegin, fX11_logBegin, zG, zN, zT, zV, zHs, zQ, zR, zP, ent0, sx, fX12_logBegin, lg0, up2_at, gd]
theorem f0_logMinutes (a : Int32) : ∃ r, fC_logMinutes z00 M0 a = some r := by
  simp [fC_logMinutes, fL_logMinutes, fX11_logMinutes, zG, zN, zT, zV, zHs, zQ, zR, zP, ent0, sx, fX12_logMinutes, lg0, up2_at, gd]
theorem f0_meanPower : ∃ r, fC_meanPower z00 M0 = some r := by
  simp [fC_meanPower, fL_meanPower, fX11_meanPower, zG, zN, zT, zV, zHs, zQ, zR, zP, N0_n, sx, fX12_meanPower, M0_n, up2_at, gd]
theorem f0_airtime : ∃ r, fC_airtime z00 M0 = some r := by
  have h1 : N0 0 5 = 0 := rfl
  have h2 : M0 1 1 = 0 := rfl
  simp [fC_airtime, fL_airtime, fX11_airtime, zG, zN, zT, zV, zHs, zQ, zR, zP, h1, h2, sx, fX12_airtime, up2_at, gd]
theorem f0_errorPosition : ∃ r, fC_errorPosition z00 M0 = some r := by
  have h1 : G0 0 8 = -1 := rfl
  have h2 : M0 0 6 = -1 := rfl
  simp [fC_errorPosition, fL_errorPosition, fX11_errorPosition, zG, zN, zT, zV, zHs, zQ, zR, zP, h1, h2, sx, fX12_errorPosition, fX12_present, up2_at, gd]
theorem f0_failedCommand : ∃ r, fC_failedCommand z00 M0 = some r := by
  have h1 : G0 0 9 = -1 := rfl
  have h2 : M0 0 7 = -1 := rfl
  simp [fC_failedCommand, fL_failedCommand, fX11_failedCommand, zG, zN, zT, zV, zHs, zQ, zR, zP, h1, h2, sx, fX12_failedCommand, fX12_present, up2_at, gd]
theorem f0_undo : ∃ r, fC_undo z00 M0 = some r := by
  have h2 : M0 0 5 = 0 := rfl
  simp [fC_undo, fL_undo, fX11_undo, zG, zN, zT, zV, zHs, zQ, zR, zP, h2, sx, fX12_undo, up2_at, gd]
theorem f0_restore : ∃ r, fC_restore z00 M0 = some r := by
  have h1 : G0 0 3 = 0 := rfl
  have h2 : M0 0 8 = 0 := rfl
  simp [fC_restore, fL_restore, fX11_restore, zG, zN, zT, zV, zHs, zQ, zR, zP, h1, h2, sx, fX12_restore, up2_at, gd]

