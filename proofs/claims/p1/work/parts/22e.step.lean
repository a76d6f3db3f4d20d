/-! ===== a step of the law ===== -/
noncomputable def fl_step (z : KS) (M : Mem) (p0 p1 p2 p3 p4 p5 p6 : Int32) : Option (KS × Mem) := (if p0 &&& 63 = 0 then fC_addStation z M p1 p2 p3 p4 p5 p6 else (if p0 &&& 63 = 1 then fC_move z M p1 p2 p3 else (if p0 &&& 63 = 2 then fC_setPower z M p1 p2 else (if p0 &&& 63 = 3 then fC_tune z M p1 p2 else (if p0 &&& 63 = 4 then fC_request z M p1 else (if p0 &&& 63 = 5 then fC_release z M p1 else (if p0 &&& 63 = 6 then fC_cancel z M p1 else (if p0 &&& 63 = 7 then fC_setTurnLimit z M p1 else (if p0 &&& 63 = 8 then fC_pass z M p1 else (if p0 &&& 63 = 9 then fC_stations z M else (if p0 &&& 63 = 10 then fC_find z M p1 p2 else (if p0 &&& 63 = 11 then fC_letter z M p1 else (if p0 &&& 63 = 12 then fC_digit z M p1 else (if p0 &&& 63 = 13 then fC_channel z M p1 else (if p0 &&& 63 = 14 then fC_power z M p1 else (if p0 &&& 63 = 15 then fC_isSpeaking z M p1 else (if p0 &&& 63 = 16 then fC_isWaiting z M p1 else (if p0 &&& 63 = 17 then fC_minutesSpoken z M p1 else (if p0 &&& 63 = 18 then fC_minutesReceived z M p1 else (if p0 &&& 63 = 19 then fC_stationByMinutes z M p1 else (if p0 &&& 63 = 20 then fC_speaker z M p1 else (if p0 &&& 63 = 21 then fC_lineLength z M p1 else (if p0 &&& 63 = 22 then fC_waiting z M p1 p2 else (if p0 &&& 63 = 23 then fC_minutesUntilTurn z M p1 else (if p0 &&& 63 = 24 then fC_minutesUntilTurnBySimulation z M p1 else (if p0 &&& 63 = 25 then fC_canHear z M p1 p2 else (if p0 &&& 63 = 26 then fC_isJammed z M p1 else (if p0 &&& 63 = 27 then fC_jams z M else (if p0 &&& 63 = 28 then fC_jamsByChannels z M else (if p0 &&& 63 = 29 then fC_hops z M p1 p2 else (if p0 &&& 63 = 30 then fC_hopsBySets z M p1 p2 else (if p0 &&& 63 = 31 then fC_reachable z M p1 else (if p0 &&& 63 = 32 then fC_logLength z M else (if p0 &&& 63 = 33 then fC_logStation z M p1 else (if p0 &&& 63 = 34 then fC_logBegin z M p1 else (if p0 &&& 63 = 35 then fC_logMinutes z M p1 else (if p0 &&& 63 = 36 then fC_time z M else (if p0 &&& 63 = 37 then fC_turnLimit z M else (if p0 &&& 63 = 38 then fC_meanPower z M else (if p0 &&& 63 = 39 then fC_airtime z M else (if p0 &&& 63 = 40 then fC_isConsistent z M else (if p0 &&& 63 = 41 then fC_writeStation z M p1 else (if p0 &&& 63 = 42 then fC_writeChannel z M p1 else (if p0 &&& 63 = 43 then fC_charAt z M p1 else (if p0 &&& 63 = 44 then fC_type z M p1 else (if p0 &&& 63 = 45 then fC_run z M else (if p0 &&& 63 = 46 then fC_errorPosition z M else (if p0 &&& 63 = 47 then fC_failedCommand z M else (if p0 &&& 63 = 48 then fC_undo z M else (if p0 &&& 63 = 49 then fC_save z M else (if p0 &&& 63 = 50 then fC_restore z M else some (z, M))))))))))))))))))))))))))))))))))))))))))))))))))))
set_option maxHeartbeats 4000000 in
set_option maxRecDepth 100000 in
theorem law_step {p : Program} {l : Launch} {e : Env} {s : State} {m : MethodId} {below : List Frame} {meth : Method} {c : Code} {E : EP} {b L B : Nat} {xs : Nat → Int32} {Q : State → Prop} (X : LC p l e s m meth c E b L B xs) {j : Nat} (hj : 7 * j + 7 ≤ L) {z : KS} {M : Mem} {r : KS × Mem} (hf : fl_step z M (xs (7 * j)) (xs (7 * j + 1)) (xs (7 * j + 2)) (xs (7 * j + 3)) (xs (7 * j + 4)) (xs (7 * j + 5)) (xs (7 * j + 6)) = some r) {H : Heap} {locs : List Loc} {ls : Array Slot} {cs sl : Nat} (hcs : cs + 40 ≤ 600006) (hsl : sl + 1000 ≤ 7302096) (hC : CW E B z H) (hM : Blk E (B + 202) modSh 10 M H) (hS : va_S (fun q => B ≤ q) s.heap H locs) (hl : lv_has ls 9 (lawL b B j)) (kk : LK p l e s m below meth c E b B Q j (cs + 40) (sl + 1000) r) : W p l e room_1 s m #[Value.ref b] below meth c H locs cs sl Q (F0 m 38 ls []) := by
  have X0 := X
  obtain ⟨hx, hb, hml, hown, hw, hE, htr, hX, hbl, hbB, hL3⟩ := X
  unfold fl_step at hf
  refine lv_aload_n hx hb dL_law_38 rfl (lv_at hl 1 rfl) ?_
  refine lv_iload hx hb dL_law_39 (lv_at hl 0 rfl) ?_
  refine sc_ld0 hx hb hX hbl hbB hS hj hL3 dL_law_41 ?_
  refine lv_bipush (v := 63) hx hb dL_law_42 (by decide) ?_
  refine lv_iand hx hb dL_law_44 ?_
  by_cases c0 : xs (7 * j) &&& 63 = 0
  · rw [if_pos c0] at hf
    refine lv_tableIn (off := 219) (tgt := 264) hx hb dL_law_45 (by rw [c0]; decide) (by rw [c0]; decide) (by rw [c0]; rfl) (by decide) ?_
    exact lawC_addStation X0 hj hf hcs hsl hC hM hS hl kk
  rw [if_neg c0] at hf
  by_cases c1 : xs (7 * j) &&& 63 = 1
  · rw [if_pos c1] at hf
    refine lv_tableIn (off := 339) (tgt := 384) hx hb dL_law_45 (by rw [c1]; decide) (by rw [c1]; decide) (by rw [c1]; rfl) (by decide) ?_
    exact lawC_move X0 hj hf hcs hsl hC hM hS hl kk
  rw [if_neg c1] at hf
  by_cases c2 : xs (7 * j) &&& 63 = 2
  · rw [if_pos c2] at hf
    refine lv_tableIn (off := 419) (tgt := 464) hx hb dL_law_45 (by rw [c2]; decide) (by rw [c2]; decide) (by rw [c2]; rfl) (by decide) ?_
    exact lawC_setPower X0 hj hf hcs hsl hC hM hS hl kk
  rw [if_neg c2] at hf
  by_cases c3 : xs (7 * j) &&& 63 = 3
  · rw [if_pos c3] at hf
    refine lv_tableIn (off := 487) (tgt := 532) hx hb dL_law_45 (by rw [c3]; decide) (by rw [c3]; decide) (by rw [c3]; rfl) (by decide) ?_
    exact lawC_tune X0 hj hf hcs hsl hC hM hS hl kk
  rw [if_neg c3] at hf
  by_cases c4 : xs (7 * j) &&& 63 = 4
  · rw [if_pos c4] at hf
    refine lv_tableIn (off := 555) (tgt := 600) hx hb dL_law_45 (by rw [c4]; decide) (by rw [c4]; decide) (by rw [c4]; rfl) (by decide) ?_
    exact lawC_request X0 hj hf hcs hsl hC hM hS hl kk
  rw [if_neg c4] at hf
  by_cases c5 : xs (7 * j) &&& 63 = 5
  · rw [if_pos c5] at hf
    refine lv_tableIn (off := 611) (tgt := 656) hx hb dL_law_45 (by rw [c5]; decide) (by rw [c5]; decide) (by rw [c5]; rfl) (by decide) ?_
    exact lawC_release X0 hj hf hcs hsl hC hM hS hl kk
  rw [if_neg c5] at hf
  by_cases c6 : xs (7 * j) &&& 63 = 6
  · rw [if_pos c6] at hf
    refine lv_tableIn (off := 667) (tgt := 712) hx hb dL_law_45 (by rw [c6]; decide) (by rw [c6]; decide) (by rw [c6]; rfl) (by decide) ?_
    exact lawC_cancel X0 hj hf hcs hsl hC hM hS hl kk
  rw [if_neg c6] at hf
  by_cases c7 : xs (7 * j) &&& 63 = 7
  · rw [if_pos c7] at hf
    refine lv_tableIn (off := 723) (tgt := 768) hx hb dL_law_45 (by rw [c7]; decide) (by rw [c7]; decide) (by rw [c7]; rfl) (by decide) ?_
    exact lawC_setTurnLimit X0 hj hf hcs hsl hC hM hS hl kk
  rw [if_neg c7] at hf
  by_cases c8 : xs (7 * j) &&& 63 = 8
  · rw [if_pos c8] at hf
    refine lv_tableIn (off := 779) (tgt := 824) hx hb dL_law_45 (by rw [c8]; decide) (by rw [c8]; decide) (by rw [c8]; rfl) (by decide) ?_
    exact lawC_pass X0 hj hf hcs hsl hC hM hS hl kk
  rw [if_neg c8] at hf
  by_cases c9 : xs (7 * j) &&& 63 = 9
  · rw [if_pos c9] at hf
    refine lv_tableIn (off := 835) (tgt := 880) hx hb dL_law_45 (by rw [c9]; decide) (by rw [c9]; decide) (by rw [c9]; rfl) (by decide) ?_
    exact lawC_stations X0 hj hf hcs hsl hC hM hS hl kk
  rw [if_neg c9] at hf
  by_cases c10 : xs (7 * j) &&& 63 = 10
  · rw [if_pos c10] at hf
    refine lv_tableIn (off := 848) (tgt := 893) hx hb dL_law_45 (by rw [c10]; decide) (by rw [c10]; decide) (by rw [c10]; rfl) (by decide) ?_
    exact lawC_find X0 hj hf hcs hsl hC hM hS hl kk
  rw [if_neg c10] at hf
  by_cases c11 : xs (7 * j) &&& 63 = 11
  · rw [if_pos c11] at hf
    refine lv_tableIn (off := 918) (tgt := 963) hx hb dL_law_45 (by rw [c11]; decide) (by rw [c11]; decide) (by rw [c11]; rfl) (by decide) ?_
    exact lawC_letter X0 hj hf hcs hsl hC hM hS hl kk
  rw [if_neg c11] at hf
  by_cases c12 : xs (7 * j) &&& 63 = 12
  · rw [if_pos c12] at hf
    refine lv_tableIn (off := 974) (tgt := 1019) hx hb dL_law_45 (by rw [c12]; decide) (by rw [c12]; decide) (by rw [c12]; rfl) (by decide) ?_
    exact lawC_digit X0 hj hf hcs hsl hC hM hS hl kk
  rw [if_neg c12] at hf
  by_cases c13 : xs (7 * j) &&& 63 = 13
  · rw [if_pos c13] at hf
    refine lv_tableIn (off := 1030) (tgt := 1075) hx hb dL_law_45 (by rw [c13]; decide) (by rw [c13]; decide) (by rw [c13]; rfl) (by decide) ?_
    exact lawC_channel X0 hj hf hcs hsl hC hM hS hl kk
  rw [if_neg c13] at hf
  by_cases c14 : xs (7 * j) &&& 63 = 14
  · rw [if_pos c14] at hf
    refine lv_tableIn (off := 1086) (tgt := 1131) hx hb dL_law_45 (by rw [c14]; decide) (by rw [c14]; decide) (by rw [c14]; rfl) (by decide) ?_
    exact lawC_power X0 hj hf hcs hsl hC hM hS hl kk
  rw [if_neg c14] at hf
  by_cases c15 : xs (7 * j) &&& 63 = 15
  · rw [if_pos c15] at hf
    refine lv_tableIn (off := 1142) (tgt := 1187) hx hb dL_law_45 (by rw [c15]; decide) (by rw [c15]; decide) (by rw [c15]; rfl) (by decide) ?_
    exact lawC_isSpeaking X0 hj hf hcs hsl hC hM hS hl kk
  rw [if_neg c15] at hf
  by_cases c16 : xs (7 * j) &&& 63 = 16
  · rw [if_pos c16] at hf
    refine lv_tableIn (off := 1205) (tgt := 1250) hx hb dL_law_45 (by rw [c16]; decide) (by rw [c16]; decide) (by rw [c16]; rfl) (by decide) ?_
    exact lawC_isWaiting X0 hj hf hcs hsl hC hM hS hl kk
  rw [if_neg c16] at hf
  by_cases c17 : xs (7 * j) &&& 63 = 17
  · rw [if_pos c17] at hf
    refine lv_tableIn (off := 1268) (tgt := 1313) hx hb dL_law_45 (by rw [c17]; decide) (by rw [c17]; decide) (by rw [c17]; rfl) (by decide) ?_
    exact lawC_minutesSpoken X0 hj hf hcs hsl hC hM hS hl kk
  rw [if_neg c17] at hf
  by_cases c18 : xs (7 * j) &&& 63 = 18
  · rw [if_pos c18] at hf
    refine lv_tableIn (off := 1324) (tgt := 1369) hx hb dL_law_45 (by rw [c18]; decide) (by rw [c18]; decide) (by rw [c18]; rfl) (by decide) ?_
    exact lawC_minutesReceived X0 hj hf hcs hsl hC hM hS hl kk
  rw [if_neg c18] at hf
  by_cases c19 : xs (7 * j) &&& 63 = 19
  · rw [if_pos c19] at hf
    refine lv_tableIn (off := 1380) (tgt := 1425) hx hb dL_law_45 (by rw [c19]; decide) (by rw [c19]; decide) (by rw [c19]; rfl) (by decide) ?_
    exact lawC_stationByMinutes X0 hj hf hcs hsl hC hM hS hl kk
  rw [if_neg c19] at hf
  by_cases c20 : xs (7 * j) &&& 63 = 20
  · rw [if_pos c20] at hf
    refine lv_tableIn (off := 1436) (tgt := 1481) hx hb dL_law_45 (by rw [c20]; decide) (by rw [c20]; decide) (by rw [c20]; rfl) (by decide) ?_
    exact lawC_speaker X0 hj hf hcs hsl hC hM hS hl kk
  rw [if_neg c20] at hf
  by_cases c21 : xs (7 * j) &&& 63 = 21
  · rw [if_pos c21] at hf
    refine lv_tableIn (off := 1492) (tgt := 1537) hx hb dL_law_45 (by rw [c21]; decide) (by rw [c21]; decide) (by rw [c21]; rfl) (by decide) ?_
    exact lawC_lineLength X0 hj hf hcs hsl hC hM hS hl kk
  rw [if_neg c21] at hf
  by_cases c22 : xs (7 * j) &&& 63 = 22
  · rw [if_pos c22] at hf
    refine lv_tableIn (off := 1548) (tgt := 1593) hx hb dL_law_45 (by rw [c22]; decide) (by rw [c22]; decide) (by rw [c22]; rfl) (by decide) ?_
    exact lawC_waiting X0 hj hf hcs hsl hC hM hS hl kk
  rw [if_neg c22] at hf
  by_cases c23 : xs (7 * j) &&& 63 = 23
  · rw [if_pos c23] at hf
    refine lv_tableIn (off := 1616) (tgt := 1661) hx hb dL_law_45 (by rw [c23]; decide) (by rw [c23]; decide) (by rw [c23]; rfl) (by decide) ?_
    exact lawC_minutesUntilTurn X0 hj hf hcs hsl hC hM hS hl kk
  rw [if_neg c23] at hf
  by_cases c24 : xs (7 * j) &&& 63 = 24
  · rw [if_pos c24] at hf
    refine lv_tableIn (off := 1672) (tgt := 1717) hx hb dL_law_45 (by rw [c24]; decide) (by rw [c24]; decide) (by rw [c24]; rfl) (by decide) ?_
    exact lawC_minutesUntilTurnBySimulation X0 hj hf hcs hsl hC hM hS hl kk
  rw [if_neg c24] at hf
  by_cases c25 : xs (7 * j) &&& 63 = 25
  · rw [if_pos c25] at hf
    refine lv_tableIn (off := 1728) (tgt := 1773) hx hb dL_law_45 (by rw [c25]; decide) (by rw [c25]; decide) (by rw [c25]; rfl) (by decide) ?_
    exact lawC_canHear X0 hj hf hcs hsl hC hM hS hl kk
  rw [if_neg c25] at hf
  by_cases c26 : xs (7 * j) &&& 63 = 26
  · rw [if_pos c26] at hf
    refine lv_tableIn (off := 1803) (tgt := 1848) hx hb dL_law_45 (by rw [c26]; decide) (by rw [c26]; decide) (by rw [c26]; rfl) (by decide) ?_
    exact lawC_isJammed X0 hj hf hcs hsl hC hM hS hl kk
  rw [if_neg c26] at hf
  by_cases c27 : xs (7 * j) &&& 63 = 27
  · rw [if_pos c27] at hf
    refine lv_tableIn (off := 1866) (tgt := 1911) hx hb dL_law_45 (by rw [c27]; decide) (by rw [c27]; decide) (by rw [c27]; rfl) (by decide) ?_
    exact lawC_jams X0 hj hf hcs hsl hC hM hS hl kk
  rw [if_neg c27] at hf
  by_cases c28 : xs (7 * j) &&& 63 = 28
  · rw [if_pos c28] at hf
    refine lv_tableIn (off := 1879) (tgt := 1924) hx hb dL_law_45 (by rw [c28]; decide) (by rw [c28]; decide) (by rw [c28]; rfl) (by decide) ?_
    exact lawC_jamsByChannels X0 hj hf hcs hsl hC hM hS hl kk
  rw [if_neg c28] at hf
  by_cases c29 : xs (7 * j) &&& 63 = 29
  · rw [if_pos c29] at hf
    refine lv_tableIn (off := 1892) (tgt := 1937) hx hb dL_law_45 (by rw [c29]; decide) (by rw [c29]; decide) (by rw [c29]; rfl) (by decide) ?_
    exact lawC_hops X0 hj hf hcs hsl hC hM hS hl kk
  rw [if_neg c29] at hf
  by_cases c30 : xs (7 * j) &&& 63 = 30
  · rw [if_pos c30] at hf
    refine lv_tableIn (off := 1960) (tgt := 2005) hx hb dL_law_45 (by rw [c30]; decide) (by rw [c30]; decide) (by rw [c30]; rfl) (by decide) ?_
    exact lawC_hopsBySets X0 hj hf hcs hsl hC hM hS hl kk
  rw [if_neg c30] at hf
  by_cases c31 : xs (7 * j) &&& 63 = 31
  · rw [if_pos c31] at hf
    refine lv_tableIn (off := 2028) (tgt := 2073) hx hb dL_law_45 (by rw [c31]; decide) (by rw [c31]; decide) (by rw [c31]; rfl) (by decide) ?_
    exact lawC_reachable X0 hj hf hcs hsl hC hM hS hl kk
  rw [if_neg c31] at hf
  by_cases c32 : xs (7 * j) &&& 63 = 32
  · rw [if_pos c32] at hf
    refine lv_tableIn (off := 2084) (tgt := 2129) hx hb dL_law_45 (by rw [c32]; decide) (by rw [c32]; decide) (by rw [c32]; rfl) (by decide) ?_
    exact lawC_logLength X0 hj hf hcs hsl hC hM hS hl kk
  rw [if_neg c32] at hf
  by_cases c33 : xs (7 * j) &&& 63 = 33
  · rw [if_pos c33] at hf
    refine lv_tableIn (off := 2097) (tgt := 2142) hx hb dL_law_45 (by rw [c33]; decide) (by rw [c33]; decide) (by rw [c33]; rfl) (by decide) ?_
    exact lawC_logStation X0 hj hf hcs hsl hC hM hS hl kk
  rw [if_neg c33] at hf
  by_cases c34 : xs (7 * j) &&& 63 = 34
  · rw [if_pos c34] at hf
    refine lv_tableIn (off := 2153) (tgt := 2198) hx hb dL_law_45 (by rw [c34]; decide) (by rw [c34]; decide) (by rw [c34]; rfl) (by decide) ?_
    exact lawC_logBegin X0 hj hf hcs hsl hC hM hS hl kk
  rw [if_neg c34] at hf
  by_cases c35 : xs (7 * j) &&& 63 = 35
  · rw [if_pos c35] at hf
    refine lv_tableIn (off := 2209) (tgt := 2254) hx hb dL_law_45 (by rw [c35]; decide) (by rw [c35]; decide) (by rw [c35]; rfl) (by decide) ?_
    exact lawC_logMinutes X0 hj hf hcs hsl hC hM hS hl kk
  rw [if_neg c35] at hf
  by_cases c36 : xs (7 * j) &&& 63 = 36
  · rw [if_pos c36] at hf
    refine lv_tableIn (off := 2265) (tgt := 2310) hx hb dL_law_45 (by rw [c36]; decide) (by rw [c36]; decide) (by rw [c36]; rfl) (by decide) ?_
    exact lawC_time X0 hj hf hcs hsl hC hM hS hl kk
  rw [if_neg c36] at hf
  by_cases c37 : xs (7 * j) &&& 63 = 37
  · rw [if_pos c37] at hf
    refine lv_tableIn (off := 2278) (tgt := 2323) hx hb dL_law_45 (by rw [c37]; decide) (by rw [c37]; decide) (by rw [c37]; rfl) (by decide) ?_
    exact lawC_turnLimit X0 hj hf hcs hsl hC hM hS hl kk
  rw [if_neg c37] at hf
  by_cases c38 : xs (7 * j) &&& 63 = 38
  · rw [if_pos c38] at hf
    refine lv_tableIn (off := 2291) (tgt := 2336) hx hb dL_law_45 (by rw [c38]; decide) (by rw [c38]; decide) (by rw [c38]; rfl) (by decide) ?_
    exact lawC_meanPower X0 hj hf hcs hsl hC hM hS hl kk
  rw [if_neg c38] at hf
  by_cases c39 : xs (7 * j) &&& 63 = 39
  · rw [if_pos c39] at hf
    refine lv_tableIn (off := 2356) (tgt := 2401) hx hb dL_law_45 (by rw [c39]; decide) (by rw [c39]; decide) (by rw [c39]; rfl) (by decide) ?_
    exact lawC_airtime X0 hj hf hcs hsl hC hM hS hl kk
  rw [if_neg c39] at hf
  by_cases c40 : xs (7 * j) &&& 63 = 40
  · rw [if_pos c40] at hf
    refine lv_tableIn (off := 2422) (tgt := 2467) hx hb dL_law_45 (by rw [c40]; decide) (by rw [c40]; decide) (by rw [c40]; rfl) (by decide) ?_
    exact lawC_isConsistent X0 hj hf hcs hsl hC hM hS hl kk
  rw [if_neg c40] at hf
  by_cases c41 : xs (7 * j) &&& 63 = 41
  · rw [if_pos c41] at hf
    refine lv_tableIn (off := 2435) (tgt := 2480) hx hb dL_law_45 (by rw [c41]; decide) (by rw [c41]; decide) (by rw [c41]; rfl) (by decide) ?_
    exact lawC_writeStation X0 hj hf hcs hsl hC hM hS hl kk
  rw [if_neg c41] at hf
  by_cases c42 : xs (7 * j) &&& 63 = 42
  · rw [if_pos c42] at hf
    refine lv_tableIn (off := 2491) (tgt := 2536) hx hb dL_law_45 (by rw [c42]; decide) (by rw [c42]; decide) (by rw [c42]; rfl) (by decide) ?_
    exact lawC_writeChannel X0 hj hf hcs hsl hC hM hS hl kk
  rw [if_neg c42] at hf
  by_cases c43 : xs (7 * j) &&& 63 = 43
  · rw [if_pos c43] at hf
    refine lv_tableIn (off := 2547) (tgt := 2592) hx hb dL_law_45 (by rw [c43]; decide) (by rw [c43]; decide) (by rw [c43]; rfl) (by decide) ?_
    exact lawC_charAt X0 hj hf hcs hsl hC hM hS hl kk
  rw [if_neg c43] at hf
  by_cases c44 : xs (7 * j) &&& 63 = 44
  · rw [if_pos c44] at hf
    refine lv_tableIn (off := 2603) (tgt := 2648) hx hb dL_law_45 (by rw [c44]; decide) (by rw [c44]; decide) (by rw [c44]; rfl) (by decide) ?_
    exact lawC_type X0 hj hf hcs hsl hC hM hS hl kk
  rw [if_neg c44] at hf
  by_cases c45 : xs (7 * j) &&& 63 = 45
  · rw [if_pos c45] at hf
    refine lv_tableIn (off := 2661) (tgt := 2706) hx hb dL_law_45 (by rw [c45]; decide) (by rw [c45]; decide) (by rw [c45]; rfl) (by decide) ?_
    exact lawC_run X0 hj hf hcs hsl hC hM hS hl kk
  rw [if_neg c45] at hf
  by_cases c46 : xs (7 * j) &&& 63 = 46
  · rw [if_pos c46] at hf
    refine lv_tableIn (off := 2705) (tgt := 2750) hx hb dL_law_45 (by rw [c46]; decide) (by rw [c46]; decide) (by rw [c46]; rfl) (by decide) ?_
    exact lawC_errorPosition X0 hj hf hcs hsl hC hM hS hl kk
  rw [if_neg c46] at hf
  by_cases c47 : xs (7 * j) &&& 63 = 47
  · rw [if_pos c47] at hf
    refine lv_tableIn (off := 2749) (tgt := 2794) hx hb dL_law_45 (by rw [c47]; decide) (by rw [c47]; decide) (by rw [c47]; rfl) (by decide) ?_
    exact lawC_failedCommand X0 hj hf hcs hsl hC hM hS hl kk
  rw [if_neg c47] at hf
  by_cases c48 : xs (7 * j) &&& 63 = 48
  · rw [if_pos c48] at hf
    refine lv_tableIn (off := 2793) (tgt := 2838) hx hb dL_law_45 (by rw [c48]; decide) (by rw [c48]; decide) (by rw [c48]; rfl) (by decide) ?_
    exact lawC_undo X0 hj hf hcs hsl hC hM hS hl kk
  rw [if_neg c48] at hf
  by_cases c49 : xs (7 * j) &&& 63 = 49
  · rw [if_pos c49] at hf
    refine lv_tableIn (off := 2837) (tgt := 2882) hx hb dL_law_45 (by rw [c49]; decide) (by rw [c49]; decide) (by rw [c49]; rfl) (by decide) ?_
    exact lawC_save X0 hj hf hcs hsl hC hM hS hl kk
  rw [if_neg c49] at hf
  by_cases c50 : xs (7 * j) &&& 63 = 50
  · rw [if_pos c50] at hf
    refine lv_tableIn (off := 2850) (tgt := 2895) hx hb dL_law_45 (by rw [c50]; decide) (by rw [c50]; decide) (by rw [c50]; rfl) (by decide) ?_
    exact lawC_restore X0 hj hf hcs hsl hC hM hS hl kk
  rw [if_neg c50] at hf
  have hre := Option.some.inj hf
  subst hre
  refine lv_tableOut (tgt := 2939) hx hb dL_law_45 (by have q0 := i32ne (k := 0) c0 (by decide); have q1 := i32ne (k := 1) c1 (by decide); have q2 := i32ne (k := 2) c2 (by decide); have q3 := i32ne (k := 3) c3 (by decide); have q4 := i32ne (k := 4) c4 (by decide); have q5 := i32ne (k := 5) c5 (by decide); have q6 := i32ne (k := 6) c6 (by decide); have q7 := i32ne (k := 7) c7 (by decide); have q8 := i32ne (k := 8) c8 (by decide); have q9 := i32ne (k := 9) c9 (by decide); have q10 := i32ne (k := 10) c10 (by decide); have q11 := i32ne (k := 11) c11 (by decide); have q12 := i32ne (k := 12) c12 (by decide); have q13 := i32ne (k := 13) c13 (by decide); have q14 := i32ne (k := 14) c14 (by decide); have q15 := i32ne (k := 15) c15 (by decide); have q16 := i32ne (k := 16) c16 (by decide); have q17 := i32ne (k := 17) c17 (by decide); have q18 := i32ne (k := 18) c18 (by decide); have q19 := i32ne (k := 19) c19 (by decide); have q20 := i32ne (k := 20) c20 (by decide); have q21 := i32ne (k := 21) c21 (by decide); have q22 := i32ne (k := 22) c22 (by decide); have q23 := i32ne (k := 23) c23 (by decide); have q24 := i32ne (k := 24) c24 (by decide); have q25 := i32ne (k := 25) c25 (by decide); have q26 := i32ne (k := 26) c26 (by decide); have q27 := i32ne (k := 27) c27 (by decide); have q28 := i32ne (k := 28) c28 (by decide); have q29 := i32ne (k := 29) c29 (by decide); have q30 := i32ne (k := 30) c30 (by decide); have q31 := i32ne (k := 31) c31 (by decide); have q32 := i32ne (k := 32) c32 (by decide); have q33 := i32ne (k := 33) c33 (by decide); have q34 := i32ne (k := 34) c34 (by decide); have q35 := i32ne (k := 35) c35 (by decide); have q36 := i32ne (k := 36) c36 (by decide); have q37 := i32ne (k := 37) c37 (by decide); have q38 := i32ne (k := 38) c38 (by decide); have q39 := i32ne (k := 39) c39 (by decide); have q40 := i32ne (k := 40) c40 (by decide); have q41 := i32ne (k := 41) c41 (by decide); have q42 := i32ne (k := 42) c42 (by decide); have q43 := i32ne (k := 43) c43 (by decide); have q44 := i32ne (k := 44) c44 (by decide); have q45 := i32ne (k := 45) c45 (by decide); have q46 := i32ne (k := 46) c46 (by decide); have q47 := i32ne (k := 47) c47 (by decide); have q48 := i32ne (k := 48) c48 (by decide); have q49 := i32ne (k := 49) c49 (by decide); have q50 := i32ne (k := 50) c50 (by decide); omega) (by decide) ?_
  exact W.widen (k := cs + 40) (n := sl + 1000) (by omega) (by omega) (kk _ _ _ hC hM hS hl)
/-- the law over a script, from its j-th call on, k calls -/
noncomputable def fl_run (xs : Nat → Int32) : Nat → Nat → KS → Mem → Option (KS × Mem)
  | 0, _, z, M => some (z, M)
  | k + 1, j, z, M => (fl_step z M (xs (7 * j)) (xs (7 * j + 1)) (xs (7 * j + 2)) (xs (7 * j + 3)) (xs (7 * j + 4)) (xs (7 * j + 5)) (xs (7 * j + 6))).bind fun r => fl_run xs k (j + 1) r.1 r.2
theorem law_nx (j : Nat) : nI (7 * j) + 7 = nI (7 * (j + 1)) := by
  have h := nI_add (7 * j) 7
  exact h.trans (congrArg nI (by omega))
theorem law_sub {L : Nat} (hL : L ≤ 7) : (Int32.ofNat L - 7).toInt = (L : Int) - 7 := by
  have h1 : (Int32.ofNat L).toInt = (L : Int) := nI_toInt (n := L) (by omega)
  rw [Int32.toInt_sub, h1]
  show ((L : Int) - 7).bmod (2 ^ 32) = _
  rw [Int.bmod_eq_of_le (by omega) (by omega)]
theorem law_gt {L j : Nat} (hL : L ≤ 7) (h1 : 7 * j ≤ L) (h2 : L < 7 * j + 7) : Int32.ofNat L - 7 < nI (7 * j) := by
  rw [Int32.lt_iff_toInt_lt, law_sub hL, nI_toInt (by omega)]
  omega
theorem law_ng {L j : Nat} (hL : L ≤ 7) (h1 : 7 * j + 7 ≤ L) : ¬ Int32.ofNat L - 7 < nI (7 * j) := by
  rw [Int32.lt_iff_toInt_lt, law_sub hL, nI_toInt (by omega)]
  omega
set_option maxHeartbeats 4000000 in
theorem law_loop {p : Program} {l : Launch} {e : Env} {s : State} {m : MethodId} {below : List Frame} {meth : Method} {c : Code} {E : EP} {b L B : Nat} {xs : Nat → Int32} {Q : State → Prop} (X : LC p l e s m meth c E b L B xs)
    (fin : ∀ (H : Heap) (locs : List Loc) (ls : Array Slot), va_S (fun q => B ≤ q) s.heap H locs → W p l e room_1 s m #[Value.ref b] below meth c H locs 400 6500 Q (F0 m 2946 ls [.int 1])) :
    ∀ (k j : Nat) (z : KS) (M : Mem) (r : KS × Mem), 7 * (j + k) ≤ L → L < 7 * (j + k) + 7 → fl_run xs k j z M = some r → ∀ (H : Heap) (locs : List Loc) (ls : Array Slot), CW E B z H → Blk E (B + 202) modSh 10 M H → va_S (fun q => B ≤ q) s.heap H locs → lv_has ls 9 (lawL b B j) → W p l e room_1 s m #[Value.ref b] below meth c H locs (300 + 40 * j) (5000 + 1000 * j) Q (F0 m 28 ls []) := by
  have X0 := X
  obtain ⟨hx, hb, hml, hown, hw, hE, htr, hX, hbl, hbB, hL3⟩ := X
  have hnA : ¬ (fun q => B ≤ q) b := fun z => Nat.lt_irrefl _ (Nat.lt_of_lt_of_le hbB z)
  intro k
  induction k with
  | zero =>
    intro j z M r h1 h2 hf H locs ls hC hM hS hl
    refine lv_iload hx hb dL_law_28 (lv_at hl 0 rfl) ?_
    refine lv_aload_n hx hb dL_law_30 rfl (lv_at hl 1 rfl) ?_
    refine va_slen hx hb hX hbl hnA hS dL_law_31 ?_
    refine lv_bipush (v := 7) hx hb dL_law_32 (by decide) ?_
    refine lv_isub hx hb dL_law_34 ?_
    refine lv_icmp_gt (tgt := 2945) hx hb dL_law_35 (by decide) (fun _ => ?_) (fun c1 => ?_)
    · refine lv_iconst (v := 1) hx hb dL_law_2945 (by decide) ?_
      exact W.widen (k := 400) (n := 6500) (by omega) (by omega) (fin _ _ _ hS)
    · exact absurd (law_gt (by omega) (by omega) (by omega)) c1
  | succ k ih =>
    intro j z M r h1 h2 hf H locs ls hC hM hS hl
    unfold fl_run at hf
    obtain ⟨r1, hs, hf⟩ := br_some hf
    refine lv_iload hx hb dL_law_28 (lv_at hl 0 rfl) ?_
    refine lv_aload_n hx hb dL_law_30 rfl (lv_at hl 1 rfl) ?_
    refine va_slen hx hb hX hbl hnA hS dL_law_31 ?_
    refine lv_bipush (v := 7) hx hb dL_law_32 (by decide) ?_
    refine lv_isub hx hb dL_law_34 ?_
    refine lv_icmp_gt (tgt := 2945) hx hb dL_law_35 (by decide) (fun c1 => absurd c1 (law_ng (by omega) (by omega))) (fun _ => ?_)
    refine law_step X0 (j := j) (by omega) hs (cs := 300 + 40 * j) (sl := 5000 + 1000 * j) (by omega) (by omega) hC hM hS hl (fun H locs ls hC hM hS hl => ?_)
    refine lv_iinc (v := nI (7 * j) + 7) (lv' := lawL b B (j + 1)) hx hb dL_law_2939 hl (k := 0) rfl rfl (by decide) (by rw [show nI (7 * j) + 7 = nI (7 * (j + 1)) from (law_nx j)]; rfl) (fun ls hl => ?_)
    refine lv_goto (tgt := 28) hx hb dL_law_2942 (by decide) ?_
    refine W.widen (k := 300 + 40 * (j + 1)) (n := 5000 + 1000 * (j + 1)) (by omega) (by omega) ?_
    exact ih (j + 1) r1.1 r1.2 r (by omega) (by omega) hf H locs ls hC hM hS hl
