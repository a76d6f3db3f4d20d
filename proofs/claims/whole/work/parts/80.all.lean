/-! ===== every run of calls ===== -/
theorem SR.mono {z : KS} {M : Mem} {B B' : Nat} (h : SR z M B) (hB : B ≤ B') : SR z M B' := SRa.mono h hB
theorem SR0 : SR z00 M0 0 := by
  refine ⟨⟨0, 0, fun _ => 0, ⟨by omega, rfl, rfl⟩, fun i hi => by omega, ⟨rfl, 10, by omega, by omega, rfl, rfl⟩, fun i hi => ?_, ⟨fun i hi => by omega, fun i j hi => by omega, fun i hi => by omega⟩, fun i hi => by omega, ⟨by omega, rfl, fun j hj => by omega⟩, ⟨⟨fun j hj => by omega, fun i j hi => by omega⟩, fun i hi => by omega, fun i j _ hj => by omega⟩, ⟨0, by omega, rfl, fun j hj => by omega⟩, ⟨0, by omega, rfl, rfl, fun e he => by omega⟩⟩, ⟨0, 0, by omega, by omega, rfl, rfl, rfl, fun e he => by omega⟩, Or.inl ⟨rfl, rfl⟩, ⟨rfl, rfl⟩, ⟨0, by omega, rfl, rfl, fun i hi => by omega⟩, ⟨0, rfl, rfl, rfl, Or.inl rfl, by decide, fun i hi => by omega, ?_⟩⟩
  · have e : N0 (2 + i) 0 = 0 := if_neg (by omega)
    show isC (N0 (2 + i) 0) = true
    rw [e]
    decide +kernel
  · exact fitB_of (fun i _ => fit0)
theorem step_ok {z : KS} {M : Mem} {B : Nat} (h : SR z M B) (hB : B < 2 ^ 28) (p0 p1 p2 p3 p4 p5 p6 : Int32) : ok (fl_step z M p0 p1 p2 p3 p4 p5 p6) (fun r => SR r.1 r.2 (B + 13)) := by
  unfold fl_step
  refine ok_ite.mpr ⟨fun _ => ok_mono (q_addStation h (by omega) p1 p2 p3 p4 p5 p6) (fun r hr => hr.mono (by omega)), fun _ => ?_⟩
  refine ok_ite.mpr ⟨fun _ => ok_mono (q_move h (by omega) p1 p2 p3) (fun r hr => hr.mono (by omega)), fun _ => ?_⟩
  refine ok_ite.mpr ⟨fun _ => ok_mono (q_setPower h (by omega) p1 p2) (fun r hr => hr.mono (by omega)), fun _ => ?_⟩
  refine ok_ite.mpr ⟨fun _ => ok_mono (q_tune h (by omega) p1 p2) (fun r hr => hr.mono (by omega)), fun _ => ?_⟩
  refine ok_ite.mpr ⟨fun _ => ok_mono (q_request h (by omega) p1) (fun r hr => hr.mono (by omega)), fun _ => ?_⟩
  refine ok_ite.mpr ⟨fun _ => ok_mono (q_release h (by omega) p1) (fun r hr => hr.mono (by omega)), fun _ => ?_⟩
  refine ok_ite.mpr ⟨fun _ => ok_mono (q_cancel h (by omega) p1) (fun r hr => hr.mono (by omega)), fun _ => ?_⟩
  refine ok_ite.mpr ⟨fun _ => ok_mono (q_setTurnLimit h (by omega) p1) (fun r hr => hr.mono (by omega)), fun _ => ?_⟩
  refine ok_ite.mpr ⟨fun _ => ok_mono (q_pass h (by omega) p1) (fun r hr => hr.mono (by omega)), fun _ => ?_⟩
  refine ok_ite.mpr ⟨fun _ => ok_mono (q_stations h) (fun r hr => hr.mono (by omega)), fun _ => ?_⟩
  refine ok_ite.mpr ⟨fun _ => ok_mono (q_find h p1 p2) (fun r hr => hr.mono (by omega)), fun _ => ?_⟩
  refine ok_ite.mpr ⟨fun _ => ok_mono (q_letter h p1) (fun r hr => hr.mono (by omega)), fun _ => ?_⟩
  refine ok_ite.mpr ⟨fun _ => ok_mono (q_digit h p1) (fun r hr => hr.mono (by omega)), fun _ => ?_⟩
  refine ok_ite.mpr ⟨fun _ => ok_mono (q_channel h p1) (fun r hr => hr.mono (by omega)), fun _ => ?_⟩
  refine ok_ite.mpr ⟨fun _ => ok_mono (q_power h p1) (fun r hr => hr.mono (by omega)), fun _ => ?_⟩
  refine ok_ite.mpr ⟨fun _ => ok_mono (q_isSpeaking h p1) (fun r hr => hr.mono (by omega)), fun _ => ?_⟩
  refine ok_ite.mpr ⟨fun _ => ok_mono (q_isWaiting h p1) (fun r hr => hr.mono (by omega)), fun _ => ?_⟩
  refine ok_ite.mpr ⟨fun _ => ok_mono (q_minutesSpoken h p1) (fun r hr => hr.mono (by omega)), fun _ => ?_⟩
  refine ok_ite.mpr ⟨fun _ => ok_mono (q_minutesReceived h p1) (fun r hr => hr.mono (by omega)), fun _ => ?_⟩
  refine ok_ite.mpr ⟨fun _ => ok_mono (q_stationByMinutes h p1) (fun r hr => hr.mono (by omega)), fun _ => ?_⟩
  refine ok_ite.mpr ⟨fun _ => ok_mono (q_speaker h p1) (fun r hr => hr.mono (by omega)), fun _ => ?_⟩
  refine ok_ite.mpr ⟨fun _ => ok_mono (q_lineLength h p1) (fun r hr => hr.mono (by omega)), fun _ => ?_⟩
  refine ok_ite.mpr ⟨fun _ => ok_mono (q_waiting h p1 p2) (fun r hr => hr.mono (by omega)), fun _ => ?_⟩
  refine ok_ite.mpr ⟨fun _ => ok_mono (q_minutesUntilTurn h p1) (fun r hr => hr.mono (by omega)), fun _ => ?_⟩
  refine ok_ite.mpr ⟨fun _ => ok_mono (q_minutesUntilTurnBySimulation h p1) (fun r hr => hr.mono (by omega)), fun _ => ?_⟩
  refine ok_ite.mpr ⟨fun _ => ok_mono (q_canHear h p1 p2) (fun r hr => hr.mono (by omega)), fun _ => ?_⟩
  refine ok_ite.mpr ⟨fun _ => ok_mono (q_isJammed h p1) (fun r hr => hr.mono (by omega)), fun _ => ?_⟩
  refine ok_ite.mpr ⟨fun _ => ok_mono (q_jams h) (fun r hr => hr.mono (by omega)), fun _ => ?_⟩
  refine ok_ite.mpr ⟨fun _ => ok_mono (q_jamsByChannels h) (fun r hr => hr.mono (by omega)), fun _ => ?_⟩
  refine ok_ite.mpr ⟨fun _ => ok_mono (q_hops h p1 p2) (fun r hr => hr.mono (by omega)), fun _ => ?_⟩
  refine ok_ite.mpr ⟨fun _ => ok_mono (q_hopsBySets h p1 p2) (fun r hr => hr.mono (by omega)), fun _ => ?_⟩
  refine ok_ite.mpr ⟨fun _ => ok_mono (q_reachable h p1) (fun r hr => hr.mono (by omega)), fun _ => ?_⟩
  refine ok_ite.mpr ⟨fun _ => ok_mono (q_logLength h) (fun r hr => hr.mono (by omega)), fun _ => ?_⟩
  refine ok_ite.mpr ⟨fun _ => ok_mono (q_logStation h p1) (fun r hr => hr.mono (by omega)), fun _ => ?_⟩
  refine ok_ite.mpr ⟨fun _ => ok_mono (q_logBegin h p1) (fun r hr => hr.mono (by omega)), fun _ => ?_⟩
  refine ok_ite.mpr ⟨fun _ => ok_mono (q_logMinutes h p1) (fun r hr => hr.mono (by omega)), fun _ => ?_⟩
  refine ok_ite.mpr ⟨fun _ => ok_mono (q_time h) (fun r hr => hr.mono (by omega)), fun _ => ?_⟩
  refine ok_ite.mpr ⟨fun _ => ok_mono (q_turnLimit h) (fun r hr => hr.mono (by omega)), fun _ => ?_⟩
  refine ok_ite.mpr ⟨fun _ => ok_mono (q_meanPower h) (fun r hr => hr.mono (by omega)), fun _ => ?_⟩
  refine ok_ite.mpr ⟨fun _ => ok_mono (q_airtime h) (fun r hr => hr.mono (by omega)), fun _ => ?_⟩
  refine ok_ite.mpr ⟨fun _ => ok_mono (q_isConsistent h) (fun r hr => hr.mono (by omega)), fun _ => ?_⟩
  refine ok_ite.mpr ⟨fun _ => ok_mono (q_writeStation h p1) (fun r hr => hr.mono (by omega)), fun _ => ?_⟩
  refine ok_ite.mpr ⟨fun _ => ok_mono (q_writeChannel h p1) (fun r hr => hr.mono (by omega)), fun _ => ?_⟩
  refine ok_ite.mpr ⟨fun _ => ok_mono (q_charAt h p1) (fun r hr => hr.mono (by omega)), fun _ => ?_⟩
  refine ok_ite.mpr ⟨fun _ => ok_mono (q_type h p1) (fun r hr => hr.mono (by omega)), fun _ => ?_⟩
  refine ok_ite.mpr ⟨fun _ => q_run h hB, fun _ => ?_⟩
  refine ok_ite.mpr ⟨fun _ => ok_mono (q_errorPosition h) (fun r hr => hr.mono (by omega)), fun _ => ?_⟩
  refine ok_ite.mpr ⟨fun _ => ok_mono (q_failedCommand h) (fun r hr => hr.mono (by omega)), fun _ => ?_⟩
  refine ok_ite.mpr ⟨fun _ => ok_mono (q_undo h) (fun r hr => hr.mono (by omega)), fun _ => ?_⟩
  refine ok_ite.mpr ⟨fun _ => ok_mono (q_save h) (fun r hr => hr.mono (by omega)), fun _ => ?_⟩
  refine ok_ite.mpr ⟨fun _ => ok_mono (q_restore h) (fun r hr => hr.mono (by omega)), fun _ => ?_⟩
  exact ok_some.mpr (h.mono (by omega))
theorem run_ok (xs : Nat → Int32) : ∀ (k j : Nat) (z : KS) (M : Mem) (B : Nat), SR z M B → B + 13 * k < 2 ^ 28 → ∃ r, fl_run xs k j z M = some r := by
  intro k
  induction k with
  | zero => intro j z M B _ _; exact ⟨_, rfl⟩
  | succ k ih =>
    intro j z M B h hB
    obtain ⟨r, e, hr⟩ := step_ok h (by omega) (xs (7 * j)) (xs (7 * j + 1)) (xs (7 * j + 2)) (xs (7 * j + 3)) (xs (7 * j + 4)) (xs (7 * j + 5)) (xs (7 * j + 6))
    obtain ⟨r', e'⟩ := ih (j + 1) r.1 r.2 (B + 13) hr (by omega)
    refine ⟨r', ?_⟩
    unfold fl_run
    rw [e]
    exact e'
/-- the law's calls are defined to their end: class and reference agree -/
theorem law_defined (xs : Nat → Int32) (k : Nat) (hk : k ≤ 512) : ∃ r, fl_run xs k 0 z00 M0 = some r := run_ok xs k 0 z00 M0 0 SR0 (by omega)
