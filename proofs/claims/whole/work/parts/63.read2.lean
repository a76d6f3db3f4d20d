/-! ===== more calls that read ===== -/
theorem in_cases (a : Int32) (lo hi : Nat) (h : hi < 2 ^ 31) (hl : lo ≤ hi) : (∃ c, lo ≤ c ∧ c ≤ hi ∧ a = nI c ∧ ¬ a < nI lo ∧ ¬ nI hi < a) ∨ (a < nI lo ∨ (¬ a < nI lo ∧ nI hi < a)) := by
  by_cases q : a < nI lo
  · exact Or.inr (Or.inl q)
  · by_cases q2 : nI hi < a
    · exact Or.inr (Or.inr ⟨q, q2⟩)
    · left
      have q3 : ¬ a < 0 := by
        intro z
        apply q
        rw [Int32.lt_iff_toInt_lt, Int32.toInt_zero] at z
        rw [Int32.lt_iff_toInt_lt, nI_toInt (by omega)]
        omega
      obtain ⟨j, hj, ej⟩ := nI_of q3
      rw [ej] at q q2
      rw [nI_ltI (by omega) (by omega)] at q q2
      refine ⟨j, by omega, by omega, ej, ?_, ?_⟩
      · rw [ej, nI_ltI (by omega) (by omega)]; exact q
      · rw [ej, nI_ltI (by omega) (by omega)]; exact q2
theorem chan_or (a : Int32) : (∃ c, c ≤ 9 ∧ a = nI c ∧ fX11_isChannel a = some 1 ∧ fX12_isChannel a = some 1) ∨ (fX11_isChannel a = some 0 ∧ fX12_isChannel a = some 0) := by
  rcases in_cases a 0 9 (by decide) (by decide) with ⟨c, c1, c2, c3, c4, c5⟩ | q | ⟨q1, q2⟩
  · left
    have c4 : ¬ a < 0 := c4
    have c5 : ¬ (9 : Int32) < a := c5
    have c6 : ¬ (10 : Int32) ≤ a := by rw [c3]; exact nI_ge (b := 10) (by omega) (by omega)
    refine ⟨c, c2, c3, ?_, ?_⟩
    · unfold fX11_isChannel; rw [if_neg c4, if_neg c6]
    · unfold fX12_isChannel fX12_in; rw [if_neg c4, if_neg c5]; rfl
  · right
    have q : a < 0 := q
    refine ⟨?_, ?_⟩
    · unfold fX11_isChannel; rw [if_pos q]
    · unfold fX12_isChannel fX12_in; rw [if_pos q]; rfl
  · right
    have q1 : ¬ a < 0 := q1
    have q2 : (9 : Int32) < a := q2
    have q3 : (10 : Int32) ≤ a := by
      rw [Int32.lt_iff_toInt_lt, show (9 : Int32).toInt = 9 by decide] at q2
      rw [Int32.le_iff_toInt_le, show (10 : Int32).toInt = 10 by decide]
      omega
    refine ⟨?_, ?_⟩
    · unfold fX11_isChannel; rw [if_neg q1, if_pos q3]
    · unfold fX12_isChannel fX12_in; rw [if_neg q1, if_pos q2]; rfl
theorem sel_congr {R : Type} {P Q : Nat → Bool} {out : Nat → R} {no : R} {n : Nat} (h : ∀ i, i < n → P i = Q i) : sel P out no n = sel Q out no n := by
  have key : ∀ d i, i + d ≤ n → selF P out no d i = selF Q out no d i := by
    intro d
    induction d with
    | zero => intro i _; rfl
    | succ d ih =>
      intro i hi
      unfold selF
      rw [h i (by omega), ih (i + 1) (by omega)]
  exact key n 0 (by omega)
theorem sel_two {A B : Type} (P : Nat → Bool) (o1 : Nat → A) (n1 : A) (o2 : Nat → B) (n2 : B) (n : Nat) : (sel P o1 n1 n = n1 ∧ sel P o2 n2 n = n2) ∨ ∃ j, j < n ∧ sel P o1 n1 n = o1 j ∧ sel P o2 n2 n = o2 j := by
  have key : ∀ d i, (selF P o1 n1 d i = n1 ∧ selF P o2 n2 d i = n2) ∨ ∃ j, j < i + d ∧ selF P o1 n1 d i = o1 j ∧ selF P o2 n2 d i = o2 j := by
    intro d
    induction d with
    | zero => intro i; exact Or.inl ⟨rfl, rfl⟩
    | succ d ih =>
      intro i
      unfold selF
      by_cases c : P i = true
      · rw [if_pos c, if_pos c]
        exact Or.inr ⟨i, by omega, rfl, rfl⟩
      · rw [if_neg c, if_neg c]
        rcases ih (i + 1) with z | ⟨j, h1, h2⟩
        · exact Or.inl z
        · exact Or.inr ⟨j, by omega, h2⟩
  have := key n 0
  rw [Nat.zero_add] at this
  exact this
theorem sil_eq {N M : Mem} {b B n w : Nat} {L : Nat → Nat} (h : RC N M b B n w L) (c pos : Int32) : fX6_stationInLine N c pos = some (first (rposP M n c pos) n) := by
  rw [c_stationInLine h.hn h.lv, ← inLine_eq h.hn h.lq.1 h.lt]
  congr 1
  refine sel_congr (fun j hj => ?_)
  unfold posP
  rw [h.chp c hj, cnt_congr (n := j + 1) (fun i hi => h.chp c (show i < w by omega))]
theorem rposP_04 (M : Mem) (x : Int32) : rposP (up2 M 0 4 x) = rposP M := by
  funext n c pos k
  unfold rposP
  rw [vM_04, aheadP_04]
theorem q_speaker {z : KS} {M : Mem} {B : Nat} (h : SR z M B) (a : Int32) : ok (fC_speaker z M a) (fun r => SR r.1 r.2 B) := by
  obtain ⟨n, w, L, hR⟩ := h.1
  have hn := hR.hn
  have e1 : fX6_speakerOn z.N a = some (first (spkP (vM M) a) n) := by rw [c_speakerOn hR.nv, hR.spk]
  have e2 : ∀ x, fX12_speakerOn (up2 M 0 4 x) a = some (first (spkP (vM M) a) n) := fun x => by rw [r_speakerOn (MV_04 hR.mv x), vM_04]
  have e3 : fX12_speakerOn M a = some (first (spkP (vM M) a) n) := r_speakerOn hR.mv a
  unfold fC_speaker
  rcases chan_or a with ⟨c, hc, ea, g1, g2⟩ | ⟨g1, g2⟩
  · have g3 : fX11_requireChannel a = some (.inr ()) := by unfold fX11_requireChannel; rw [g1]; rfl
    rcases first_spec (spkP (vM M) a) n with ⟨f1, _⟩ | ⟨s, hs, _, _, f1⟩
    · refine fin (k := 2) (z' := z) (b := 0) (M' := up2 M 0 4 2) ?_ ?_ (e_04 _ _) (fun q => absurd q (by decide)) (h.r04 2)
      · unfold fL_speaker fX11_speaker
        rw [g3, e1, f1]
        rfl
      · unfold fX12_speaker
        rw [g2, e3, f1]
        simp only [Option.bind_some]
        rw [if_neg (by decide), if_neg (by decide), if_neg (nle2 M)]
    · refine fin (k := 0) (z' := KS.mk z.G z.N z.T z.V z.Hs z.Q z.R z.P z.Sb (nI s).toInt64 z.od) (b := nI s) (M' := up2 M 0 4 0) ?_ ?_ (e_04 _ _) (fun _ => rfl) (h.r04 0)
      · unfold fL_speaker fX11_speaker
        rw [g3, e1, f1]
        simp only [Option.bind_some, sx]
        rw [if_pos (nI_0le (by omega))]
        rfl
      · unfold fX12_speaker
        rw [g2, e3, f1]
        simp only [Option.bind_some]
        rw [if_neg (by decide), if_pos (nI_0le (by omega)), if_pos (le0 M), e2, f1]
        rfl
  · have g3 : fX11_requireChannel a = some (.inl 0) := by unfold fX11_requireChannel; rw [g1]; rfl
    refine fin (k := 1) (z' := z) (b := 0) (M' := up2 M 0 4 1) ?_ ?_ (e_04 _ _) (fun q => absurd q (by decide)) (h.r04 1)
    · unfold fL_speaker fX11_speaker
      rw [g3]
      rfl
    · unfold fX12_speaker
      rw [g2]
      simp only [Option.bind_some]
      rw [if_pos trivial, if_neg (nle1 M)]
theorem q_lineLength {z : KS} {M : Mem} {B : Nat} (h : SR z M B) (a : Int32) : ok (fC_lineLength z M a) (fun r => SR r.1 r.2 B) := by
  obtain ⟨n, w, L, hR⟩ := h.1
  have hn := hR.hn
  have e3 : fX12_lineOf M a = some (nI (cnt (waitP (vM M) a) n)) := r_lineOf hR.mv a
  have e1 : fX6_waitingOn z.N a = some (nI (cnt (waitP (vM M) a) n)) := by rw [line_eq hR, e3]
  have e2 : ∀ x, fX12_lineOf (up2 M 0 4 x) a = some (nI (cnt (waitP (vM M) a) n)) := fun x => by rw [r_lineOf (MV_04 hR.mv x), vM_04]
  unfold fC_lineLength
  rcases chan_or a with ⟨c, hc, ea, g1, g2⟩ | ⟨g1, g2⟩
  · have g3 : fX11_requireChannel a = some (.inr ()) := by unfold fX11_requireChannel; rw [g1]; rfl
    refine fin (k := 0) (z' := KS.mk z.G z.N z.T z.V z.Hs z.Q z.R z.P z.Sb (nI (cnt (waitP (vM M) a) n)).toInt64 z.od) (b := nI (cnt (waitP (vM M) a) n)) (M' := up2 M 0 4 0) ?_ ?_ (e_04 _ _) (fun _ => rfl) (h.r04 0)
    · unfold fL_lineLength fX11_lineLength
      rw [g3]
      simp only [Option.bind_some, sx]
      rw [e1]
      rfl
    · unfold fX12_lineLength
      rw [g2]
      simp only [Option.bind_some]
      rw [if_neg (by decide), if_pos (le0 M), e2]
      rfl
  · have g3 : fX11_requireChannel a = some (.inl 0) := by unfold fX11_requireChannel; rw [g1]; rfl
    refine fin (k := 1) (z' := z) (b := 0) (M' := up2 M 0 4 1) ?_ ?_ (e_04 _ _) (fun q => absurd q (by decide)) (h.r04 1)
    · unfold fL_lineLength fX11_lineLength
      rw [g3]
      rfl
    · unfold fX12_lineLength
      rw [g2]
      simp only [Option.bind_some]
      rw [if_pos trivial, if_neg (nle1 M)]
theorem q_waiting {z : KS} {M : Mem} {B : Nat} (h : SR z M B) (a b : Int32) : ok (fC_waiting z M a b) (fun r => SR r.1 r.2 B) := by
  obtain ⟨n, w, L, hR⟩ := h.1
  have hn := hR.hn
  have e1 := sil_eq hR a b
  have e3 : fX12_inLine M a b = some (first (rposP M n a b) n) := r_inLine hR.mv a b
  have e2 : ∀ x, fX12_inLine (up2 M 0 4 x) a b = some (first (rposP M n a b) n) := fun x => by rw [r_inLine (MV_04 hR.mv x), rposP_04]
  unfold fC_waiting
  rcases chan_or a with ⟨c, hc, ea, g1, g2⟩ | ⟨g1, g2⟩
  · have g3 : fX11_requireChannel a = some (.inr ()) := by unfold fX11_requireChannel; rw [g1]; rfl
    rcases first_spec (rposP M n a b) n with ⟨f1, _⟩ | ⟨s, hs, _, _, f1⟩
    · refine fin (k := 2) (z' := z) (b := 0) (M' := up2 M 0 4 2) ?_ ?_ (e_04 _ _) (fun q => absurd q (by decide)) (h.r04 2)
      · unfold fL_waiting fX11_waiting
        rw [g3, e1, f1]
        rfl
      · unfold fX12_waiting
        rw [g2, e3, f1]
        simp only [Option.bind_some]
        rw [if_neg (by decide), if_neg (by decide), if_neg (nle2 M)]
    · refine fin (k := 0) (z' := KS.mk z.G z.N z.T z.V z.Hs z.Q z.R z.P z.Sb (nI s).toInt64 z.od) (b := nI s) (M' := up2 M 0 4 0) ?_ ?_ (e_04 _ _) (fun _ => rfl) (h.r04 0)
      · unfold fL_waiting fX11_waiting
        rw [g3, e1, f1]
        simp only [Option.bind_some, sx]
        rw [if_pos (nI_0le (by omega))]
        rfl
      · unfold fX12_waiting
        rw [g2, e3, f1]
        simp only [Option.bind_some]
        rw [if_neg (by decide), if_pos (nI_0le (by omega)), if_pos (le0 M), e2, f1]
        rfl
  · have g3 : fX11_requireChannel a = some (.inl 0) := by unfold fX11_requireChannel; rw [g1]; rfl
    refine fin (k := 1) (z' := z) (b := 0) (M' := up2 M 0 4 1) ?_ ?_ (e_04 _ _) (fun q => absurd q (by decide)) (h.r04 1)
    · unfold fL_waiting fX11_waiting
      rw [g3]
      rfl
    · unfold fX12_waiting
      rw [g2]
      simp only [Option.bind_some]
      rw [if_pos trivial, if_neg (nle1 M)]
theorem rf0 : fX11_refuse 0 = some (.inr ()) := by decide +kernel
theorem rf1 : fX11_refuse 1 = some (.inl 0) := by decide +kernel
theorem rf2 : fX11_refuse 2 = some (.inl 1) := by decide +kernel
theorem rf3 : fX11_refuse 3 = some (.inl 2) := by decide +kernel
theorem rf4 : fX11_refuse 4 = some (.inl 3) := by decide +kernel
theorem RC.mode {N M : Mem} {b B n w : Nat} {L : Nat → Nat} (h : RC N M b B n w L) {i : Nat} (hi : i < n) {m : Int32} (hm : inb m 3 = true) : fX6_faultOfMode N (nI i) m = some (if vM M i 6 = m then 0 else 4) := by
  rw [c_faultOfMode_yes h.nv hi hm, h.vw i hi 6 (by decide)]
theorem q_minutesUntilTurn {z : KS} {M : Mem} {B : Nat} (h : SR z M B) (a : Int32) : ok (fC_minutesUntilTurn z M a) (fun r => SR r.1 r.2 B) := by
  obtain ⟨n, w, L, hR⟩ := h.1
  have hn := hR.hn
  unfold fC_minutesUntilTurn
  rcases st_or n a with ⟨i, hi, e⟩ | hno
  · subst e
    by_cases c : vM M i 6 = 2
    · obtain ⟨v, v1, v2, v3⟩ := co_until hR hi c
      refine fin (k := 0) (z' := KS.mk z.G z.N z.T z.V z.Hs z.Q z.R z.P z.Sb v.toInt64 z.od) (b := v) (M' := up2 M 0 4 0) ?_ ?_ (e_04 _ _) (fun _ => rfl) (h.r04 0)
      · unfold fL_minutesUntilTurn fX11_minutesUntilTurn
        rw [hR.mode hi (by decide), if_pos c]
        simp only [Option.bind_some]
        rw [rf0]
        simp only [Option.bind_some, sx]
        rw [v1]
        rfl
      · unfold fX12_minutesUntilTurn
        rw [v2]
        rfl
    · refine fin (k := 2) (z' := z) (b := 0) (M' := up2 M 0 4 2) ?_ ?_ (e_04 _ _) (fun q => absurd q (by decide)) (h.r04 2)
      · unfold fL_minutesUntilTurn fX11_minutesUntilTurn
        rw [hR.mode hi (by decide), if_neg c]
        simp only [Option.bind_some]
        rw [rf4]
        rfl
      · unfold fX12_minutesUntilTurn
        rw [r_untilTurn_no (r := 2) (by rw [r_unless_yes hR.mv hi, if_neg c]) (by decide)]
        rfl
  · refine fin (k := 1) (z' := z) (b := 0) (M' := up2 M 0 4 1) ?_ ?_ (e_04 _ _) (fun q => absurd q (by decide)) (h.r04 1)
    · unfold fL_minutesUntilTurn fX11_minutesUntilTurn
      rw [c_faultOfMode_no hR.nv hno]
      simp only [Option.bind_some]
      rw [rf1]
      rfl
    · unfold fX12_minutesUntilTurn
      rw [r_untilTurn_no (r := 1) (r_unless_no hR.mv hno 2) (by decide)]
      rfl
theorem q_minutesUntilTurnBySimulation {z : KS} {M : Mem} {B : Nat} (h : SR z M B) (a : Int32) : ok (fC_minutesUntilTurnBySimulation z M a) (fun r => SR r.1 r.2 B) := by
  obtain ⟨n, w, L, hR⟩ := h.1
  have hn := hR.hn
  unfold fC_minutesUntilTurnBySimulation
  rcases st_or n a with ⟨i, hi, e⟩ | hno
  · subst e
    by_cases c : vM M i 6 = 2
    · obtain ⟨v, v1, v2, v3⟩ := co_until hR hi c
      obtain ⟨T', v4⟩ := v3 z.G z.T
      refine fin (k := 0) (z' := KS.mk z.G z.N T' z.V z.Hs z.Q z.R z.P z.Sb v.toInt64 z.od) (b := v) (M' := up2 M 0 4 0) ?_ ?_ (e_04 _ _) (fun _ => rfl) (h.r04 0)
      · unfold fL_minutesUntilTurnBySimulation fX11_minutesUntilTurnBySimulation
        rw [hR.mode hi (by decide), if_pos c]
        simp only [Option.bind_some]
        rw [rf0]
        simp only [Option.bind_some, sx]
        rw [v4]
        rfl
      · unfold fX12_minutesUntilTurnBySimulation
        rw [v2]
        rfl
    · refine fin (k := 2) (z' := z) (b := 0) (M' := up2 M 0 4 2) ?_ ?_ (e_04 _ _) (fun q => absurd q (by decide)) (h.r04 2)
      · unfold fL_minutesUntilTurnBySimulation fX11_minutesUntilTurnBySimulation
        rw [hR.mode hi (by decide), if_neg c]
        simp only [Option.bind_some]
        rw [rf4]
        rfl
      · unfold fX12_minutesUntilTurnBySimulation
        rw [r_untilTurn_no (r := 2) (by rw [r_unless_yes hR.mv hi, if_neg c]) (by decide)]
        rfl
  · refine fin (k := 1) (z' := z) (b := 0) (M' := up2 M 0 4 1) ?_ ?_ (e_04 _ _) (fun q => absurd q (by decide)) (h.r04 1)
    · unfold fL_minutesUntilTurnBySimulation fX11_minutesUntilTurnBySimulation
      rw [c_faultOfMode_no hR.nv hno]
      simp only [Option.bind_some]
      rw [rf1]
      rfl
    · unfold fX12_minutesUntilTurnBySimulation
      rw [r_untilTurn_no (r := 1) (r_unless_no hR.mv hno 2) (by decide)]
      rfl
theorem RC.sg {N M : Mem} {b B n w : Nat} {L : Nat → Nat} (h : RC N M b B n w L) : SG (vM M) n := fun i hi => by
  obtain ⟨l, _, l2, l3⟩ := h.rg hi (f := 0) (by decide)
  obtain ⟨d, _, d2, d3⟩ := h.rg hi (f := 1) (by decide)
  exact ⟨l, d, l3, l2, d3, d2⟩
theorem q_stationByMinutes {z : KS} {M : Mem} {B : Nat} (h : SR z M B) (a : Int32) : ok (fC_stationByMinutes z M a) (fun r => SR r.1 r.2 B) := by
  obtain ⟨n, w, L, hR⟩ := h.1
  have hn := hR.hn
  have er : ∀ j k, j < n → k < n → rankP (vN z.N) j k = rankP (vM M) j k := fun j k hj hk => by
    unfold rankP
    rw [hR.vw j hj 8 (by decide), hR.vw k hk 8 (by decide), hR.vw j hj 9 (by decide), hR.vw k hk 9 (by decide), hR.vw j hj 0 (by decide), hR.vw k hk 0 (by decide), hR.vw j hj 1 (by decide), hR.vw k hk 1 (by decide)]
  have e1 : fX6_stationOfRank z.N a = some (sel (fun k => decide (nI (cnt (fun j => rankP (vM M) j k) n) = a)) nI (-1) n) := by
    rw [c_stationOfRank hR.nv]
    congr 1
    refine sel_congr (fun k hk => ?_)
    rw [cnt_congr (fun j hj => er j k hj hk)]
  have e2 := r_stationByMinutes hR.mv hR.sg a
  unfold fC_stationByMinutes
  rcases sel_two (fun k => decide (nI (cnt (fun j => rankP (vM M) j k) n) = a)) nI (-1 : Int32) (fun k => (nI k, up2 M 0 4 0)) (0, up2 (up2 M 0 4 0) 0 4 1) n with ⟨f1, f2⟩ | ⟨s, hs, f1, f2⟩
  · rw [f2] at e2
    refine fin (k := 1) (z' := z) (b := 0) (M' := up2 (up2 M 0 4 0) 0 4 1) ?_ e2 (e_04 _ _) (fun q => absurd q (by decide)) ((h.r04 0).r04 1)
    unfold fL_stationByMinutes fX11_stationByMinutes
    rw [e1, f1]
    rfl
  · rw [f2] at e2
    refine fin (k := 0) (z' := KS.mk z.G z.N z.T z.V z.Hs z.Q z.R z.P z.Sb (nI s).toInt64 z.od) (b := nI s) (M' := up2 M 0 4 0) ?_ e2 (e_04 _ _) (fun _ => rfl) (h.r04 0)
    unfold fL_stationByMinutes fX11_stationByMinutes
    rw [e1, f1]
    simp only [Option.bind_some, sx]
    rw [if_pos (nI_0le (by omega))]
    rfl
theorem q_errorPosition {z : KS} {M : Mem} {B : Nat} (h : SR z M B) : ok (fC_errorPosition z M) (fun r => SR r.1 r.2 B) := by
  have e := h.2.2.2.1.1
  unfold fC_errorPosition
  by_cases c : 0 ≤ M 0 6
  · refine fin (k := 0) (z' := KS.mk z.G z.N z.T z.V z.Hs z.Q z.R z.P z.Sb (M 0 6).toInt64 z.od) (b := M 0 6) (M' := up2 M 0 4 0) ?_ ?_ (e_04 _ _) (fun _ => rfl) (h.r04 0)
    · unfold fL_errorPosition fX11_errorPosition
      rw [e, if_pos c]
      rfl
    · unfold fX12_errorPosition fX12_present
      rw [if_pos c, if_pos (le0 M)]
      rfl
  · refine fin (k := 1) (z' := z) (b := 0) (M' := up2 M 0 4 1) ?_ ?_ (e_04 _ _) (fun q => absurd q (by decide)) (h.r04 1)
    · unfold fL_errorPosition fX11_errorPosition
      rw [e, if_neg c]
      rfl
    · unfold fX12_errorPosition fX12_present
      rw [if_neg c, if_neg (nle1 M)]
      rfl
theorem q_failedCommand {z : KS} {M : Mem} {B : Nat} (h : SR z M B) : ok (fC_failedCommand z M) (fun r => SR r.1 r.2 B) := by
  have e := h.2.2.2.1.2
  unfold fC_failedCommand
  by_cases c : 0 ≤ M 0 7
  · refine fin (k := 0) (z' := KS.mk z.G z.N z.T z.V z.Hs z.Q z.R z.P z.Sb (M 0 7).toInt64 z.od) (b := M 0 7) (M' := up2 M 0 4 0) ?_ ?_ (e_04 _ _) (fun _ => rfl) (h.r04 0)
    · unfold fL_failedCommand fX11_failedCommand
      rw [e, if_pos c]
      rfl
    · unfold fX12_failedCommand fX12_present
      rw [if_pos c, if_pos (le0 M)]
      rfl
  · refine fin (k := 1) (z' := z) (b := 0) (M' := up2 M 0 4 1) ?_ ?_ (e_04 _ _) (fun q => absurd q (by decide)) (h.r04 1)
    · unfold fL_failedCommand fX11_failedCommand
      rw [e, if_neg c]
      rfl
    · unfold fX12_failedCommand fX12_present
      rw [if_neg c, if_neg (nle1 M)]
      rfl
theorem q_meanPower {z : KS} {M : Mem} {B : Nat} (h : SR z M B) : ok (fC_meanPower z M) (fun r => SR r.1 r.2 B) := by
  obtain ⟨n, w, L, hR⟩ := h.1
  have hn := hR.hn
  have k1 : ∀ x, up2 M 0 4 x 1 0 = nI n := fun x => by rw [up2_at, if_neg (by omega)]; exact hR.mv.2
  unfold fC_meanPower
  by_cases c : n = 0
  · have h0 : nI n = 0 := by rw [c]; rfl
    have e1 : fL_meanPower z = some (1, z) := by
      unfold fL_meanPower fX11_meanPower
      rw [if_pos (hR.nv.2.1.trans h0)]
      rfl
    have e2 : fX12_meanPower M = some (FP.dconst0, up2 M 0 4 1) := by
      unfold fX12_meanPower
      rw [if_pos (hR.mv.2.trans h0), if_neg (nle1 M)]
    rw [e1, e2]
    simp only [Option.bind_some]
    rw [gd_t (decide_eq_true (e_04 M 1)), gd_t (decide_eq_true (fun q => absurd q (by decide)))]
    exact ok_some.mpr (h.r04 1)
  · have h0 : ¬ nI n = 0 := nI_ne0 (by omega) (by omega)
    have es : sumI (fun i => vN z.N i 4) n = sumI (fun i => vM M i 4) n := sumI_congr (fun i hi => hR.vw i hi 4 (by decide))
    have e1 : fL_meanPower z = some (0, KS.mk z.G z.N z.T z.V z.Hs z.Q z.R z.P z.Sb z.o (FP.ddiv (FP.i2d (sumI (fun i => vM M i 4) n)) (FP.i2d (nI n)))) := by
      unfold fL_meanPower fX11_meanPower
      rw [hR.nv.2.1, if_neg h0, c_sumOfPowers hR.nv, es]
      simp only [Option.bind_some]
      rw [gd_t (show nz (nI n) = true from decide_eq_true h0)]
      rfl
    have e2 : fX12_meanPower M = some (FP.ddiv (FP.i2d (sumI (fun i => vM M i 4) n)) (FP.i2d (nI n)), up2 M 0 4 0) := by
      unfold fX12_meanPower
      rw [if_neg (show ¬ M 1 0 = 0 by rw [hR.mv.2]; exact h0), if_pos (le0 M), r_sum4 (MV_04 hR.mv 0), vM_04]
      simp only [Option.bind_some]
      rw [k1, gd_t (show nz (nI n) = true from decide_eq_true h0)]
    rw [e1, e2]
    simp only [Option.bind_some]
    rw [gd_t (decide_eq_true (e_04 M 0)), gd_t (decide_eq_true (fun _ => trivial))]
    exact ok_some.mpr (h.r04 0)
theorem q_airtime {z : KS} {M : Mem} {B : Nat} (h : SR z M B) : ok (fC_airtime z M) (fun r => SR r.1 r.2 B) := by
  obtain ⟨n, w, L, hR⟩ := h.1
  have hn := hR.hn
  have k1 : ∀ x, up2 M 0 4 x 1 1 = M 1 1 := fun x => by rw [up2_at, if_neg (by omega)]
  have et := hR.tl.1
  unfold fC_airtime
  by_cases c : M 1 1 = 0
  · have e1 : fL_airtime z = some (1, z) := by
      unfold fL_airtime fX11_airtime
      rw [if_pos (et.trans c)]
      rfl
    have e2 : fX12_airtime M = some (FP.fconst0, up2 M 0 4 1) := by
      unfold fX12_airtime
      rw [if_pos c, if_neg (nle1 M)]
    rw [e1, e2]
    simp only [Option.bind_some]
    rw [gd_t (decide_eq_true (e_04 M 1)), gd_t (decide_eq_true (fun q => absurd q (by decide)))]
    exact ok_some.mpr (h.r04 1)
  · have es : sumI (fun i => vN z.N i 8) n = sumI (fun i => vM M i 8) n := sumI_congr (fun i hi => hR.vw i hi 8 (by decide))
    have hq : vf_n32 (FP.fdiv (FP.i2f (sumI (fun i => vM M i 8) n)) (FP.i2f (M 1 1))) := fp_fdiv _ _ c
    have hb : n32b (FP.fdiv (FP.i2f (sumI (fun i => vM M i 8) n)) (FP.i2f (M 1 1))) = true := decide_eq_true hq
    have e1 : fL_airtime z = some (0, KS.mk z.G z.N z.T z.V z.Hs z.Q z.R z.P z.Sb z.o (FP.f2d (FP.fdiv (FP.i2f (sumI (fun i => vM M i 8) n)) (FP.i2f (M 1 1))))) := by
      unfold fL_airtime fX11_airtime
      rw [et, if_neg c, c_sumOfSpoken hR.nv, es]
      simp only [Option.bind_some]
      rw [gd_t (show nz (M 1 1) = true from decide_eq_true c)]
      simp only [Option.bind_some, sx]
      rw [gd_t hb]
    have e2 : fX12_airtime M = some (FP.fdiv (FP.i2f (sumI (fun i => vM M i 8) n)) (FP.i2f (M 1 1)), up2 M 0 4 0) := by
      unfold fX12_airtime
      rw [if_neg c, if_pos (le0 M), r_sum9 (MV_04 hR.mv 0), vM_04]
      simp only [Option.bind_some]
      rw [k1, gd_t (show nz (M 1 1) = true from decide_eq_true c)]
    rw [e1, e2]
    simp only [Option.bind_some]
    rw [gd_t (decide_eq_true (e_04 M 0)), gd_t (decide_eq_true (fun _ => ⟨hq, trivial⟩))]
    exact ok_some.mpr (h.r04 0)
