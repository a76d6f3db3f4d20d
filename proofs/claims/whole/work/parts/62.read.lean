/-! ===== the relation of the whole states; the calls that read ===== -/
/-- a row kept elsewhere -/
def rowM (M : Mem) (k s : Nat) : Mem := fun _ f => M k (s + f)
def HI (Hs : Mem) (Q : Nat → Mem) (M : Mem) (B : Nat) : Prop := ∃ d h, d ≤ 8 ∧ h < 8 ∧ Hs 0 1 = nI h ∧ Hs 0 2 = nI d ∧ M 0 5 = nI d ∧ ∀ e, e < d → RCx (Q ((h + 8 - d + e) % 8)) (rowM M 4 (160 * e)) 59 B
def SA (G V M : Mem) (B : Nat) : Prop := (G 0 3 = 0 ∧ M 0 8 = 0) ∨ (G 0 3 = 1 ∧ M 0 8 = 1 ∧ RCx V (rowM M 3 0) 59 B)
def ER (G M : Mem) : Prop := G 0 8 = M 0 6 ∧ G 0 9 = M 0 7
def PR (P M : Mem) : Prop := ∃ len, len ≤ 60 ∧ P 0 1 = nI len ∧ M 0 15 = nI len ∧ ∀ i, i < len → P 1 i = M 6 i ∧ isC (M 6 i) = true
def OU (Sb : TX) (M : Mem) : Prop := ∃ len, Sb.1 0 1 = 0 ∧ Sb.1 0 3 = nI len ∧ M 0 10 = nI len ∧ (Sb.2 = 16 ∨ Sb.2 = 34) ∧ len ≤ Sb.2 ∧ (∀ i, i < len → ∃ c, c < 128 ∧ Sb.1 1 i = nI c ∧ M 5 i = nI c) ∧ fitB (Sb.1 1) Sb.2 = true
def SRa (G N V Hs : Mem) (Q : Nat → Mem) (P : Mem) (Sb : TX) (M : Mem) (B : Nat) : Prop := RCx N M 59 B ∧ HI Hs Q M B ∧ SA G V M B ∧ ER G M ∧ PR P M ∧ OU Sb M
def SR (z : KS) (M : Mem) (B : Nat) : Prop := SRa z.G z.N z.V z.Hs z.Q z.P z.Sb M B
theorem RCx.mono {N M : Mem} {b B B' : Nat} (h : RCx N M b B) (hB : B ≤ B') : RCx N M b B' := by
  obtain ⟨n, w, L, h⟩ := h
  exact ⟨n, w, L, h.mono (Nat.le_refl _) hB⟩
theorem RCx.ref {N M M' : Mem} {b B : Nat} (h : RCx N M b B) (e : ∀ f, f < 160 → M' 1 f = M 1 f) : RCx N M' b B := by
  obtain ⟨n, w, L, h⟩ := h
  exact ⟨n, w, L, h.ref e⟩
theorem HI.mono {Hs : Mem} {Q : Nat → Mem} {M : Mem} {B B' : Nat} (h : HI Hs Q M B) (hB : B ≤ B') : HI Hs Q M B' := by
  obtain ⟨d, x, h1, h2, h3, h4, h5, h6⟩ := h
  exact ⟨d, x, h1, h2, h3, h4, h5, fun e he => (h6 e he).mono hB⟩
theorem HI.ref {Hs : Mem} {Q : Nat → Mem} {M M' : Mem} {B : Nat} (h : HI Hs Q M B) (e5 : M' 0 5 = M 0 5) (e : ∀ f, f < 1280 → M' 4 f = M 4 f) : HI Hs Q M' B := by
  obtain ⟨d, x, h1, h2, h3, h4, h5, h6⟩ := h
  exact ⟨d, x, h1, h2, h3, h4, e5.trans h5, fun q hq => (h6 q hq).ref (fun f hf => e _ (by omega))⟩
theorem SA.mono {G V M : Mem} {B B' : Nat} (h : SA G V M B) (hB : B ≤ B') : SA G V M B' := h.elim Or.inl (fun z => Or.inr ⟨z.1, z.2.1, z.2.2.mono hB⟩)
theorem SA.ref {G V M M' : Mem} {B : Nat} (h : SA G V M B) (e8 : M' 0 8 = M 0 8) (e : ∀ f, f < 160 → M' 3 f = M 3 f) : SA G V M' B := h.elim (fun z => Or.inl ⟨z.1, e8.trans z.2⟩) (fun z => Or.inr ⟨z.1, e8.trans z.2.1, z.2.2.ref (fun f hf => e _ (by omega))⟩)
theorem PR.ref {P M M' : Mem} (h : PR P M) (e15 : M' 0 15 = M 0 15) (e : ∀ f, M' 6 f = M 6 f) : PR P M' := by
  obtain ⟨len, h1, h2, h3, h4⟩ := h
  exact ⟨len, h1, h2, e15.trans h3, fun i hi => by rw [e i]; exact h4 i hi⟩
theorem OU.ref {Sb : TX} {M M' : Mem} (h : OU Sb M) (e10 : M' 0 10 = M 0 10) (e : ∀ f, M' 5 f = M 5 f) : OU Sb M' := by
  obtain ⟨len, h1, h2, h3, h4, h5, h6, h7⟩ := h
  exact ⟨len, h1, h2, e10.trans h3, h4, h5, fun i hi => by rw [e i]; exact h6 i hi, h7⟩
theorem SRa.mono {G N V Hs : Mem} {Q : Nat → Mem} {P : Mem} {Sb : TX} {M : Mem} {B B' : Nat} (h : SRa G N V Hs Q P Sb M B) (hB : B ≤ B') : SRa G N V Hs Q P Sb M B' := ⟨h.1.mono hB, h.2.1.mono hB, h.2.2.1.mono hB, h.2.2.2⟩
/-- what the reference notes of a throw is no state -/
theorem SRa.r04 {G N V Hs : Mem} {Q : Nat → Mem} {P : Mem} {Sb : TX} {M : Mem} {B : Nat} (h : SRa G N V Hs Q P Sb M B) (x : Int32) : SRa G N V Hs Q P Sb (up2 M 0 4 x) B := by
  have k : ∀ a f, ¬ (a = 0 ∧ f = 4) → up2 M 0 4 x a f = M a f := fun a f hf => by rw [up2_at, if_neg hf]
  obtain ⟨h1, h2, h3, ⟨h4, h5⟩, h6, h7⟩ := h
  exact ⟨h1.ref (fun f _ => k _ _ (by omega)), h2.ref (k _ _ (by omega)) (fun f _ => k _ _ (by omega)), h3.ref (k _ _ (by omega)) (fun f _ => k _ _ (by omega)), ⟨by rw [k _ _ (by omega)]; exact h4, by rw [k _ _ (by omega)]; exact h5⟩, h6.ref (k _ _ (by omega)) (fun f => k _ _ (by omega)), h7.ref (k _ _ (by omega)) (fun f => k _ _ (by omega))⟩
theorem fin {x : Option (Int32 × KS)} {y : Option (Int32 × Mem)} {k : Int32} {z' : KS} {b : Int32} {M' : Mem} {P : KS × Mem → Prop} (hx : x = some (k, z')) (hy : y = some (b, M')) (h4 : M' 0 4 = k) (ho : k = 0 → z'.o = Int32.toInt64 b) (hp : P (z', M')) : ok (x.bind fun z1 => y.bind fun y1 => gd (decide (y1.2 0 4 = z1.1)) (gd (decide (z1.1 = 0 → z1.2.o = Int32.toInt64 y1.1)) (some (z1.2, y1.2)))) P := by
  rw [hx, hy]
  simp only [Option.bind_some]
  rw [gd_t (decide_eq_true h4), gd_t (decide_eq_true ho)]
  exact ok_some.mpr hp
theorem finZ {x : Option (Int32 × KS)} {y : Option (Int32 × Mem)} {k : Int32} {z' : KS} {b : Int32} {M' : Mem} {P : KS × Mem → Prop} (hx : x = some (k, z')) (hy : y = some (b, M')) (hz : isZ b = true) (h4 : M' 0 4 = k) (ho : k = 0 → z'.o = Int32.toInt64 b) (hp : P (z', M')) : ok (x.bind fun z1 => y.bind fun y1 => gd (isZ y1.1) (gd (decide (y1.2 0 4 = z1.1)) (gd (decide (z1.1 = 0 → z1.2.o = Int32.toInt64 y1.1)) (some (z1.2, y1.2))))) P := by
  rw [hx, hy]
  simp only [Option.bind_some]
  rw [gd_t hz, gd_t (decide_eq_true h4), gd_t (decide_eq_true ho)]
  exact ok_some.mpr hp
theorem fin1 {x : Option Int32} {y : Option (Int32 × Mem)} {z : KS} {b : Int32} {M' : Mem} {P : KS × Mem → Prop} (hx : x = some b) (hy : y = some (b, M')) (hp : P (z, M')) : ok (x.bind fun z1 => y.bind fun y1 => gd (decide (z1 = y1.1)) (some (z, y1.2))) P := by
  rw [hx, hy]
  show ok (gd (decide (b = b)) (some (z, M'))) P
  rw [gd_t (decide_eq_true rfl)]
  exact ok_some.mpr hp
/-- a station, or none -/
theorem st_or (n : Nat) (a : Int32) : (∃ i, i < n ∧ a = nI i) ∨ ∀ i, i < n → a ≠ nI i := by
  by_cases h : ∃ i, i < n ∧ a = nI i
  · exact Or.inl h
  · exact Or.inr (fun i hi e => h ⟨i, hi, e⟩)
theorem ch_nI : ∀ a : Fin 128, ((nI a.val).toUInt32 % 65536).toInt32 = nI a.val ∧ isC (nI a.val) = true := by decide +kernel
theorem le0 (M : Mem) : up2 M 0 4 0 0 4 ≤ 0 := by rw [e_04]; decide
theorem nle1 (M : Mem) : ¬ up2 M 0 4 1 0 4 ≤ 0 := by rw [e_04]; decide
theorem nle2 (M : Mem) : ¬ up2 M 0 4 2 0 4 ≤ 0 := by rw [e_04]; decide
theorem q_stations {z : KS} {M : Mem} {B : Nat} (h : SR z M B) : ok (fC_stations z M) (fun r => SR r.1 r.2 B) := by
  obtain ⟨n, w, L, hR⟩ := h.1
  unfold fC_stations
  refine fin1 (b := nI n) ?_ ?_ (h.r04 0)
  · show some (z.N 0 1) = _
    rw [hR.1.2.1]
  · show some (M 1 0, _) = _
    rw [hR.1.2.2]
    rfl
theorem q_time {z : KS} {M : Mem} {B : Nat} (h : SR z M B) : ok (fC_time z M) (fun r => SR r.1 r.2 B) := by
  obtain ⟨n, w, L, hR⟩ := h.1
  unfold fC_time
  refine fin1 (b := M 1 1) ?_ rfl (h.r04 0)
  show some (z.N 0 5) = _
  rw [hR.tl.1]
theorem q_turnLimit {z : KS} {M : Mem} {B : Nat} (h : SR z M B) : ok (fC_turnLimit z M) (fun r => SR r.1 r.2 B) := by
  obtain ⟨n, w, L, hR⟩ := h.1
  obtain ⟨_, lim, _, _, e1, e2⟩ := hR.tl
  unfold fC_turnLimit
  refine fin1 (b := nI lim) ?_ ?_ (h.r04 0)
  · show some (z.N 0 6) = _
    rw [e1]
  · show some (M 1 2, _) = _
    rw [e2]
    rfl
theorem q_logLength {z : KS} {M : Mem} {B : Nat} (h : SR z M B) : ok (fC_logLength z M) (fun r => SR r.1 r.2 B) := by
  obtain ⟨n, w, L, hR⟩ := h.1
  obtain ⟨c, _, e1, e2, _⟩ := hR.lg
  unfold fC_logLength
  refine fin1 (b := nI c) ?_ ?_ (h.r04 0)
  · show some (z.N 11 3) = _
    rw [e1]
  · show some (M 1 4, _) = _
    rw [e2]
    rfl
theorem q_jams {z : KS} {M : Mem} {B : Nat} (h : SR z M B) : ok (fC_jams z M) (fun r => SR r.1 r.2 B) := by
  obtain ⟨n, w, L, hR⟩ := h.1
  unfold fC_jams
  refine fin1 (b := nI (cnt2 (distP (vM M)) n n)) ?_ ?_ (h.r04 0)
  · unfold fX11_jams
    rw [c_jamsOfStations hR.nv, cnt2_congr n (fun k j hk hj => distP_congr hR.v6 hk hj)]
    rfl
  · unfold fX12_jams
    rw [r_pairs hR.mv]
    rfl
theorem RC.ch {N M : Mem} {b B n w : Nat} {L : Nat → Nat} (h : RC N M b B n w L) : CH (vN N) n := fun i hi => by
  obtain ⟨a, _, h2, h3⟩ := h.rg hi (f := 5) (by decide)
  exact ⟨a, h2, by rw [h.vw i hi 5 (by decide)]; exact h3⟩
theorem RC.osN {N M : Mem} {b B n w : Nat} {L : Nat → Nat} (h : RC N M b B n w L) : OS (vN N) n := fun i j hi hj h1 h2 h3 => by
  rw [h.vw i hi 6 (by decide)] at h1
  rw [h.vw j hj 6 (by decide)] at h2
  rw [h.vw i hi 5 (by decide), h.vw j hj 5 (by decide)] at h3
  exact h.os i j hi hj h1 h2 h3
theorem q_jamsByChannels {z : KS} {M : Mem} {B : Nat} (h : SR z M B) : ok (fC_jamsByChannels z M) (fun r => SR r.1 r.2 B) := by
  obtain ⟨n, w, L, hR⟩ := h.1
  unfold fC_jamsByChannels
  refine fin1 (b := nI (cnt2 (distP (vM M)) n n)) ?_ ?_ (h.r04 0)
  · unfold fX11_jamsByChannels
    rw [c_jamsOfChannels hR.nv hR.osN hR.ch, cnt2_congr n (fun k j hk hj => distP_congr hR.v6 hk hj)]
    rfl
  · unfold fX12_jamsByChannels
    rw [r_pairs hR.mv]
    rfl
theorem nI_0le {n : Nat} (h : n < 2 ^ 31) : 0 ≤ nI n := nI_pos' h
theorem sgn_congr {v u : Nat → Nat → Int32} {n : Nat} (h : ∀ i f, i < n → f ≤ 6 → v i f = u i f) (a b : Int32) : first (sgnP v a b) n = first (sgnP u a b) n := by
  refine first_congr (fun i hi => ?_)
  unfold sgnP
  rw [h i 0 hi (by decide), h i 1 hi (by decide)]
theorem q_find {z : KS} {M : Mem} {B : Nat} (h : SR z M B) (a b : Int32) : ok (fC_find z M a b) (fun r => SR r.1 r.2 B) := by
  obtain ⟨n, w, L, hR⟩ := h.1
  have hn := hR.hn
  have e1 : fX6_stationOfSign z.N (ch a) b = some (first (sgnP (vM M) (ch a) b) n) := by
    rw [c_stationOfSign hR.nv, sgn_congr hR.v6]
  have e2 : fX12_signed (up2 M 0 4 0) (ch a) b = some (first (sgnP (vM M) (ch a) b) n) := by
    rw [r_signed (MV_04 hR.mv 0), vM_04]
  unfold fC_find
  rcases first_spec (sgnP (vM M) (ch a) b) n with ⟨f1, _⟩ | ⟨s, hs, _, _, f1⟩
  · refine fin (k := 1) (z' := z) (b := 0) (M' := up2 (up2 M 0 4 0) 0 4 1) ?_ ?_ (e_04 _ _) (fun q => absurd q (by decide)) ((h.r04 0).r04 1)
    · unfold fL_find fX11_find
      rw [e1, f1]
      rfl
    · unfold fX12_find
      rw [e2, f1]
      rfl
  · refine fin (k := 0) (z' := KS.mk z.G z.N z.T z.V z.Hs z.Q z.R z.P z.Sb (nI s).toInt64 z.od) (b := nI s) (M' := up2 M 0 4 0) ?_ ?_ (e_04 _ _) (fun _ => rfl) (h.r04 0)
    · unfold fL_find fX11_find
      rw [e1, f1]
      simp only [Option.bind_some, sx]
      rw [if_pos (nI_0le (by omega))]
      rfl
    · unfold fX12_find
      rw [e2, f1]
      simp only [Option.bind_some]
      rw [if_pos (nI_0le (by omega))]
theorem q_digit {z : KS} {M : Mem} {B : Nat} (h : SR z M B) (a : Int32) : ok (fC_digit z M a) (fun r => SR r.1 r.2 B) := by
  obtain ⟨n, w, L, hR⟩ := h.1
  have hn := hR.hn
  unfold fC_digit
  rcases st_or n a with ⟨i, hi, e⟩ | hno
  · subst e
    have hs : stn (2 + i) = true := stn_2 (by omega)
    have ev : z.N (2 + i) 1 = M 1 (8 + 12 * i + 1) := hR.vw i hi 1 (by decide)
    have er : fX12_ofStation M (nI i) 1 = some (M 1 (8 + 12 * i + 1), up2 M 0 4 0) := r_ofStation_yes hR.mv hi (o := 1) (by decide)
    refine fin (k := 0) (z' := KS.mk z.G z.N z.T z.V z.Hs z.Q z.R z.P z.Sb (M 1 (8 + 12 * i + 1)).toInt64 z.od) (b := M 1 (8 + 12 * i + 1)) (M' := up2 M 0 4 0) ?_ ?_ (e_04 _ _) (fun _ => rfl) (h.r04 0)
    · unfold fL_digit fX11_digit
      rw [c_known_yes hR.nv z.G hi]
      simp only [Option.bind_some, sx]
      rw [gd_t hs, ev]
      rfl
    · unfold fX12_digit
      rw [er]
      rfl
  · refine fin (k := 1) (z' := z) (b := 0) (M' := up2 M 0 4 1) ?_ ?_ (e_04 _ _) (fun q => absurd q (by decide)) (h.r04 1)
    · unfold fL_digit fX11_digit
      rw [c_known_no hR.nv z.G hno]
      rfl
    · unfold fX12_digit
      rw [r_ofStation_no hR.mv hno]
      rfl
theorem q_channel {z : KS} {M : Mem} {B : Nat} (h : SR z M B) (a : Int32) : ok (fC_channel z M a) (fun r => SR r.1 r.2 B) := by
  obtain ⟨n, w, L, hR⟩ := h.1
  have hn := hR.hn
  unfold fC_channel
  rcases st_or n a with ⟨i, hi, e⟩ | hno
  · subst e
    have hs : stn (2 + i) = true := stn_2 (by omega)
    have ev : z.N (2 + i) 5 = M 1 (8 + 12 * i + 5) := hR.vw i hi 5 (by decide)
    have er : fX12_ofStation M (nI i) 5 = some (M 1 (8 + 12 * i + 5), up2 M 0 4 0) := r_ofStation_yes hR.mv hi (o := 5) (by decide)
    refine fin (k := 0) (z' := KS.mk z.G z.N z.T z.V z.Hs z.Q z.R z.P z.Sb (M 1 (8 + 12 * i + 5)).toInt64 z.od) (b := M 1 (8 + 12 * i + 5)) (M' := up2 M 0 4 0) ?_ ?_ (e_04 _ _) (fun _ => rfl) (h.r04 0)
    · unfold fL_channel fX11_channel
      rw [c_known_yes hR.nv z.G hi]
      simp only [Option.bind_some, sx]
      rw [gd_t hs, ev]
      rfl
    · unfold fX12_channel
      rw [er]
      rfl
  · refine fin (k := 1) (z' := z) (b := 0) (M' := up2 M 0 4 1) ?_ ?_ (e_04 _ _) (fun q => absurd q (by decide)) (h.r04 1)
    · unfold fL_channel fX11_channel
      rw [c_known_no hR.nv z.G hno]
      rfl
    · unfold fX12_channel
      rw [r_ofStation_no hR.mv hno]
      rfl
theorem q_power {z : KS} {M : Mem} {B : Nat} (h : SR z M B) (a : Int32) : ok (fC_power z M a) (fun r => SR r.1 r.2 B) := by
  obtain ⟨n, w, L, hR⟩ := h.1
  have hn := hR.hn
  unfold fC_power
  rcases st_or n a with ⟨i, hi, e⟩ | hno
  · subst e
    have hs : stn (2 + i) = true := stn_2 (by omega)
    have ev : z.N (2 + i) 4 = M 1 (8 + 12 * i + 4) := hR.vw i hi 4 (by decide)
    have er : fX12_ofStation M (nI i) 4 = some (M 1 (8 + 12 * i + 4), up2 M 0 4 0) := r_ofStation_yes hR.mv hi (o := 4) (by decide)
    refine fin (k := 0) (z' := KS.mk z.G z.N z.T z.V z.Hs z.Q z.R z.P z.Sb (M 1 (8 + 12 * i + 4)).toInt64 z.od) (b := M 1 (8 + 12 * i + 4)) (M' := up2 M 0 4 0) ?_ ?_ (e_04 _ _) (fun _ => rfl) (h.r04 0)
    · unfold fL_power fX11_power
      rw [c_known_yes hR.nv z.G hi]
      simp only [Option.bind_some, sx]
      rw [gd_t hs, ev]
      rfl
    · unfold fX12_power
      rw [er]
      rfl
  · refine fin (k := 1) (z' := z) (b := 0) (M' := up2 M 0 4 1) ?_ ?_ (e_04 _ _) (fun q => absurd q (by decide)) (h.r04 1)
    · unfold fL_power fX11_power
      rw [c_known_no hR.nv z.G hno]
      rfl
    · unfold fX12_power
      rw [r_ofStation_no hR.mv hno]
      rfl
theorem q_minutesSpoken {z : KS} {M : Mem} {B : Nat} (h : SR z M B) (a : Int32) : ok (fC_minutesSpoken z M a) (fun r => SR r.1 r.2 B) := by
  obtain ⟨n, w, L, hR⟩ := h.1
  have hn := hR.hn
  unfold fC_minutesSpoken
  rcases st_or n a with ⟨i, hi, e⟩ | hno
  · subst e
    have hs : stn (2 + i) = true := stn_2 (by omega)
    have ev : z.N (2 + i) 8 = M 1 (8 + 12 * i + 9) := hR.vw i hi 8 (by decide)
    have er : fX12_ofStation M (nI i) 9 = some (M 1 (8 + 12 * i + 9), up2 M 0 4 0) := r_ofStation_yes hR.mv hi (o := 9) (by decide)
    refine fin (k := 0) (z' := KS.mk z.G z.N z.T z.V z.Hs z.Q z.R z.P z.Sb (M 1 (8 + 12 * i + 9)).toInt64 z.od) (b := M 1 (8 + 12 * i + 9)) (M' := up2 M 0 4 0) ?_ ?_ (e_04 _ _) (fun _ => rfl) (h.r04 0)
    · unfold fL_minutesSpoken fX11_minutesSpoken
      rw [c_known_yes hR.nv z.G hi]
      simp only [Option.bind_some, sx]
      rw [gd_t hs, ev]
      rfl
    · unfold fX12_minutesSpoken
      rw [er]
      rfl
  · refine fin (k := 1) (z' := z) (b := 0) (M' := up2 M 0 4 1) ?_ ?_ (e_04 _ _) (fun q => absurd q (by decide)) (h.r04 1)
    · unfold fL_minutesSpoken fX11_minutesSpoken
      rw [c_known_no hR.nv z.G hno]
      rfl
    · unfold fX12_minutesSpoken
      rw [r_ofStation_no hR.mv hno]
      rfl
theorem q_minutesReceived {z : KS} {M : Mem} {B : Nat} (h : SR z M B) (a : Int32) : ok (fC_minutesReceived z M a) (fun r => SR r.1 r.2 B) := by
  obtain ⟨n, w, L, hR⟩ := h.1
  have hn := hR.hn
  unfold fC_minutesReceived
  rcases st_or n a with ⟨i, hi, e⟩ | hno
  · subst e
    have hs : stn (2 + i) = true := stn_2 (by omega)
    have ev : z.N (2 + i) 9 = M 1 (8 + 12 * i + 10) := hR.vw i hi 9 (by decide)
    have er : fX12_ofStation M (nI i) 10 = some (M 1 (8 + 12 * i + 10), up2 M 0 4 0) := r_ofStation_yes hR.mv hi (o := 10) (by decide)
    refine fin (k := 0) (z' := KS.mk z.G z.N z.T z.V z.Hs z.Q z.R z.P z.Sb (M 1 (8 + 12 * i + 10)).toInt64 z.od) (b := M 1 (8 + 12 * i + 10)) (M' := up2 M 0 4 0) ?_ ?_ (e_04 _ _) (fun _ => rfl) (h.r04 0)
    · unfold fL_minutesReceived fX11_minutesReceived
      rw [c_known_yes hR.nv z.G hi]
      simp only [Option.bind_some, sx]
      rw [gd_t hs, ev]
      rfl
    · unfold fX12_minutesReceived
      rw [er]
      rfl
  · refine fin (k := 1) (z' := z) (b := 0) (M' := up2 M 0 4 1) ?_ ?_ (e_04 _ _) (fun q => absurd q (by decide)) (h.r04 1)
    · unfold fL_minutesReceived fX11_minutesReceived
      rw [c_known_no hR.nv z.G hno]
      rfl
    · unfold fX12_minutesReceived
      rw [r_ofStation_no hR.mv hno]
      rfl
theorem q_letter {z : KS} {M : Mem} {B : Nat} (h : SR z M B) (a : Int32) : ok (fC_letter z M a) (fun r => SR r.1 r.2 B) := by
  obtain ⟨n, w, L, hR⟩ := h.1
  have hn := hR.hn
  unfold fC_letter
  rcases st_or n a with ⟨i, hi, e⟩ | hno
  · subst e
    have hs : stn (2 + i) = true := stn_2 (by omega)
    have ev : z.N (2 + i) 0 = M 1 (8 + 12 * i + 0) := hR.vw i hi 0 (by decide)
    have er : fX12_ofStation M (nI i) 0 = some (M 1 (8 + 12 * i + 0), up2 M 0 4 0) := r_ofStation_yes hR.mv hi (o := 0) (by decide)
    obtain ⟨c, c1, c2⟩ := RG_lt (hR.rg hi (f := 0) (by decide))
    have c2 : M 1 (8 + 12 * i + 0) = nI c := c2
    obtain ⟨g1, g2⟩ := ch_nI ⟨c, by omega⟩
    refine fin (k := 0) (z' := KS.mk z.G z.N z.T z.V z.Hs z.Q z.R z.P z.Sb (nI c).toInt64 z.od) (b := nI c) (M' := up2 M 0 4 0) ?_ ?_ (e_04 _ _) (fun _ => rfl) (h.r04 0)
    · unfold fL_letter fX11_letter
      rw [c_known_yes hR.nv z.G hi]
      simp only [Option.bind_some, sx]
      rw [gd_t hs, ev, c2, gd_t g2]
      rfl
    · unfold fX12_letter
      rw [er]
      simp only [Option.bind_some]
      rw [if_pos (le0 M), c2, g1, gd_t g2]
  · refine fin (k := 1) (z' := z) (b := 32) (M' := up2 M 0 4 1) ?_ ?_ (e_04 _ _) (fun q => absurd q (by decide)) (h.r04 1)
    · unfold fL_letter fX11_letter
      rw [c_known_no hR.nv z.G hno]
      rfl
    · unfold fX12_letter
      rw [r_ofStation_no hR.mv hno]
      simp only [Option.bind_some]
      rw [if_neg (nle1 M)]
theorem q_isSpeaking {z : KS} {M : Mem} {B : Nat} (h : SR z M B) (a : Int32) : ok (fC_isSpeaking z M a) (fun r => SR r.1 r.2 B) := by
  obtain ⟨n, w, L, hR⟩ := h.1
  have hn := hR.hn
  unfold fC_isSpeaking
  rcases st_or n a with ⟨i, hi, e⟩ | hno
  · subst e
    have hs : stn (2 + i) = true := stn_2 (by omega)
    have ev : z.N (2 + i) 6 = M 1 (8 + 12 * i + 6) := hR.vw i hi 6 (by decide)
    have er : fX12_ofStation M (nI i) 6 = some (M 1 (8 + 12 * i + 6), up2 M 0 4 0) := r_ofStation_yes hR.mv hi (o := 6) (by decide)
    have h3 := hR.nv.2.2 i hi
    by_cases c : M 1 (8 + 12 * i + 6) = 1
    · refine finZ (k := 0) (z' := KS.mk z.G z.N z.T z.V z.Hs z.Q z.R z.P z.Sb 1 z.od) (b := 1) (M' := up2 M 0 4 0) ?_ ?_ (by decide) (e_04 _ _) (fun _ => show (1 : Int64) = Int32.toInt64 1 by decide) (h.r04 0)
      · unfold fL_isSpeaking fX11_isSpeaking
        rw [c_known_yes hR.nv z.G hi]
        simp only [Option.bind_some, sx]
        rw [gd_t hs, gd_t h3, if_pos (ev.trans c)]
        rfl
      · unfold fX12_isSpeaking
        rw [er]
        simp only [Option.bind_some]
        rw [if_pos c]
    · refine finZ (k := 0) (z' := KS.mk z.G z.N z.T z.V z.Hs z.Q z.R z.P z.Sb 0 z.od) (b := 0) (M' := up2 M 0 4 0) ?_ ?_ (by decide) (e_04 _ _) (fun _ => show (0 : Int64) = Int32.toInt64 0 by decide) (h.r04 0)
      · unfold fL_isSpeaking fX11_isSpeaking
        rw [c_known_yes hR.nv z.G hi]
        simp only [Option.bind_some, sx]
        rw [gd_t hs, gd_t h3, if_neg (fun q => c (ev.symm.trans q))]
        rfl
      · unfold fX12_isSpeaking
        rw [er]
        simp only [Option.bind_some]
        rw [if_neg c]
  · refine finZ (k := 1) (z' := z) (b := 0) (M' := up2 M 0 4 1) ?_ ?_ (by decide) (e_04 _ _) (fun q => absurd q (by decide)) (h.r04 1)
    · unfold fL_isSpeaking fX11_isSpeaking
      rw [c_known_no hR.nv z.G hno]
      rfl
    · unfold fX12_isSpeaking
      rw [r_ofStation_no hR.mv hno]
      rfl
theorem q_isWaiting {z : KS} {M : Mem} {B : Nat} (h : SR z M B) (a : Int32) : ok (fC_isWaiting z M a) (fun r => SR r.1 r.2 B) := by
  obtain ⟨n, w, L, hR⟩ := h.1
  have hn := hR.hn
  unfold fC_isWaiting
  rcases st_or n a with ⟨i, hi, e⟩ | hno
  · subst e
    have hs : stn (2 + i) = true := stn_2 (by omega)
    have ev : z.N (2 + i) 6 = M 1 (8 + 12 * i + 6) := hR.vw i hi 6 (by decide)
    have er : fX12_ofStation M (nI i) 6 = some (M 1 (8 + 12 * i + 6), up2 M 0 4 0) := r_ofStation_yes hR.mv hi (o := 6) (by decide)
    have h3 := hR.nv.2.2 i hi
    by_cases c : M 1 (8 + 12 * i + 6) = 2
    · refine finZ (k := 0) (z' := KS.mk z.G z.N z.T z.V z.Hs z.Q z.R z.P z.Sb 1 z.od) (b := 1) (M' := up2 M 0 4 0) ?_ ?_ (by decide) (e_04 _ _) (fun _ => show (1 : Int64) = Int32.toInt64 1 by decide) (h.r04 0)
      · unfold fL_isWaiting fX11_isWaiting
        rw [c_known_yes hR.nv z.G hi]
        simp only [Option.bind_some, sx]
        rw [gd_t hs, gd_t h3, if_pos (ev.trans c)]
        rfl
      · unfold fX12_isWaiting
        rw [er]
        simp only [Option.bind_some]
        rw [if_pos c]
    · refine finZ (k := 0) (z' := KS.mk z.G z.N z.T z.V z.Hs z.Q z.R z.P z.Sb 0 z.od) (b := 0) (M' := up2 M 0 4 0) ?_ ?_ (by decide) (e_04 _ _) (fun _ => show (0 : Int64) = Int32.toInt64 0 by decide) (h.r04 0)
      · unfold fL_isWaiting fX11_isWaiting
        rw [c_known_yes hR.nv z.G hi]
        simp only [Option.bind_some, sx]
        rw [gd_t hs, gd_t h3, if_neg (fun q => c (ev.symm.trans q))]
        rfl
      · unfold fX12_isWaiting
        rw [er]
        simp only [Option.bind_some]
        rw [if_neg c]
  · refine finZ (k := 1) (z' := z) (b := 0) (M' := up2 M 0 4 1) ?_ ?_ (by decide) (e_04 _ _) (fun q => absurd q (by decide)) (h.r04 1)
    · unfold fL_isWaiting fX11_isWaiting
      rw [c_known_no hR.nv z.G hno]
      rfl
    · unfold fX12_isWaiting
      rw [r_ofStation_no hR.mv hno]
      rfl
theorem q_logStation {z : KS} {M : Mem} {B : Nat} (h : SR z M B) (a : Int32) : ok (fC_logStation z M a) (fun r => SR r.1 r.2 B) := by
  obtain ⟨n, w, L, hR⟩ := h.1
  obtain ⟨c, c1, c2, c3, c4⟩ := hR.lg
  unfold fC_logStation
  rcases st_or c a with ⟨e, he, ea⟩ | hno
  · subst ea
    have ee : (nI e).toNatClampNeg = e := nI_clamp (by omega)
    obtain ⟨p1, p2, p3⟩ := row_at (c := e) (by omega)
    have ei : fX12_in (nI e) 0 (M 1 4 - 1) = some 1 := by
      unfold fX12_in
      obtain ⟨c', rfl⟩ : ∃ c', c = c' + 1 := ⟨c - 1, by omega⟩
      rw [c3, nI_pred, if_neg (nI_pos (by omega)), if_neg (nI_nlt (by omega) (by omega))]
    refine fin (k := 0) (z' := KS.mk z.G z.N z.T z.V z.Hs z.Q z.R z.P z.Sb (M 1 (108 + 3 * e)).toInt64 z.od) (b := M 1 (108 + 3 * e)) (M' := up2 M 0 4 0) ?_ ?_ (e_04 _ _) (fun _ => rfl) (h.r04 0)
    · unfold fL_logStation fX11_logStation fX11_requireEntry
      rw [if_neg (nI_pos (by omega)), c2, if_pos (nI_lt he (by omega))]
      simp only [Option.bind_some, sx]
      rw [gd_t (inb_nI (by omega) (by decide)), ee, (c4 e he).1]
      rfl
    · unfold fX12_logStation fX12_logged
      rw [ei]
      simp only [Option.bind_some]
      rw [if_neg (by decide), if_pos (le0 M), p1, show nI (108 + 3 * e) + 0 = nI (108 + 3 * e) from Int32.add_zero _, gd_t (inb_nI (by omega) (by decide)), nI_clamp (by omega), up2_at, if_neg (by omega)]
      rfl
  · have er : fX11_requireEntry z.G z.N a = some (.inl 0) := by
      unfold fX11_requireEntry
      rw [c2]
      by_cases q : a < 0
      · rw [if_pos q]
      · rw [if_neg q]
        obtain ⟨j, hj, ej⟩ := nI_of q
        by_cases q2 : j < c
        · exact absurd ej (hno j q2)
        · rw [ej, if_neg (nI_nlt (by omega) hj)]
    have ei : fX12_in a 0 (M 1 4 - 1) = some 0 := by
      unfold fX12_in
      by_cases q : a < 0
      · rw [if_pos q]
      · rw [if_neg q, c3]
        obtain ⟨j, hj, ej⟩ := nI_of q
        by_cases q2 : j < c
        · exact absurd ej (hno j q2)
        · rw [if_pos (by
            rw [ej, Int32.lt_iff_toInt_lt, Int32.toInt_sub, nI_toInt hj, nI_toInt (by omega), Int32.toInt_one, Int.bmod_def]
            omega)]
    refine fin (k := 1) (z' := z) (b := 0) (M' := up2 M 0 4 1) ?_ ?_ (e_04 _ _) (fun q => absurd q (by decide)) (h.r04 1)
    · unfold fL_logStation fX11_logStation
      rw [er]
      rfl
    · unfold fX12_logStation fX12_logged
      rw [ei]
      simp only [Option.bind_some]
      rw [if_pos trivial, if_neg (nle1 M)]
      rfl
theorem q_logBegin {z : KS} {M : Mem} {B : Nat} (h : SR z M B) (a : Int32) : ok (fC_logBegin z M a) (fun r => SR r.1 r.2 B) := by
  obtain ⟨n, w, L, hR⟩ := h.1
  obtain ⟨c, c1, c2, c3, c4⟩ := hR.lg
  unfold fC_logBegin
  rcases st_or c a with ⟨e, he, ea⟩ | hno
  · subst ea
    have ee : (nI e).toNatClampNeg = e := nI_clamp (by omega)
    obtain ⟨p1, p2, p3⟩ := row_at (c := e) (by omega)
    have ei : fX12_in (nI e) 0 (M 1 4 - 1) = some 1 := by
      unfold fX12_in
      obtain ⟨c', rfl⟩ : ∃ c', c = c' + 1 := ⟨c - 1, by omega⟩
      rw [c3, nI_pred, if_neg (nI_pos (by omega)), if_neg (nI_nlt (by omega) (by omega))]
    refine fin (k := 0) (z' := KS.mk z.G z.N z.T z.V z.Hs z.Q z.R z.P z.Sb (M 1 (108 + 3 * e + 1)).toInt64 z.od) (b := M 1 (108 + 3 * e + 1)) (M' := up2 M 0 4 0) ?_ ?_ (e_04 _ _) (fun _ => rfl) (h.r04 0)
    · unfold fL_logBegin fX11_logBegin fX11_requireEntry
      rw [if_neg (nI_pos (by omega)), c2, if_pos (nI_lt he (by omega))]
      simp only [Option.bind_some, sx]
      rw [gd_t (inb_nI (by omega) (by decide)), ee, (c4 e he).2.1]
      rfl
    · unfold fX12_logBegin fX12_logged
      rw [ei]
      simp only [Option.bind_some]
      rw [if_neg (by decide), if_pos (le0 M), p1, show nI (108 + 3 * e) + 1 = nI (108 + 3 * e + 1) from nI_add _ 1, gd_t (inb_nI (by omega) (by decide)), nI_clamp (by omega), up2_at, if_neg (by omega)]
      rfl
  · have er : fX11_requireEntry z.G z.N a = some (.inl 0) := by
      unfold fX11_requireEntry
      rw [c2]
      by_cases q : a < 0
      · rw [if_pos q]
      · rw [if_neg q]
        obtain ⟨j, hj, ej⟩ := nI_of q
        by_cases q2 : j < c
        · exact absurd ej (hno j q2)
        · rw [ej, if_neg (nI_nlt (by omega) hj)]
    have ei : fX12_in a 0 (M 1 4 - 1) = some 0 := by
      unfold fX12_in
      by_cases q : a < 0
      · rw [if_pos q]
      · rw [if_neg q, c3]
        obtain ⟨j, hj, ej⟩ := nI_of q
        by_cases q2 : j < c
        · exact absurd ej (hno j q2)
        · rw [if_pos (by
            rw [ej, Int32.lt_iff_toInt_lt, Int32.toInt_sub, nI_toInt hj, nI_toInt (by omega), Int32.toInt_one, Int.bmod_def]
            omega)]
    refine fin (k := 1) (z' := z) (b := 0) (M' := up2 M 0 4 1) ?_ ?_ (e_04 _ _) (fun q => absurd q (by decide)) (h.r04 1)
    · unfold fL_logBegin fX11_logBegin
      rw [er]
      rfl
    · unfold fX12_logBegin fX12_logged
      rw [ei]
      simp only [Option.bind_some]
      rw [if_pos trivial, if_neg (nle1 M)]
      rfl
theorem q_logMinutes {z : KS} {M : Mem} {B : Nat} (h : SR z M B) (a : Int32) : ok (fC_logMinutes z M a) (fun r => SR r.1 r.2 B) := by
  obtain ⟨n, w, L, hR⟩ := h.1
  obtain ⟨c, c1, c2, c3, c4⟩ := hR.lg
  unfold fC_logMinutes
  rcases st_or c a with ⟨e, he, ea⟩ | hno
  · subst ea
    have ee : (nI e).toNatClampNeg = e := nI_clamp (by omega)
    obtain ⟨p1, p2, p3⟩ := row_at (c := e) (by omega)
    have ei : fX12_in (nI e) 0 (M 1 4 - 1) = some 1 := by
      unfold fX12_in
      obtain ⟨c', rfl⟩ : ∃ c', c = c' + 1 := ⟨c - 1, by omega⟩
      rw [c3, nI_pred, if_neg (nI_pos (by omega)), if_neg (nI_nlt (by omega) (by omega))]
    refine fin (k := 0) (z' := KS.mk z.G z.N z.T z.V z.Hs z.Q z.R z.P z.Sb (M 1 (108 + 3 * e + 2)).toInt64 z.od) (b := M 1 (108 + 3 * e + 2)) (M' := up2 M 0 4 0) ?_ ?_ (e_04 _ _) (fun _ => rfl) (h.r04 0)
    · unfold fL_logMinutes fX11_logMinutes fX11_requireEntry
      rw [if_neg (nI_pos (by omega)), c2, if_pos (nI_lt he (by omega))]
      simp only [Option.bind_some, sx]
      rw [gd_t (inb_nI (by omega) (by decide)), ee, (c4 e he).2.2]
      rfl
    · unfold fX12_logMinutes fX12_logged
      rw [ei]
      simp only [Option.bind_some]
      rw [if_neg (by decide), if_pos (le0 M), p1, show nI (108 + 3 * e) + 2 = nI (108 + 3 * e + 2) from nI_add _ 2, gd_t (inb_nI (by omega) (by decide)), nI_clamp (by omega), up2_at, if_neg (by omega)]
      rfl
  · have er : fX11_requireEntry z.G z.N a = some (.inl 0) := by
      unfold fX11_requireEntry
      rw [c2]
      by_cases q : a < 0
      · rw [if_pos q]
      · rw [if_neg q]
        obtain ⟨j, hj, ej⟩ := nI_of q
        by_cases q2 : j < c
        · exact absurd ej (hno j q2)
        · rw [ej, if_neg (nI_nlt (by omega) hj)]
    have ei : fX12_in a 0 (M 1 4 - 1) = some 0 := by
      unfold fX12_in
      by_cases q : a < 0
      · rw [if_pos q]
      · rw [if_neg q, c3]
        obtain ⟨j, hj, ej⟩ := nI_of q
        by_cases q2 : j < c
        · exact absurd ej (hno j q2)
        · rw [if_pos (by
            rw [ej, Int32.lt_iff_toInt_lt, Int32.toInt_sub, nI_toInt hj, nI_toInt (by omega), Int32.toInt_one, Int.bmod_def]
            omega)]
    refine fin (k := 1) (z' := z) (b := 0) (M' := up2 M 0 4 1) ?_ ?_ (e_04 _ _) (fun q => absurd q (by decide)) (h.r04 1)
    · unfold fL_logMinutes fX11_logMinutes
      rw [er]
      rfl
    · unfold fX12_logMinutes fX12_logged
      rw [ei]
      simp only [Option.bind_some]
      rw [if_pos trivial, if_neg (nle1 M)]
      rfl
