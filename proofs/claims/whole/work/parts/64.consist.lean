/-! ===== hearing, jamming, hops; the invariants checked ===== -/
theorem q_canHear {z : KS} {M : Mem} {B : Nat} (h : SR z M B) (a b : Int32) : ok (fC_canHear z M a b) (fun r => SR r.1 r.2 B) := by
  obtain ⟨n, w, L, hR⟩ := h.1
  have hn := hR.hn
  unfold fC_canHear
  have no : (∀ i, i < n → a ≠ nI i) ∨ (∀ i, i < n → b ≠ nI i) → fX12_canHear M a b = some (0, up2 M 0 4 1) := fun q => by
    unfold fX12_canHear
    rw [r_areStations_no hR.mv q]
    rfl
  rcases st_or n a with ⟨i, hi, e⟩ | hno
  · have hs : stn (2 + i) = true := stn_2 (by omega)
    rcases st_or n b with ⟨j, hj, e2⟩ | hno
    · subst e
      subst e2
      have hs2 : stn (2 + j) = true := stn_2 (by omega)
      have er : fX12_canHear M (nI i) (nI j) = some (b2i (hearP (vM M) i j), up2 M 0 4 0) := by
        unfold fX12_canHear
        rw [r_areStations_yes hR.mv hi hj]
        simp only [Option.bind_some]
        rw [if_neg (by decide), r_hears _ (by omega) (by omega), vM_04]
        simp only [Option.bind_some]
        cases hearP (vM M) i j with
        | true => rfl
        | false => rfl
      have ec : fL_canHear z (nI i) (nI j) = some (0, KS.mk z.G z.N z.T z.V z.Hs z.Q z.R z.P z.Sb (b2i (hearP (vM M) i j)).toInt64 z.od) := by
        unfold fL_canHear fX11_canHear
        rw [c_known_yes hR.nv z.G hi]
        simp only [Option.bind_some, sx]
        rw [gd_t hs, c_known_yes hR.nv z.G hj]
        simp only [Option.bind_some]
        rw [gd_t hs2, c_hears z.N (by omega) (by omega), hearP_congr hR.v6 hi hj]
        simp only [Option.bind_some]
        rw [gd_t (b2i_z _)]
        cases hearP (vM M) i j with
        | true => rfl
        | false => rfl
      exact finZ ec er (b2i_z _) (e_04 _ _) (fun _ => rfl) (h.r04 0)
    · subst e
      refine finZ (k := 1) (z' := z) (b := 0) (M' := up2 M 0 4 1) ?_ (no (Or.inr hno)) (by decide) (e_04 _ _) (fun q => absurd q (by decide)) (h.r04 1)
      unfold fL_canHear fX11_canHear
      rw [c_known_yes hR.nv z.G hi]
      simp only [Option.bind_some, sx]
      rw [gd_t hs, c_known_no hR.nv z.G hno]
      rfl
  · refine finZ (k := 1) (z' := z) (b := 0) (M' := up2 M 0 4 1) ?_ (no (Or.inl hno)) (by decide) (e_04 _ _) (fun q => absurd q (by decide)) (h.r04 1)
    unfold fL_canHear fX11_canHear
    rw [c_known_no hR.nv z.G hno]
    rfl
theorem q_isJammed {z : KS} {M : Mem} {B : Nat} (h : SR z M B) (a : Int32) : ok (fC_isJammed z M a) (fun r => SR r.1 r.2 B) := by
  obtain ⟨n, w, L, hR⟩ := h.1
  have hn := hR.hn
  unfold fC_isJammed
  rcases st_or n a with ⟨i, hi, e⟩ | hno
  · subst e
    have hs : stn (2 + i) = true := stn_2 (by omega)
    have er : fX12_isJammed M (nI i) = some (b2i (anyP (fun k => distP (vM M) k i) n), up2 M 0 4 0) := by
      unfold fX12_isJammed
      rw [r_areStations_yes hR.mv hi hi]
      simp only [Option.bind_some]
      rw [if_neg (by decide), r_isDisturbed (MV_04 hR.mv 0) (by omega), vM_04]
      simp only [Option.bind_some]
      cases anyP (fun k => distP (vM M) k i) n with
      | true => rfl
      | false => rfl
    have ec : fL_isJammed z (nI i) = some (0, KS.mk z.G z.N z.T z.V z.Hs z.Q z.R z.P z.Sb (b2i (anyP (fun k => distP (vM M) k i) n)).toInt64 z.od) := by
      unfold fL_isJammed fX11_isJammed
      rw [c_known_yes hR.nv z.G hi]
      simp only [Option.bind_some, sx]
      rw [gd_t hs, c_anyJams hR.nv (by omega), anyP_congr (fun k hk => distP_congr hR.v6 hk hi)]
      simp only [Option.bind_some]
      rw [gd_t (b2i_z _)]
      cases anyP (fun k => distP (vM M) k i) n with
      | true => rfl
      | false => rfl
    exact finZ ec er (b2i_z _) (e_04 _ _) (fun _ => rfl) (h.r04 0)
  · refine finZ (k := 1) (z' := z) (b := 0) (M' := up2 M 0 4 1) ?_ ?_ (by decide) (e_04 _ _) (fun q => absurd q (by decide)) (h.r04 1)
    · unfold fL_isJammed fX11_isJammed
      rw [c_known_no hR.nv z.G hno]
      rfl
    · unfold fX12_isJammed
      rw [r_areStations_no hR.mv (Or.inl hno)]
      rfl
/-- hops, both sides: none or the same number -/
theorem hop_both {N M : Mem} {b B n w : Nat} {L : Nat → Nat} (h : RC N M b B n w L) {i j : Nat} (hi : i < n) (hj : j < n) : ∃ v, (∀ R, fX8_hopsOfSets R N (nI i) (nI j) = some v) ∧ (∀ R, ∃ R', fX8_hopsByBreadth R N (nI i) (nI j) = some (v, R')) ∧ ((v = -1 ∧ fX12_hopsOf M (nI i) (nI j) = some (0, up2 (up2 M 0 4 0) 0 4 2)) ∨ ∃ t, t < 8 ∧ v = nI t ∧ fX12_hopsOf M (nI i) (nI j) = some (nI t, up2 M 0 4 0)) := by
  have hn := h.hn
  refine ⟨sel (fun t => (setAt (vN N) n i t).testBit j) nI (-1) 8, fun R => c_hopsOfSets h.nv R (by omega) (by omega), fun R => c_hopsByBreadth h.nv hi (by omega) R, ?_⟩
  have e := c_hopsOfSets h.nv N (a := i) (b := j) (by omega) (by omega)
  rcases hops_eq h.nv h.mv N hi hj (setAt_congr h.v6 i) with ⟨g1, g2⟩ | ⟨t, ht, g1, g2⟩
  · rw [g1] at e
    exact Or.inl ⟨(Option.some.inj e).symm, g2⟩
  · rw [g1] at e
    exact Or.inr ⟨t, ht, (Option.some.inj e).symm, g2⟩
theorem r_hopsOf_no {M : Mem} {n : Nat} (h : MV M n) {a b : Int32} (q : (∀ i, i < n → a ≠ nI i) ∨ ∀ i, i < n → b ≠ nI i) : fX12_hopsOf M a b = some (0, up2 M 0 4 1) := by
  unfold fX12_hopsOf
  rw [r_areStations_no h q]
  rfl
theorem q_hops {z : KS} {M : Mem} {B : Nat} (h : SR z M B) (a b : Int32) : ok (fC_hops z M a b) (fun r => SR r.1 r.2 B) := by
  obtain ⟨n, w, L, hR⟩ := h.1
  have hn := hR.hn
  unfold fC_hops
  rcases st_or n a with ⟨i, hi, e⟩ | hno
  · subst e
    rcases st_or n b with ⟨j, hj, e2⟩ | hno
    · subst e2
      obtain ⟨v, _, v2, v3⟩ := hop_both hR hi hj
      obtain ⟨R', v2⟩ := v2 z.R
      rcases v3 with ⟨f1, f2⟩ | ⟨t, ht, f1, f2⟩
      · refine fin (k := 2) (z' := KS.mk z.G z.N z.T z.V z.Hs z.Q R' z.P z.Sb z.o z.od) (b := 0) (M' := up2 (up2 M 0 4 0) 0 4 2) ?_ ?_ (e_04 _ _) (fun q => absurd q (by decide)) ((h.r04 0).r04 2)
        · unfold fL_hops fX11_hops
          rw [c_require_yes hR.nv z.G hi]
          simp only [Option.bind_some, sx]
          rw [c_require_yes hR.nv z.G hj]
          simp only [Option.bind_some]
          rw [v2, f1]
          rfl
        · unfold fX12_hops
          rw [f2]
          rfl
      · refine fin (k := 0) (z' := KS.mk z.G z.N z.T z.V z.Hs z.Q R' z.P z.Sb (nI t).toInt64 z.od) (b := nI t) (M' := up2 M 0 4 0) ?_ ?_ (e_04 _ _) (fun _ => rfl) (h.r04 0)
        · unfold fL_hops fX11_hops
          rw [c_require_yes hR.nv z.G hi]
          simp only [Option.bind_some, sx]
          rw [c_require_yes hR.nv z.G hj]
          simp only [Option.bind_some]
          rw [v2, f1]
          simp only [Option.bind_some]
          unfold fX11_requireHops
          rw [if_pos (nI_0le (by omega))]
          rfl
        · unfold fX12_hops
          rw [f2]
          rfl
    · refine fin (k := 1) (z' := z) (b := 0) (M' := up2 M 0 4 1) ?_ ?_ (e_04 _ _) (fun q => absurd q (by decide)) (h.r04 1)
      · unfold fL_hops fX11_hops
        rw [c_require_yes hR.nv z.G hi]
        simp only [Option.bind_some, sx]
        rw [c_require_no hR.nv z.G hno]
        rfl
      · unfold fX12_hops
        rw [r_hopsOf_no hR.mv (Or.inr hno)]
        rfl
  · refine fin (k := 1) (z' := z) (b := 0) (M' := up2 M 0 4 1) ?_ ?_ (e_04 _ _) (fun q => absurd q (by decide)) (h.r04 1)
    · unfold fL_hops fX11_hops
      rw [c_require_no hR.nv z.G hno]
      rfl
    · unfold fX12_hops
      rw [r_hopsOf_no hR.mv (Or.inl hno)]
      rfl
theorem q_hopsBySets {z : KS} {M : Mem} {B : Nat} (h : SR z M B) (a b : Int32) : ok (fC_hopsBySets z M a b) (fun r => SR r.1 r.2 B) := by
  obtain ⟨n, w, L, hR⟩ := h.1
  have hn := hR.hn
  unfold fC_hopsBySets
  rcases st_or n a with ⟨i, hi, e⟩ | hno
  · subst e
    rcases st_or n b with ⟨j, hj, e2⟩ | hno
    · subst e2
      obtain ⟨v, v1, _, v3⟩ := hop_both hR hi hj
      rcases v3 with ⟨f1, f2⟩ | ⟨t, ht, f1, f2⟩
      · refine fin (k := 2) (z' := z) (b := 0) (M' := up2 (up2 M 0 4 0) 0 4 2) ?_ ?_ (e_04 _ _) (fun q => absurd q (by decide)) ((h.r04 0).r04 2)
        · unfold fL_hopsBySets fX11_hopsBySets
          rw [c_require_yes hR.nv z.G hi]
          simp only [Option.bind_some, sx]
          rw [c_require_yes hR.nv z.G hj]
          simp only [Option.bind_some]
          rw [v1, f1]
          rfl
        · unfold fX12_hopsBySets
          rw [f2]
          rfl
      · refine fin (k := 0) (z' := KS.mk z.G z.N z.T z.V z.Hs z.Q z.R z.P z.Sb (nI t).toInt64 z.od) (b := nI t) (M' := up2 M 0 4 0) ?_ ?_ (e_04 _ _) (fun _ => rfl) (h.r04 0)
        · unfold fL_hopsBySets fX11_hopsBySets
          rw [c_require_yes hR.nv z.G hi]
          simp only [Option.bind_some, sx]
          rw [c_require_yes hR.nv z.G hj]
          simp only [Option.bind_some]
          rw [v1, f1]
          simp only [Option.bind_some]
          unfold fX11_requireHops
          rw [if_pos (nI_0le (by omega))]
          rfl
        · unfold fX12_hopsBySets
          rw [f2]
          rfl
    · refine fin (k := 1) (z' := z) (b := 0) (M' := up2 M 0 4 1) ?_ ?_ (e_04 _ _) (fun q => absurd q (by decide)) (h.r04 1)
      · unfold fL_hopsBySets fX11_hopsBySets
        rw [c_require_yes hR.nv z.G hi]
        simp only [Option.bind_some, sx]
        rw [c_require_no hR.nv z.G hno]
        rfl
      · unfold fX12_hopsBySets
        rw [r_hopsOf_no hR.mv (Or.inr hno)]
        rfl
  · refine fin (k := 1) (z' := z) (b := 0) (M' := up2 M 0 4 1) ?_ ?_ (e_04 _ _) (fun q => absurd q (by decide)) (h.r04 1)
    · unfold fL_hopsBySets fX11_hopsBySets
      rw [c_require_no hR.nv z.G hno]
      rfl
    · unfold fX12_hopsBySets
      rw [r_hopsOf_no hR.mv (Or.inl hno)]
      rfl
theorem q_reachable {z : KS} {M : Mem} {B : Nat} (h : SR z M B) (a : Int32) : ok (fC_reachable z M a) (fun r => SR r.1 r.2 B) := by
  obtain ⟨n, w, L, hR⟩ := h.1
  have hn := hR.hn
  unfold fC_reachable
  rcases st_or n a with ⟨i, hi, e⟩ | hno
  · subst e
    refine fin (k := 0) (z' := KS.mk z.G z.N z.T z.V z.Hs z.Q z.R z.P z.Sb (nI (cnt (fun k => (setAt (vM M) n i 8).testBit k) 8)).toInt64 z.od) (b := nI (cnt (fun k => (setAt (vM M) n i 8).testBit k) 8)) (M' := up2 M 0 4 0) ?_ (r_reachable hR.mv hi) (e_04 _ _) (fun _ => rfl) (h.r04 0)
    unfold fL_reachable fX11_reachable
    rw [c_require_yes hR.nv z.G hi]
    simp only [Option.bind_some, sx]
    rw [c_countReached hR.nv z.R (by omega), setAt_congr hR.v6 i 8]
    rfl
  · refine fin (k := 1) (z' := z) (b := 0) (M' := up2 M 0 4 1) ?_ ?_ (e_04 _ _) (fun q => absurd q (by decide)) (h.r04 1)
    · unfold fL_reachable fX11_reachable
      rw [c_require_no hR.nv z.G hno]
      rfl
    · unfold fX12_reachable
      rw [r_areStations_no hR.mv (Or.inl hno)]
      rfl
theorem c_hopsAgree {N M : Mem} {b B n w : Nat} {L : Nat → Nat} (h : RC N M b B n w L) (G R : Mem) : ∃ R', fX11_hopsAgree G N R = some (1, R') := by
  have hn := h.hn
  have inner : ∀ d i j, i < n → j + d = n → ∀ R, ∃ R', lp (fX11_hopsAgree_s G N) (1, nI i, nI j, R) = lp (fX11_hopsAgree_s G N) (0, nI (i + 1), 0, R') := by
    intro d
    induction d with
    | zero =>
      intro i j hi hj R
      have e : j = n := by omega
      subst e
      refine ⟨R, lp_inl ?_⟩
      unfold fX11_hopsAgree_s
      dsimp only
      rw [if_neg (by decide), if_pos (show N 0 1 ≤ nI j by rw [h.nv.2.1]; exact nI_le (Nat.le_refl j) (by omega)), nI_1]
    | succ d ih =>
      intro i j hi hj R
      obtain ⟨v, v1, v2, _⟩ := hop_both h hi (show j < n by omega)
      obtain ⟨R1, v2⟩ := v2 R
      obtain ⟨R', e⟩ := ih i (j + 1) hi (by omega) R1
      refine ⟨R', (lp_inl (s' := (1, nI i, nI (j + 1), R1)) ?_).trans e⟩
      unfold fX11_hopsAgree_s
      dsimp only
      rw [if_neg (by decide), if_neg (show ¬ N 0 1 ≤ nI j by rw [h.nv.2.1]; exact lt_step hn (by omega)), v2]
      simp only [Option.bind_some]
      rw [v1]
      simp only [Option.bind_some]
      rw [if_pos trivial, nI_1]
  have outer : ∀ d i, i + d = n → ∀ R, ∃ R', lp (fX11_hopsAgree_s G N) (0, nI i, 0, R) = some (1, R') := by
    intro d
    induction d with
    | zero =>
      intro i hi R
      have e : i = n := by omega
      subst e
      refine ⟨R, lp_inr ?_⟩
      unfold fX11_hopsAgree_s
      dsimp only
      rw [if_pos rfl, if_pos (show N 0 1 ≤ nI i by rw [h.nv.2.1]; exact nI_le (Nat.le_refl i) (by omega))]
    | succ d ih =>
      intro i hi R
      obtain ⟨R1, e1⟩ := inner n i 0 (by omega) (by omega) R
      obtain ⟨R', e2⟩ := ih (i + 1) (by omega) R1
      refine ⟨R', (lp_inl (s' := (1, nI i, 0, R)) ?_).trans (e1.trans e2)⟩
      unfold fX11_hopsAgree_s
      dsimp only
      rw [if_pos rfl, if_neg (show ¬ N 0 1 ≤ nI i by rw [h.nv.2.1]; exact lt_step hn (by omega))]
  exact outer n 0 (by omega) R
theorem c_turnsAgree {N M : Mem} {B n w : Nat} {L : Nat → Nat} (h : RC N M 59 B n w L) (G T : Mem) : ∃ T', fX11_turnsAgree G N T = some (1, T') := by
  have hn := h.hn
  have outer : ∀ d i, i + d = n → ∀ T, ∃ T', lp (fX11_turnsAgree_s G N) (nI i, T) = some (1, T') := by
    intro d
    induction d with
    | zero =>
      intro i hi T
      have e : i = n := by omega
      subst e
      refine ⟨T, lp_inr ?_⟩
      unfold fX11_turnsAgree_s
      dsimp only
      rw [if_pos (show N 0 1 ≤ nI i by rw [h.nv.2.1]; exact nI_le (Nat.le_refl i) (by omega))]
    | succ d ih =>
      intro i hi T
      have hin : i < n := by omega
      have ei : (nI i).toNatClampNeg = i := nI_clamp (by omega)
      have n6 : N (2 + i) 6 = vM M i 6 := h.vw i hin 6 (by decide)
      by_cases c : vM M i 6 = 2
      · obtain ⟨v, v1, _, v3⟩ := co_until h hin c
        obtain ⟨T1, v4⟩ := v3 G T
        obtain ⟨T', e⟩ := ih (i + 1) (by omega) T1
        refine ⟨T', (lp_inl (s' := (nI (i + 1), T1)) ?_).trans e⟩
        unfold fX11_turnsAgree_s
        dsimp only
        rw [if_neg (show ¬ N 0 1 ≤ nI i by rw [h.nv.2.1]; exact lt_step hn hin), gd_t (inb_nI (by omega) (by decide))]
        simp only [ei, Nat.one_mul]
        rw [gd_t (h.nv.2.2 i hin), if_pos (n6.trans c), v1]
        simp only [Option.bind_some]
        rw [v4]
        simp only [Option.bind_some]
        rw [if_pos trivial, nI_1]
      · obtain ⟨T', e⟩ := ih (i + 1) (by omega) T
        refine ⟨T', (lp_inl (s' := (nI (i + 1), T)) ?_).trans e⟩
        unfold fX11_turnsAgree_s
        dsimp only
        rw [if_neg (show ¬ N 0 1 ≤ nI i by rw [h.nv.2.1]; exact lt_step hn hin), gd_t (inb_nI (by omega) (by decide))]
        simp only [ei, Nat.one_mul]
        rw [gd_t (h.nv.2.2 i hin), if_neg (fun q => c (n6.symm.trans q)), nI_1]
  exact outer n 0 (by omega) T
def modP (v : Nat → Nat → Int32) (c m : Int32) (i : Nat) : Bool := decide (v i 5 = c ∧ v i 6 = m)
theorem c_countOn {N : Mem} {n : Nat} (h : NV N n) (c : Int32) {m : Int32} (hm : inb m 3 = true) : fX6_countOn N c m = some (nI (cnt (modP (vN N) c m) n)) := by
  obtain ⟨h1, h2, h3⟩ := h
  unfold fX6_countOn
  refine lp_count (fun j hj a ha => ?_) (fun a ha => ?_)
  · unfold fX6_countOn_s
    have hc : (nI j).toNatClampNeg = j := nI_clamp (by omega)
    have hj8 : inb (nI j) 8 = true := inb_nI (by omega) (by decide)
    dsimp only
    rw [h2, if_neg (lt_step h1 hj), gd_t hj8]
    simp only [hc, Nat.one_mul]
    by_cases g : N (2 + j) 5 = c
    · rw [if_pos g, gd_t hj8, gd_t (h3 j hj), gd_t hm]
      by_cases g2 : N (2 + j) 6 = m
      · rw [if_pos g2, if_pos (show modP (vN N) c m j = true from decide_eq_true ⟨g, g2⟩), nI_1, nI_1]
      · rw [if_neg g2, if_neg (by rw [show modP (vN N) c m j = false from decide_eq_false (fun q => g2 q.2)]; decide), nI_1]
        rfl
    · rw [if_neg g, if_neg (by rw [show modP (vN N) c m j = false from decide_eq_false (fun q => g q.1)]; decide), nI_1]
      rfl
  · unfold fX6_countOn_s
    dsimp only
    rw [h2, if_pos (nI_le (Nat.le_refl n) (by omega))]
theorem cnt_le1 {p : Nat → Bool} : ∀ n, (∀ i j, i < n → j < n → p i = true → p j = true → i = j) → cnt p n ≤ 1 := by
  intro n
  induction n with
  | zero => intro _; exact Nat.zero_le _
  | succ n ih =>
    intro h
    have h1 := ih (fun i j hi hj => h i j (by omega) (by omega))
    unfold cnt
    by_cases c : p n = true
    · have h0 : cnt p n = 0 := cnt_no p n (fun i hi => by
        cases z : p i with
        | false => rfl
        | true => have := h i n (by omega) (by omega) z c; omega)
      rw [if_pos c, h0]
      omega
    · rw [if_neg c]; omega
theorem c_channelsAreOrdered {N M : Mem} {b B n w : Nat} {L : Nat → Nat} (h : RC N M b B n w L) : fX6_channelsAreOrdered N = some 1 := by
  have hn := h.hn
  unfold fX6_channelsAreOrdered
  refine lp_up (fun t => nI t) 10 (fun t ht => ?_) ?_
  · have e1 := c_countOn h.nv (nI t) (m := 1) (by decide)
    have e2 := c_countOn h.nv (nI t) (m := 2) (by decide)
    have b1 : cnt (modP (vN N) (nI t) 1) n ≤ 1 := cnt_le1 n (fun i j hi hj hp hq => by
      have p1 := of_decide_eq_true hp
      have q1 := of_decide_eq_true hq
      exact h.osN i j hi hj p1.2 q1.2 (p1.1.trans q1.1.symm))
    unfold fX6_channelsAreOrdered_s
    rw [if_neg (show ¬ (10 : Int32) ≤ nI t from nI_ge (b := 10) ht (by omega)), e1]
    simp only [Option.bind_some]
    rw [if_neg (show ¬ (1 : Int32) < nI (cnt (modP (vN N) (nI t) 1) n) from nI_nlt (a := 1) b1 (by omega))]
    by_cases c : cnt (modP (vN N) (nI t) 1) n = 0
    · have w0 : cnt (modP (vN N) (nI t) 2) n = 0 := cnt_no _ n (fun i hi => by
        cases q : modP (vN N) (nI t) 2 i with
        | false => rfl
        | true =>
          have q1 := of_decide_eq_true q
          rw [h.vw i hi 5 (by decide), h.vw i hi 6 (by decide)] at q1
          obtain ⟨s, s1, s2, s3⟩ := h.ws i hi q1.2
          have := cnt_lt (p := fun _ => false) (q := modP (vN N) (nI t) 1) (x := s) n (fun _ _ z => Bool.noConfusion z) s1 rfl (decide_eq_true (by rw [h.vw s s1 5 (by decide), h.vw s s1 6 (by decide)]; exact ⟨s3.trans q1.1, s2⟩))
          omega)
      rw [c, if_pos nI_0, e2]
      simp only [Option.bind_some]
      rw [w0, if_pos (by decide), nI_1]
    · rw [if_neg (nI_ne0 (by omega) (by omega)), nI_1]
  · unfold fX6_channelsAreOrdered_s
    rw [if_pos (by decide)]
theorem q_isConsistent {z : KS} {M : Mem} {B : Nat} (h : SR z M B) : ok (fC_isConsistent z M) (fun r => SR r.1 r.2 B) := by
  obtain ⟨n, w, L, hR⟩ := h.1
  obtain ⟨R', e1⟩ := c_hopsAgree hR z.G z.R
  obtain ⟨T', e2⟩ := c_turnsAgree hR z.G z.T
  have ec : fX11_isConsistent z.G z.N z.T z.R = some (1, T', R') := by
    unfold fX11_isConsistent
    rw [e1]
    simp only [Option.bind_some]
    rw [if_neg (by decide), c_jamsOfStations hR.nv]
    simp only [Option.bind_some]
    rw [c_jamsOfChannels hR.nv hR.osN hR.ch]
    simp only [Option.bind_some]
    rw [if_pos trivial, e2]
    simp only [Option.bind_some]
    rw [if_neg (by decide), c_channelsAreOrdered hR]
    simp only [Option.bind_some]
    rw [if_neg (by decide)]
  have er : fX12_isConsistent M = some (1, up2 M 0 4 0) := by
    unfold fX12_isConsistent fX12_plain
    simp only [Option.bind_some]
    rw [if_pos trivial]
  unfold fC_isConsistent
  rw [ec, er]
  show ok (gd (decide ((1 : Int32) = 1)) _) _
  rw [gd_t (by decide)]
  exact ok_some.mpr (h.r04 0)
