/-! ===== minutes until a turn: computed, simulated, the reference's ===== -/
/-- what is left: the speaker has spoken l minutes, p wait ahead -/
def remT (lim l p : Nat) : Nat := (if lim ≤ l then 1 else lim - l) + p * lim
theorem left1_nI {lim l : Nat} (h1 : lim ≤ 60) (h2 : l ≤ 60) : left1 (nI lim - nI l) = nI (if lim ≤ l then 1 else lim - l) := by
  have e : (nI lim - nI l).toInt = (lim : Int) - l := by
    rw [Int32.toInt_sub, nI_toInt (by omega), nI_toInt (by omega), Int.bmod_def]
    omega
  unfold left1
  by_cases c : lim ≤ l
  · rw [if_pos c]
    by_cases g : 1 ≤ nI lim - nI l
    · rw [Int32.le_iff_toInt_le, e, Int32.toInt_one] at g
      omega
    · rw [if_neg g]; rfl
  · rw [if_neg c, if_pos (by rw [Int32.le_iff_toInt_le, e, Int32.toInt_one]; omega)]
    apply Int32.toInt_inj.mp
    rw [e, nI_toInt (by omega)]
    omega
theorem rem_nI {lim l p : Nat} (h1 : lim ≤ 60) (h2 : l ≤ 60) : left1 (nI lim - nI l) + nI p * nI lim = nI (remT lim l p) := by
  rw [left1_nI h1 h2, pk_mul, nI_add]
  rfl
theorem remT_pos {lim l p : Nat} (h : 1 ≤ lim) : 1 ≤ remT lim l p := by
  unfold remT
  split <;> omega
theorem ahead_lt {M : Mem} {n y : Nat} (hn : n ≤ 8) (hy : y < n) : cnt (aheadP M y) n ≤ 7 := by
  have h := cnt_lt (p := aheadP M y) (q := fun _ => true) (x := y) n (fun _ _ _ => rfl) hy (by
    unfold aheadP
    rw [decide_eq_false (i32_lt_irrefl _), Bool.and_false]) rfl
  have h2 := cnt_le (fun _ => true) n
  omega
theorem TRK_of {N M : Mem} {b B n w : Nat} {L : Nat → Nat} (h : RC N M b B n w L) {y : Nat} (hy : y < n) (h2 : vM M y 6 = 2) : ∃ s l, l ≤ b ∧ TRK M n y s l (cnt (aheadP M y) n) ∧ first (spkP (vM M) (vM M y 5)) n = nI s := by
  have hn := h.hn
  obtain ⟨s, s1, s2, s3⟩ := h.ws y hy h2
  obtain ⟨l, l1, l2, l3⟩ := h.lss s s1 s2
  refine ⟨s, l, l1, ⟨hy, h2, s1, s2, s3, l2, rfl⟩, ?_⟩
  rcases first_spec (spkP (vM M) (vM M y 5)) n with ⟨e1, hf⟩ | ⟨q, hq, hp, _, e1⟩
  · have := hf s s1
    unfold spkP at this
    rw [decide_eq_true ⟨s3, s2⟩] at this
    cases this
  · have g : vM M q 5 = vM M y 5 ∧ vM M q 6 = 1 := of_decide_eq_true hp
    rw [e1, h.os q s hq s1 g.2 s2 (g.1.trans s3.symm)]
/-- the three ways agree -/
theorem co_until {N M : Mem} {B n w : Nat} {L : Nat → Nat} (h : RC N M 59 B n w L) {y : Nat} (hy : y < n) (h2 : vM M y 6 = 2) : ∃ a, fX6_computedMinutes N (nI y) = some a ∧ fX12_untilTurn M (nI y) = some (a, up2 M 0 4 0) ∧ ∀ G T, ∃ T', fX11_simulatedMinutes G N T (nI y) = some (a, T') := by
  have hn := h.hn
  obtain ⟨s, l, l1, hT, hf⟩ := TRK_of h hy h2
  obtain ⟨tl1, lim, tl2, tl3, tl4, tl5⟩ := h.tl
  have hT' := hT
  obtain ⟨y1, y2, s1, s2, s3, s4, s5⟩ := hT
  obtain ⟨j0, hj, ej⟩ := of_decide_eq_true ((h.lt.2.1 y hy).mpr h2)
  have hp7 := ahead_lt (M := M) hn hy
  refine ⟨nI (remT lim l (cnt (aheadP M y) n)), ?_, ?_, fun G T => ?_⟩
  · have q := c_computedMinutes h.nv h.lv hj s1 (by
      rw [ej, h.vw y hy 5 (by decide), c_speakerOn h.nv, h.spk, hf])
    rw [ej] at q
    rw [q, h.vw y hy 5 (by decide), cnt_congr (fun j hj2 => h.chp (vM M y 5) (show j < w by omega)), tl4, tl1, h.vw s s1 7 (by decide)]
    obtain ⟨l', l1', l2', l3'⟩ := h.lss s s1 s2
    have pe := place_eq h.lt hj
    rw [ej] at pe
    rw [l3', ← l2', s4, ← pe, rem_nI tl3 (by omega)]
  · have q := r_untilTurn h.mv hy h2 s1 hf
    have e4 : M 1 (8 + 12 * s + 8) = nI l := s4
    rw [q, tl5, e4, rem_nI tl3 (by omega)]
  · unfold fX11_simulatedMinutes
    obtain ⟨T0, t1, t2⟩ := net_copy T N h.cc
    rw [t1]
    simp only [Option.bind_some]
    have hT0 := h.net t2
    have key : ∀ r k, 1 ≤ k → k - 1 + r ≤ 480 → ∀ (T1 M1 : Mem) (w1 : Nat) (L1 : Nat → Nat) (s l p : Nat), RC T1 M1 59 B n w1 L1 → M1 1 2 = nI lim → l ≤ 59 → TRK M1 n y s l p → remT lim l p = r → ∃ T', lp (fX11_simulatedMinutes_s G N (nI y)) (nI k, T1) = some (nI (k - 1 + r), T') := by
      intro r
      induction r with
      | zero =>
        intro k _ _ T1 M1 w1 L1 s l p _ _ _ _ hr
        have := remT_pos (lim := lim) (l := l) (p := p) tl2
        omega
      | succ r ih =>
        intro k hk hk2 T1 M1 w1 L1 s l p hR hlim hl hT hr
        have hn := hR.hn
        obtain ⟨a, N2, M2, w2, L2, lim2, c1, c2, c3, c4, c5, c6, c7, c8, c9⟩ := co_minute hR
        have elim : lim2 = lim := by
          rw [hlim] at c7
          exact ((nI_eq (by omega) (by omega)).mp c7).symm
        subst elim
        obtain ⟨d1, d2⟩ := c9 y s l p hl hT
        have ey : (nI y).toNatClampNeg = y := nI_clamp (by omega)
        have hy8 : inb (nI y) 8 = true := inb_nI (by omega) (by decide)
        have nk : ¬ (480 : Int32) < nI k := by
          rw [Int32.lt_iff_toInt_lt, nI_toInt (by omega), show (480 : Int32).toInt = 480 by decide]
          omega
        have n6 : N2 (2 + y) 6 = vM M2 y 6 := c4.vw y hy 6 (by decide)
        have step : ∀ (q : (Int32 × Mem) ⊕ (Int32 × Mem)), (if N2 (2 + y) 6 = 1 then some (.inr (nI k, N2)) else some (.inl (nI k + 1, N2))) = some q → fX11_simulatedMinutes_s G N (nI y) (nI k, T1) = some q := fun q hq => by
          unfold fX11_simulatedMinutes_s
          dsimp only
          rw [if_neg nk, c1]
          simp only [Option.bind_some]
          rw [gd_t hy8]
          simp only [ey, Nat.one_mul]
          rw [gd_t (c4.nv.2.2 y hy)]
          exact hq
        by_cases hc : lim2 ≤ l + 1
        · obtain ⟨d3, d4⟩ := d1 hc
          by_cases hp : p = 0
          · have g := d3 hp
            have er : r = 0 := by
              subst hp
              unfold remT at hr
              split at hr <;> omega
            subst er
            refine ⟨N2, ?_⟩
            rw [lp_inr (step _ (by rw [if_pos (n6.trans g)]))]
            congr 3
            omega
          · obtain ⟨x, g⟩ := d4 (by omega)
            have er : remT lim2 0 (p - 1) = r := by
              obtain ⟨p', rfl⟩ : ∃ p', p = p' + 1 := ⟨p - 1, by omega⟩
              unfold remT at hr ⊢
              rw [if_neg (by omega)]
              rw [Nat.add_mul] at hr
              simp only [Nat.add_sub_cancel]
              split at hr <;> omega
            obtain ⟨T', e⟩ := ih (k + 1) (by omega) (by omega) N2 M2 w2 L2 x 0 (p - 1) c4 c8 (by omega) g er
            refine ⟨T', ?_⟩
            rw [lp_inl (step _ (by rw [if_neg (fun z => by rw [n6, g.2.1] at z; exact absurd z (by decide)), nI_1])), e]
            congr 3
            omega
        · have g := d2 (by omega)
          have er : remT lim2 (l + 1) p = r := by
            unfold remT at hr ⊢
            rw [if_neg (by omega)]
            rw [if_neg (by omega)] at hr
            omega
          obtain ⟨T', e⟩ := ih (k + 1) (by omega) (by omega) N2 M2 w2 L2 s (l + 1) p c4 c8 (by omega) g er
          refine ⟨T', ?_⟩
          rw [lp_inl (step _ (by rw [if_neg (fun z => by rw [n6, g.2.1] at z; exact absurd z (by decide)), nI_1])), e]
          congr 3
          omega
    have hrem : remT lim l (cnt (aheadP M y) n) ≤ 480 := by
      have : cnt (aheadP M y) n * lim ≤ 7 * 60 := Nat.mul_le_mul hp7 tl3
      unfold remT
      split <;> omega
    obtain ⟨T', e⟩ := key (remT lim l (cnt (aheadP M y) n)) 1 (by omega) (by omega) T0 M w L s l _ hT0 tl5 l1 hT' rfl
    refine ⟨T', ?_⟩
    have e1 : ((1 : Int32), T0) = (nI 1, T0) := rfl
    rw [e1, e]
    congr 3
    omega
