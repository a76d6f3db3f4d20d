/-! ===== a minute, second half: the long turns end; minutes ===== -/
/-- y waits, s speaks on its channel and has done for l minutes, p wait ahead of y -/
def TRK (M : Mem) (n y s l p : Nat) : Prop := y < n ∧ vM M y 6 = 2 ∧ s < n ∧ vM M s 6 = 1 ∧ vM M s 5 = vM M y 5 ∧ ls M s = nI l ∧ cnt (aheadP M y) n = p
theorem TRK_other {M M' : Mem} {n s' x y s l p : Nat} (hE : EFX M M' n s' x) (ho : OS (vM M) n) (hs' : s' < n) (hm : vM M s' 6 = 1) (h : TRK M n y s l p) (hne : s' ≠ s) : TRK M' n y s l p := by
  obtain ⟨x1, x2, eM, eL, eT, m1, m2, m0⟩ := hE
  obtain ⟨y1, y2, s1, s2, s3, s4, s5⟩ := h
  have hc : vM M s' 5 ≠ vM M s 5 := fun z => hne (ho s' s hs' s1 hm s2 z)
  have hx : x < n → vM M x 6 = 2 ∧ vM M x 5 = vM M s' 5 := fun hx => of_decide_eq_true (x1 hx)
  have xy : y ≠ x := fun z => by
    have := (hx (by rw [← z]; exact y1)).2
    rw [← z, ← s3] at this
    exact hc this.symm
  have xs : s ≠ x := fun z => by
    have := (hx (by rw [← z]; exact s1)).2
    rw [← z] at this
    exact hc this.symm
  have ys : y ≠ s' := fun z => by rw [z, hm] at y2; exact absurd y2 (by decide)
  have q5 : ∀ a, a < n → vM M' a 5 = vM M a 5 := fun a ha => by rw [eM a 5 ha (by decide), if_neg (by omega), if_neg (by omega), if_neg (by omega)]
  have q6 : ∀ a, a < n → a ≠ x → a ≠ s' → vM M' a 6 = vM M a 6 := fun a ha h1 h2 => by rw [eM a 6 ha (by decide), if_neg (by omega), if_neg (fun z => h1 z.1), if_neg (fun z => h2 z.1)]
  refine ⟨y1, by rw [q6 y y1 xy ys]; exact y2, s1, by rw [q6 s s1 xs (Ne.symm hne)]; exact s2, by rw [q5 s s1, q5 y y1]; exact s3, by rw [eL s s1, if_neg (fun z => z.elim xs (Ne.symm hne))]; exact s4, ?_⟩
  rw [← s5]
  refine cnt_congr (fun k hk => ?_)
  unfold aheadP waitP
  rw [q5 y y1, q5 k hk, eT k hk, eT y y1]
  by_cases kc : vM M k 5 = vM M y 5
  · have kx : k ≠ x := fun z => by
      have := (hx (by rw [← z]; exact hk)).2
      rw [← z, kc, ← s3] at this
      exact hc this.symm
    have ks : k ≠ s' := fun z => by
      rw [z, ← s3] at kc
      exact hc kc
    rw [q6 k hk kx ks]
  · have f1 : decide (vM M' k 6 = 2 ∧ vM M k 5 = vM M y 5) = false := decide_eq_false (fun z => kc z.2)
    have f2 : decide (vM M k 6 = 2 ∧ vM M k 5 = vM M y 5) = false := decide_eq_false (fun z => kc z.2)
    rw [f1, f2]
theorem TRK_own {M M' : Mem} {n x y s l p : Nat} (hE : EFX M M' n s x) (h : TRK M n y s l p) : (p = 0 → vM M' y 6 = 1 ∧ y = x) ∧ (0 < p → TRK M' n y x 0 (p - 1)) := by
  obtain ⟨x1, x2, eM, eL, eT, m1, m2, m0⟩ := hE
  obtain ⟨y1, y2, s1, s2, s3, s4, s5⟩ := h
  obtain ⟨g1, g2⟩ := x2 y y1 (decide_eq_true ⟨y2, s3.symm⟩)
  have hx : vM M x 6 = 2 ∧ vM M x 5 = vM M s 5 := of_decide_eq_true (x1 g1)
  have xs : x ≠ s := fun z => by rw [z, s2] at hx; exact absurd hx.1 (by decide)
  have ys : y ≠ s := fun z => by rw [z, s2] at y2; exact absurd y2 (by decide)
  have q5 : ∀ a, a < n → vM M' a 5 = vM M a 5 := fun a ha => by rw [eM a 5 ha (by decide), if_neg (by omega), if_neg (by omega), if_neg (by omega)]
  have q6 : ∀ a, a < n → a ≠ x → a ≠ s → vM M' a 6 = vM M a 6 := fun a ha h1 h2 => by rw [eM a 6 ha (by decide), if_neg (by omega), if_neg (fun z => h1 z.1), if_neg (fun z => h2 z.1)]
  have q6x : vM M' x 6 = 1 := by rw [eM x 6 g1 (by decide), if_neg (by omega), if_pos ⟨rfl, rfl⟩]
  have q6s : vM M' s 6 = 0 := by rw [eM s 6 s1 (by decide), if_neg (by omega), if_neg (fun z => xs z.1.symm), if_pos ⟨rfl, rfl⟩]
  have hax : y ≠ x → aheadP M y x = true := fun hyx => by
    unfold aheadP waitP
    rw [decide_eq_true (⟨hx.1, hx.2.trans s3⟩ : vM M x 6 = 2 ∧ vM M x 5 = vM M y 5), decide_eq_true (g2.resolve_left hyx)]
    rfl
  -- those ahead of y: x first, then those ahead of y afterwards
  have ecnt : y ≠ x → cnt (aheadP M y) n = 1 + cnt (aheadP M' y) n := fun hyx => by
    have e1 : cnt (aheadP M y) n = cnt (fun k => (fun k => decide (k = x) && aheadP M y k) k || (aheadP M' y) k) n := by
      refine cnt_congr (fun k hk => ?_)
      dsimp only
      by_cases kx : k = x
      · rw [kx, hax hyx, decide_eq_true rfl]
        rfl
      · rw [decide_eq_false kx, Bool.false_and, Bool.false_or]
        unfold aheadP waitP
        rw [q5 y y1, q5 k hk, eT k hk, eT y y1]
        by_cases ks : k = s
        · have f1 : decide ((0 : Int32) = 2 ∧ vM M s 5 = vM M y 5) = false := decide_eq_false (fun z => absurd z.1 (by decide))
          have f2 : decide ((1 : Int32) = 2 ∧ vM M s 5 = vM M y 5) = false := decide_eq_false (fun z => absurd z.1 (by decide))
          rw [ks, q6s, s2, f1, f2]
        · rw [q6 k hk kx ks]
    rw [e1, cnt_or (fun k => decide (k = x) && aheadP M y k) (aheadP M' y) n (fun k hk z => ?_), cnt_one (aheadP M y) x n g1, if_pos (hax hyx)]
    have z1 := (Bool.and_eq_true _ _ ▸ z.1).1
    have z1 : k = x := of_decide_eq_true z1
    have z2 := z.2
    unfold aheadP waitP at z2
    have f1 : decide ((1 : Int32) = 2 ∧ vM M' x 5 = vM M' y 5) = false := decide_eq_false (fun z => absurd z.1 (by decide))
    rw [z1, q6x, f1] at z2
    cases z2
  refine ⟨fun hp => ?_, fun hp => ?_⟩
  · by_cases hyx : y = x
    · rw [hyx]; exact ⟨q6x, rfl⟩
    · have := ecnt hyx
      omega
  · have hyx : y ≠ x := fun z => by
      have e0 : cnt (aheadP M y) n = 0 := cnt_no _ n (fun k hk => by
        cases za : aheadP M y k with
        | false => rfl
        | true =>
          unfold aheadP at za
          rw [Bool.and_eq_true, decide_eq_true_iff] at za
          have w1 := of_decide_eq_true za.1
          obtain ⟨_, w2⟩ := x2 k hk (decide_eq_true ⟨w1.1, w1.2.trans s3.symm⟩)
          rcases w2 with w3 | w3
          · rw [w3, ← z] at za; exact absurd za.2 (i32_lt_irrefl _)
          · rw [← z] at w3; exact absurd za.2 (i32_lt_asymm w3))
      omega
    have := ecnt hyx
    exact ⟨y1, by rw [q6 y y1 hyx ys]; exact y2, g1, q6x, by rw [q5 x g1, q5 y y1, hx.2, s3], by rw [eL x g1, if_pos (Or.inl rfl)]; rfl, by omega⟩
/-- the loop over the long turns, both sides -/
theorem long_both {n lim b B : Nat} (hb : b < 2 ^ 30) (hl1 : 1 ≤ lim) (hl : lim ≤ 60) (r : Int32) {due : Nat} (hdue : due < 256) : ∀ d t, t + d = n → ∀ (N M : Mem) (u : Int32) (w : Nat) (L : Nat → Nat), RC N M b B n w L → M 1 2 = nI lim →
    (∀ i, t ≤ i → i < n → (due.testBit i = true ↔ vM M i 6 = 1 ∧ ¬ ls M i < nI lim)) → (∀ i, i < t → vM M i 6 = 1 → ls M i < nI lim) →
    ∃ N' M' w' L', lp fX6_endLongTurns_s (nI t, N) = some N' ∧ lp fX12_minutePasses_s (1, r, nI due, u, nI t, M) = some (r, M') ∧ Fr1 M M' ∧ RC N' M' b B n w' L' ∧ M' 1 2 = nI lim ∧ (∀ i, i < n → vM M' i 6 = 1 → ls M' i < nI lim) ∧
      (∀ y, y < n → vM M y 6 = 1 → (y < t ∨ due.testBit y = false) → vM M' y 6 = 1) ∧
      (∀ y s l p, TRK M n y s l p → (t ≤ s ∧ ¬ ls M s < nI lim → (p = 0 → vM M' y 6 = 1) ∧ (0 < p → ∃ x, TRK M' n y x 0 (p - 1))) ∧ (¬ (t ≤ s ∧ ¬ ls M s < nI lim) → TRK M' n y s l p)) := by
  intro d
  induction d with
  | zero =>
    intro t ht N M u w L h hlim hd1 hd2
    have hn := h.hn
    have e : t = n := by omega
    subst e
    refine ⟨N, M, w, L, lp_inr ?_, lp_inr ?_, Fr1.rfl' M, h, hlim, hd2, fun y _ hy _ => hy, fun y s l p hT => ⟨fun z => ?_, fun _ => hT⟩⟩
    · unfold fX6_endLongTurns_s
      dsimp only
      rw [if_pos (show N 0 1 ≤ nI t by rw [h.nv.2.1]; exact nI_le (Nat.le_refl t) (by omega))]
    · unfold fX12_minutePasses_s
      dsimp only
      rw [if_neg (by decide), if_pos (show M 1 0 ≤ nI t by rw [h.mv.2]; exact nI_le (Nat.le_refl t) (by omega))]
    · have := hT.2.2.1
      omega
  | succ d ih =>
    intro t ht N M u w L h hlim hd1 hd2
    have hn := h.hn
    have htn : t < n := by omega
    have et : (nI t).toNatClampNeg = t := nI_clamp (by omega)
    have ht8 : inb (nI t) 8 = true := inb_nI (by omega) (by decide)
    have n6 : N (2 + t) 6 = vM M t 6 := h.vw t htn 6 (by decide)
    have n7 : N (2 + t) 7 = vM M t 7 := h.vw t htn 7 (by decide)
    obtain ⟨tl1, lim', tl2, tl3, tl4, tl5⟩ := h.tl
    have elim : N 0 6 = nI lim := by rw [tl4, ← tl5, hlim]
    by_cases hdt : due.testBit t = true
    · obtain ⟨hm, hlt⟩ := (hd1 t (Nat.le_refl t) htn).mp hdt
      obtain ⟨N1, M1, x, e1, e2, fr, ⟨w1, L1, h1⟩, hE⟩ := co_ends h hb htn hm
      have hE' := hE
      obtain ⟨x1, x2, eM, eL, eT, m1, m2, m0⟩ := hE
      have hxw : x < n → vM M x 6 = 2 := fun hx => (of_decide_eq_true (x1 hx)).1
      have q6 : ∀ a, a < n → a ≠ x → a ≠ t → vM M1 a 6 = vM M a 6 := fun a ha h1 h2 => by rw [eM a 6 ha (by decide), if_neg (by omega), if_neg (fun z => h1 z.1), if_neg (fun z => h2 z.1)]
      have xt : x ≠ t := fun z => by
        have := hxw (by omega)
        rw [z, hm] at this
        exact absurd this (by decide)
      have q6x : x < n → vM M1 x 6 = 1 := fun hx => by rw [eM x 6 hx (by decide), if_neg (by omega), if_pos ⟨rfl, rfl⟩]
      have q6t : vM M1 t 6 = 0 := by rw [eM t 6 htn (by decide), if_neg (by omega), if_neg (fun z => xt z.1.symm), if_pos ⟨rfl, rfl⟩]
      have l0 : (0 : Int32) < nI lim := nI_lt (a := 0) (by omega) (by omega)
      have c1 : fX6_endLongTurns_s (nI t, N) = some (.inl (nI (t + 1), N1)) := by
        obtain ⟨l, l1, l2, l3⟩ := h.lss t htn hm
        unfold fX6_endLongTurns_s
        dsimp only
        rw [if_neg (show ¬ N 0 1 ≤ nI t by rw [h.nv.2.1]; exact lt_step hn htn), gd_t ht8]
        simp only [et, Nat.one_mul]
        rw [gd_t (h.nv.2.2 t htn), if_pos (n6.trans hm), gd_t ht8, if_neg (show ¬ N 0 5 - N (2 + t) 7 < N 0 6 by rw [n7, tl1, l3, elim, ← l2]; exact hlt), e1]
        simp only [Option.bind_some]
        rw [nI_1]
      have c2 : fX12_minutePasses_s (1, r, nI due, u, nI t, M) = some (.inl (1, r, nI due, ls M t, nI (t + 1), M1)) := by
        unfold fX12_minutePasses_s
        dsimp only
        rw [if_neg (by decide), if_neg (show ¬ M 1 0 ≤ nI t by rw [h.mv.2]; exact lt_step hn htn), if_pos ((bit_shr ⟨_, hdue⟩ ⟨t, by omega⟩).mpr hdt), e2]
        simp only [Option.bind_some]
        rw [nI_1]
      have hA : ∀ i, t + 1 ≤ i → i < n → (due.testBit i = true ↔ vM M1 i 6 = 1 ∧ ¬ ls M1 i < nI lim) := by
        intro i hi1 hi2
        have it : i ≠ t := by omega
        by_cases ix : i = x
        · subst ix
          rw [q6x hi2, eL i hi2, if_pos (Or.inl rfl)]
          refine ⟨fun z => ?_, fun z => absurd l0 z.2⟩
          have := (hd1 i (by omega) hi2).mp z
          rw [hxw hi2] at this
          exact absurd this.1 (by decide)
        · rw [q6 i hi2 ix it, eL i hi2, if_neg (by omega)]
          exact hd1 i (by omega) hi2
      have hB : ∀ i, i < t + 1 → vM M1 i 6 = 1 → ls M1 i < nI lim := by
        intro i hi hmi
        have hin : i < n := by omega
        have it : i ≠ t := fun z => by rw [z, q6t] at hmi; exact absurd hmi (by decide)
        by_cases ix : i = x
        · rw [eL i hin, if_pos (Or.inl ix)]; exact l0
        · rw [q6 i hin ix it] at hmi
          rw [eL i hin, if_neg (by omega)]
          exact hd2 i (by omega) hmi
      obtain ⟨N', M', w', L', a1, a2, a3, a4, a5, a6, a7, a8⟩ := ih (t + 1) (by omega) N1 M1 (ls M t) w1 L1 h1 (by rw [m2]; exact hlim) hA hB
      refine ⟨N', M', w', L', by rw [lp_inl c1]; exact a1, by rw [lp_inl c2]; exact a2, fr.trans a3, a4, a5, a6, fun y hy hmy hor => ?_, fun y s l p hT => ?_⟩
      · have yt : y ≠ t := fun z => by rw [z, hdt] at hor; exact hor.elim (fun q => absurd q (Nat.lt_irrefl t)) (fun q => by cases q)
        have yx : y ≠ x := fun z => by have := hxw (by omega); rw [← z, hmy] at this; exact absurd this (by decide)
        exact a7 y hy (by rw [q6 y hy yx yt]; exact hmy) (hor.elim (fun z => Or.inl (by omega)) Or.inr)
      · by_cases hts : t = s
        · subst hts
          refine ⟨fun z => ?_, fun z => absurd ⟨Nat.le_refl t, hlt⟩ z⟩
          obtain ⟨g1, g2⟩ := TRK_own hE' hT
          refine ⟨fun hp => ?_, fun hp => ?_⟩
          · obtain ⟨g3, g4⟩ := g1 hp
            refine a7 y hT.1 g3 ?_
            by_cases hyt : y < t + 1
            · exact Or.inl hyt
            · right
              cases z9 : due.testBit y with
              | false => rfl
              | true =>
                have := (hd1 y (by omega) hT.1).mp z9
                rw [hT.2.1] at this
                exact absurd this.1 (by decide)
          · have g3 := g2 hp
            refine ⟨x, (a8 y x 0 (p - 1) g3).2 (fun z9 => ?_)⟩
            rw [g3.2.2.2.2.2.1] at z9
            exact z9.2 l0
        · have g := TRK_other hE' h.os htn hm hT hts
          have els : ls M1 s = ls M s := by rw [g.2.2.2.2.2.1, hT.2.2.2.2.2.1]
          have q := a8 y s l p g
          rw [els] at q
          refine ⟨fun z => q.1 ⟨by omega, z.2⟩, fun z => q.2 (fun z9 => z ⟨by omega, z9.2⟩)⟩
    · have hdf : due.testBit t = false := by simpa using hdt
      have hnd : ¬ (vM M t 6 = 1 ∧ ¬ ls M t < nI lim) := fun z => hdt ((hd1 t (Nat.le_refl t) htn).mpr z)
      have c1 : fX6_endLongTurns_s (nI t, N) = some (.inl (nI (t + 1), N)) := by
        unfold fX6_endLongTurns_s
        dsimp only
        rw [if_neg (show ¬ N 0 1 ≤ nI t by rw [h.nv.2.1]; exact lt_step hn htn), gd_t ht8]
        simp only [et, Nat.one_mul]
        rw [gd_t (h.nv.2.2 t htn)]
        by_cases hm : vM M t 6 = 1
        · obtain ⟨l, l1, l2, l3⟩ := h.lss t htn hm
          have hlt : ls M t < nI lim := Classical.not_not.mp (fun z => hnd ⟨hm, z⟩)
          rw [if_pos (n6.trans hm), gd_t ht8, if_pos (show N 0 5 - N (2 + t) 7 < N 0 6 by rw [n7, tl1, l3, elim, ← l2]; exact hlt), nI_1]
        · rw [if_neg (fun z => hm (n6.symm.trans z)), nI_1]
      have c2 : fX12_minutePasses_s (1, r, nI due, u, nI t, M) = some (.inl (1, r, nI due, u, nI (t + 1), M)) := by
        unfold fX12_minutePasses_s
        dsimp only
        rw [if_neg (by decide), if_neg (show ¬ M 1 0 ≤ nI t by rw [h.mv.2]; exact lt_step hn htn), if_neg (fun z => hdt ((bit_shr ⟨_, hdue⟩ ⟨t, by omega⟩).mp z)), nI_1]
      obtain ⟨N', M', w', L', a1, a2, a3, a4, a5, a6, a7, a8⟩ := ih (t + 1) (by omega) N M u w L h hlim (fun i hi1 hi2 => hd1 i (by omega) hi2) (fun i hi hmi => by
        by_cases it : i = t
        · subst it; exact Classical.not_not.mp (fun z => hnd ⟨hmi, z⟩)
        · exact hd2 i (by omega) hmi)
      refine ⟨N', M', w', L', by rw [lp_inl c1]; exact a1, by rw [lp_inl c2]; exact a2, a3, a4, a5, a6, fun y hy hmy hor => a7 y hy hmy (hor.elim (fun z => Or.inl (by omega)) Or.inr), fun y s l p hT => ?_⟩
      have q := a8 y s l p hT
      refine ⟨fun z => q.1 ⟨?_, z.2⟩, fun z => q.2 (fun z9 => z ⟨by omega, z9.2⟩)⟩
      by_cases hts : s = t
      · subst hts
        exact absurd ⟨hT.2.2.2.1, z.2⟩ hnd
      · omega
