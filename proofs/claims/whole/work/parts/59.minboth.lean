/-! ===== a minute on both sides; minutes ===== -/
theorem RC_mid {N M : Mem} {b B n w : Nat} {L : Nat → Nat} (h : RC N M b B n w L) : RC (up2 (mnN N n n) 0 5 (N 0 5 + 1)) (up2 (mnM M n n) 1 1 (M 1 1 + 1)) (b + 1) B n w L := by
  have hn := h.hn
  have hrec : ∀ i, i < n → recP (vN N) n i = recP (vM M) n i := fun i hi => recP_congr h.v6 hi hn
  have eN : ∀ i f, i < n → vN (up2 (mnN N n n) 0 5 (N 0 5 + 1)) i f = if (f = 8 ∧ vN N i 6 = 1) ∨ (f = 9 ∧ recP (vN N) n i = true) then vN N i f + 1 else vN N i f := fun i f hi => by
    rw [vN_up, if_neg (by omega)]
    unfold vN mnN
    have e : 2 + i - 2 = i := by omega
    rw [e]
    by_cases g : (f = 8 ∧ N (2 + i) 6 = 1) ∨ (f = 9 ∧ recP (fun i f => N (2 + i) f) n i = true)
    · rw [if_pos g, if_pos ⟨by omega, by omega, g⟩]
    · rw [if_neg g, if_neg (fun z => g z.2.2)]
  have eM : ∀ i f, i < n → f ≤ 9 → vM (up2 (mnM M n n) 1 1 (M 1 1 + 1)) i f = if (f = 8 ∧ vM M i 6 = 1) ∨ (f = 9 ∧ recP (vM M) n i = true) then vM M i f + 1 else vM M i f := fun i f hi hf => by
    rw [vM_up, if_neg (by omega)]
    by_cases c : f ≤ 7
    · rw [if_neg (by omega)]
      unfold vM
      rw [if_pos c, mnM_at M n n (by omega) hi, if_neg (by omega)]
    · unfold vM
      rw [if_neg c, mnM_at M n n (by omega) hi]
      have e6 : vM M i 6 = M 1 (8 + 12 * i + (if 6 ≤ 7 then 6 else 6 + 1)) := rfl
      rw [← e6]
      by_cases c8 : f = 8
      · subst c8
        by_cases g : vM M i 6 = 1
        · rw [if_pos (Or.inl ⟨Or.inr rfl, g⟩), if_pos (Or.inl ⟨rfl, g⟩)]
        · rw [if_neg (by simp [g]), if_neg (by simp [g])]
      · have c9 : f = 9 := by omega
        subst c9
        cases g : recP (vM M) n i with
        | true => rw [if_pos (Or.inr ⟨rfl, rfl⟩), if_pos (Or.inr ⟨rfl, g⟩)]
        | false => rw [if_neg (by simp), if_neg (by rw [show recP (fun i f => M 1 (8 + 12 * i + if f ≤ 7 then f else f + 1)) n i = false from g]; simp)]
  have eL : ∀ i, i < n → ls (up2 (mnM M n n) 1 1 (M 1 1 + 1)) i = if vM M i 6 = 1 then ls M i + 1 else ls M i := fun i hi => by
    unfold ls
    rw [up2_at, if_neg (by omega), mnM_at M n n (by omega) hi]
    by_cases g : vM M i 6 = 1
    · rw [if_pos g, if_pos (Or.inl ⟨Or.inl rfl, g⟩)]
    · rw [if_neg g, if_neg (by simp [g])]
  have eT : ∀ i, i < n → tk (up2 (mnM M n n) 1 1 (M 1 1 + 1)) i = tk M i := fun i hi => by
    unfold tk
    rw [up2_at, if_neg (by omega), mnM_at M n n (by omega) hi, if_neg (by omega)]
  have es : ∀ p, p ≠ 1 → (p < 8 ∨ 104 ≤ p) → up2 (mnM M n n) 1 1 (M 1 1 + 1) 1 p = M 1 p := fun p h1 hp => by rw [up2_at, if_neg (by omega), mnM_fr M n n (by omega)]
  have k0 : ∀ k g, k < 2 ∨ 10 ≤ k → ¬ (k = 0 ∧ g = 5) → up2 (mnN N n n) 0 5 (N 0 5 + 1) k g = N k g := fun k g hk hg => by rw [up2_at, if_neg hg, mnN_at N n n (by omega)]
  have e6 : ∀ i f, i < n → f < 8 → vM (up2 (mnM M n n) 1 1 (M 1 1 + 1)) i f = vM M i f := fun i f hi hf => by rw [eM i f hi (by omega), if_neg (by omega)]
  obtain ⟨⟨a1, a1', a1''⟩, a2, ⟨a3, lim, a31, a32, a33, a34⟩, a4, ⟨a51, a52, a53⟩, a6, ⟨a71, a72, a73⟩, ⟨a81, a82, a83⟩, ⟨k, h1, h2, h3⟩, lg⟩ := h
  refine ⟨⟨a1, by rw [k0 _ _ (by omega) (by omega)]; exact a1', by rw [es _ (by omega) (by omega)]; exact a1''⟩, fun i hi f hf => ?_, ⟨by rw [up2_at, if_pos ⟨rfl, rfl⟩, up2_at, if_pos ⟨rfl, rfl⟩, a3], lim, a31, a32, by rw [k0 _ _ (by omega) (by omega)]; exact a33, by rw [es _ (by omega) (by omega)]; exact a34⟩, fun i hi => ?_, ⟨fun i hi f hf => by rw [e6 i f hi (by omega)]; exact a51 i hi f hf, fun i j hi hj q1 q2 q3 => ?_, fun i hi hm => ?_⟩, fun i hi hm => ?_, ⟨a71, by rw [k0 _ _ (by omega) (by omega)]; exact a72, fun j hj => by rw [k0 _ _ (by omega) (by omega)]; exact a73 j hj⟩, ⟨a81, fun i hi => by rw [e6 i 6 hi (by decide)]; exact a82 i hi, fun i j hij hj => by rw [eT _ (a81.1 i (by omega)), eT _ (a81.1 j hj)]; exact a83 i j hij hj⟩, ⟨k, h1, by rw [es _ (by omega) (by omega)]; exact h2, fun j hj => by rw [eT _ (a81.1 j hj)]; exact h3 j hj⟩, LG_keep lg (k0 _ _ (by omega) (by omega)) (es _ (by omega) (by omega)) (fun e => ⟨k0 _ _ (by omega) (by omega), k0 _ _ (by omega) (by omega), k0 _ _ (by omega) (by omega)⟩) (fun f hf => es f (by omega) (by omega))⟩
  · rw [eN i f hi, eM i f hi hf, hrec i hi, a2 i hi 6 (by decide), a2 i hi f hf]
  · rw [up2_at, if_neg (by omega), mnN_at N n n (by omega)]
    exact a4 i hi
  · rw [e6 i 6 hi (by decide)] at q1
    rw [e6 j 6 hj (by decide)] at q2
    rw [e6 i 5 hi (by decide), e6 j 5 hj (by decide)] at q3
    exact a52 i j hi hj q1 q2 q3
  · rw [e6 i 6 hi (by decide)] at hm
    obtain ⟨s, s1, s2, s3⟩ := a53 i hi hm
    exact ⟨s, s1, by rw [e6 s 6 s1 (by decide)]; exact s2, by rw [e6 s 5 s1 (by decide), e6 i 5 hi (by decide)]; exact s3⟩
  · rw [e6 i 6 hi (by decide)] at hm
    obtain ⟨l, l1, l2, l3⟩ := a6 i hi hm
    refine ⟨l + 1, by omega, by rw [eL i hi, if_pos hm, l2, nI_1], ?_⟩
    rw [e6 i 7 hi (by decide), up2_at, if_pos ⟨rfl, rfl⟩, ← nI_1, ← l3, Int32.sub_eq_add_neg, Int32.sub_eq_add_neg, Int32.add_assoc, Int32.add_comm 1, Int32.add_assoc]
theorem co_minute {N M : Mem} {B n w : Nat} {L : Nat → Nat} (h : RC N M 59 B n w L) : ∃ a N' M' w' L' lim, fX6_passMinute N = some (a, N') ∧ fX12_minutePasses M = some (a, M') ∧ Fr1 M M' ∧ RC N' M' 59 B n w' L' ∧ 1 ≤ lim ∧ lim ≤ 60 ∧ M 1 2 = nI lim ∧ M' 1 2 = nI lim ∧
    (∀ y s l p, l ≤ 59 → TRK M n y s l p → (lim ≤ l + 1 → (p = 0 → vM M' y 6 = 1) ∧ (0 < p → ∃ x, TRK M' n y x 0 (p - 1))) ∧ (l + 1 < lim → TRK M' n y s (l + 1) p)) := by
  have hn := h.hn
  have hm := RC_mid h
  obtain ⟨tl1, lim, tl2, tl3, tl4, tl5⟩ := h.tl
  have e6 : ∀ i f, i < n → f ≤ 7 → vM (up2 (mnM M n n) 1 1 (M 1 1 + 1)) i f = vM M i f := fun i f hi hf => by
    rw [vM_up, if_pos hf, if_neg (by omega)]
    by_cases c : f = 7
    · subst c; exact mnM_v7 M n n
    · exact mnM_v M n n (by omega)
  have eL : ∀ i, i < n → vM M i 6 = 1 → ls (up2 (mnM M n n) 1 1 (M 1 1 + 1)) i = ls M i + 1 := fun i hi g => by
    unfold ls
    rw [up2_at, if_neg (by omega), mnM_at M n n (by omega) hi, if_pos (Or.inl ⟨Or.inl rfl, g⟩)]
  have eT : ∀ i, i < n → tk (up2 (mnM M n n) 1 1 (M 1 1 + 1)) i = tk M i := fun i hi => by
    unfold tk
    rw [up2_at, if_neg (by omega), mnM_at M n n (by omega) hi, if_neg (by omega)]
  have hl2 : up2 (mnM M n n) 1 1 (M 1 1 + 1) 1 2 = nI lim := by rw [up2_at, if_neg (by omega), mnM_fr M n n (by omega)]; exact tl5
  obtain ⟨N', M', w', L', b1, b2, b3, b4, b5, b6, b7, b8⟩ := long_both (by decide) tl2 tl3 (nI (cnt (recP (vM M) n) n)) (dueF_lt (dueP M) n hn) n 0 (by omega) _ _ 0 w L hm hl2 (fun i _ hi => by
    rw [dueF_bit, decide_eq_true hi, Bool.true_and]
    unfold dueP
    rw [decide_eq_true_iff, e6 i 6 hi (by decide), tl5]
    constructor
    · rintro ⟨z1, z2⟩; exact ⟨z1, by rw [eL i hi z1]; exact z2⟩
    · rintro ⟨z1, z2⟩; exact ⟨z1, by rw [eL i hi z1] at z2; exact z2⟩) (fun i hi => by omega)
  have hcnt : cnt (recP (vN N) n) n = cnt (recP (vM M) n) n := cnt_congr (fun i hi => recP_congr h.v6 hi hn)
  refine ⟨nI (cnt (recP (vM M) n) n), N', M', w', L', lim, ?_, ?_, ?_, ?_, tl2, tl3, tl5, b5, fun y s l p hl hT => ?_⟩
  · rw [c_passMinute h.nv, hcnt]
    have : fX6_endLongTurns (up2 (mnN N n n) 0 5 (N 0 5 + 1)) = some N' := b1
    rw [this]
    rfl
  · rw [r_minute1 h.mv]
    exact b2
  · refine Fr1.trans (fun k hk => ?_) b3
    rw [up2_ne _ _ _ hk]
    funext p
    exact mnM_fr M n n (Or.inl hk)
  · obtain ⟨a1, a2, a3, a4, a5, a6, a7, a8, a9, a10⟩ := b4
    refine ⟨a1, a2, a3, a4, a5, fun i hi hmi => ?_, a7, a8, a9, a10⟩
    obtain ⟨l, l1, l2, l3⟩ := a6 i hi hmi
    have q := b6 i hi hmi
    rw [l2, nI_ltI (by omega) (by omega)] at q
    exact ⟨l, by omega, l2, l3⟩
  · obtain ⟨y1, y2, s1, s2, s3, s4, s5⟩ := hT
    have hT1 : TRK (up2 (mnM M n n) 1 1 (M 1 1 + 1)) n y s (l + 1) p := by
      refine ⟨y1, by rw [e6 y 6 y1 (by decide)]; exact y2, s1, by rw [e6 s 6 s1 (by decide)]; exact s2, by rw [e6 s 5 s1 (by decide), e6 y 5 y1 (by decide)]; exact s3, by rw [eL s s1 s2, s4, nI_1], ?_⟩
      rw [← s5]
      refine cnt_congr (fun k hk => ?_)
      unfold aheadP waitP
      rw [e6 y 5 y1 (by decide), e6 k 5 hk (by decide), e6 k 6 hk (by decide), eT k hk, eT y y1]
    have q := b8 y s (l + 1) p hT1
    have el : ls (up2 (mnM M n n) 1 1 (M 1 1 + 1)) s = nI (l + 1) := hT1.2.2.2.2.2.1
    rw [el] at q
    refine ⟨fun z => q.1 ⟨Nat.zero_le _, fun z2 => ?_⟩, fun z => q.2 (fun z2 => z2.2 (nI_lt z (by omega)))⟩
    rw [nI_ltI (by omega) (by omega)] at z2
    omega
theorem co_passes {N M : Mem} {B n w : Nat} {L : Nat → Nat} (h : RC N M 59 B n w L) {m : Nat} (hm : m ≤ 60) : CO M (fX6_passMinutes N (nI m)) (fX12_passes M (nI m)) 59 B := by
  have key : ∀ d t, t + d = m → ∀ (r : Int32) (N M : Mem) (w : Nat) (L : Nat → Nat), RC N M 59 B n w L → ∃ a N' M', lp (fX6_passMinutes_s (nI m)) (r, nI t, N) = some (a, N') ∧ lp (fX12_passes_s (nI m)) (r, nI t, M) = some (a, M') ∧ Fr1 M M' ∧ RCx N' M' 59 B := by
    intro d
    induction d with
    | zero =>
      intro t ht r N M w L h
      have e : t = m := by omega
      subst e
      refine ⟨r, N, M, lp_inr ?_, lp_inr ?_, Fr1.rfl' M, n, w, L, h⟩
      · unfold fX6_passMinutes_s
        dsimp only
        rw [if_pos (Int32.le_refl _)]
      · unfold fX12_passes_s
        dsimp only
        rw [if_pos (Int32.le_refl _)]
    | succ d ih =>
      intro t ht r N M w L h
      obtain ⟨a, N1, M1, w1, L1, lim, c1, c2, c3, c4, _⟩ := co_minute h
      obtain ⟨a', N', M', d1, d2, d3, d4⟩ := ih (t + 1) (by omega) (r + a) N1 M1 w1 L1 c4
      have hlt : ¬ nI m ≤ nI t := nI_ge (by omega) (by omega)
      refine ⟨a', N', M', ?_, ?_, c3.trans d3, d4⟩
      · rw [lp_inl (s' := (r + a, nI (t + 1), N1))]
        · exact d1
        · unfold fX6_passMinutes_s
          dsimp only
          rw [if_neg hlt, c1]
          simp only [Option.bind_some]
          rw [nI_1]
      · rw [lp_inl (s' := (r + a, nI (t + 1), M1))]
        · exact d2
        · unfold fX12_passes_s
          dsimp only
          rw [if_neg hlt, c2]
          simp only [Option.bind_some]
          rw [nI_1]
  exact key m 0 (by omega) 0 N M w L h
