/-! ===== a minute of the reference, first half ===== -/
def mnM (M : Mem) (n t : Nat) : Mem := fun k p =>
  if k = 1 ∧ 8 ≤ p ∧ (p - 8) / 12 < t ∧ ((((p - 8) % 12 = 8 ∨ (p - 8) % 12 = 9) ∧ vM M ((p - 8) / 12) 6 = 1) ∨ ((p - 8) % 12 = 10 ∧ recP (vM M) n ((p - 8) / 12) = true)) then M k p + 1 else M k p
theorem mnM_0 (M : Mem) (n : Nat) : mnM M n 0 = M := by
  funext k p
  exact if_neg (by omega)
theorem mnM_fr (M : Mem) (n t : Nat) {k p : Nat} (h : k ≠ 1 ∨ p < 8 ∨ 8 + 12 * t ≤ p) : mnM M n t k p = M k p := if_neg (by omega)
theorem mnM_at (M : Mem) (n t : Nat) {i o : Nat} (ho : o < 12) (hi : i < t) : mnM M n t 1 (8 + 12 * i + o) = if ((o = 8 ∨ o = 9) ∧ vM M i 6 = 1) ∨ (o = 10 ∧ recP (vM M) n i = true) then M 1 (8 + 12 * i + o) + 1 else M 1 (8 + 12 * i + o) := by
  have e1 : (8 + 12 * i + o - 8) / 12 = i := by omega
  have e2 : (8 + 12 * i + o - 8) % 12 = o := by omega
  unfold mnM
  rw [e1, e2]
  by_cases g : ((o = 8 ∨ o = 9) ∧ vM M i 6 = 1) ∨ (o = 10 ∧ recP (vM M) n i = true)
  · rw [if_pos g, if_pos ⟨rfl, by omega, hi, g⟩]
  · rw [if_neg g, if_neg (fun z => g z.2.2.2)]
theorem mnM_step (M : Mem) (n t : Nat) {k p : Nat} (h : ¬ (k = 1 ∧ 8 + 12 * t ≤ p ∧ p < 8 + 12 * t + 12)) : mnM M n (t + 1) k p = mnM M n t k p := by
  unfold mnM
  by_cases g : k = 1 ∧ 8 ≤ p ∧ (p - 8) / 12 < t ∧ ((((p - 8) % 12 = 8 ∨ (p - 8) % 12 = 9) ∧ vM M ((p - 8) / 12) 6 = 1) ∨ ((p - 8) % 12 = 10 ∧ recP (vM M) n ((p - 8) / 12) = true))
  · rw [if_pos g, if_pos ⟨g.1, g.2.1, by omega, g.2.2.2⟩]
  · rw [if_neg g, if_neg (fun z => g ⟨z.1, z.2.1, by omega, z.2.2.2⟩)]
theorem mnM_s {M : Mem} {n t : Nat} {K : Mem} (hK : ∀ k p, ¬ (k = 1 ∧ 8 + 12 * t ≤ p ∧ p < 8 + 12 * t + 12) → K k p = mnM M n t k p) (hR : ∀ o, o < 12 → K 1 (8 + 12 * t + o) = if ((o = 8 ∨ o = 9) ∧ vM M t 6 = 1) ∨ (o = 10 ∧ recP (vM M) n t = true) then M 1 (8 + 12 * t + o) + 1 else M 1 (8 + 12 * t + o)) : K = mnM M n (t + 1) := by
  funext k p
  by_cases g : k = 1 ∧ 8 + 12 * t ≤ p ∧ p < 8 + 12 * t + 12
  · obtain ⟨g1, g2, g3⟩ := g
    subst g1
    obtain ⟨o, ho⟩ : ∃ o, p = 8 + 12 * t + o := ⟨p - (8 + 12 * t), by omega⟩
    subst ho
    rw [hR o (by omega), mnM_at M n (t + 1) (by omega) (Nat.lt_succ_self t)]
  · rw [hK k p g, mnM_step M n t g]
theorem mnM_v (M : Mem) (n t : Nat) {i f : Nat} (hf : f ≤ 6) : vM (mnM M n t) i f = vM M i f := by
  unfold vM
  rw [if_pos (by omega)]
  by_cases g : i < t
  · rw [mnM_at M n t (by omega) g, if_neg (by omega)]
  · rw [mnM_fr M n t (by omega)]
theorem mnM_v7 (M : Mem) (n t : Nat) {i : Nat} : vM (mnM M n t) i 7 = vM M i 7 := by
  unfold vM
  rw [if_pos (by omega)]
  by_cases g : i < t
  · rw [mnM_at M n t (by omega) g, if_neg (by omega)]
  · rw [mnM_fr M n t (by omega)]
def dueF (D : Nat → Bool) : Nat → Nat
  | 0 => 0
  | t + 1 => if D t = true then dueF D t ||| 2 ^ t else dueF D t
theorem dueF_lt (D : Nat → Bool) : ∀ m, m ≤ 8 → dueF D m < 256 := by
  intro m
  induction m with
  | zero => intro _; show 0 < 256; decide
  | succ m ih =>
    intro hm
    unfold dueF
    by_cases c : D m = true
    · rw [if_pos c]; exact (bit_or ⟨_, ih (by omega)⟩ ⟨m, by omega⟩).2
    · rw [if_neg c]; exact ih (by omega)
theorem dueF_bit (D : Nat → Bool) (i : Nat) : ∀ m, (dueF D m).testBit i = (decide (i < m) && D i) := by
  intro m
  induction m with
  | zero => show Nat.testBit 0 i = _; rw [Nat.zero_testBit]; simp
  | succ m ih =>
    unfold dueF
    by_cases c : D m = true
    · rw [if_pos c, Nat.testBit_or, ih, Nat.testBit_two_pow]
      by_cases e : m = i
      · subst e; simp [c]
      · have e2 : (i < m + 1) = (i < m) := by rw [eq_iff_iff]; omega
        simp [e, e2]
    · rw [if_neg c, ih]
      by_cases e : m = i
      · subst e
        have c0 : D m = false := by simpa using c
        simp [c0]
      · have e2 : (i < m + 1) = (i < m) := by rw [eq_iff_iff]; omega
        simp [e2]
def dueP (M : Mem) (i : Nat) : Bool := decide (vM M i 6 = 1 ∧ ¬ ls M i + 1 < M 1 2)
theorem r_minute1 {M : Mem} {n : Nat} (h : MV M n) : fX12_minutePasses M = lp fX12_minutePasses_s (1, nI (cnt (recP (vM M) n) n), nI (dueF (dueP M) n), 0, 0, up2 (mnM M n n) 1 1 (M 1 1 + 1)) := by
  obtain ⟨h8, h0⟩ := h
  unfold fX12_minutePasses
  have e0 : (0, (0 : Int32), (0 : Int32), (0 : Int32), (0 : Int32), M) = (fun t => (0, nI (cnt (recP (vM M) n) t), nI (dueF (dueP M) t), nI t, (0 : Int32), mnM M n t)) 0 := by
    show _ = (0, nI 0, nI 0, nI 0, _, mnM M n 0)
    rw [mnM_0]
    rfl
  rw [e0]
  refine (lp_run (fun t => (0, nI (cnt (recP (vM M) n) t), nI (dueF (dueP M) t), nI t, (0 : Int32), mnM M n t)) n (fun t ht => ?_)).trans (lp_inl ?_)
  · have et : (nI t).toNatClampNeg = t := nI_clamp (by omega)
    have k1 : mnM M n t 1 0 = nI n := by rw [mnM_fr M n t (by omega)]; exact h0
    have kl : mnM M n t 1 2 = M 1 2 := mnM_fr M n t (by omega)
    have kr : ∀ o, mnM M n t 1 (8 + 12 * t + o) = M 1 (8 + 12 * t + o) := fun o => mnM_fr M n t (by omega)
    have hv : ∀ i f, i < n → f ≤ 6 → vM (mnM M n t) i f = vM M i f := fun i f _ hf => mnM_v M n t hf
    have es : cnt (recP (vM M) n) (t + 1) = cnt (recP (vM M) n) t + (if recP (vM M) n t = true then 1 else 0) := rfl
    have ed : dueF (dueP M) (t + 1) = if dueP M t = true then dueF (dueP M) t ||| 2 ^ t else dueF (dueP M) t := rfl
    have g6 : ∀ K, fX12_t K (nI t) 6 = some (K 1 (8 + 12 * t + 6)) := fun K => r_t K (o := 6) (by omega) (by decide)
    have g8 : ∀ K, fX12_t K (nI t) 8 = some (K 1 (8 + 12 * t + 8)) := fun K => r_t K (o := 8) (by omega) (by decide)
    have g9 : ∀ K, fX12_t K (nI t) 9 = some (K 1 (8 + 12 * t + 9)) := fun K => r_t K (o := 9) (by omega) (by decide)
    have g10 : ∀ K, fX12_t K (nI t) 10 = some (K 1 (8 + 12 * t + 10)) := fun K => r_t K (o := 10) (by omega) (by decide)
    have p8 : ∀ K x, fX12_set K (nI t) 8 x = some (up2 K 1 (8 + 12 * t + 8) x) := fun K x => r_set K (o := 8) (by omega) (by decide) x
    have p9 : ∀ K x, fX12_set K (nI t) 9 x = some (up2 K 1 (8 + 12 * t + 9) x) := fun K x => r_set K (o := 9) (by omega) (by decide) x
    have p10 : ∀ K x, fX12_set K (nI t) 10 x = some (up2 K 1 (8 + 12 * t + 10) x) := fun K x => r_set K (o := 10) (by omega) (by decide) x
    have u : ∀ (K : Mem) (a c : Nat) (x : Int32), a ≠ c → up2 K 1 a x 1 c = K 1 c := fun K a c x hac => by rw [up2_at, if_neg (by omega)]
    have us : ∀ (K : Mem) (a : Nat) (x : Int32), up2 K 1 a x 1 a = x := fun K a x => by rw [up2_at, if_pos ⟨rfl, rfl⟩]
    have v6 : vM M t 6 = M 1 (8 + 12 * t + 6) := by unfold vM; rw [if_pos (by decide)]
    have hl : ls M t = M 1 (8 + 12 * t + 8) := rfl
    have hb := (bit_or ⟨_, dueF_lt (dueP M) t (by omega)⟩ ⟨t, by omega⟩).1
    unfold fX12_minutePasses_s
    dsimp only
    rw [if_pos rfl, if_neg (show ¬ mnM M n t 1 0 ≤ nI t by rw [k1]; exact lt_step h8 ht), r_receives ⟨h8, k1⟩ (by omega), recP_congr hv ht h8]
    simp only [Option.bind_some]
    cases hr : recP (vM M) n t with
    | false =>
      rw [b2i_f rfl, if_pos rfl, g6]
      simp only [Option.bind_some]
      rw [kr]
      by_cases h1 : M 1 (8 + 12 * t + 6) = 1
      · rw [if_pos h1, g9]
        simp only [Option.bind_some, p9, g8, p8, us, u _ (8 + 12 * t + 9) (8 + 12 * t + 8) _ (by omega), kr, u _ (8 + 12 * t + 8) 2 _ (by omega), u _ (8 + 12 * t + 9) 2 _ (by omega), kl]
        have eK : up2 (up2 (mnM M n t) 1 (8 + 12 * t + 9) (M 1 (8 + 12 * t + 9) + 1)) 1 (8 + 12 * t + 8) (M 1 (8 + 12 * t + 8) + 1) = mnM M n (t + 1) := by
          refine mnM_s (fun k p hkp => by rw [up2_at, if_neg (by omega), up2_at, if_neg (by omega)]) (fun o ho => ?_)
          rw [up2_at, up2_at, kr, v6, hr]
          by_cases o8 : o = 8
          · subst o8; simp [h1]
          · by_cases o9 : o = 9
            · subst o9; simp [h1]
            · rw [if_neg (by omega), if_neg (by omega), if_neg (by simp; omega)]
        rw [eK, es, hr, ed]
        by_cases hd : M 1 (8 + 12 * t + 8) + 1 < M 1 2
        · have hdf : ¬ dueP M t = true := by unfold dueP; rw [hl, decide_eq_false (fun z => z.2 hd)]; decide
          rw [if_pos hd, if_neg hdf, nI_1]
          rfl
        · have hdt : dueP M t = true := by unfold dueP; rw [hl, v6]; exact decide_eq_true ⟨h1, hd⟩
          rw [if_neg hd, if_pos hdt, nI_1, hb]
          rfl
      · have hdf : ¬ dueP M t = true := by unfold dueP; rw [v6, decide_eq_false (fun z => h1 z.1)]; decide
        have eK : mnM M n t = mnM M n (t + 1) := by
          refine mnM_s (fun k p hkp => rfl) (fun o ho => ?_)
          rw [kr, v6, hr, if_neg (by simp [h1])]
        rw [if_neg h1, ← eK, es, hr, ed, if_neg hdf, nI_1]
        rfl
    | true =>
      rw [b2i_t rfl, if_neg (by decide), g10]
      simp only [Option.bind_some, p10, g6, u _ (8 + 12 * t + 10) (8 + 12 * t + 6) _ (by omega), kr]
      by_cases h1 : M 1 (8 + 12 * t + 6) = 1
      · rw [if_pos h1, g9]
        simp only [Option.bind_some, p9, g8, p8, us, u _ (8 + 12 * t + 9) (8 + 12 * t + 8) _ (by omega), u _ (8 + 12 * t + 10) (8 + 12 * t + 8) _ (by omega), u _ (8 + 12 * t + 10) (8 + 12 * t + 9) _ (by omega), kr, u _ (8 + 12 * t + 8) 2 _ (by omega), u _ (8 + 12 * t + 9) 2 _ (by omega), u _ (8 + 12 * t + 10) 2 _ (by omega), kl]
        have eK : up2 (up2 (up2 (mnM M n t) 1 (8 + 12 * t + 10) (M 1 (8 + 12 * t + 10) + 1)) 1 (8 + 12 * t + 9) (M 1 (8 + 12 * t + 9) + 1)) 1 (8 + 12 * t + 8) (M 1 (8 + 12 * t + 8) + 1) = mnM M n (t + 1) := by
          refine mnM_s (fun k p hkp => by rw [up2_at, if_neg (by omega), up2_at, if_neg (by omega), up2_at, if_neg (by omega)]) (fun o ho => ?_)
          rw [up2_at, up2_at, up2_at, kr, v6, hr]
          by_cases o8 : o = 8
          · subst o8; simp [h1]
          · by_cases o9 : o = 9
            · subst o9; simp [h1]
            · by_cases o10 : o = 10
              · subst o10; simp
              · rw [if_neg (by omega), if_neg (by omega), if_neg (by omega), if_neg (by simp; omega)]
        rw [eK, es, hr, ed]
        by_cases hd : M 1 (8 + 12 * t + 8) + 1 < M 1 2
        · have hdf : ¬ dueP M t = true := by unfold dueP; rw [hl, decide_eq_false (fun z => z.2 hd)]; decide
          rw [if_pos hd, if_neg hdf, nI_1, nI_1]
          rfl
        · have hdt : dueP M t = true := by unfold dueP; rw [hl, v6]; exact decide_eq_true ⟨h1, hd⟩
          rw [if_neg hd, if_pos hdt, nI_1, nI_1, hb]
          rfl
      · have hdf : ¬ dueP M t = true := by unfold dueP; rw [v6, decide_eq_false (fun z => h1 z.1)]; decide
        have eK : up2 (mnM M n t) 1 (8 + 12 * t + 10) (M 1 (8 + 12 * t + 10) + 1) = mnM M n (t + 1) := by
          refine mnM_s (fun k p hkp => by rw [up2_at, if_neg (by omega)]) (fun o ho => ?_)
          rw [up2_at, kr, v6, hr]
          by_cases o10 : o = 10
          · subst o10; simp
          · rw [if_neg (by omega), if_neg (by simp [h1, o10])]
        rw [if_neg h1, eK, es, hr, ed, if_neg hdf, nI_1, nI_1]
        rfl
  · have k1 : mnM M n n 1 0 = nI n := by rw [mnM_fr M n n (by omega)]; exact h0
    have kt : mnM M n n 1 1 = M 1 1 := mnM_fr M n n (by omega)
    unfold fX12_minutePasses_s
    dsimp only
    rw [if_pos rfl, if_pos (show mnM M n n 1 0 ≤ nI n by rw [k1]; exact nI_le (Nat.le_refl n) (by omega)), kt]
