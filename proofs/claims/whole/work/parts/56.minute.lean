/-! ===== a minute: who speaks, who receives ===== -/
def hspP (v : Nat → Nat → Int32) (n i : Nat) : Bool := decide (¬ first (spkP v (v i 5)) n < 0) && hearP v i (first (spkP v (v i 5)) n).toNatClampNeg
def recP (v : Nat → Nat → Int32) (n i : Nat) : Bool := hspP v n i && !anyP (fun k => distP v k i) n
theorem c_hearsSpeaker {N : Mem} {n : Nat} (h : NV N n) {i : Nat} (hi : i < 8) : fX6_hearsSpeaker N (2 + i) = some (b2i (hspP (vN N) n i)) := by
  have h8 := h.1
  unfold fX6_hearsSpeaker hspP
  have e5 : N (2 + i) 5 = vN N i 5 := rfl
  rw [gd_t (stn_2 hi), e5, c_speakerOn h]
  simp only [Option.bind_some]
  rcases first_spec (spkP (vN N) (vN N i 5)) n with ⟨e1, hf⟩ | ⟨s, hs, hp, _, e1⟩
  · rw [e1, if_pos neg1_lt, decide_eq_false (fun z => z neg1_lt)]
    rfl
  · have es : (nI s).toNatClampNeg = s := nI_clamp (by omega)
    rw [e1, if_neg (nI_pos (by omega)), gd_t (inb_nI (by omega) (by decide)), decide_eq_true (nI_pos (by omega)), es, Nat.one_mul, c_hears N hi (by omega)]
    simp only [Option.bind_some, Bool.true_and]
    cases hearP (vN N) i s with
    | true => rfl
    | false => rfl
theorem r_receives {M : Mem} {n : Nat} (h : MV M n) {i : Nat} (hi : i < 8) : fX12_receives M (nI i) = some (b2i (recP (vM M) n i)) := by
  have h8 := h.1
  unfold fX12_receives recP hspP
  rw [r_5 M hi]
  simp only [Option.bind_some]
  rw [r_speakerOn h]
  simp only [Option.bind_some]
  rcases first_spec (spkP (vM M) (vM M i 5)) n with ⟨e1, hf⟩ | ⟨s, hs, hp, _, e1⟩
  · rw [e1, if_pos neg1_lt, decide_eq_false (fun z => z neg1_lt)]
    rfl
  · have es : (nI s).toNatClampNeg = s := nI_clamp (by omega)
    rw [e1, if_neg (nI_pos (by omega)), decide_eq_true (nI_pos (by omega)), es, r_hears M hi (by omega)]
    simp only [Option.bind_some, Bool.true_and]
    cases hearP (vM M) i s with
    | false => rfl
    | true =>
      rw [b2i_t rfl, if_neg (by decide), r_isDisturbed h hi]
      simp only [Option.bind_some, Bool.true_and]
      cases anyP (fun k => distP (vM M) k i) n with
      | true => rfl
      | false => rfl
theorem hspP_congr {v u : Nat → Nat → Int32} {n : Nat} (h : ∀ i f, i < n → f ≤ 6 → v i f = u i f) {i : Nat} (hi : i < n) (hn : n ≤ 8) : hspP v n i = hspP u n i := by
  unfold hspP
  have e : first (spkP v (v i 5)) n = first (spkP u (u i 5)) n := by
    rw [h i 5 hi (by decide)]
    exact first_congr (fun j hj => spkP_congr h _ hj)
  rw [e]
  rcases first_spec (spkP u (u i 5)) n with ⟨e1, hf⟩ | ⟨s, hs, hp, _, e1⟩
  · rw [e1, decide_eq_false (fun z => z neg1_lt), Bool.false_and, Bool.false_and]
  · have es : (nI s).toNatClampNeg = s := nI_clamp (by omega)
    rw [e1, es, hearP_congr h hi hs]
theorem anyP_congr {p q : Nat → Bool} {n : Nat} (h : ∀ i, i < n → p i = q i) : anyP p n = anyP q n := by
  unfold anyP
  rw [first_congr h]
theorem recP_congr {v u : Nat → Nat → Int32} {n : Nat} (h : ∀ i f, i < n → f ≤ 6 → v i f = u i f) {i : Nat} (hi : i < n) (hn : n ≤ 8) : recP v n i = recP u n i := by
  unfold recP
  rw [hspP_congr h hi hn, anyP_congr (fun k hk => distP_congr h hk hi)]
/-- the class's net when the stations below t have had their minute -/
def mnN (N : Mem) (n t : Nat) : Mem := fun k f =>
  if 2 ≤ k ∧ k < 2 + t ∧ ((f = 8 ∧ vN N (k - 2) 6 = 1) ∨ (f = 9 ∧ recP (vN N) n (k - 2) = true)) then N k f + 1 else N k f
theorem mnN_0 (N : Mem) (n : Nat) : mnN N n 0 = N := by
  funext k f
  exact if_neg (by omega)
theorem mnN_at (N : Mem) (n t : Nat) {k f : Nat} (h : k < 2 ∨ 2 + t ≤ k ∨ (f ≠ 8 ∧ f ≠ 9)) : mnN N n t k f = N k f := if_neg (by omega)
theorem mnN_s1 {N : Mem} {n t : Nat} (h1 : vN N t 6 = 1) (h2 : recP (vN N) n t = true) : up2 (up2 (mnN N n t) (2 + t) 8 (N (2 + t) 8 + 1)) (2 + t) 9 (N (2 + t) 9 + 1) = mnN N n (t + 1) := by
  funext k f
  rw [up2_at, up2_at]
  unfold mnN
  by_cases c : k = 2 + t
  · subst c
    have e : 2 + t - 2 = t := by omega
    rw [e]
    by_cases c9 : f = 9
    · subst c9
      rw [if_pos ⟨rfl, rfl⟩, if_pos ⟨by omega, by omega, Or.inr ⟨rfl, h2⟩⟩]
    · by_cases c8 : f = 8
      · subst c8
        rw [if_neg (by omega), if_pos ⟨rfl, rfl⟩, if_pos ⟨by omega, by omega, Or.inl ⟨rfl, h1⟩⟩]
      · rw [if_neg (by omega), if_neg (by omega), if_neg (by omega), if_neg (by omega)]
  · rw [if_neg (by omega), if_neg (by omega)]
    by_cases g : 2 ≤ k ∧ k < 2 + t ∧ ((f = 8 ∧ vN N (k - 2) 6 = 1) ∨ (f = 9 ∧ recP (vN N) n (k - 2) = true))
    · rw [if_pos g, if_pos ⟨g.1, by omega, g.2.2⟩]
    · rw [if_neg g, if_neg (fun z => g ⟨z.1, by omega, z.2.2⟩)]
theorem mnN_s2 {N : Mem} {n t : Nat} (h1 : vN N t 6 = 1) (h2 : recP (vN N) n t = false) : up2 (mnN N n t) (2 + t) 8 (N (2 + t) 8 + 1) = mnN N n (t + 1) := by
  funext k f
  rw [up2_at]
  unfold mnN
  by_cases c : k = 2 + t
  · subst c
    have e : 2 + t - 2 = t := by omega
    rw [e, h2]
    by_cases c8 : f = 8
    · subst c8
      rw [if_pos ⟨rfl, rfl⟩, if_pos ⟨by omega, by omega, Or.inl ⟨rfl, h1⟩⟩]
    · rw [if_neg (by omega), if_neg (by omega), if_neg (fun z => z.2.2.elim (fun q => c8 q.1) (fun q => by cases q.2))]
  · rw [if_neg (by omega)]
    by_cases g : 2 ≤ k ∧ k < 2 + t ∧ ((f = 8 ∧ vN N (k - 2) 6 = 1) ∨ (f = 9 ∧ recP (vN N) n (k - 2) = true))
    · rw [if_pos g, if_pos ⟨g.1, by omega, g.2.2⟩]
    · rw [if_neg g, if_neg (fun z => g ⟨z.1, by omega, z.2.2⟩)]
theorem mnN_s3 {N : Mem} {n t : Nat} (h1 : ¬ vN N t 6 = 1) (h2 : recP (vN N) n t = true) : up2 (mnN N n t) (2 + t) 9 (N (2 + t) 9 + 1) = mnN N n (t + 1) := by
  funext k f
  rw [up2_at]
  unfold mnN
  by_cases c : k = 2 + t
  · subst c
    have e : 2 + t - 2 = t := by omega
    rw [e]
    by_cases c8 : f = 9
    · subst c8
      rw [if_pos ⟨rfl, rfl⟩, if_pos ⟨by omega, by omega, Or.inr ⟨rfl, h2⟩⟩]
    · rw [if_neg (by omega), if_neg (by omega), if_neg (fun z => z.2.2.elim (fun q => h1 q.2) (fun q => c8 q.1))]
  · rw [if_neg (by omega)]
    by_cases g : 2 ≤ k ∧ k < 2 + t ∧ ((f = 8 ∧ vN N (k - 2) 6 = 1) ∨ (f = 9 ∧ recP (vN N) n (k - 2) = true))
    · rw [if_pos g, if_pos ⟨g.1, by omega, g.2.2⟩]
    · rw [if_neg g, if_neg (fun z => g ⟨z.1, by omega, z.2.2⟩)]
theorem mnN_s4 {N : Mem} {n t : Nat} (h1 : ¬ vN N t 6 = 1) (h2 : recP (vN N) n t = false) : mnN N n t = mnN N n (t + 1) := by
  funext k f
  unfold mnN
  by_cases c : k = 2 + t
  · subst c
    have e : 2 + t - 2 = t := by omega
    rw [e, h2, if_neg (by omega), if_neg (fun z => z.2.2.elim (fun q => h1 q.2) (fun q => by cases q.2))]
  · by_cases g : 2 ≤ k ∧ k < 2 + t ∧ ((f = 8 ∧ vN N (k - 2) 6 = 1) ∨ (f = 9 ∧ recP (vN N) n (k - 2) = true))
    · rw [if_pos g, if_pos ⟨g.1, by omega, g.2.2⟩]
    · rw [if_neg g, if_neg (fun z => g ⟨z.1, by omega, z.2.2⟩)]
theorem mnN_NV {N : Mem} {n : Nat} (h : NV N n) (t : Nat) : NV (mnN N n t) n := ⟨h.1, by rw [mnN_at _ _ _ (by omega)]; exact h.2.1, fun i hi => by rw [mnN_at _ _ _ (Or.inr (Or.inr ⟨by decide, by decide⟩))]; exact h.2.2 i hi⟩
theorem mnN_v (N : Mem) (n t : Nat) : ∀ i f, i < n → f ≤ 6 → vN (mnN N n t) i f = vN N i f := fun i f _ hf => mnN_at N n t (Or.inr (Or.inr ⟨by omega, by omega⟩))
theorem c_passMinute {N : Mem} {n : Nat} (h : NV N n) : fX6_passMinute N = (fX6_endLongTurns (up2 (mnN N n n) 0 5 (N 0 5 + 1))).bind fun z2 => some (nI (cnt (recP (vN N) n) n), z2) := by
  have h8 := h.1
  unfold fX6_passMinute
  have e0 : ((0 : Int32), (0 : Int32), N) = (fun t => (nI (cnt (recP (vN N) n) t), nI t, mnN N n t)) 0 := by
    show _ = (nI 0, nI 0, mnN N n 0)
    rw [mnN_0]
    rfl
  rw [e0]
  refine (lp_run (fun t => (nI (cnt (recP (vN N) n) t), nI t, mnN N n t)) n (fun t ht => ?_)).trans ?_
  · have et : (nI t).toNatClampNeg = t := nI_clamp (by omega)
    have ht8 : inb (nI t) 8 = true := inb_nI (by omega) (by decide)
    have k1 : mnN N n t 0 1 = nI n := by rw [mnN_at _ _ _ (by omega)]; exact h.2.1
    have kt : ∀ f, mnN N n t (2 + t) f = N (2 + t) f := fun f => mnN_at N n t (Or.inr (Or.inl (Nat.le_refl _)))
    have es : cnt (recP (vN N) n) (t + 1) = cnt (recP (vN N) n) t + (if recP (vN N) n t = true then 1 else 0) := rfl
    unfold fX6_passMinute_s
    dsimp only
    rw [if_neg (show ¬ mnN N n t 0 1 ≤ nI t by rw [k1]; exact lt_step h8 ht), gd_t ht8]
    simp only [et, Nat.one_mul, kt]
    rw [gd_t (h.2.2 t ht)]
    by_cases h1 : N (2 + t) 6 = 1
    · have h1' : vN N t 6 = 1 := h1
      have nv : NV (up2 (mnN N n t) (2 + t) 8 (N (2 + t) 8 + 1)) n := by
        obtain ⟨q1, q2, q3⟩ := mnN_NV h t
        refine ⟨q1, by rw [up2_at, if_neg (by omega)]; exact q2, fun i hi => by rw [up2_at, if_neg (by omega)]; exact q3 i hi⟩
      have hv : ∀ i f, i < n → f ≤ 6 → vN (up2 (mnN N n t) (2 + t) 8 (N (2 + t) 8 + 1)) i f = vN N i f := fun i f hi hf => by rw [vN_up, if_neg (by omega)]; exact mnN_v N n t i f hi hf
      have k9 : up2 (mnN N n t) (2 + t) 8 (N (2 + t) 8 + 1) (2 + t) 9 = N (2 + t) 9 := by rw [up2_at, if_neg (by omega)]; exact kt 9
      rw [if_pos h1, c_hearsSpeaker nv (by omega), hspP_congr hv ht h8]
      simp only [Option.bind_some]
      cases hq : hspP (vN N) n t with
      | false =>
        have hr : recP (vN N) n t = false := by unfold recP; rw [hq]; rfl
        rw [b2i_f rfl, if_pos rfl, mnN_s2 h1' hr, es, hr, nI_1]
        rfl
      | true =>
        rw [b2i_t rfl, if_neg (by decide), c_anyJams nv (by omega), anyP_congr (fun k hk => distP_congr hv hk ht)]
        simp only [Option.bind_some]
        cases hd : anyP (fun k => distP (vN N) k t) n with
        | true =>
          have hr : recP (vN N) n t = false := by unfold recP; rw [hq, hd]; rfl
          rw [b2i_t rfl, if_neg (by decide), mnN_s2 h1' hr, es, hr, nI_1]
          rfl
        | false =>
          have hr : recP (vN N) n t = true := by unfold recP; rw [hq, hd]; rfl
          rw [b2i_f rfl, if_pos rfl, k9, mnN_s1 h1' hr, es, hr, nI_1, nI_1]
          rfl
    · have h1' : ¬ vN N t 6 = 1 := h1
      have nv : NV (mnN N n t) n := mnN_NV h t
      have hv := mnN_v N n t
      rw [if_neg h1, c_hearsSpeaker nv (by omega), hspP_congr hv ht h8]
      simp only [Option.bind_some]
      cases hq : hspP (vN N) n t with
      | false =>
        have hr : recP (vN N) n t = false := by unfold recP; rw [hq]; rfl
        rw [b2i_f rfl, if_pos rfl, ← mnN_s4 h1' hr, es, hr, nI_1]
        rfl
      | true =>
        rw [b2i_t rfl, if_neg (by decide), c_anyJams nv (by omega), anyP_congr (fun k hk => distP_congr hv hk ht)]
        simp only [Option.bind_some]
        cases hd : anyP (fun k => distP (vN N) k t) n with
        | true =>
          have hr : recP (vN N) n t = false := by unfold recP; rw [hq, hd]; rfl
          rw [b2i_t rfl, if_neg (by decide), ← mnN_s4 h1' hr, es, hr, nI_1]
          rfl
        | false =>
          have hr : recP (vN N) n t = true := by unfold recP; rw [hq, hd]; rfl
          rw [b2i_f rfl, if_pos rfl, mnN_s3 h1' hr, es, hr, nI_1, nI_1]
          rfl
  · have k1 : mnN N n n 0 1 = nI n := by rw [mnN_at _ _ _ (by omega)]; exact h.2.1
    have k5 : mnN N n n 0 5 = N 0 5 := mnN_at _ _ _ (by omega)
    cases hE : fX6_endLongTurns (up2 (mnN N n n) 0 5 (N 0 5 + 1)) with
    | none =>
      have hs : fX6_passMinute_s (nI (cnt (recP (vN N) n) n), nI n, mnN N n n) = none := by
        unfold fX6_passMinute_s
        dsimp only
        rw [if_pos (show mnN N n n 0 1 ≤ nI n by rw [k1]; exact nI_le (Nat.le_refl n) (by omega)), k5, hE]
        rfl
      show lp fX6_passMinute_s (nI (cnt (recP (vN N) n) n), nI n, mnN N n n) = none
      cases hl : lp fX6_passMinute_s (nI (cnt (recP (vN N) n) n), nI n, mnN N n n) with
      | none => rfl
      | some r =>
        obtain ⟨m, hm⟩ := lp_some hl
        cases m with
        | zero => cases hm
        | succ m =>
          obtain ⟨y, hy, _⟩ := lpI_succ hm
          rw [hs] at hy
          cases hy
    | some z2 =>
      refine lp_inr ?_
      unfold fX6_passMinute_s
      dsimp only
      rw [if_pos (show mnN N n n 0 1 ≤ nI n by rw [k1]; exact nI_le (Nat.le_refl n) (by omega)), k5, hE]
      rfl
