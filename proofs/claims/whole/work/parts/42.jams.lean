/-! ===== jams counted by channels ===== -/
def btwP (v : Nat → Nat → Int32) (c d : Int32) (k j : Nat) : Bool := spkP v c k && (decide (v j 5 = d) && distP v k j)
/-- at most one speaker on a channel -/
def OS (v : Nat → Nat → Int32) (n : Nat) : Prop := ∀ i j, i < n → j < n → v i 6 = 1 → v j 6 = 1 → v i 5 = v j 5 → i = j
theorem cnt2_no (p : Nat → Nat → Bool) (n : Nat) : ∀ m, (∀ k j, k < m → j < n → p k j = false) → cnt2 p n m = 0 := by
  intro m
  induction m with
  | zero => intro _; rfl
  | succ m ih =>
    intro h
    unfold cnt2
    rw [ih (fun k j hk hj => h k j (by omega) hj), cnt_no _ n (fun j hj => h m j (by omega) hj)]
theorem cnt2_congr {p q : Nat → Nat → Bool} {n : Nat} : ∀ m, (∀ k j, k < m → j < n → p k j = q k j) → cnt2 p n m = cnt2 q n m := by
  intro m
  induction m with
  | zero => intro _; rfl
  | succ m ih =>
    intro h
    unfold cnt2
    rw [ih (fun k j hk hj => h k j (by omega) hj), cnt_congr (fun j hj => h m j (by omega) hj)]
theorem cnt2_or (p q : Nat → Nat → Bool) (n : Nat) : ∀ m, (∀ k j, k < m → j < n → ¬ (p k j = true ∧ q k j = true)) → cnt2 (fun k j => p k j || q k j) n m = cnt2 p n m + cnt2 q n m := by
  intro m
  induction m with
  | zero => intro _; rfl
  | succ m ih =>
    intro h
    unfold cnt2
    rw [ih (fun k j hk hj => h k j (by omega) hj), cnt_or (p m) (q m) n (fun j hj => h m j (by omega) hj)]
    omega
theorem cnt2_row (p : Nat → Nat → Bool) (n s : Nat) : ∀ m, s < m → (∀ k j, k < m → j < n → k ≠ s → p k j = false) → cnt2 p n m = cnt (p s) n := by
  intro m
  induction m with
  | zero => intro h; omega
  | succ m ih =>
    intro hs h
    unfold cnt2
    by_cases c : s = m
    · subst c
      rw [cnt2_no p n s (fun k j hk hj => h k j (by omega) hj (by omega)), Nat.zero_add]
    · rw [ih (by omega) (fun k j hk hj => h k j (by omega) hj), cnt_no (p m) n (fun j hj => h m j (by omega) hj (by omega))]
      omega
theorem c_jamsBetween {N : Mem} {n : Nat} (h : NV N n) (ho : OS (vN N) n) (c d : Int32) : fX6_jamsBetween N c d = some (nI (cnt2 (btwP (vN N) c d) n n)) := by
  unfold fX6_jamsBetween
  rw [c_speakerOn h]
  simp only [Option.bind_some]
  obtain ⟨h1, h2, h3⟩ := h
  rcases first_spec (spkP (vN N) c) n with ⟨e, hf⟩ | ⟨s, hs, hp, _, e⟩
  · rw [e, cnt2_no _ n n (fun k j hk hj => by unfold btwP; rw [hf k hk]; rfl)]
    refine lp_inr ?_
    unfold fX6_jamsBetween_s
    dsimp only
    by_cases g : N 0 1 ≤ 0
    · rw [if_pos g]; rfl
    · rw [if_neg g, if_pos (by decide)]; rfl
  · rw [e]
    have hps : vN N s 5 = c ∧ vN N s 6 = 1 := of_decide_eq_true hp
    have er : cnt2 (btwP (vN N) c d) n n = cnt (btwP (vN N) c d s) n := by
      refine cnt2_row _ n s n hs (fun k j hk hj hn => ?_)
      unfold btwP
      cases g : spkP (vN N) c k with
      | false => rfl
      | true =>
        have g2 : vN N k 5 = c ∧ vN N k 6 = 1 := of_decide_eq_true g
        exact absurd (ho k s hk hs g2.2 hps.2 (g2.1.trans hps.1.symm)) hn
    rw [er]
    refine lp_up (fun t => (nI s, nI (cnt (btwP (vN N) c d s) t), nI t)) n (fun t ht => ?_) ?_
    · unfold fX6_jamsBetween_s
      have hc : (nI t).toNatClampNeg = t := nI_clamp (by omega)
      have hd : (nI s).toNatClampNeg = s := nI_clamp (by omega)
      have es : cnt (btwP (vN N) c d s) (t + 1) = cnt (btwP (vN N) c d s) t + (if btwP (vN N) c d s t = true then 1 else 0) := rfl
      dsimp only
      rw [h2, if_neg (lt_step h1 ht), if_neg (nI_pos (by omega)), gd_t (inb_nI (by omega) (by decide))]
      simp only [hc, hd, Nat.one_mul]
      rw [es]
      by_cases g : N (2 + t) 5 = d
      · have eb : btwP (vN N) c d s t = distP (vN N) s t := by
          unfold btwP
          rw [hp, show decide (vN N t 5 = d) = true from decide_eq_true g]
          rfl
        rw [if_pos g, gd_t (inb_nI (by omega) (by decide)), gd_t (inb_nI (by omega) (by decide)), c_disturbs N (by omega) (by omega) (h3 s hs), eb]
        simp only [Option.bind_some]
        cases hq : distP (vN N) s t with
        | true => rw [b2i_t rfl]; simp [nI_1]
        | false => rw [b2i_f rfl]; simp [nI_1]
      · have eb : btwP (vN N) c d s t = false := by
          unfold btwP
          rw [show decide (vN N t 5 = d) = false from decide_eq_false g, Bool.false_and, Bool.and_false]
        rw [if_neg g, eb]
        simp [nI_1]
    · unfold fX6_jamsBetween_s
      dsimp only
      rw [h2, if_pos (nI_le (Nat.le_refl n) (by omega))]
/-- jams between the channels below t and their neighbours -/
def jamC (v : Nat → Nat → Int32) (n : Nat) : Nat → Nat
  | 0 => 0
  | t + 1 => jamC v n t + cnt2 (btwP v (nI t) (nI (t + 1))) n n + cnt2 (btwP v (nI (t + 1)) (nI t)) n n
theorem c_jamsOfChannels_c {N : Mem} {n : Nat} (h : NV N n) (ho : OS (vN N) n) : fX6_jamsOfChannels N = some (nI (jamC (vN N) n 9)) := by
  unfold fX6_jamsOfChannels
  refine lp_up (fun t => (nI (jamC (vN N) n t), nI t)) 9 (fun t ht => ?_) ?_
  · unfold fX6_jamsOfChannels_s
    dsimp only
    rw [nI_1, if_neg (show ¬ (10 : Int32) ≤ nI (t + 1) from nI_ge (b := 10) (by omega) (by omega)), c_jamsBetween h ho]
    simp only [Option.bind_some]
    rw [c_jamsBetween h ho]
    simp only [Option.bind_some, nI_add]
    rfl
  · unfold fX6_jamsOfChannels_s
    dsimp only
    rw [if_pos (by decide)]
/-- channels are 0 to 9 -/
def CH (v : Nat → Nat → Int32) (n : Nat) : Prop := ∀ i, i < n → ∃ c : Nat, c ≤ 9 ∧ v i 5 = nI c
def upto (v : Nat → Nat → Int32) (t k j : Nat) : Bool := distP v k j && (decide (v k 5 ≤ nI t) && decide (v j 5 ≤ nI t))
theorem nI_one_iff {a b : Nat} (ha : a ≤ 9) (hb : b ≤ 9) : nI a - nI b = 1 ↔ a = b + 1 := by
  have h := fun (x : Int32) => (Int32.toInt_inj (x := nI a - nI b) (y := x))
  rw [← h 1, Int32.toInt_sub, nI_toInt (by omega), nI_toInt (by omega), Int32.toInt_one, Int.bmod_def]
  omega
theorem nI_neg_iff {a b : Nat} (ha : a ≤ 9) (hb : b ≤ 9) : nI a - nI b = -1 ↔ b = a + 1 := by
  have h := fun (x : Int32) => (Int32.toInt_inj (x := nI a - nI b) (y := x))
  rw [← h (-1), Int32.toInt_sub, nI_toInt (by omega), nI_toInt (by omega), show (-1 : Int32).toInt = -1 by decide, Int.bmod_def]
  omega
theorem nI_le_iff {a b : Nat} (ha : a ≤ 9) (hb : b ≤ 9) : nI a ≤ nI b ↔ a ≤ b := by
  rw [Int32.le_iff_toInt_le, nI_toInt (by omega), nI_toInt (by omega)]
  omega
/-- which pairs a disturbance can be: neighbours in channel, the first speaks -/
theorem dist_ch {v : Nat → Nat → Int32} {k j a b : Nat} (ha : a ≤ 9) (hb : b ≤ 9) (ek : v k 5 = nI a) (ej : v j 5 = nI b) (h : distP v k j = true) : v k 6 = 1 ∧ (a = b + 1 ∨ b = a + 1) := by
  have g := of_decide_eq_true h
  refine ⟨g.1, ?_⟩
  rcases g.2.1 with c | c
  · rw [ek, ej] at c; exact .inl ((nI_one_iff ha hb).mp c)
  · rw [ek, ej] at c; exact .inr ((nI_neg_iff ha hb).mp c)
theorem jamC_upto {v : Nat → Nat → Int32} {n : Nat} (hc : CH v n) : ∀ t, t ≤ 9 → jamC v n t = cnt2 (upto v t) n n := by
  intro t
  induction t with
  | zero =>
    intro _
    refine (cnt2_no _ n n (fun k j hk hj => ?_)).symm
    obtain ⟨a, ha, ea⟩ := hc k hk
    obtain ⟨b, hb, eb⟩ := hc j hj
    unfold upto
    cases g : distP v k j with
    | false => rfl
    | true =>
      have g2 := (dist_ch ha hb ea eb g).2
      rw [ea, eb, Bool.true_and, Bool.and_eq_false_iff]
      by_cases z : a ≤ 0
      · refine .inr (decide_eq_false (fun z2 => ?_))
        have := (nI_le_iff hb (by omega)).mp z2
        omega
      · exact .inl (decide_eq_false (fun z2 => z ((nI_le_iff ha (by omega)).mp z2)))
  | succ t ih =>
    intro ht
    have e : cnt2 (upto v (t + 1)) n n = cnt2 (fun k j => (fun k j => upto v t k j || btwP v (nI t) (nI (t + 1)) k j) k j || btwP v (nI (t + 1)) (nI t) k j) n n := by
      refine cnt2_congr n (fun k j hk hj => ?_)
      obtain ⟨a, ha, ea⟩ := hc k hk
      obtain ⟨b, hb, eb⟩ := hc j hj
      dsimp only
      unfold upto btwP spkP
      cases g : distP v k j with
      | false => simp only [Bool.false_and, Bool.and_false, Bool.or_false]
      | true =>
        have g2 := dist_ch ha hb ea eb g
        rw [ea, eb, Bool.eq_iff_iff]
        simp only [Bool.true_and, Bool.and_true, Bool.or_eq_true, Bool.and_eq_true, decide_eq_true_eq, g2.1, and_true, nI_le_iff ha (show t + 1 ≤ 9 by omega), nI_le_iff hb (show t + 1 ≤ 9 by omega), nI_le_iff ha (show t ≤ 9 by omega), nI_le_iff hb (show t ≤ 9 by omega), nI_eq (show a < 2 ^ 31 by omega) (show t < 2 ^ 31 by omega), nI_eq (show a < 2 ^ 31 by omega) (show t + 1 < 2 ^ 31 by omega), nI_eq (show b < 2 ^ 31 by omega) (show t < 2 ^ 31 by omega), nI_eq (show b < 2 ^ 31 by omega) (show t + 1 < 2 ^ 31 by omega)]
        have := g2.2
        omega
    have hU : ∀ k j, upto v t k j = true → v k 5 ≤ nI t ∧ v j 5 ≤ nI t := by
      intro k j g
      unfold upto at g
      simp only [Bool.and_eq_true, decide_eq_true_eq] at g
      exact g.2
    have hB : ∀ c d k j, btwP v c d k j = true → v k 5 = c ∧ v j 5 = d := by
      intro c d k j g
      unfold btwP spkP at g
      simp only [Bool.and_eq_true, decide_eq_true_eq] at g
      exact ⟨g.1.1, g.2.1⟩
    have hlt : ¬ nI (t + 1) ≤ nI t := nI_ge (by omega) (by omega)
    rw [e, cnt2_or (fun k j => upto v t k j || btwP v (nI t) (nI (t + 1)) k j) (btwP v (nI (t + 1)) (nI t)) n n (fun k j hk hj g => ?_), cnt2_or (upto v t) (btwP v (nI t) (nI (t + 1))) n n (fun k j hk hj g => ?_), ← ih (by omega)]
    · rfl
    · have a1 := (hU k j g.1).2
      rw [(hB _ _ k j g.2).2] at a1
      exact hlt a1
    · have b1 := (hB _ _ k j g.2).1
      rcases (Bool.or_eq_true _ _).mp g.1 with g1 | g1
      · have a1 := (hU k j g1).1
        rw [b1] at a1
        exact hlt a1
      · have a1 := (hB _ _ k j g1).1
        rw [b1] at a1
        exact hlt (a1 ▸ Int32.le_refl _)
theorem c_jamsOfChannels {N : Mem} {n : Nat} (h : NV N n) (ho : OS (vN N) n) (hc : CH (vN N) n) : fX6_jamsOfChannels N = some (nI (cnt2 (distP (vN N)) n n)) := by
  rw [c_jamsOfChannels_c h ho, jamC_upto hc 9 (Nat.le_refl 9)]
  have e : cnt2 (upto (vN N) 9) n n = cnt2 (distP (vN N)) n n := by
    refine cnt2_congr n (fun k j hk hj => ?_)
    obtain ⟨a, ha, ea⟩ := hc k hk
    obtain ⟨b, hb, eb⟩ := hc j hj
    unfold upto
    rw [ea, eb, decide_eq_true ((nI_le_iff ha (Nat.le_refl 9)).mpr ha), decide_eq_true ((nI_le_iff hb (Nat.le_refl 9)).mpr hb), Bool.and_true, Bool.and_true]
  rw [e]
