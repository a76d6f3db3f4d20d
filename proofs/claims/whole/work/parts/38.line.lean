/-! ===== the line: counted by places, counted by stations ===== -/
theorem cnt_or (p q : Nat → Bool) : ∀ n, (∀ i, i < n → ¬ (p i = true ∧ q i = true)) → cnt (fun i => p i || q i) n = cnt p n + cnt q n := by
  intro n
  induction n with
  | zero => intro _; rfl
  | succ n ih =>
    intro h
    have h1 := ih (fun i hi => h i (by omega))
    have h2 := h n (by omega)
    unfold cnt
    rw [h1]
    cases hp : p n <;> cases hq : q n <;> simp_all <;> omega
theorem cnt_no (p : Nat → Bool) : ∀ n, (∀ i, i < n → p i = false) → cnt p n = 0 := by
  intro n
  induction n with
  | zero => intro _; rfl
  | succ n ih =>
    intro h
    unfold cnt
    rw [ih (fun i hi => h i (by omega)), h n (by omega)]
    rfl
theorem cnt_one (p : Nat → Bool) (x : Nat) : ∀ n, x < n → cnt (fun i => decide (i = x) && p i) n = if p x = true then 1 else 0 := by
  intro n
  induction n with
  | zero => intro h; omega
  | succ n ih =>
    intro h
    unfold cnt
    by_cases e : n = x
    · subst e
      rw [cnt_no _ n (fun i hi => by
        have : ¬ i = n := by omega
        simp [this])]
      simp
    · rw [ih (by omega)]
      have : ¬ n = x := e
      simp [this]
/-- L's first w places hold different numbers below n -/
def LI (L : Nat → Nat) (w n : Nat) : Prop := (∀ j, j < w → L j < n) ∧ ∀ i j, i < w → j < w → L i = L j → i = j
def inL (L : Nat → Nat) (w : Nat) (i : Nat) : Bool := decide (∃ j, j < w ∧ L j = i)
theorem cnt_line {L : Nat → Nat} {n : Nat} (p : Nat → Bool) : ∀ w, LI L w n → cnt (fun j => p (L j)) w = cnt (fun i => inL L w i && p i) n := by
  intro w
  induction w with
  | zero =>
    intro _
    rw [cnt_no (fun i => inL L 0 i && p i) n (fun i _ => by
      have : inL L 0 i = false := decide_eq_false (fun ⟨j, hj, _⟩ => by omega)
      rw [this]; rfl)]
    rfl
  | succ w ih =>
    intro h
    have h1 := ih ⟨fun j hj => h.1 j (by omega), fun i j hi hj e => h.2 i j (by omega) (by omega) e⟩
    have e1 : cnt (fun i => inL L (w + 1) i && p i) n = cnt (fun i => (inL L w i && p i) || (decide (i = L w) && p i)) n := by
      refine cnt_congr (fun i _ => ?_)
      have e : inL L (w + 1) i = (inL L w i || decide (i = L w)) := by
        unfold inL
        rw [Bool.eq_iff_iff]
        simp only [Bool.or_eq_true, decide_eq_true_iff]
        constructor
        · rintro ⟨j, hj, ej⟩
          by_cases z : j = w
          · subst z; exact Or.inr ej.symm
          · exact Or.inl ⟨j, by omega, ej⟩
        · rintro (⟨j, hj, ej⟩ | ej)
          · exact ⟨j, by omega, ej⟩
          · exact ⟨w, by omega, ej.symm⟩
      rw [e]
      cases inL L w i <;> cases decide (i = L w) <;> cases p i <;> rfl
    have e2 := cnt_or (fun i => inL L w i && p i) (fun i => decide (i = L w) && p i) n (fun i _ => by
      rintro ⟨a, b⟩
      have a1 := (Bool.and_eq_true _ _ ▸ a).1
      have b1 := (Bool.and_eq_true _ _ ▸ b).1
      obtain ⟨j, hj, ej⟩ := of_decide_eq_true a1
      have b2 := of_decide_eq_true b1
      have := h.2 j w (by omega) (by omega) (by rw [ej, b2])
      omega)
    rw [e1, e2, ← h1, cnt_one p (L w) n (h.1 w (by omega))]
    rfl
theorem cnt_below (p : Nat → Bool) {j : Nat} : ∀ w, j ≤ w → cnt (fun k => decide (k < j) && p k) w = cnt p j := by
  intro w
  induction w with
  | zero => intro h; have e : j = 0 := by omega
            subst e; rfl
  | succ w ih =>
    intro h
    by_cases e : j = w + 1
    · subst e
      refine cnt_congr (fun k hk => ?_)
      simp [hk]
    · show cnt (fun k => decide (k < j) && p k) w + (if (decide (w < j) && p w) = true then 1 else 0) = cnt p j
      rw [ih (by omega)]
      have : ¬ w < j := by omega
      simp [this]
/-- the line of the net: w places, L the stations -/
def LV (N : Mem) (L : Nat → Nat) (w n : Nat) : Prop := w ≤ 8 ∧ N 0 3 = nI w ∧ (∀ j, j < w → N 10 j = nI (L j)) ∧ LI L w n
theorem c_waitingOn {N : Mem} {L : Nat → Nat} {w n : Nat} (hn : n ≤ 8) (h : LV N L w n) (c : Int32) : fX6_waitingOn N c = some (nI (cnt (fun j => decide (vN N (L j) 5 = c)) w)) := by
  obtain ⟨h1, h2, h3, h4⟩ := h
  unfold fX6_waitingOn
  refine lp_count (fun j hj a ha => ?_) (fun a ha => ?_)
  · unfold fX6_waitingOn_s
    have hc : (nI j).toNatClampNeg = j := nI_clamp (by omega)
    have hL := h4.1 j hj
    have hd : (nI (L j)).toNatClampNeg = L j := nI_clamp (by omega)
    dsimp only
    rw [h2, if_neg (lt_step h1 hj), gd_t (inb_nI (by omega) (by decide))]
    simp only [hc]
    rw [h3 j hj, gd_t (inb_nI (by omega) (by decide))]
    simp only [hd, Nat.one_mul]
    by_cases g : N (2 + L j) 5 = c
    · rw [if_pos g, if_pos (show decide (vN N (L j) 5 = c) = true from decide_eq_true g), nI_1, nI_1]
    · rw [if_neg g, if_neg (by rw [show decide (vN N (L j) 5 = c) = false from decide_eq_false g]; decide), nI_1]
      rfl
  · unfold fX6_waitingOn_s
    dsimp only
    rw [h2, if_pos (nI_le (Nat.le_refl w) (by omega))]
def waitP (v : Nat → Nat → Int32) (c : Int32) (i : Nat) : Bool := decide (v i 6 = 2 ∧ v i 5 = c)
theorem r_waitsOn (M : Mem) {i : Nat} (hi : i < 8) (c : Int32) : fX12_waitsOn M (nI i) c = some (b2i (waitP (vM M) c i)) := by
  unfold fX12_waitsOn waitP
  rw [r_6 M hi, r_5 M hi]
  simp only [Option.bind_some]
  by_cases h1 : vM M i 6 = 2
  · rw [if_pos h1]
    by_cases h2 : vM M i 5 = c
    · rw [if_pos h2, b2i_t (decide_eq_true ⟨h1, h2⟩)]
    · rw [if_neg h2, b2i_f (decide_eq_false (fun z => h2 z.2))]
  · rw [if_neg h1, b2i_f (decide_eq_false (fun z => h1 z.1))]
theorem r_lineOf {M : Mem} {n : Nat} (h : MV M n) (c : Int32) : fX12_lineOf M c = some (nI (cnt (waitP (vM M) c) n)) := by
  obtain ⟨h1, h2⟩ := h
  unfold fX12_lineOf
  refine lp_count (fun j hj a ha => ?_) (fun a ha => ?_)
  · unfold fX12_lineOf_s
    dsimp only
    rw [h2, if_neg (lt_step h1 hj), r_waitsOn M (by omega)]
    simp only [Option.bind_some]
    cases hp : waitP (vM M) c j with
    | true => rw [b2i_t rfl]; simp [nI_1]
    | false => rw [b2i_f rfl]; simp [nI_1]
  · unfold fX12_lineOf_s
    dsimp only
    rw [h2, if_pos (nI_le (Nat.le_refl n) (by omega))]
/-- how many wait ahead of i on its channel -/
def aheadP (M : Mem) (i k : Nat) : Bool := waitP (vM M) (vM M i 5) k && decide (tk M k < tk M i)
theorem r_positionOf {M : Mem} {n : Nat} (h : MV M n) {i : Nat} (hi : i < 8) : fX12_positionOf M (nI i) = some (nI (1 + cnt (aheadP M i) n)) := by
  obtain ⟨h1, h2⟩ := h
  unfold fX12_positionOf
  have e0 : ((1 : Int32), (0 : Int32)) = (fun t => (nI (1 + cnt (aheadP M i) t), nI t)) 0 := rfl
  rw [e0]
  refine lp_up (fun t => (nI (1 + cnt (aheadP M i) t), nI t)) n (fun t ht => ?_) ?_
  · unfold fX12_positionOf_s
    dsimp only
    rw [h2, if_neg (lt_step h1 ht), r_5 M hi]
    simp only [Option.bind_some]
    rw [r_waitsOn M (by omega)]
    simp only [Option.bind_some]
    have es : cnt (aheadP M i) (t + 1) = cnt (aheadP M i) t + (if aheadP M i t = true then 1 else 0) := rfl
    rw [es]
    cases hp : waitP (vM M) (vM M i 5) t with
    | false =>
      have ea : aheadP M i t = false := by unfold aheadP; rw [hp]; rfl
      rw [ea, b2i_f rfl]
      simp [nI_1]
    | true =>
      rw [b2i_t rfl, r_11 M (by omega), r_11 M hi]
      simp only [Option.bind_some]
      by_cases g : tk M i ≤ tk M t
      · have ea : aheadP M i t = false := by
          unfold aheadP
          rw [hp, decide_eq_false (fun z => (i32_nle.mpr z) g)]
          rfl
        rw [ea, if_neg (by decide), if_pos g]
        simp [nI_1]
      · have ea : aheadP M i t = true := by
          unfold aheadP
          rw [hp, decide_eq_true (i32_nle.mp g)]
          rfl
        rw [ea, if_neg (by decide), if_neg g]
        simp [nI_1, Nat.add_assoc]
  · unfold fX12_positionOf_s
    dsimp only
    rw [h2, if_pos (nI_le (Nat.le_refl n) (by omega))]
