/-! ===== who stands where in the line ===== -/
theorem lp_sel {S R : Type} {f : S → Option (S ⊕ R)} (st : Nat → S) (P : Nat → Bool) (out : Nat → R) (no : R) (n : Nat) (h : ∀ j, j < n → f (st j) = some (if P j = true then .inr (out j) else .inl (st (j + 1)))) (he : f (st n) = some (.inr no)) : lp f (st 0) = some (sel P out no n) := by
  have key : ∀ d j, j + d = n → lp f (st j) = some (selF P out no d j) := by
    intro d
    induction d with
    | zero => intro j hj; have e : j = n := by omega
              subst e; exact lp_inr he
    | succ d ih =>
      intro j hj
      have g := h j (by omega)
      unfold selF
      by_cases c : P j = true
      · rw [if_pos c] at g ⊢
        exact lp_inr g
      · rw [if_neg c] at g ⊢
        rw [lp_inl g]
        exact ih (j + 1) (by omega)
  exact key n 0 (by omega)
def chP (v : Nat → Nat → Int32) (L : Nat → Nat) (c : Int32) (j : Nat) : Bool := decide (v (L j) 5 = c)
def posP (v : Nat → Nat → Int32) (L : Nat → Nat) (c pos : Int32) (j : Nat) : Bool := chP v L c j && decide (nI (cnt (chP v L c) (j + 1)) = pos)
theorem c_stationInLine {N : Mem} {L : Nat → Nat} {w n : Nat} (hn : n ≤ 8) (h : LV N L w n) (c pos : Int32) : fX6_stationInLine N c pos = some (sel (posP (vN N) L c pos) (fun j => nI (L j)) (-1) w) := by
  obtain ⟨h1, h2, h3, h4⟩ := h
  unfold fX6_stationInLine
  refine lp_sel (fun j => (nI (cnt (chP (vN N) L c) j), nI j)) (posP (vN N) L c pos) (fun j => nI (L j)) (-1) w (fun j hj => ?_) ?_
  · unfold fX6_stationInLine_s
    have hc : (nI j).toNatClampNeg = j := nI_clamp (by omega)
    have hL := h4.1 j hj
    have hd : (nI (L j)).toNatClampNeg = L j := nI_clamp (by omega)
    have es : cnt (chP (vN N) L c) (j + 1) = cnt (chP (vN N) L c) j + (if chP (vN N) L c j = true then 1 else 0) := rfl
    dsimp only
    rw [h2, if_neg (lt_step h1 hj), gd_t (inb_nI (by omega) (by decide))]
    simp only [hc]
    rw [h3 j hj, gd_t (inb_nI (by omega) (by decide))]
    simp only [hd, Nat.one_mul]
    by_cases g : N (2 + L j) 5 = c
    · have gt : chP (vN N) L c j = true := decide_eq_true g
      rw [gt, if_pos rfl] at es
      rw [if_pos g, nI_1, nI_1, ← es]
      by_cases g2 : nI (cnt (chP (vN N) L c) (j + 1)) = pos
      · have gp : posP (vN N) L c pos j = true := by unfold posP; rw [gt, decide_eq_true g2]; rfl
        rw [if_pos g2, gd_t (inb_nI (by omega) (by decide)), if_pos gp]
      · have gp : ¬ posP (vN N) L c pos j = true := by unfold posP; rw [gt, decide_eq_false g2]; decide
        rw [if_neg g2, if_neg gp]
    · have gt : chP (vN N) L c j = false := decide_eq_false g
      have gp : ¬ posP (vN N) L c pos j = true := by unfold posP; rw [gt]; simp
      rw [gt] at es
      rw [if_neg g, if_neg gp, es, nI_1]
      rfl
  · unfold fX6_stationInLine_s
    dsimp only
    rw [h2, if_pos (nI_le (Nat.le_refl w) (by omega))]
def rposP (M : Mem) (n : Nat) (c pos : Int32) (k : Nat) : Bool := waitP (vM M) c k && decide (nI (1 + cnt (aheadP M k) n) = pos)
theorem r_inLine {M : Mem} {n : Nat} (h : MV M n) (c pos : Int32) : fX12_inLine M c pos = some (first (rposP M n c pos) n) := by
  have hm := h
  obtain ⟨h1, h2⟩ := h
  unfold fX12_inLine
  refine lp_first (fun k hk => ?_) ?_
  · unfold fX12_inLine_s
    rw [h2, if_neg (lt_step h1 hk), r_waitsOn M (by omega)]
    simp only [Option.bind_some]
    cases hp : waitP (vM M) c k with
    | false =>
      have e : ¬ rposP M n c pos k = true := by unfold rposP; rw [hp]; simp
      rw [b2i_f rfl, if_neg e]
      simp [nI_1]
    | true =>
      rw [b2i_t rfl, if_neg (by decide), r_positionOf hm (by omega)]
      simp only [Option.bind_some]
      by_cases g : nI (1 + cnt (aheadP M k) n) = pos
      · have e : rposP M n c pos k = true := by unfold rposP; rw [hp, decide_eq_true g]; rfl
        rw [if_pos g, if_pos e]
      · have e : ¬ rposP M n c pos k = true := by unfold rposP; rw [hp, decide_eq_false g]; decide
        rw [if_neg g, if_neg e, nI_1]
  · unfold fX12_inLine_s
    rw [h2, if_pos (nI_le (Nat.le_refl n) (by omega))]
/-- the line tells who waits, in the order of the tickets -/
def LT (M : Mem) (L : Nat → Nat) (w n : Nat) : Prop := LI L w n ∧ (∀ i, i < n → (inL L w i = true ↔ vM M i 6 = 2)) ∧ ∀ i j, i < j → j < w → tk M (L i) < tk M (L j)
theorem cnt_mono (p : Nat → Bool) {a b : Nat} (h : a ≤ b) : cnt p a ≤ cnt p b := by
  induction b with
  | zero => have e : a = 0 := by omega
            subst e; exact Nat.le_refl _
  | succ b ih =>
    by_cases e : a = b + 1
    · subst e; exact Nat.le_refl _
    · have h1 := ih (by omega)
      have h2 : cnt p (b + 1) = cnt p b + (if p b = true then 1 else 0) := rfl
      rw [h2]
      omega
theorem i32_lt_irrefl (a : Int32) : ¬ a < a := by
  rw [Int32.lt_iff_toInt_lt]
  omega
theorem i32_lt_asymm {a b : Int32} (h : a < b) : ¬ b < a := by
  rw [Int32.lt_iff_toInt_lt] at h ⊢
  omega
/-- a waiting station's place among those of its channel -/
theorem place_eq {M : Mem} {L : Nat → Nat} {w n : Nat} (h : LT M L w n) {j : Nat} (hj : j < w) : cnt (aheadP M (L j)) n = cnt (chP (vM M) L (vM M (L j) 5)) j := by
  obtain ⟨h1, h2, h3⟩ := h
  have e1 : cnt (aheadP M (L j)) n = cnt (fun i => inL L w i && (decide (vM M i 5 = vM M (L j) 5) && decide (tk M i < tk M (L j)))) n := by
    refine cnt_congr (fun i hi => ?_)
    have hw := h2 i hi
    unfold aheadP waitP
    cases hb : inL L w i with
    | true =>
      have g := hw.mp hb
      have : decide (vM M i 6 = 2 ∧ vM M i 5 = vM M (L j) 5) = decide (vM M i 5 = vM M (L j) 5) := by
        rw [Bool.eq_iff_iff, decide_eq_true_iff, decide_eq_true_iff]
        exact ⟨fun z => z.2, fun z => ⟨g, z⟩⟩
      rw [this]
      rfl
    | false =>
      have g : ¬ vM M i 6 = 2 := fun z => by rw [hw.mpr z] at hb; cases hb
      rw [decide_eq_false (fun z => g z.1)]
      rfl
  rw [e1, ← cnt_line (fun i => decide (vM M i 5 = vM M (L j) 5) && decide (tk M i < tk M (L j))) w h1, ← cnt_below (chP (vM M) L (vM M (L j) 5)) w (Nat.le_of_lt hj)]
  refine cnt_congr (fun i hi => ?_)
  unfold chP
  have e : decide (tk M (L i) < tk M (L j)) = decide (i < j) := by
    rw [Bool.eq_iff_iff, decide_eq_true_iff, decide_eq_true_iff]
    constructor
    · intro z
      rcases Nat.lt_trichotomy i j with a | a | a
      · exact a
      · subst a; exact absurd z (i32_lt_irrefl _)
      · exact absurd z (i32_lt_asymm (h3 j i a hi))
    · intro z; exact h3 i j z hj
  rw [e, Bool.and_comm]
theorem inLine_eq {M : Mem} {L : Nat → Nat} {w n : Nat} (hn : n ≤ 8) (hw : w ≤ 8) (h : LT M L w n) (c pos : Int32) : sel (posP (vM M) L c pos) (fun j => nI (L j)) (-1) w = first (rposP M n c pos) n := by
  have hh := h
  obtain ⟨h1, h2, h3⟩ := h
  have eqv : ∀ j, j < w → (posP (vM M) L c pos j = true ↔ rposP M n c pos (L j) = true) := by
    intro j hj
    have hL := h1.1 j hj
    have hm : vM M (L j) 6 = 2 := (h2 (L j) hL).mp (decide_eq_true ⟨j, hj, rfl⟩)
    unfold posP rposP
    rw [Bool.and_eq_true, Bool.and_eq_true, decide_eq_true_iff, decide_eq_true_iff]
    have es : cnt (chP (vM M) L c) (j + 1) = cnt (chP (vM M) L c) j + (if chP (vM M) L c j = true then 1 else 0) := rfl
    constructor
    · rintro ⟨a, b⟩
      have a2 : vM M (L j) 5 = c := of_decide_eq_true a
      refine ⟨decide_eq_true ⟨hm, a2⟩, ?_⟩
      rw [place_eq hh hj, a2, ← b, es, if_pos a, Nat.add_comm]
    · rintro ⟨a, b⟩
      have a2 := of_decide_eq_true a
      have a3 : chP (vM M) L c j = true := decide_eq_true a2.2
      refine ⟨a3, ?_⟩
      rw [place_eq hh hj, a2.2] at b
      rw [es, if_pos a3, Nat.add_comm]
      exact b
  have uniq : ∀ i j, i < j → j < w → posP (vM M) L c pos i = true → posP (vM M) L c pos j = true → False := by
    intro i j hij hj a b
    unfold posP at a b
    rw [Bool.and_eq_true, decide_eq_true_iff] at a b
    have b1 := cnt_le (chP (vM M) L c) (i + 1)
    have b2 := cnt_le (chP (vM M) L c) (j + 1)
    have e := a.2.trans b.2.symm
    rw [nI_eq (by omega) (by omega)] at e
    have es : cnt (chP (vM M) L c) (j + 1) = cnt (chP (vM M) L c) j + (if chP (vM M) L c j = true then 1 else 0) := rfl
    rw [if_pos b.1] at es
    have m := cnt_mono (chP (vM M) L c) (a := i + 1) (b := j) (by omega)
    omega
  rcases sel_spec (posP (vM M) L c pos) (fun j => nI (L j)) (-1 : Int32) w with ⟨e1, e2⟩ | ⟨j, hj, e1, e2⟩
  · rw [e1]
    rcases first_spec (rposP M n c pos) n with ⟨f1, f2⟩ | ⟨k, hk, f1, f2, f3⟩
    · exact f1.symm
    · exfalso
      have g := f1
      unfold rposP at g
      rw [Bool.and_eq_true] at g
      have g2 := of_decide_eq_true g.1
      obtain ⟨j, hj, ej⟩ := of_decide_eq_true ((h2 k hk).mpr g2.1)
      have := e2 j hj
      rw [(eqv j hj).mpr (by rw [ej]; exact f1)] at this
      cases this
  · rw [e2]
    have r1 := (eqv j hj).mp e1
    rcases first_spec (rposP M n c pos) n with ⟨f1, f2⟩ | ⟨k, hk, f1, f2, f3⟩
    · have := f2 (L j) (h1.1 j hj)
      rw [r1] at this
      cases this
    · rw [f3]
      have g := f1
      unfold rposP at g
      rw [Bool.and_eq_true] at g
      have g2 := of_decide_eq_true g.1
      obtain ⟨i, hi, ei⟩ := of_decide_eq_true ((h2 k hk).mpr g2.1)
      have p1 := (eqv i hi).mpr (by rw [ei]; exact f1)
      rcases Nat.lt_trichotomy i j with a | a | a
      · exact (uniq i j a hj p1 e1).elim
      · subst a; show nI (L i) = nI k; rw [ei]
      · exact (uniq j i a hi e1 p1).elim
