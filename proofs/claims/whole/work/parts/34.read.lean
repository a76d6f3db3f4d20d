/-! ===== what both sides read of the stations: by one view, field by field ===== -/
/-- station i, field f of the net of the one side: 0 letter, 1 digit, 2 x, 3 y, 4 power, 5 channel, 6 mode, 7 begin, 8 spoken, 9 received -/
def vN (N : Mem) (i f : Nat) : Int32 := N (2 + i) f
/-- .. of the other side's row -/
def vM (M : Mem) (i f : Nat) : Int32 := M 1 (8 + 12 * i + (if f ≤ 7 then f else f + 1))
def b2i (b : Bool) : Int32 := if b = true then 1 else 0
def sqr (v : Nat → Nat → Int32) (i j : Nat) : Int32 := (v i 2 - v j 2) * (v i 2 - v j 2) + (v i 3 - v j 3) * (v i 3 - v j 3)
def hearP (v : Nat → Nat → Int32) (i j : Nat) : Bool := decide (i ≠ j ∧ v i 5 = v j 5 ∧ sqr v i j ≤ v j 4 * v j 4)
def distP (v : Nat → Nat → Int32) (i j : Nat) : Bool := decide (v i 6 = 1 ∧ (v i 5 - v j 5 = 1 ∨ v i 5 - v j 5 = -1) ∧ 4 * sqr v i j ≤ v i 4 * v i 4)
def spkP (v : Nat → Nat → Int32) (c : Int32) (i : Nat) : Bool := decide (v i 5 = c ∧ v i 6 = 1)
theorem b2i_t {b : Bool} (h : b = true) : b2i b = 1 := if_pos h
theorem b2i_f {b : Bool} (h : b = false) : b2i b = 0 := by subst h; rfl
theorem b2i_z (b : Bool) : isZ (b2i b) = true := by cases b <;> decide
theorem b2i_0 (b : Bool) : b2i b = 0 ↔ b = false := by cases b <;> decide
theorem i32_nlt {a b : Int32} : ¬ a < b ↔ b ≤ a := by
  rw [Int32.lt_iff_toInt_lt, Int32.le_iff_toInt_le]
  omega
theorem c_sqr (N : Mem) {i j : Nat} (hi : i < 8) (hj : j < 8) : fX9_squaredDistance N (2 + i) (2 + j) = some (sqr (vN N) i j) := by
  unfold fX9_squaredDistance
  rw [gd_t (stn_2 hi), gd_t (stn_2 hj)]
  rfl
theorem c_hears (N : Mem) {i j : Nat} (hi : i < 8) (hj : j < 8) : fX9_hears N (2 + i) (2 + j) = some (b2i (hearP (vN N) i j)) := by
  unfold fX9_hears hearP
  rw [gd_t (stn_2 hi), gd_t (stn_2 hj)]
  by_cases h1 : i = j
  · rw [if_pos (by omega), b2i_f (decide_eq_false (fun z => z.1 h1))]
  · rw [if_neg (by omega)]
    by_cases h2 : N (2 + i) 5 = N (2 + j) 5
    · rw [if_pos h2, c_sqr N hi hj]
      simp only [Option.bind_some]
      by_cases h3 : N (2 + j) 4 * N (2 + j) 4 < sqr (vN N) i j
      · rw [if_pos h3, b2i_f (decide_eq_false (fun z => (i32_nlt.mpr z.2.2) h3))]
      · rw [if_neg h3, b2i_t (decide_eq_true ⟨h1, h2, i32_nlt.mp h3⟩)]
    · rw [if_neg h2, b2i_f (decide_eq_false (fun z => h2 z.2.1))]
theorem abs_one (d : Int32) : (if 0 ≤ d then d else 0 - d) = 1 ↔ (d = 1 ∨ d = -1) := by
  by_cases h : 0 ≤ d
  · rw [if_pos h]
    constructor
    · exact Or.inl
    · rintro (e | e)
      · exact e
      · subst e
        exact absurd h (by decide)
  · rw [if_neg h]
    constructor
    · intro e
      right
      have e2 : d = 0 - (0 - d) := by
        apply Int32.toBitVec_inj.mp
        simp
      rw [e2, e]
      decide
    · rintro (e | e)
      · subst e
        exact absurd (by decide) h
      · subst e
        decide
theorem c_disturbs (N : Mem) {i j : Nat} (hi : i < 8) (hj : j < 8) (hm : inb (N (2 + i) 6) 3 = true) : fX9_disturbs N (2 + i) (2 + j) = some (b2i (distP (vN N) i j)) := by
  unfold fX9_disturbs distP
  rw [gd_t (stn_2 hi), gd_t (stn_2 hj), gd_t hm]
  by_cases h1 : N (2 + i) 6 = 1
  · rw [if_pos h1]
    by_cases h2 : (if 0 ≤ N (2 + i) 5 - N (2 + j) 5 then N (2 + i) 5 - N (2 + j) 5 else 0 - (N (2 + i) 5 - N (2 + j) 5)) = 1
    · rw [if_pos h2, c_sqr N hi hj]
      simp only [Option.bind_some]
      by_cases h3 : N (2 + i) 4 * N (2 + i) 4 < 4 * sqr (vN N) i j
      · rw [if_pos h3, b2i_f (decide_eq_false (fun z => (i32_nlt.mpr z.2.2) h3))]
      · rw [if_neg h3, b2i_t (decide_eq_true ⟨h1, (abs_one _).mp h2, i32_nlt.mp h3⟩)]
    · rw [if_neg h2, b2i_f (decide_eq_false (fun z => h2 ((abs_one _).mpr z.2.1)))]
  · rw [if_neg h1, b2i_f (decide_eq_false (fun z => h1 z.1))]
/-- a net of n stations whose modes are modes -/
def NV (N : Mem) (n : Nat) : Prop := n ≤ 8 ∧ N 0 1 = nI n ∧ ∀ i, i < n → inb (N (2 + i) 6) 3 = true
theorem lt_step {n i : Nat} (hn : n ≤ 8) (hi : i < n) : ¬ nI n ≤ nI i := nI_ge hi (by omega)
theorem c_speakerOn {N : Mem} {n : Nat} (h : NV N n) (c : Int32) : fX6_speakerOn N c = some (first (spkP (vN N) c) n) := by
  obtain ⟨h1, h2, h3⟩ := h
  unfold fX6_speakerOn
  refine lp_first (fun i hi => ?_) ?_
  · unfold fX6_speakerOn_s
    have hc : (nI i).toNatClampNeg = i := nI_clamp (by omega)
    rw [h2, if_neg (lt_step h1 hi), gd_t (inb_nI (by omega) (by decide))]
    simp only [hc, Nat.one_mul]
    by_cases g1 : N (2 + i) 5 = c
    · rw [if_pos g1, gd_t (inb_nI (by omega) (by decide)), gd_t (h3 i hi)]
      by_cases g2 : N (2 + i) 6 = 1
      · rw [if_pos g2, if_pos (show spkP (vN N) c i = true from decide_eq_true ⟨g1, g2⟩)]
      · rw [if_neg g2, if_neg (by rw [show spkP (vN N) c i = false from decide_eq_false (fun z => g2 z.2)]; decide), nI_1]
    · rw [if_neg g1, if_neg (by rw [show spkP (vN N) c i = false from decide_eq_false (fun z => g1 z.1)]; decide), nI_1]
  · unfold fX6_speakerOn_s
    rw [h2, if_pos (nI_le (Nat.le_refl n) (by omega))]
