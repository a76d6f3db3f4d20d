/-! ===== the class's log: adding a row ===== -/
theorem u12 (K : Mem) (i : Nat) (v : Int32) : up2 K 12 i v 11 3 = K 11 3 := by rw [up2_at, if_neg (by omega)]
theorem u13 (K : Mem) (i : Nat) (v : Int32) : up2 K 13 i v 11 3 = K 11 3 := by rw [up2_at, if_neg (by omega)]
theorem u14 (K : Mem) (i : Nat) (v : Int32) : up2 K 14 i v 11 3 = K 11 3 := by rw [up2_at, if_neg (by omega)]
theorem u11 (K : Mem) (v : Int32) : up2 K 11 3 v 11 3 = v := by rw [up2_at, if_pos ⟨rfl, rfl⟩]
/-- row c of the log set, the length c + 1 -/
def putL (N : Mem) (c : Nat) (a b d : Int32) : Mem := up2 (up2 (up2 (up2 N 12 c a) 13 c b) 14 c d) 11 3 (nI (c + 1))
theorem c_add_few {N : Mem} {c : Nat} (hN : N 11 3 = nI c) (hc : c < 16) (a b d : Int32) : fX10_add N a b d = some (putL N c a b d) := by
  have e : (nI c).toNatClampNeg = c := nI_clamp (by omega)
  have hi : inb (nI c) 16 = true := inb_nI hc (by decide)
  unfold fX10_add putL
  have hl : nI c < (16 : Int32) := by
    rw [Int32.lt_iff_toInt_lt, nI_toInt (by omega), show (16 : Int32).toInt = 16 by decide]
    omega
  simp only [u12, u13, u14, hN, e, gd_t hi, nI_1]
  rw [if_pos hl]
/-- the rows below t moved one down -/
def shiftL (N : Mem) (t : Nat) : Mem := fun b i => if (b = 12 ∨ b = 13 ∨ b = 14) ∧ i < t then N b (i + 1) else N b i
theorem shiftL_step (N : Mem) (t : Nat) : up2 (up2 (up2 (shiftL N t) 12 t (N 12 (t + 1))) 13 t (N 13 (t + 1))) 14 t (N 14 (t + 1)) = shiftL N (t + 1) := by
  funext b i
  rw [up2_at, up2_at, up2_at]
  unfold shiftL
  by_cases hb : b = 12 ∨ b = 13 ∨ b = 14
  · by_cases hi : i = t
    · subst hi
      rw [if_pos (show (b = 12 ∨ b = 13 ∨ b = 14) ∧ i < i + 1 from ⟨hb, by omega⟩)]
      rcases hb with z | z | z <;> subst z <;> simp
    · rw [if_neg (by omega), if_neg (by omega), if_neg (by omega)]
      by_cases g : i < t
      · rw [if_pos ⟨hb, g⟩, if_pos ⟨hb, by omega⟩]
      · rw [if_neg (fun z => g z.2), if_neg (fun z => by have := z.2; omega)]
  · rw [if_neg (by omega), if_neg (by omega), if_neg (by omega), if_neg (fun z => hb z.1), if_neg (fun z => hb z.1)]
theorem shiftL_at (N : Mem) (t b : Nat) {i : Nat} (h : t ≤ i) : shiftL N t b i = N b i := by
  unfold shiftL
  rw [if_neg (fun z => by have := z.2; omega)]
theorem shiftL_0 (N : Mem) : shiftL N 0 = N := by
  funext b i
  exact shiftL_at N 0 b (Nat.zero_le i)
theorem c_add_full {N : Mem} (hN : N 11 3 = nI 16) (a b d : Int32) : fX10_add N a b d = some (putL (up2 (shiftL N 15) 11 3 (nI 15)) 15 a b d) := by
  unfold fX10_add
  rw [hN, if_neg (by decide)]
  have e0 : ((1 : Int32), N) = (fun t => (nI (t + 1), shiftL N t)) 0 := by
    show _ = (nI 1, shiftL N 0)
    rw [shiftL_0]
    rfl
  rw [e0]
  refine lp_up (fun t => (nI (t + 1), shiftL N t)) 15 (fun t ht => ?_) ?_
  · have e1 : (nI (t + 1)).toNatClampNeg = t + 1 := nI_clamp (by omega)
    have e2 : (nI t).toNatClampNeg = t := nI_clamp (by omega)
    unfold fX10_add_s
    dsimp only
    rw [if_neg (show ¬ (16 : Int32) ≤ nI (t + 1) from nI_ge (b := 16) (by omega) (by omega)), nI_pred, gd_t (inb_nI (by omega) (by decide)), gd_t (inb_nI (by omega) (by decide)), gd_t (inb_nI (by omega) (by decide)), gd_t (inb_nI (by omega) (by decide)), gd_t (inb_nI (by omega) (by decide)), gd_t (inb_nI (by omega) (by decide)), e1, e2]
    have g1 : ∀ v, up2 (shiftL N t) 12 t v 13 (t + 1) = N 13 (t + 1) := fun v => by rw [up2_at, if_neg (by omega), shiftL_at N t 13 (by omega)]
    have g2 : ∀ v w, up2 (up2 (shiftL N t) 12 t v) 13 t w 14 (t + 1) = N 14 (t + 1) := fun v w => by rw [up2_at, if_neg (by omega), up2_at, if_neg (by omega), shiftL_at N t 14 (by omega)]
    rw [g1, g2, shiftL_at N t 12 (by omega), shiftL_step, nI_1]
  · have hi : inb (nI 15) 16 = true := inb_nI (by decide) (by decide)
    have e : (nI 15).toNatClampNeg = 15 := nI_clamp (by decide)
    have e15 : (15 : Int32) = nI 15 := rfl
    unfold fX10_add_s putL
    dsimp only
    rw [if_pos (by decide)]
    simp only [e15, u11, u12, u13, u14, e, gd_t hi, nI_1]
