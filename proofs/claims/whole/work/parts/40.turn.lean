/-! ===== minutes until a turn ===== -/
theorem mul_step (m lim : Int32) (c : Nat) : m + nI c * lim + lim = m + nI (c + 1) * lim := by
  rw [nI_succ, Int32.add_mul, Int32.one_mul, Int32.add_assoc]
def left1 (x : Int32) : Int32 := if 1 ≤ x then x else 1
theorem left1_lt (x : Int32) : (if 1 < x then x else 1) = left1 x := by
  unfold left1
  by_cases h : 1 < x
  · rw [if_pos h, if_pos (by rw [Int32.lt_iff_toInt_lt] at h; rw [Int32.le_iff_toInt_le]; omega)]
  · rw [if_neg h]
    by_cases h2 : 1 ≤ x
    · rw [if_pos h2]
      rw [Int32.lt_iff_toInt_lt] at h
      rw [Int32.le_iff_toInt_le] at h2
      exact Int32.toInt_inj.mp (by omega)
    · rw [if_neg h2]
theorem c_computedMinutes {N : Mem} {L : Nat → Nat} {w n : Nat} (hv : NV N n) (h : LV N L w n) {j0 : Nat} (hj0 : j0 < w) {s : Nat} (hs : s < n) (hsp : fX6_speakerOn N (vN N (L j0) 5) = some (nI s)) : fX6_computedMinutes N (nI (L j0)) = some (left1 (N 0 6 - (N 0 5 - vN N s 7)) + nI (cnt (chP (vN N) L (vN N (L j0) 5)) j0) * N 0 6) := by
  have hn := hv.1
  obtain ⟨h1, h2, h3, h4⟩ := h
  have hL0 := h4.1 j0 hj0
  unfold fX6_computedMinutes
  have e0 : (nI (L j0)).toNatClampNeg = L j0 := nI_clamp (by omega)
  rw [gd_t (inb_nI (by omega) (by decide))]
  simp only [e0, Nat.one_mul]
  have hsp2 : fX6_speakerOn N (N (2 + L j0) 5) = some (nI s) := hsp
  rw [hsp2]
  simp only [Option.bind_some]
  rw [if_pos (nI_pos' (by omega)), gd_t (inb_nI (by omega) (by decide)), nI_clamp (by omega), left1_lt]
  have ez : left1 (N 0 6 - (N 0 5 - N (2 + s) 7)) = left1 (N 0 6 - (N 0 5 - N (2 + s) 7)) + nI 0 * N 0 6 := by
    rw [nI_0, Int32.zero_mul, Int32.add_zero]
  rw [ez]
  refine lp_up (fun t => (N (2 + L j0) 5, nI s, N 0 5 - N (2 + s) 7, left1 (N 0 6 - (N 0 5 - N (2 + s) 7)) + nI (cnt (chP (vN N) L (vN N (L j0) 5)) t) * N 0 6, nI t)) j0 (fun t ht => ?_) ?_
  · unfold fX6_computedMinutes_s
    have hc : (nI t).toNatClampNeg = t := nI_clamp (by omega)
    have hL := h4.1 t (by omega)
    have hd : (nI (L t)).toNatClampNeg = L t := nI_clamp (by omega)
    dsimp only
    rw [h2, if_neg (lt_step h1 (by omega)), gd_t (inb_nI (by omega) (by decide))]
    simp only [hc]
    rw [h3 t (by omega), if_neg (by
      rw [nI_eq (by omega) (by omega)]
      intro z
      have := h4.2 t j0 (by omega) hj0 z
      omega), gd_t (inb_nI (by omega) (by decide)), gd_t (inb_nI (by omega) (by decide))]
    simp only [hd, Nat.one_mul]
    have es : cnt (chP (vN N) L (vN N (L j0) 5)) (t + 1) = cnt (chP (vN N) L (vN N (L j0) 5)) t + (if chP (vN N) L (vN N (L j0) 5) t = true then 1 else 0) := rfl
    by_cases g : N (2 + L t) 5 = N (2 + L j0) 5
    · have gt : chP (vN N) L (vN N (L j0) 5) t = true := decide_eq_true g
      rw [if_pos gt] at es
      rw [if_pos g, mul_step, es, nI_1]
    · have gt : ¬ chP (vN N) L (vN N (L j0) 5) t = true := by
        unfold chP
        rw [show decide (vN N (L t) 5 = vN N (L j0) 5) = false from decide_eq_false g]
        decide
      rw [if_neg gt] at es
      rw [if_neg g, es, nI_1]
      rfl
  · unfold fX6_computedMinutes_s
    have hc : (nI j0).toNatClampNeg = j0 := nI_clamp (by omega)
    dsimp only
    rw [h2, if_neg (lt_step h1 hj0), gd_t (inb_nI (by omega) (by decide))]
    simp only [hc]
    rw [h3 j0 hj0, if_pos rfl]
    rfl
