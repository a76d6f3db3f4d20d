/-! ===== the reference's log: adding a row to a full one ===== -/
def shiftR (M : Mem) (t : Nat) : Mem := fun b i => if b = 1 ∧ 108 ≤ i ∧ i < 108 + t then M b (i + 3) else M b i
theorem shiftR_at (M : Mem) (t b : Nat) {i : Nat} (h : i < 108 ∨ 108 + t ≤ i) : shiftR M t b i = M b i := by
  unfold shiftR
  rw [if_neg (by omega)]
theorem shiftR_0 (M : Mem) : shiftR M 0 = M := by
  funext b i
  exact shiftR_at M 0 b (by omega)
theorem shiftR_step (M : Mem) (t : Nat) : up2 (shiftR M t) 1 (108 + t) (M 1 (108 + t + 3)) = shiftR M (t + 1) := by
  funext b i
  rw [up2_at]
  unfold shiftR
  by_cases c : b = 1 ∧ i = 108 + t
  · obtain ⟨c1, c2⟩ := c
    subst c1
    subst c2
    rw [if_pos ⟨rfl, rfl⟩, if_pos (by omega)]
  · rw [if_neg c]
    by_cases g : b = 1 ∧ 108 ≤ i ∧ i < 108 + t
    · rw [if_pos g, if_pos (by omega)]
    · rw [if_neg g, if_neg (by omega)]
theorem r_logs_full {M : Mem} (hM : M 1 4 = nI 16) {i : Nat} (hi : i < 8) : fX12_logs M (nI i) = some (putR (shiftR (up2 M 1 4 (nI 15)) 45) 15 (nI i) (M 1 (8 + 12 * i + 7)) (M 1 (8 + 12 * i + 8))) := by
  have h7 : ∀ K : Mem, fX12_t K (nI i) 7 = some (K 1 (8 + 12 * i + 7)) := fun K => r_t K hi (o := 7) (by decide)
  have h8 : ∀ K : Mem, fX12_t K (nI i) 8 = some (K 1 (8 + 12 * i + 8)) := fun K => r_t K hi (o := 8) (by decide)
  have e15 : nI 16 - 1 = nI 15 := by decide
  have hL : ∀ t, shiftR (up2 M 1 4 (nI 15)) t 1 4 = nI 15 := fun t => by rw [shiftR_at _ t 1 (by omega), up2_at, if_pos ⟨rfl, rfl⟩]
  have h153 : (108 : Int32) + 3 * nI 15 = nI 153 := by decide
  unfold fX12_logs
  rw [hM, if_pos (by decide), e15]
  have e0 : ((108 : Int32), up2 M 1 4 (nI 15)) = (fun t => (nI (108 + t), shiftR (up2 M 1 4 (nI 15)) t)) 0 := by
    show _ = (nI 108, shiftR _ 0)
    rw [shiftR_0]
    rfl
  rw [e0]
  refine lp_up (fun t => (nI (108 + t), shiftR (up2 M 1 4 (nI 15)) t)) 45 (fun t ht => ?_) ?_
  · have c1 : (nI (108 + t)).toNatClampNeg = 108 + t := nI_clamp (by omega)
    have c2 : (nI (108 + t + 3)).toNatClampNeg = 108 + t + 3 := nI_clamp (by omega)
    have e3 : nI (108 + t) + 3 = nI (108 + t + 3) := nI_add _ 3
    unfold fX12_logs_s
    dsimp only
    rw [if_neg (show ¬ (108 : Int32) + 3 * shiftR (up2 M 1 4 (nI 15)) t 1 4 ≤ nI (108 + t) by rw [hL, h153]; exact nI_ge (by omega) (by omega)), e3, gd_t (inb_nI (by omega) (by decide)), gd_t (inb_nI (by omega) (by decide)), c1, c2, shiftR_at _ t 1 (i := 108 + t + 3) (by omega), shiftR_step, nI_1]
    rfl
  · have f4 : ∀ (K : Mem) (o : Nat) (v : Int32), 108 ≤ o → up2 K 1 o v 1 4 = K 1 4 := fun K o v ho => by rw [up2_at, if_neg (by omega)]
    have f7 : ∀ (K : Mem) (o : Nat) (v : Int32), 108 ≤ o → up2 K 1 o v 1 (8 + 12 * i + 7) = K 1 (8 + 12 * i + 7) := fun K o v ho => by rw [up2_at, if_neg (by omega)]
    have f8 : ∀ (K : Mem) (o : Nat) (v : Int32), 108 ≤ o → up2 K 1 o v 1 (8 + 12 * i + 8) = K 1 (8 + 12 * i + 8) := fun K o v ho => by rw [up2_at, if_neg (by omega)]
    have g7 : shiftR (up2 M 1 4 (nI 15)) 45 1 (8 + 12 * i + 7) = M 1 (8 + 12 * i + 7) := by rw [shiftR_at _ 45 1 (by omega), up2_at, if_neg (by omega)]
    have g8 : shiftR (up2 M 1 4 (nI 15)) 45 1 (8 + 12 * i + 8) = M 1 (8 + 12 * i + 8) := by rw [shiftR_at _ 45 1 (by omega), up2_at, if_neg (by omega)]
    have k1 : nI 153 + 1 = nI 154 := by decide
    have k2 : nI 153 + 2 = nI 155 := by decide
    have c0 : (nI 153).toNatClampNeg = 153 := nI_clamp (by decide)
    have c1 : (nI 154).toNatClampNeg = 154 := nI_clamp (by decide)
    have c2 : (nI 155).toNatClampNeg = 155 := nI_clamp (by decide)
    have i0 : inb (nI 153) 160 = true := inb_nI (by decide) (by decide)
    have i1 : inb (nI 154) 160 = true := inb_nI (by decide) (by decide)
    have i2 : inb (nI 155) 160 = true := inb_nI (by decide) (by decide)
    have kn : nI 15 + 1 = nI 16 := by decide
    unfold fX12_logs_s putR
    dsimp only
    rw [if_pos (show (108 : Int32) + 3 * shiftR (up2 M 1 4 (nI 15)) 45 1 4 ≤ nI (108 + 45) by rw [hL, h153]; decide)]
    simp only [k1, k2, c0, c1, c2, gd_t i0, gd_t i1, gd_t i2, h7, h8, Option.bind_some, f7 _ 153 _ (by decide), f8 _ 153 _ (by decide), f8 _ 154 _ (by decide), f4 _ 153 _ (by decide), f4 _ 154 _ (by decide), f4 _ 155 _ (by decide), hL, g7, g8, kn, h153]
