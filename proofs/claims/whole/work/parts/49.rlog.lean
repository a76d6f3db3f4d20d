/-! ===== the reference's log: adding a row, not full ===== -/
def putR (M : Mem) (c : Nat) (a b d : Int32) : Mem := up2 (up2 (up2 (up2 M 1 (108 + 3 * c) a) 1 (108 + 3 * c + 1) b) 1 (108 + 3 * c + 2) d) 1 4 (nI (c + 1))
theorem row_at {c : Nat} (hc : c < 16) : (108 : Int32) + 3 * nI c = nI (108 + 3 * c) ∧ nI (108 + 3 * c) + 1 = nI (108 + 3 * c + 1) ∧ nI (108 + 3 * c) + 2 = nI (108 + 3 * c + 2) := by
  refine ⟨?_, nI_1 _, nI_add _ 2⟩
  have e : (3 : Int32) * nI c = nI (3 * c) := (Int32.ofNat_mul 3 c).symm
  rw [e]
  exact nI_add 108 (3 * c)
theorem r_logs_few {M : Mem} {c : Nat} (hM : M 1 4 = nI c) (hc : c < 16) {i : Nat} (hi : i < 8) : fX12_logs M (nI i) = some (putR M c (nI i) (M 1 (8 + 12 * i + 7)) (M 1 (8 + 12 * i + 8))) := by
  obtain ⟨k1, k2, k3⟩ := row_at hc
  have h7 : ∀ K : Mem, fX12_t K (nI i) 7 = some (K 1 (8 + 12 * i + 7)) := fun K => r_t K hi (o := 7) (by decide)
  have h8 : ∀ K : Mem, fX12_t K (nI i) 8 = some (K 1 (8 + 12 * i + 8)) := fun K => r_t K hi (o := 8) (by decide)
  have c0 : (nI (108 + 3 * c)).toNatClampNeg = 108 + 3 * c := nI_clamp (by omega)
  have c1 : (nI (108 + 3 * c + 1)).toNatClampNeg = 108 + 3 * c + 1 := nI_clamp (by omega)
  have c2 : (nI (108 + 3 * c + 2)).toNatClampNeg = 108 + 3 * c + 2 := nI_clamp (by omega)
  have i0 : inb (nI (108 + 3 * c)) 160 = true := inb_nI (by omega) (by decide)
  have i1 : inb (nI (108 + 3 * c + 1)) 160 = true := inb_nI (by omega) (by decide)
  have i2 : inb (nI (108 + 3 * c + 2)) 160 = true := inb_nI (by omega) (by decide)
  have f4 : ∀ (K : Mem) (o : Nat) (v : Int32), 108 ≤ o → up2 K 1 o v 1 4 = K 1 4 := fun K o v ho => by rw [up2_at, if_neg (by omega)]
  have f7 : ∀ (K : Mem) (o : Nat) (v : Int32), 108 ≤ o → up2 K 1 o v 1 (8 + 12 * i + 7) = K 1 (8 + 12 * i + 7) := fun K o v ho => by rw [up2_at, if_neg (by omega)]
  have f8 : ∀ (K : Mem) (o : Nat) (v : Int32), 108 ≤ o → up2 K 1 o v 1 (8 + 12 * i + 8) = K 1 (8 + 12 * i + 8) := fun K o v ho => by rw [up2_at, if_neg (by omega)]
  have hne : ¬ nI c = (16 : Int32) := fun z => by
    have := (nI_eq (a := c) (b := 16) (by omega) (by decide)).mp z
    omega
  unfold fX12_logs putR
  rw [hM, if_neg hne]
  simp only [k1, k2, k3, c0, c1, c2, gd_t i0, gd_t i1, gd_t i2, h7, h8, Option.bind_some, f7 _ (108 + 3 * c) _ (by omega), f8 _ (108 + 3 * c) _ (by omega), f8 _ (108 + 3 * c + 1) _ (by omega), f4 _ (108 + 3 * c) _ (by omega), f4 _ (108 + 3 * c + 1) _ (by omega), f4 _ (108 + 3 * c + 2) _ (by omega), hM, nI_1]
