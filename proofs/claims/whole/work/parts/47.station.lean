/-! ===== the class: who is a station; one field of a station, the reference ===== -/
theorem c_has_yes {N : Mem} {n : Nat} (h : NV N n) {i : Nat} (hi : i < n) : fX6_has N (nI i) = some 1 := by
  obtain ⟨h1, h2, h3⟩ := h
  unfold fX6_has
  rw [if_neg (nI_pos (by omega)), h2, if_neg (lt_step h1 hi)]
theorem c_has_no {N : Mem} {n : Nat} (h : NV N n) {a : Int32} (ha : ∀ i, i < n → a ≠ nI i) : fX6_has N a = some 0 := by
  obtain ⟨h1, h2, h3⟩ := h
  unfold fX6_has
  rw [h2]
  by_cases c : a < 0
  · rw [if_pos c]
  · rw [if_neg c, if_pos ((st_no h1 ha).resolve_left c)]
theorem c_require_yes {N : Mem} {n : Nat} (h : NV N n) (G : Mem) {i : Nat} (hi : i < n) : fX11_requireStation G N (nI i) = some (.inr ()) := by
  unfold fX11_requireStation
  rw [c_has_yes h hi]
  simp only [Option.bind_some]
  rw [if_neg (by decide)]
theorem c_require_no {N : Mem} {n : Nat} (h : NV N n) (G : Mem) {a : Int32} (ha : ∀ i, i < n → a ≠ nI i) : fX11_requireStation G N a = some (.inl 0) := by
  unfold fX11_requireStation
  rw [c_has_no h ha]
  rfl
theorem c_known_yes {N : Mem} {n : Nat} (h : NV N n) (G : Mem) {i : Nat} (hi : i < n) : fX11_known G N (nI i) = some (.inr (2 + i)) := by
  have h8 := h.1
  have e : (nI i).toNatClampNeg = i := nI_clamp (by omega)
  unfold fX11_known
  rw [c_require_yes h G hi]
  simp only [Option.bind_some, sx]
  rw [gd_t (inb_nI (by omega) (by decide)), e, Nat.one_mul]
theorem c_known_no {N : Mem} {n : Nat} (h : NV N n) (G : Mem) {a : Int32} (ha : ∀ i, i < n → a ≠ nI i) : fX11_known G N a = some (.inl 0) := by
  unfold fX11_known
  rw [c_require_no h G ha]
  rfl
theorem c_faultOfMode_yes {N : Mem} {n : Nat} (h : NV N n) {i : Nat} (hi : i < n) {m : Int32} (hm : inb m 3 = true) : fX6_faultOfMode N (nI i) m = some (if vN N i 6 = m then 0 else 4) := by
  have h8 := h.1
  have e : (nI i).toNatClampNeg = i := nI_clamp (by omega)
  unfold fX6_faultOfMode
  rw [c_has_yes h hi]
  simp only [Option.bind_some]
  rw [if_neg (by decide), gd_t (inb_nI (by omega) (by decide))]
  simp only [e, Nat.one_mul]
  rw [gd_t (h.2.2 i hi), gd_t hm]
  by_cases c : N (2 + i) 6 = m
  · rw [if_pos c, if_pos (show vN N i 6 = m from c)]
  · rw [if_neg c, if_neg (show ¬ vN N i 6 = m from c)]
theorem c_faultOfMode_no {N : Mem} {n : Nat} (h : NV N n) {a : Int32} (ha : ∀ i, i < n → a ≠ nI i) (m : Int32) : fX6_faultOfMode N a m = some 1 := by
  unfold fX6_faultOfMode
  rw [c_has_no h ha]
  rfl
theorem r_ofStation_yes {M : Mem} {n : Nat} (h : MV M n) {i o : Nat} (hi : i < n) (ho : o < 12) : fX12_ofStation M (nI i) (nI o) = some (M 1 (8 + 12 * i + o), up2 M 0 4 0) := by
  have h8 := h.1
  unfold fX12_ofStation
  rw [r_st_yes h hi]
  simp only [Option.bind_some]
  rw [if_neg (by decide), if_pos (by rw [e_04]; decide), r_t _ (by omega) ho, up2_at, if_neg (by omega)]
  rfl
theorem r_ofStation_no {M : Mem} {n : Nat} (h : MV M n) {a : Int32} (ha : ∀ i, i < n → a ≠ nI i) (o : Int32) : fX12_ofStation M a o = some (0, up2 M 0 4 1) := by
  unfold fX12_ofStation
  rw [r_st_no h ha]
  simp only [Option.bind_some]
  rw [if_pos trivial, if_neg (by rw [e_04]; decide)]
