/-! ===== hops by sets, stations reached ===== -/
/-- the stations reached from a within t hops -/
def setAt (v : Nat → Nat → Int32) (n a : Nat) : Nat → Nat
  | 0 => 2 ^ a
  | t + 1 => extF v n (setAt v n a t) n
theorem setAt_lt (v : Nat → Nat → Int32) {n a : Nat} (hn : n ≤ 8) (ha : a < 8) : ∀ t, setAt v n a t < 256 := by
  intro t
  induction t with
  | zero => exact (bit_one ⟨a, ha⟩).2
  | succ t ih => exact extF_lt v hn ih n
theorem c_hopsOfSets {N : Mem} {n : Nat} (h : NV N n) (R : Mem) {a b : Nat} (ha : a < 8) (hb : b < 8) : fX8_hopsOfSets R N (nI a) (nI b) = some (sel (fun t => (setAt (vN N) n a t).testBit b) nI (-1) 8) := by
  unfold fX8_hopsOfSets
  rw [(bit_one ⟨a, ha⟩).1]
  refine lp_sel (fun t => (nI (setAt (vN N) n a t), nI t)) _ nI (-1) 8 (fun t ht => ?_) ?_
  · have hS := setAt_lt (vN N) h.1 ha t
    unfold fX8_hopsOfSets_s
    dsimp only
    rw [if_neg (show ¬ (8 : Int32) ≤ nI t from nI_ge (b := 8) ht (by omega))]
    cases c : (setAt (vN N) n a t).testBit b with
    | true =>
      rw [if_pos rfl, if_neg (fun z => by
        have := (bit_and ⟨_, hS⟩ ⟨b, hb⟩).mp z
        rw [this] at c
        exact Bool.false_ne_true c)]
    | false =>
      rw [if_pos ((bit_and ⟨_, hS⟩ ⟨b, hb⟩).mpr c), if_neg (show ¬ false = true by decide), c_extended h R hS, nI_1]
      rfl
  · unfold fX8_hopsOfSets_s
    dsimp only
    rw [if_pos (by decide)]
theorem bits_of : ∀ x : Fin 256, fJ6_bitCount_0f7a4 (nI x.val) = some (nI (cnt (fun i => x.val.testBit i) 8)) := by decide +kernel
theorem c_countReached {N : Mem} {n : Nat} (h : NV N n) (R : Mem) {a : Nat} (ha : a < 8) : fX8_countReached R N (nI a) = some (nI (cnt (fun i => (setAt (vN N) n a 8).testBit i) 8)) := by
  unfold fX8_countReached
  rw [(bit_one ⟨a, ha⟩).1]
  refine lp_up (fun t => (nI (setAt (vN N) n a t), nI t)) 8 (fun t ht => ?_) ?_
  · unfold fX8_countReached_s
    dsimp only
    rw [if_neg (show ¬ (8 : Int32) ≤ nI t from nI_ge (b := 8) ht (by omega)), c_extended h R (setAt_lt (vN N) h.1 ha t), nI_1]
    rfl
  · unfold fX8_countReached_s
    dsimp only
    rw [if_pos (by decide), bits_of ⟨_, setAt_lt (vN N) h.1 ha 8⟩]
    rfl
theorem e_04 (M : Mem) (v : Int32) : up2 M 0 4 v 0 4 = v := by rw [up2_at, if_pos ⟨rfl, rfl⟩]
theorem r_areStations_yes {M : Mem} {n : Nat} (h : MV M n) {a b : Nat} (ha : a < n) (hb : b < n) : fX12_areStations M (nI a) (nI b) = some (1, up2 M 0 4 0) := by
  unfold fX12_areStations
  rw [r_st_yes h ha]
  simp only [Option.bind_some]
  rw [if_neg (by decide), r_st_yes h hb]
  simp only [Option.bind_some]
  rw [if_neg (by decide), if_pos (e_04 M 0)]
theorem r_areStations_no {M : Mem} {n : Nat} (h : MV M n) {a b : Int32} (hn : (∀ i, i < n → a ≠ nI i) ∨ ∀ i, i < n → b ≠ nI i) : fX12_areStations M a b = some (0, up2 M 0 4 1) := by
  unfold fX12_areStations
  by_cases ca : ∀ i, i < n → a ≠ nI i
  · rw [r_st_no h ca]
    simp only [Option.bind_some]
    rw [if_pos trivial, if_neg (by rw [e_04]; decide)]
  · have hb := hn.resolve_left ca
    have ⟨i, hi⟩ := Classical.not_forall.mp ca
    have ⟨h1, h2⟩ := Classical.not_imp.mp hi
    have e := Classical.not_not.mp h2
    rw [e, r_st_yes h h1]
    simp only [Option.bind_some]
    rw [if_neg (by decide), r_st_no h hb]
    simp only [Option.bind_some]
    rw [if_pos trivial, if_neg (by rw [e_04]; decide)]
theorem r_hopsOf {M : Mem} {n : Nat} (h : MV M n) {a b : Nat} (ha : a < n) (hb : b < n) : fX12_hopsOf M (nI a) (nI b) = some (sel (fun t => (setAt (vM M) n a t).testBit b) (fun t => (nI t, up2 M 0 4 0)) (0, up2 (up2 M 0 4 0) 0 4 2) 9) := by
  have h8 := h.1
  unfold fX12_hopsOf
  rw [r_areStations_yes h ha hb]
  simp only [Option.bind_some]
  rw [if_neg (by decide), (bit_one ⟨a, by omega⟩).1]
  refine lp_sel (fun t => (nI (setAt (vM M) n a t), nI t, up2 M 0 4 0)) _ _ _ 9 (fun t ht => ?_) ?_
  · have hS := setAt_lt (vM M) h8 (show a < 8 by omega) t
    unfold fX12_hopsOf_s
    dsimp only
    rw [if_neg (show ¬ (8 : Int32) < nI t from fun z => by
      rw [Int32.lt_iff_toInt_lt, nI_toInt (by omega), show (8 : Int32).toInt = 8 by decide] at z
      omega)]
    cases c : (setAt (vM M) n a t).testBit b with
    | true => rw [if_pos rfl, if_pos ((bit_shr ⟨_, hS⟩ ⟨b, by omega⟩).mpr c)]
    | false =>
      rw [if_neg (show ¬ false = true by decide), if_neg (fun z => by
        have := (bit_shr ⟨_, hS⟩ ⟨b, by omega⟩).mp z
        rw [this] at c
        exact absurd c (by decide)), r_relayed (MV_04 h 0) hS, vM_04, nI_1]
      rfl
  · unfold fX12_hopsOf_s
    dsimp only
    rw [if_pos (by decide)]
    rfl
