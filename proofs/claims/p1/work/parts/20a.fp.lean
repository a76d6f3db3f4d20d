/-! ===== quotients of ints are no NaN ===== -/
def fpOk (f : FP.Core.Fmt) : FP.Core.Datum → Prop
  | .nan => False
  | .inf _ => True
  | .fin _ c q => c < 2 ^ f.p ∧ q ≤ f.qmax
theorem fpc : (FP.Core.b32.tails = 8388608 ∧ FP.Core.b32.exps = 256 ∧ FP.Core.b32.qmin = -149 ∧ FP.Core.b32.qmax = 104 ∧ (2 : Nat) ^ FP.Core.b32.p = 16777216) ∧ (FP.Core.b64.tails = 4503599627370496 ∧ FP.Core.b64.exps = 2048 ∧ FP.Core.b64.qmin = -1074 ∧ FP.Core.b64.qmax = 971 ∧ (2 : Nat) ^ FP.Core.b64.p = 9007199254740992) := by decide +kernel
theorem fp_ratio (f : FP.Core.Fmt) (hf : f = FP.Core.b32 ∨ f = FP.Core.b64) (s : Bool) (n d : Nat) (e : Int) : fpOk f (FP.Core.roundRatio f s n d e) := by
  have hT : f.tails < 2 ^ f.p ∧ f.qmin ≤ f.qmax := by rcases hf with rfl | rfl <;> decide +kernel
  unfold FP.Core.roundRatio
  split
  · exact ⟨by have : 0 < 2 ^ f.p := Nat.two_pow_pos _; exact this, hT.2⟩
  · unfold FP.Core.roundAt FP.Core.settle FP.Core.bound
    split
    · rename_i h
      split
      · rename_i h2; exact ⟨h, h2⟩
      · trivial
    · split
      · rename_i h2; exact ⟨hT.1, h2⟩
      · trivial
theorem fp_enc32 (d : FP.Core.Datum) (h : fpOk FP.Core.b32 d) : FP.Core.encode FP.Core.b32 d < 4294967296 ∧ FP.Core.encode FP.Core.b32 d % 2147483648 ≤ 2139095040 := by
  obtain ⟨⟨e1, e2, e3, e4, e5⟩, -⟩ := fpc
  cases d with
  | nan => exact h.elim
  | inf s =>
    unfold FP.Core.encode FP.Core.assemble
    rw [e1, e2]
    cases s <;> simp <;> omega
  | fin s c q =>
    obtain ⟨h1, h2⟩ := h
    rw [e5] at h1
    rw [e4] at h2
    have e0 : FP.Core.encode FP.Core.b32 (.fin s c q) = if c < 8388608 then (s.toNat * 256 + 0) * 8388608 + c else (s.toNat * 256 + ((q - -149).toNat + 1)) * 8388608 + (c - 8388608) := by
      show (if c < FP.Core.b32.tails then FP.Core.assemble FP.Core.b32 s 0 c else FP.Core.assemble FP.Core.b32 s ((q - FP.Core.b32.qmin).toNat + 1) (c - FP.Core.b32.tails)) = _
      unfold FP.Core.assemble
      rw [e1, e2, e3]
    rw [e0]
    split <;> cases s <;> (try simp only [Bool.toNat_true, Bool.toNat_false]) <;> omega
theorem fp_enc64 (d : FP.Core.Datum) (h : fpOk FP.Core.b64 d) : FP.Core.encode FP.Core.b64 d < 18446744073709551616 ∧ FP.Core.encode FP.Core.b64 d % 9223372036854775808 ≤ 9218868437227405312 := by
  obtain ⟨-, ⟨e1, e2, e3, e4, e5⟩⟩ := fpc
  cases d with
  | nan => exact h.elim
  | inf s =>
    unfold FP.Core.encode FP.Core.assemble
    rw [e1, e2]
    cases s <;> simp <;> omega
  | fin s c q =>
    obtain ⟨h1, h2⟩ := h
    rw [e5] at h1
    rw [e4] at h2
    have e0 : FP.Core.encode FP.Core.b64 (.fin s c q) = if c < 4503599627370496 then (s.toNat * 2048 + 0) * 4503599627370496 + c else (s.toNat * 2048 + ((q - -1074).toNat + 1)) * 4503599627370496 + (c - 4503599627370496) := by
      show (if c < FP.Core.b64.tails then FP.Core.assemble FP.Core.b64 s 0 c else FP.Core.assemble FP.Core.b64 s ((q - FP.Core.b64.qmin).toNat + 1) (c - FP.Core.b64.tails)) = _
      unfold FP.Core.assemble
      rw [e1, e2, e3]
    rw [e0]
    split <;> cases s <;> (try simp only [Bool.toNat_true, Bool.toNat_false]) <;> omega
theorem fp_n32 (d : FP.Core.Datum) (h : fpOk FP.Core.b32 d) : vf_n32 (UInt32.ofNat (FP.Core.encode FP.Core.b32 d)) := by
  obtain ⟨h1, h2⟩ := fp_enc32 d h
  unfold vf_n32
  rw [UInt32.le_iff_toNat_le, UInt32.toNat_and, UInt32.toNat_ofNat_of_lt' h1]
  show _ &&& (2147483647 : Nat) ≤ 2139095040
  rw [show (2147483647 : Nat) = 2 ^ 31 - 1 by decide, Nat.and_two_pow_sub_one_eq_mod]
  exact h2
theorem fp_n64 (d : FP.Core.Datum) (h : fpOk FP.Core.b64 d) : vf_n64 (UInt64.ofNat (FP.Core.encode FP.Core.b64 d)) := by
  obtain ⟨h1, h2⟩ := fp_enc64 d h
  unfold vf_n64
  rw [UInt64.le_iff_toNat_le, UInt64.toNat_and, UInt64.toNat_ofNat_of_lt' h1]
  show _ &&& (9223372036854775807 : Nat) ≤ 9218868437227405312
  rw [show (9223372036854775807 : Nat) = 2 ^ 63 - 1 by decide, Nat.and_two_pow_sub_one_eq_mod]
  exact h2
/-- a finite datum with a significand other than 0 stays one -/
theorem fp_back32 (s : Bool) (c : Nat) (q : Int) (h : fpOk FP.Core.b32 (.fin s c q)) : ∃ c' q', FP.Core.decode FP.Core.b32 (FP.Core.encode FP.Core.b32 (.fin s c q)) = .fin s c' q' ∧ (c ≠ 0 → c' ≠ 0) := by
  obtain ⟨⟨e1, e2, e3, e4, e5⟩, -⟩ := fpc
  obtain ⟨h1, h2⟩ := h
  rw [e5] at h1
  rw [e4] at h2
  unfold FP.Core.decode FP.Core.encode FP.Core.fieldE FP.Core.fieldT FP.Core.fieldS FP.Core.assemble
  rw [e1, e2, e3]
  by_cases hc : c < 8388608
  · simp only [if_pos hc]
    refine ⟨c, -149, ?_, id⟩
    have a1 : ((s.toNat * 256 + 0) * 8388608 + c) / 8388608 % 256 = 0 := by cases s <;> simp only [Bool.toNat_true, Bool.toNat_false] <;> omega
    have a2 : ((s.toNat * 256 + 0) * 8388608 + c) % 8388608 = c := by cases s <;> simp only [Bool.toNat_true, Bool.toNat_false] <;> omega
    have a3 : (((s.toNat * 256 + 0) * 8388608 + c) / 8388608 / 256 % 2 == 1) = s := by
      have : ((s.toNat * 256 + 0) * 8388608 + c) / 8388608 / 256 % 2 = s.toNat := by cases s <;> simp only [Bool.toNat_true, Bool.toNat_false] <;> omega
      rw [this]; cases s <;> rfl
    rw [a1, a2, a3, if_neg (by decide), if_pos rfl]
  · simp only [if_neg hc]
    generalize hk : (q - -149).toNat + 1 = k
    have hk2 : k ≤ 254 ∧ 1 ≤ k := by omega
    refine ⟨8388608 + (c - 8388608), -149 + ((k : Int) - 1), ?_, fun _ => by omega⟩
    have a1 : ((s.toNat * 256 + k) * 8388608 + (c - 8388608)) / 8388608 % 256 = k := by cases s <;> simp only [Bool.toNat_true, Bool.toNat_false] <;> omega
    have a2 : ((s.toNat * 256 + k) * 8388608 + (c - 8388608)) % 8388608 = c - 8388608 := by cases s <;> simp only [Bool.toNat_true, Bool.toNat_false] <;> omega
    have a3 : (((s.toNat * 256 + k) * 8388608 + (c - 8388608)) / 8388608 / 256 % 2 == 1) = s := by
      have : ((s.toNat * 256 + k) * 8388608 + (c - 8388608)) / 8388608 / 256 % 2 = s.toNat := by cases s <;> simp only [Bool.toNat_true, Bool.toNat_false] <;> omega
      rw [this]; cases s <;> rfl
    rw [a1, a2, a3, if_neg (by omega), if_neg (by omega)]
theorem fp_back64 (s : Bool) (c : Nat) (q : Int) (h : fpOk FP.Core.b64 (.fin s c q)) : ∃ c' q', FP.Core.decode FP.Core.b64 (FP.Core.encode FP.Core.b64 (.fin s c q)) = .fin s c' q' ∧ (c ≠ 0 → c' ≠ 0) := by
  obtain ⟨-, ⟨e1, e2, e3, e4, e5⟩⟩ := fpc
  obtain ⟨h1, h2⟩ := h
  rw [e5] at h1
  rw [e4] at h2
  unfold FP.Core.decode FP.Core.encode FP.Core.fieldE FP.Core.fieldT FP.Core.fieldS FP.Core.assemble
  rw [e1, e2, e3]
  by_cases hc : c < 4503599627370496
  · simp only [if_pos hc]
    refine ⟨c, -1074, ?_, id⟩
    have a1 : ((s.toNat * 2048 + 0) * 4503599627370496 + c) / 4503599627370496 % 2048 = 0 := by cases s <;> simp only [Bool.toNat_true, Bool.toNat_false] <;> omega
    have a2 : ((s.toNat * 2048 + 0) * 4503599627370496 + c) % 4503599627370496 = c := by cases s <;> simp only [Bool.toNat_true, Bool.toNat_false] <;> omega
    have a3 : (((s.toNat * 2048 + 0) * 4503599627370496 + c) / 4503599627370496 / 2048 % 2 == 1) = s := by
      have : ((s.toNat * 2048 + 0) * 4503599627370496 + c) / 4503599627370496 / 2048 % 2 = s.toNat := by cases s <;> simp only [Bool.toNat_true, Bool.toNat_false] <;> omega
      rw [this]; cases s <;> rfl
    rw [a1, a2, a3, if_neg (by decide), if_pos rfl]
  · simp only [if_neg hc]
    generalize hk : (q - -1074).toNat + 1 = k
    have hk2 : k ≤ 2046 ∧ 1 ≤ k := by omega
    refine ⟨4503599627370496 + (c - 4503599627370496), -1074 + ((k : Int) - 1), ?_, fun _ => by omega⟩
    have a1 : ((s.toNat * 2048 + k) * 4503599627370496 + (c - 4503599627370496)) / 4503599627370496 % 2048 = k := by cases s <;> simp only [Bool.toNat_true, Bool.toNat_false] <;> omega
    have a2 : ((s.toNat * 2048 + k) * 4503599627370496 + (c - 4503599627370496)) % 4503599627370496 = c - 4503599627370496 := by cases s <;> simp only [Bool.toNat_true, Bool.toNat_false] <;> omega
    have a3 : (((s.toNat * 2048 + k) * 4503599627370496 + (c - 4503599627370496)) / 4503599627370496 / 2048 % 2 == 1) = s := by
      have : ((s.toNat * 2048 + k) * 4503599627370496 + (c - 4503599627370496)) / 4503599627370496 / 2048 % 2 = s.toNat := by cases s <;> simp only [Bool.toNat_true, Bool.toNat_false] <;> omega
      rw [this]; cases s <;> rfl
    rw [a1, a2, a3, if_neg (by omega), if_neg (by omega)]
theorem fp_lead (n : Nat) (h0 : n ≠ 0) : FP.Core.leading n 1 = (n.log2 : Int) := by
  unfold FP.Core.leading
  have e1 : (1 : Nat).log2 = 0 := by decide
  rw [e1]
  have h1 : 2 ^ n.log2 ≤ n := Nat.log2_self_le h0
  simp only
  rw [if_pos]
  · omega
  · have a : ((n.log2 : Int) - ((0 : Nat) : Int)).toNat = n.log2 := by omega
    have b : (-((n.log2 : Int) - ((0 : Nat) : Int))).toNat = 0 := by omega
    rw [a, b]
    omega
/-- an int in a format: finite, 0 for 0 only -/
theorem fp_int (f : FP.Core.Fmt) (hf : f = FP.Core.b32 ∨ f = FP.Core.b64) (s : Bool) (n : Nat) (hn : n < 4294967296) : ∃ c q, FP.Core.roundRatio f s n 1 0 = .fin s c q ∧ fpOk f (.fin s c q) ∧ (n ≠ 0 → c ≠ 0) := by
  have hT : f.tails < 2 ^ f.p ∧ f.qmin ≤ 0 ∧ f.tails ≠ 0 ∧ 32 - ((f.p : Int) - 1) ≤ f.qmax ∧ 1 ≤ f.qmax ∧ (1 : Int) ≤ f.p ∧ f.qmin ≤ f.qmax := by rcases hf with rfl | rfl <;> decide +kernel
  by_cases h0 : n = 0
  · refine ⟨0, f.qmin, ?_, ⟨Nat.two_pow_pos _, hT.2.2.2.2.2.2⟩, fun h => absurd h0 h⟩
    unfold FP.Core.roundRatio
    rw [if_pos h0]
  · have hl : n.log2 < 32 := (Nat.log2_lt h0).mpr (by omega)
    have h1 : 2 ^ n.log2 ≤ n := Nat.log2_self_le h0
    unfold FP.Core.roundRatio
    rw [if_neg h0]
    unfold FP.Core.quantum
    rw [fp_lead n h0]
    generalize hq : max f.qmin ((n.log2 : Int) + 0 - ((f.p : Int) - 1)) = q
    have hq1 : q + 1 ≤ f.qmax := by omega
    have hq2 : q ≤ (n.log2 : Int) := by omega
    unfold FP.Core.roundAt
    generalize hc : FP.Core.nearest (FP.Core.unitsNum n 0 q) (FP.Core.unitsDen 1 0 q) = c
    have hc0 : c ≠ 0 := by
      have hd : FP.Core.unitsDen 1 0 q ≤ FP.Core.unitsNum n 0 q := by
        unfold FP.Core.unitsDen FP.Core.unitsNum
        rw [Nat.one_mul]
        by_cases hs : q ≤ 0
        · have a : (q - 0).toNat = 0 := by omega
          rw [a]
          have : 0 < 2 ^ (0 - q).toNat := Nat.two_pow_pos _
          exact Nat.le_trans (by omega : 2 ^ 0 ≤ n) (Nat.le_mul_of_pos_right n this)
        · have a : (0 - q).toNat = 0 := by omega
          rw [a, Nat.pow_zero, Nat.mul_one]
          exact Nat.le_trans (Nat.pow_le_pow_right (by decide) (by omega)) h1
      have hp : 0 < FP.Core.unitsDen 1 0 q := by
        unfold FP.Core.unitsDen
        rw [Nat.one_mul]
        exact Nat.two_pow_pos _
      have hdv : 1 ≤ FP.Core.unitsNum n 0 q / FP.Core.unitsDen 1 0 q := (Nat.le_div_iff_mul_le hp).mpr (by omega)
      rw [← hc]
      unfold FP.Core.nearest
      split
      · omega
      · split <;> omega
    unfold FP.Core.settle FP.Core.bound
    split
    · rename_i h2
      rw [if_pos (by omega)]
      exact ⟨c, q, rfl, ⟨h2, by omega⟩, fun _ => hc0⟩
    · first | rw [if_pos hq1] | skip
      exact ⟨f.tails, q + 1, rfl, ⟨hT.1, hq1⟩, fun _ => hT.2.2.1⟩
theorem fp_abs (a : Int32) : a.toInt.natAbs < 4294967296 := by
  have h1 := Int32.le_toInt a
  have h2 := Int32.toInt_lt a
  omega
theorem fp_i2d (a : Int32) : ∃ s c q, FP.Core.decode FP.Core.b64 (FP.i2d a).toNat = .fin s c q ∧ (a ≠ 0 → c ≠ 0) := by
  obtain ⟨c, q, h1, h2, h3⟩ := fp_int FP.Core.b64 (Or.inr rfl) (decide (a.toInt < 0)) a.toInt.natAbs (fp_abs a)
  obtain ⟨c', q', h4, h5⟩ := fp_back64 _ c q h2
  refine ⟨decide (a.toInt < 0), c', q', ?_, fun h => h5 (h3 (fun z => h (Int32.toInt_inj.mp (by rw [Int32.toInt_zero]; omega))))⟩
  show FP.Core.decode FP.Core.b64 (UInt64.ofNat (FP.Core.encode FP.Core.b64 (FP.Core.roundRatio FP.Core.b64 (decide (a.toInt < 0)) a.toInt.natAbs 1 0))).toNat = _
  rw [h1, UInt64.toNat_ofNat_of_lt' (fp_enc64 _ h2).1]
  exact h4
theorem fp_i2f (a : Int32) : ∃ s c q, FP.Core.decode FP.Core.b32 (FP.i2f a).toNat = .fin s c q ∧ (a ≠ 0 → c ≠ 0) := by
  obtain ⟨c, q, h1, h2, h3⟩ := fp_int FP.Core.b32 (Or.inl rfl) (decide (a.toInt < 0)) a.toInt.natAbs (fp_abs a)
  obtain ⟨c', q', h4, h5⟩ := fp_back32 _ c q h2
  refine ⟨decide (a.toInt < 0), c', q', ?_, fun h => h5 (h3 (fun z => h (Int32.toInt_inj.mp (by rw [Int32.toInt_zero]; omega))))⟩
  show FP.Core.decode FP.Core.b32 (UInt32.ofNat (FP.Core.encode FP.Core.b32 (FP.Core.roundRatio FP.Core.b32 (decide (a.toInt < 0)) a.toInt.natAbs 1 0))).toNat = _
  rw [h1, UInt32.toNat_ofNat_of_lt' (fp_enc32 _ h2).1]
  exact h4
theorem fp_quot (f : FP.Core.Fmt) (hf : f = FP.Core.b32 ∨ f = FP.Core.b64) {s t : Bool} {c d : Nat} {q r : Int} (hd : d ≠ 0) : fpOk f (FP.Core.quotient f (.fin s c q) (.fin t d r)) := by
  show fpOk f (if d = 0 then (if c = 0 then FP.Core.Datum.nan else .inf (s != t)) else FP.Core.roundRatio f (s != t) c d (q - r))
  rw [if_neg hd]
  exact fp_ratio f hf _ _ _ _
theorem fp_ddiv (a b : Int32) (hb : b ≠ 0) : vf_n64 (FP.ddiv (FP.i2d a) (FP.i2d b)) := by
  obtain ⟨s, c, q, h1, -⟩ := fp_i2d a
  obtain ⟨t, d, r, h2, h3⟩ := fp_i2d b
  show vf_n64 (UInt64.ofNat (FP.Core.encode FP.Core.b64 (FP.Core.quotient FP.Core.b64 (FP.Core.decode FP.Core.b64 (FP.i2d a).toNat) (FP.Core.decode FP.Core.b64 (FP.i2d b).toNat))))
  rw [h1, h2]
  exact fp_n64 _ (fp_quot _ (Or.inr rfl) (h3 hb))
theorem fp_fdiv (a b : Int32) (hb : b ≠ 0) : vf_n32 (FP.fdiv (FP.i2f a) (FP.i2f b)) := by
  obtain ⟨s, c, q, h1, -⟩ := fp_i2f a
  obtain ⟨t, d, r, h2, h3⟩ := fp_i2f b
  show vf_n32 (UInt32.ofNat (FP.Core.encode FP.Core.b32 (FP.Core.quotient FP.Core.b32 (FP.Core.decode FP.Core.b32 (FP.i2f a).toNat) (FP.Core.decode FP.Core.b32 (FP.i2f b).toNat))))
  rw [h1, h2]
  exact fp_n32 _ (fp_quot _ (Or.inl rfl) (h3 hb))
/-- .. nor is what they become as doubles -/
theorem fp_f2d (x : UInt32) (h : vf_n32 x) : vf_n64 (FP.f2d x) := by
  obtain ⟨⟨e1, e2, e3, e4, e5⟩, -⟩ := fpc
  have hx : x.toNat % 2147483648 ≤ 2139095040 := by
    unfold vf_n32 at h
    rw [UInt32.le_iff_toNat_le, UInt32.toNat_and] at h
    have h : x.toNat &&& (2147483647 : Nat) ≤ 2139095040 := h
    rw [show (2147483647 : Nat) = 2 ^ 31 - 1 by decide, Nat.and_two_pow_sub_one_eq_mod] at h
    exact h
  have hd : FP.Core.decode FP.Core.b32 x.toNat ≠ .nan := by
    unfold FP.Core.decode FP.Core.fieldE FP.Core.fieldT
    rw [e1, e2]
    split
    · rename_i h1
      split
      · intro z; cases z
      · rename_i h2
        omega
    · split <;> (intro z; cases z)
  have hn : FP.Core.fIsNaN x = false := by
    unfold FP.Core.fIsNaN FP.Core.isNaN
    exact decide_eq_false hd
  unfold FP.f2d
  rw [hn]
  show vf_n64 (UInt64.ofNat (FP.Core.encode FP.Core.b64 (FP.Core.round FP.Core.b64 (FP.Core.decode FP.Core.b32 x.toNat))))
  refine fp_n64 _ ?_
  cases h9 : FP.Core.decode FP.Core.b32 x.toNat with
  | nan => exact absurd h9 hd
  | inf s => trivial
  | fin s c q => exact fp_ratio _ (Or.inr rfl) _ _ _ _
