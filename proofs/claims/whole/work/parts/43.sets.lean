/-! ===== sets of stations as bits; one step of relaying ===== -/
theorem lp_run {S R : Type} {f : S → Option (S ⊕ R)} (st : Nat → S) : ∀ n, (∀ t, t < n → f (st t) = some (.inl (st (t + 1)))) → lp f (st 0) = lp f (st n) := by
  intro n
  induction n with
  | zero => intro _; rfl
  | succ n ih =>
    intro h
    rw [ih (fun t ht => h t (by omega)), lp_inl (h n (by omega))]
theorem lp_chain {S R : Type} {f : S → Option (S ⊕ R)} (st : Nat → S) : ∀ n, (∀ t, t < n → lp f (st t) = lp f (st (t + 1))) → lp f (st 0) = lp f (st n) := by
  intro n
  induction n with
  | zero => intro _; rfl
  | succ n ih =>
    intro h
    rw [ih (fun t ht => h t (by omega)), h n (by omega)]
theorem bit_and : ∀ x : Fin 256, ∀ i : Fin 8, (nI x.val &&& ((1 : Int32) <<< (nI i.val &&& 31)) = 0) ↔ x.val.testBit i.val = false := by decide +kernel
theorem bit_shr : ∀ x : Fin 256, ∀ i : Fin 8, ((nI x.val >>> (nI i.val &&& 31)) &&& 1 = 1) ↔ x.val.testBit i.val = true := by decide +kernel
theorem bit_or : ∀ x : Fin 256, ∀ i : Fin 8, nI x.val ||| ((1 : Int32) <<< (nI i.val &&& 31)) = nI (x.val ||| 2 ^ i.val) ∧ x.val ||| 2 ^ i.val < 256 := by decide +kernel
theorem bit_or0 : ∀ x : Fin 256, nI x.val ||| 0 = nI x.val := by decide +kernel
theorem bit_one : ∀ i : Fin 8, ((1 : Int32) <<< (nI i.val &&& 31)) = nI (2 ^ i.val) ∧ 2 ^ i.val < 256 := by decide +kernel
/-- y with the bits j below m of those that hear k -/
def rowF (v : Nat → Nat → Int32) (k y : Nat) : Nat → Nat
  | 0 => y
  | j + 1 => if hearP v j k = true then rowF v k y j ||| 2 ^ j else rowF v k y j
/-- x with those added that hear a station below m of x -/
def extF (v : Nat → Nat → Int32) (n x : Nat) : Nat → Nat
  | 0 => x
  | k + 1 => if x.testBit k = true then rowF v k (extF v n x k) n else extF v n x k
theorem rowF_lt (v : Nat → Nat → Int32) (k : Nat) {y : Nat} (hy : y < 256) : ∀ m, m ≤ 8 → rowF v k y m < 256 := by
  intro m
  induction m with
  | zero => intro _; exact hy
  | succ m ih =>
    intro hm
    unfold rowF
    by_cases c : hearP v m k = true
    · rw [if_pos c]; exact (bit_or ⟨_, ih (by omega)⟩ ⟨m, by omega⟩).2
    · rw [if_neg c]; exact ih (by omega)
theorem extF_lt (v : Nat → Nat → Int32) {n x : Nat} (hn : n ≤ 8) (hx : x < 256) : ∀ m, extF v n x m < 256 := by
  intro m
  induction m with
  | zero => exact hx
  | succ m ih =>
    unfold extF
    by_cases c : x.testBit m = true
    · rw [if_pos c]; exact rowF_lt v m ih n hn
    · rw [if_neg c]; exact ih
theorem c_extended {N : Mem} {n : Nat} (h : NV N n) (R : Mem) {x : Nat} (hx : x < 256) : fX8_extended R N (nI x) = some (nI (extF (vN N) n x n)) := by
  obtain ⟨h1, h2, h3⟩ := h
  unfold fX8_extended
  refine (lp_chain (fun k => (0, nI (extF (vN N) n x k), nI k, 0)) n (fun k hk => ?_)).trans (lp_inr ?_)
  · have hE : ∀ m, extF (vN N) n x m < 256 := extF_lt (vN N) h1 hx
    have ek : (nI k).toNatClampNeg = k := nI_clamp (by omega)
    have s1 : fX8_extended_s R N (nI x) (0, nI (extF (vN N) n x k), nI k, 0) = some (.inl (1, nI (extF (vN N) n x k), nI k, 0)) := by
      unfold fX8_extended_s
      dsimp only
      rw [if_pos rfl, h2, if_neg (lt_step h1 hk)]
    refine (lp_inl s1).trans ?_
    have ex : extF (vN N) n x (k + 1) = if x.testBit k = true then rowF (vN N) k (extF (vN N) n x k) n else extF (vN N) n x k := rfl
    by_cases c : x.testBit k = true
    · have hb : ¬ nI x &&& ((1 : Int32) <<< (nI k &&& 31)) = 0 := by
        intro z
        rw [(bit_and ⟨x, hx⟩ ⟨k, by omega⟩).mp z] at c
        exact Bool.false_ne_true c
      rw [if_pos c] at ex
      refine (lp_run (fun j => (1, nI (rowF (vN N) k (extF (vN N) n x k) j), nI k, nI j)) n (fun j hj => ?_)).trans (lp_inl ?_)
      · have ej : (nI j).toNatClampNeg = j := nI_clamp (by omega)
        unfold fX8_extended_s
        dsimp only
        rw [if_neg (by decide), h2, if_neg (lt_step h1 hj), if_neg hb, gd_t (inb_nI (by omega) (by decide)), gd_t (inb_nI (by omega) (by decide))]
        simp only [ek, ej, Nat.one_mul]
        rw [c_hears N (by omega) (by omega)]
        simp only [Option.bind_some]
        have er : rowF (vN N) k (extF (vN N) n x k) (j + 1) = if hearP (vN N) j k = true then rowF (vN N) k (extF (vN N) n x k) j ||| 2 ^ j else rowF (vN N) k (extF (vN N) n x k) j := rfl
        rw [er, nI_1]
        cases hq : hearP (vN N) j k with
        | true => rw [b2i_t rfl, if_neg (by decide), if_pos rfl, (bit_or ⟨_, rowF_lt (vN N) k (hE k) j (by omega)⟩ ⟨j, by omega⟩).1]
        | false => rw [b2i_f rfl, if_pos rfl, if_neg (by decide)]
      · unfold fX8_extended_s
        dsimp only
        rw [if_neg (by decide), h2, if_pos (nI_le (Nat.le_refl n) (by omega)), nI_1, ex]
    · have hb : nI x &&& ((1 : Int32) <<< (nI k &&& 31)) = 0 := (bit_and ⟨x, hx⟩ ⟨k, by omega⟩).mpr (Bool.eq_false_iff.mpr c)
      rw [if_neg c] at ex
      refine lp_inl ?_
      unfold fX8_extended_s
      dsimp only
      rw [if_neg (by decide), h2, if_neg (show ¬ nI n ≤ 0 from lt_step (i := 0) h1 (by omega)), if_pos hb, nI_1, ex]
  · unfold fX8_extended_s
    dsimp only
    rw [if_pos rfl, h2, if_pos (nI_le (Nat.le_refl n) (by omega))]
theorem r_relayed {M : Mem} {n : Nat} (h : MV M n) {x : Nat} (hx : x < 256) : fX12_relayed M (nI x) = some (nI (extF (vM M) n x n)) := by
  obtain ⟨h1, h2⟩ := h
  unfold fX12_relayed
  refine (lp_chain (fun k => (0, nI (extF (vM M) n x k), nI k, 0)) n (fun k hk => ?_)).trans (lp_inr ?_)
  · have hE : ∀ m, extF (vM M) n x m < 256 := extF_lt (vM M) h1 hx
    have s1 : fX12_relayed_s M (nI x) (0, nI (extF (vM M) n x k), nI k, 0) = some (.inl (1, nI (extF (vM M) n x k), nI k, 0)) := by
      unfold fX12_relayed_s
      dsimp only
      rw [if_pos rfl, h2, if_neg (lt_step h1 hk)]
    refine (lp_inl s1).trans ?_
    have ex : extF (vM M) n x (k + 1) = if x.testBit k = true then rowF (vM M) k (extF (vM M) n x k) n else extF (vM M) n x k := rfl
    by_cases c : x.testBit k = true
    · have hb := (bit_shr ⟨x, hx⟩ ⟨k, by omega⟩).mpr c
      rw [if_pos c] at ex
      refine (lp_run (fun j => (1, nI (rowF (vM M) k (extF (vM M) n x k) j), nI k, nI j)) n (fun j hj => ?_)).trans (lp_inl ?_)
      · unfold fX12_relayed_s
        dsimp only
        rw [if_neg (by decide), h2, if_neg (lt_step h1 hj), if_pos hb, r_hears M (by omega) (by omega)]
        simp only [Option.bind_some]
        have er : rowF (vM M) k (extF (vM M) n x k) (j + 1) = if hearP (vM M) j k = true then rowF (vM M) k (extF (vM M) n x k) j ||| 2 ^ j else rowF (vM M) k (extF (vM M) n x k) j := rfl
        rw [er, nI_1]
        cases hq : hearP (vM M) j k with
        | true => rw [b2i_t rfl, if_neg (by decide), if_pos rfl, (bit_or ⟨_, rowF_lt (vM M) k (hE k) j (by omega)⟩ ⟨j, by omega⟩).1]
        | false => rw [b2i_f rfl, if_pos rfl, if_neg (by decide), bit_or0 ⟨_, rowF_lt (vM M) k (hE k) j (by omega)⟩]
      · unfold fX12_relayed_s
        dsimp only
        rw [if_neg (by decide), h2, if_pos (nI_le (Nat.le_refl n) (by omega)), nI_1, ex]
    · have hb : ¬ (nI x >>> (nI k &&& 31)) &&& 1 = 1 := fun z => c ((bit_shr ⟨x, hx⟩ ⟨k, by omega⟩).mp z)
      rw [if_neg c] at ex
      refine (lp_run (fun j => (1, nI (extF (vM M) n x k), nI k, nI j)) n (fun j hj => ?_)).trans (lp_inl ?_)
      · unfold fX12_relayed_s
        dsimp only
        rw [if_neg (by decide), h2, if_neg (lt_step h1 hj), if_neg hb, nI_1, bit_or0 ⟨_, hE k⟩]
      · unfold fX12_relayed_s
        dsimp only
        rw [if_neg (by decide), h2, if_pos (nI_le (Nat.le_refl n) (by omega)), nI_1, ex]
  · unfold fX12_relayed_s
    dsimp only
    rw [if_pos rfl, h2, if_pos (nI_le (Nat.le_refl n) (by omega))]
