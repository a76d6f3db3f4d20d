/-! ===== the reference reads a command ===== -/
theorem ST_wr {M : Mem} {s : Nat → Int32} {len x : Nat} {vs : List Int32} (h : ST M s len (x, true, vs)) (vs' : List Int32) : ST M s len (x, true, vs') := ⟨h.1, h.2.1, h.2.2.1, h.2.2.2.1, h.2.2.2.2.1, h.2.2.2.2.2.1, fun z => Bool.noConfusion (show true = false from z)⟩
/-- a value is stored behind the others -/
theorem ST_put {M : Mem} {s : Nat → Int32} {len : Nat} {Z : PZ} {v : Int32} {j : Nat} {Z' : PZ} (h : ST M s len (Z'.1, Z'.2.1, Z.2.2)) (hj : Z'.2.1 = false → Z.2.2.length = j) (hv : Z'.2.1 = false → Z'.2.2 = Z.2.2 ++ [v]) : ST (up2 M 9 j v) s len Z' := by
  obtain ⟨h1, h2, h3, h4, h5, h6, h7⟩ := h
  refine ⟨h1, by rw [up2_at, if_neg (by omega)]; exact h2, fun i hi => by rw [up2_at, if_neg (by omega)]; exact h3 i hi, by rw [up2_at, if_neg (by omega)]; exact h4, h5, by rw [up2_at, if_neg (by omega)]; exact h6, fun hz i hi => ?_⟩
  rw [hv hz] at hi ⊢
  rw [List.length_append] at hi
  have hi : i < Z.2.2.length + 1 := hi
  rw [up2_at, getD_snoc, ← hj hz]
  by_cases q : i = Z.2.2.length
  · rw [if_pos ⟨rfl, q⟩, if_neg (by omega), if_pos q]
  · rw [if_neg (fun z => q z.2), if_pos (by omega)]
    have h7' : ∀ j, j < Z.2.2.length → M 9 j = Z.2.2.getD j 0 := h7 hz
    exact h7' i (by omega)
theorem pz_vl {s : Nat → Int32} {len : Nat} {Z : PZ} {c : Int32} (h : (pz s len Z c).2.1 = false) : Z.2.1 = false ∧ (pz s len Z c).2.2.length = Z.2.2.length + (if (decide (c = 68) || (decide (c = 76) || decide (c = 78))) = true then 1 else 0) := by
  unfold pz at h ⊢
  by_cases h1 : Z.2.1 = true
  · rw [if_pos h1] at h
    rw [h1] at h
    cases h
  · rw [if_neg h1] at h ⊢
    by_cases h2 : cntp s len c Z.1 = 0
    · rw [if_pos h2] at h
      cases h
    · rw [if_neg h2]
      refine ⟨by simpa using h1, ?_⟩
      rw [List.length_append, valp_len]
/-- reading on: a number into read[j] -/
theorem p_num {M : Mem} {s : Nat → Int32} {len : Nat} {Z : PZ} (h : ST M s len Z) {m c : Int32} (hm : (m = 1 ∧ c = 68) ∨ (m = 2 ∧ c = 78)) {j : Nat} (hj : Z.2.1 = false → Z.2.2.length = j) : ∃ M', ST M' s len (pz s len Z c) ∧ FR M M' ∧ (∀ i, i ≠ j → M' 9 i = M 9 i) ∧ ∀ {β : Type} (g : Mem → Option β), ((fX12_number M m).bind fun z1 => g (up2 z1.2 9 j z1.1)) = g M' := by
  have hm' : ∃ k : Nat, m = nI k ∧ ((k = 1 ∧ c = 68) ∨ (k = 2 ∧ c = 78)) := by
    rcases hm with ⟨a, b⟩ | ⟨a, b⟩
    · exact ⟨1, a, Or.inl ⟨rfl, b⟩⟩
    · exact ⟨2, a, Or.inr ⟨rfl, b⟩⟩
  obtain ⟨k, ek, hk⟩ := hm'
  obtain ⟨v, M', e1, e2, e3, e4⟩ := r_number h hk
  refine ⟨up2 M' 9 j v, ST_put e2 (fun z => hj (pz_vl z).1) e4, fun a f ha hf => by rw [up2_at, if_neg (by omega)]; exact e3 a f hf, fun i hi => by rw [up2_at, if_neg (fun z => hi z.2)]; exact e3 9 i (by omega), fun g => ?_⟩
  rw [ek, e1]
  rfl
theorem p_cap {M : Mem} {s : Nat → Int32} {len : Nat} {Z : PZ} (h : ST M s len Z) {j : Nat} (hj : Z.2.1 = false → Z.2.2.length = j) : ∃ M', ST M' s len (pz s len Z 76) ∧ FR M M' ∧ (∀ i, i ≠ j → M' 9 i = M 9 i) ∧ ∀ {β : Type} (g : Mem → Option β), ((fX12_capital M).bind fun z1 => g (up2 z1.2 9 j z1.1)) = g M' := by
  obtain ⟨v, M', e1, e2, e3, e4⟩ := r_capital h
  refine ⟨up2 M' 9 j v, ST_put e2 (fun z => hj (pz_vl z).1) e4, fun a f ha hf => by rw [up2_at, if_neg (by omega)]; exact e3 a f hf, fun i hi => by rw [up2_at, if_neg (fun z => hi z.2)]; exact e3 9 i (by omega), fun g => ?_⟩
  rw [e1]
  rfl
theorem p_exp {M : Mem} {s : Nat → Int32} {len : Nat} {Z : PZ} (h : ST M s len Z) {c : Int32} (hc : c ≠ 68 ∧ c ≠ 76 ∧ c ≠ 78) (hm : c ≠ -1) : ∃ M', ST M' s len (pz s len Z c) ∧ FR M M' ∧ (∀ i, M' 9 i = M 9 i) ∧ ∀ {β : Type} (g : Mem → Option β), ((fX12_expect M c).bind fun z1 => g z1) = g M' := by
  obtain ⟨M', e1, e2, e3⟩ := r_expect h hc hm
  exact ⟨M', e2, e3.fr, fun i => e3 9 i (by omega), fun g => by rw [e1]; rfl⟩
/-- .. what storing a command changes -/
def FC8 (M M' : Mem) (c : Nat) : Prop := ∀ k f, k ≠ 9 → ¬ (k = 0 ∧ (f = 17 ∨ f = 18 ∨ f = 19)) → ¬ (k = 7 ∧ f = c) → ¬ (k = 8 ∧ 6 * c ≤ f ∧ f < 6 * c + 6) → M' k f = M k f
theorem r_store {M : Mem} {c : Nat} (hc : c < 13) (h18 : M 0 18 = nI c) (h19 : M 0 19 = 0) (x1 x2 : Int32) : ∃ M', fX12_command_j170 x1 x2 M = some M' ∧ M' 0 18 = nI (c + 1) ∧ M' 7 c = x1 ∧ (∀ j, j < 6 → M' 8 (6 * c + j) = M 9 j) ∧ (∀ k f, ¬ (k = 0 ∧ f = 18) → ¬ (k = 7 ∧ f = c) → ¬ (k = 8 ∧ 6 * c ≤ f ∧ f < 6 * c + 6) → M' k f = M k f) := by
  have ec : (nI c).toNatClampNeg = c := nI_clamp (by omega)
  have K : ∀ t, ∃ st : Mem, st = (fun k f => if k = 8 ∧ 6 * c ≤ f ∧ f < 6 * c + t then M 9 (f - 6 * c) else up2 M 7 c x1 k f) := fun t => ⟨_, rfl⟩
  unfold fX12_command_j170
  rw [if_pos h19, h18, gd_t (inb_nI (by omega) (by decide)), ec]
  have e0 : (x1, x2, (0 : Int32), up2 M 7 c x1) = (fun t => (x1, x2, nI t, (fun k f => if k = 8 ∧ 6 * c ≤ f ∧ f < 6 * c + t then M 9 (f - 6 * c) else up2 M 7 c x1 k f : Mem))) 0 := by
    have : (fun k f => if k = 8 ∧ 6 * c ≤ f ∧ f < 6 * c + 0 then M 9 (f - 6 * c) else up2 M 7 c x1 k f : Mem) = up2 M 7 c x1 := by
      funext k f
      rw [if_neg (by omega)]
    show _ = (x1, x2, nI 0, _)
    rw [this]
    rfl
  rw [e0]
  refine ⟨up2 (fun k f => if k = 8 ∧ 6 * c ≤ f ∧ f < 6 * c + 6 then M 9 (f - 6 * c) else up2 M 7 c x1 k f : Mem) 0 18 (nI (c + 1)), lp_up (fun t => (x1, x2, nI t, (fun k f => if k = 8 ∧ 6 * c ≤ f ∧ f < 6 * c + t then M 9 (f - 6 * c) else up2 M 7 c x1 k f : Mem))) 6 (fun t ht => ?_) ?_, by rw [up2_at, if_pos ⟨rfl, rfl⟩], ?_, fun j hj => ?_, fun k f h1 h2 h3 => ?_⟩
  · have k18 : (if (0 : Nat) = 8 ∧ 6 * c ≤ 18 ∧ 18 < 6 * c + t then M 9 (18 - 6 * c) else up2 M 7 c x1 0 18) = nI c := by rw [if_neg (by omega), up2_at, if_neg (by omega)]; exact h18
    have k9 : (if (9 : Nat) = 8 ∧ 6 * c ≤ t ∧ t < 6 * c + t then M 9 (t - 6 * c) else up2 M 7 c x1 9 t) = M 9 t := by rw [if_neg (by omega), up2_at, if_neg (by omega)]
    have et : (nI t).toNatClampNeg = t := nI_clamp (by omega)
    unfold fX12_command_s
    dsimp only
    rw [if_neg (show ¬ (6 : Int32) ≤ nI t from nI_ge (b := 6) ht (by omega)), k18, show (6 : Int32) * nI c + nI t = nI (6 * c + t) by rw [show (6 : Int32) = nI 6 from rfl, pk_mul, nI_add], gd_t (inb_nI (by omega) (by decide)), gd_t (inb_nI (by omega) (by decide)), nI_clamp (by omega), et, k9, nI_1]
    congr 5
    funext k f
    rw [up2_at]
    by_cases q : k = 8 ∧ f = 6 * c + t
    · rw [if_pos q, if_pos (by omega)]
      congr 1
      omega
    · rw [if_neg q]
      by_cases q2 : k = 8 ∧ 6 * c ≤ f ∧ f < 6 * c + t
      · rw [if_pos q2, if_pos (by omega)]
      · rw [if_neg q2, if_neg (by omega)]
  · have k18 : (if (0 : Nat) = 8 ∧ 6 * c ≤ 18 ∧ 18 < 6 * c + 6 then M 9 (18 - 6 * c) else up2 M 7 c x1 0 18) = nI c := by rw [if_neg (by omega), up2_at, if_neg (by omega)]; exact h18
    unfold fX12_command_s
    dsimp only
    rw [if_pos (by decide), k18, nI_1]
  · rw [up2_at, if_neg (by omega), if_neg (by omega), up2_at, if_pos ⟨rfl, rfl⟩]
  · rw [up2_at, if_neg (by omega), if_pos (by omega)]
    congr 1
    omega
  · rw [up2_at, if_neg h1, if_neg h3, up2_at, if_neg h2]
/-- the last step: a command that is right is stored, and one that is wrong isn't -/
theorem r_last {M : Mem} {s : Nat → Int32} {len : Nat} {Z : PZ} (h : ST M s len Z) {c : Nat} (hc : c < 13) (h18 : M 0 18 = nI c) (x1 x2 : Int32) : ∃ M', fX12_command_j170 x1 x2 M = some M' ∧ ST M' s len Z ∧ (∀ k f, ¬ (k = 0 ∧ f = 18) → ¬ (k = 7 ∧ f = c) → ¬ (k = 8 ∧ 6 * c ≤ f ∧ f < 6 * c + 6) → M' k f = M k f) ∧ (Z.2.1 = false → M' 0 18 = nI (c + 1) ∧ M' 7 c = x1 ∧ ∀ j, j < 6 → M' 8 (6 * c + j) = M 9 j) := by
  obtain ⟨h1, h2, h3, h4, h5, h6, h7⟩ := id h
  cases hz : Z.2.1 with
  | true =>
    refine ⟨M, ?_, h, fun _ _ _ _ _ => rfl, fun z => by cases z⟩
    unfold fX12_command_j170
    rw [if_neg (show ¬ M 0 19 = 0 by rw [h6, hz]; decide)]
  | false =>
    obtain ⟨M', e1, e2, e3, e4, e5⟩ := r_store hc h18 (show M 0 19 = 0 by rw [h6, hz]; rfl) x1 x2
    refine ⟨M', e1, ⟨h1, by rw [e5 0 16 (by omega) (by omega) (by omega)]; exact h2, fun i hi => by rw [e5 6 i (by omega) (by omega) (by omega)]; exact h3 i hi, by rw [e5 0 17 (by omega) (by omega) (by omega)]; exact h4, h5, by rw [e5 0 19 (by omega) (by omega) (by omega)]; exact h6, fun hw j hj => by rw [e5 9 j (by omega) (by omega) (by omega)]; exact h7 hw j hj⟩, e5, fun _ => ⟨e2, e3, e4⟩⟩
