/-! ===== core calls: power, channel, limit, place, a new station ===== -/
/-- both sides make the call, with the same answer, and stay related -/
def CO (M : Mem) (x y : Option (Int32 × Mem)) (b B : Nat) : Prop := ∃ a N' M', x = some (a, N') ∧ y = some (a, M') ∧ Fr1 M M' ∧ RCx N' M' b B
theorem c_changePower (N : Mem) {i : Nat} (hi : i < 8) (x : Int32) : fX6_changePower N (nI i) x = some (vN N i 4, up2 N (2 + i) 4 x) := by
  have e : (nI i).toNatClampNeg = i := nI_clamp (by omega)
  unfold fX6_changePower
  rw [gd_t (inb_nI hi (by decide)), gd_t (inb_nI hi (by decide)), e, Nat.one_mul]
  rfl
theorem c_changeChannel (N : Mem) {i : Nat} (hi : i < 8) (x : Int32) : fX6_changeChannel N (nI i) x = some (vN N i 5, up2 N (2 + i) 5 x) := by
  have e : (nI i).toNatClampNeg = i := nI_clamp (by omega)
  unfold fX6_changeChannel
  rw [gd_t (inb_nI hi (by decide)), gd_t (inb_nI hi (by decide)), e, Nat.one_mul]
  rfl
theorem r_replaces (M : Mem) {i f : Nat} (hi : i < 8) (hf : f ≤ 7) (x : Int32) : fX12_replaces M (nI i) (nI f) x = some (vM M i f, up2 M 1 (8 + 12 * i + f) x) := by
  unfold fX12_replaces
  rw [r_f M hi hf]
  simp only [Option.bind_some]
  rw [r_set M hi (by omega)]
  rfl
theorem co_power {N M : Mem} {b B n w : Nat} {L : Nat → Nat} (h : RC N M b B n w L) {i : Nat} (hi : i < n) {x : Int32} (hx : RG 4 x) : CO M (fX6_changePower N (nI i) x) (fX12_replaces M (nI i) 4 x) b B := by
  have hn := h.hn
  refine ⟨vM M i 4, _, _, ?_, r_replaces M (f := 4) (by omega) (by decide) x, Fr1.up _ _ _, n, w, L, RC_set h hi (f := 4) (by decide) hx (fun z => absurd z (by decide))⟩
  rw [c_changePower N (by omega), h.vw i hi 4 (by decide)]
theorem co_tune {N M : Mem} {b B n w : Nat} {L : Nat → Nat} (h : RC N M b B n w L) {i : Nat} (hi : i < n) (hm : vM M i 6 = 0) {x : Int32} (hx : RG 5 x) : CO M (fX6_changeChannel N (nI i) x) (fX12_replaces M (nI i) 5 x) b B := by
  have hn := h.hn
  refine ⟨vM M i 5, _, _, ?_, r_replaces M (f := 5) (by omega) (by decide) x, Fr1.up _ _ _, n, w, L, RC_set h hi (f := 5) (by decide) hx (fun _ => hm)⟩
  rw [c_changeChannel N (by omega), h.vw i hi 5 (by decide)]
theorem co_limit {N M : Mem} {b B n w : Nat} {L : Nat → Nat} (h : RC N M b B n w L) {m : Nat} (h1 : 1 ≤ m) (h2 : m ≤ 60) : CO M (fX6_changeTurnLimit N (nI m)) (fX12_limits M (nI m)) b B := by
  have hn := h.hn
  obtain ⟨⟨a1, a1', a1''⟩, a2, ⟨a3, lim, a31, a32, a33, a34⟩, a4, ⟨a51, a52, a53⟩, a6, ⟨a71, a72, a73⟩, a8, ⟨k, h1', h2', h3⟩, ⟨c, c1, c2, c3, c4⟩⟩ := h
  have ev : vM (up2 M 1 2 (nI m)) = vM M := by
    funext i f
    rw [vM_up, if_neg (by omega)]
  have et : tk (up2 M 1 2 (nI m)) = tk M := by
    funext i
    unfold tk
    rw [up2_at, if_neg (by omega)]
  have es : ∀ p, p ≠ 2 → up2 M 1 2 (nI m) 1 p = M 1 p := fun p hp => by rw [up2_at, if_neg (by omega)]
  have k0 : ∀ k g, ¬ (k = 0 ∧ g = 6) → up2 N 0 6 (nI m) k g = N k g := fun k g hk => by rw [up2_at, if_neg hk]
  refine ⟨nI lim, up2 N 0 6 (nI m), up2 M 1 2 (nI m), ?_, ?_, Fr1.up M 2 (nI m), n, w, L, ⟨a1, by rw [k0 _ _ (by omega)]; exact a1', by rw [es _ (by omega)]; exact a1''⟩, ?_, ⟨by rw [k0 _ _ (by omega), es _ (by omega)]; exact a3, m, h1, h2, by rw [up2_at, if_pos ⟨rfl, rfl⟩], by rw [up2_at, if_pos ⟨rfl, rfl⟩]⟩, ?_, ?_, ?_, ⟨a71, by rw [k0 _ _ (by omega)]; exact a72, fun j hj => by rw [k0 _ _ (by omega)]; exact a73 j hj⟩, ?_, ⟨k, h1', by rw [es _ (by omega)]; exact h2', by rw [et]; exact h3⟩, c, c1, by rw [k0 _ _ (by omega)]; exact c2, by rw [es _ (by omega)]; exact c3, fun y hy => ?_⟩
  · show some (N 0 6, up2 N 0 6 (nI m)) = _
    rw [a33]
  · show some (M 1 2, up2 M 1 2 (nI m)) = _
    rw [a34]
  · intro i hi f hf
    rw [ev, vN_up, if_neg (by omega)]
    exact a2 i hi f hf
  · intro i hi
    rw [k0 _ _ (by omega)]
    exact a4 i hi
  · rw [ev]
    exact ⟨a51, a52, a53⟩
  · intro i hi hm
    rw [ev] at hm ⊢
    obtain ⟨l, l1, l2, l3⟩ := a6 i hi hm
    exact ⟨l, l1, by unfold ls at l2 ⊢; rw [es _ (by omega)]; exact l2, by rw [es _ (by omega)]; exact l3⟩
  · unfold LT at a8 ⊢
    rw [ev, et]
    exact a8
  · rw [k0 _ _ (by omega), k0 _ _ (by omega), k0 _ _ (by omega), es _ (by omega), es _ (by omega), es _ (by omega)]
    exact c4 y hy
/-- a place set: how many hear the station then -/
theorem c_moveTo {N : Mem} {n : Nat} (h : NV N n) {i : Nat} (hi : i < n) (x y : Int32) : fX6_moveTo N (nI i) x y = some (nI (cnt (fun k => hearP (vN (up2 (up2 N (2 + i) 2 x) (2 + i) 3 y)) k i) n), up2 (up2 N (2 + i) 2 x) (2 + i) 3 y) := by
  obtain ⟨h1, h2, h3⟩ := h
  have e : (nI i).toNatClampNeg = i := nI_clamp (by omega)
  have eN : up2 (up2 N (2 + i) 2 x) (2 + i) 3 y 0 1 = nI n := by rw [up2_at, if_neg (by omega), up2_at, if_neg (by omega)]; exact h2
  unfold fX6_moveTo
  rw [gd_t (inb_nI (by omega) (by decide)), e, Nat.one_mul]
  generalize hK : up2 (up2 N (2 + i) 2 x) (2 + i) 3 y = K at eN ⊢
  refine lp_up (fun t => (nI (cnt (fun k => hearP (vN K) k i) t), nI t, K)) n (fun t ht => ?_) ?_
  · have et : (nI t).toNatClampNeg = t := nI_clamp (by omega)
    have es : cnt (fun k => hearP (vN K) k i) (t + 1) = cnt (fun k => hearP (vN K) k i) t + (if hearP (vN K) t i = true then 1 else 0) := rfl
    unfold fX6_moveTo_s
    dsimp only
    rw [if_neg (show ¬ K 0 1 ≤ nI t by rw [eN]; exact lt_step h1 ht), gd_t (inb_nI (by omega) (by decide))]
    simp only [e, et, Nat.one_mul]
    rw [c_hears K (by omega) (by omega), es]
    simp only [Option.bind_some]
    cases hq : hearP (vN K) t i with
    | true => rw [b2i_t rfl]; simp [nI_1]
    | false => rw [b2i_f rfl]; simp [nI_1]
  · unfold fX6_moveTo_s
    dsimp only
    rw [if_pos (show K 0 1 ≤ nI n by rw [eN]; exact nI_le (Nat.le_refl n) (by omega))]
theorem r_moves {M : Mem} {n : Nat} (h : MV M n) {i : Nat} (hi : i < n) (x y : Int32) : fX12_moves M (nI i) x y = some (nI (cnt (fun k => hearP (vM (up2 (up2 M 1 (8 + 12 * i + 2) x) 1 (8 + 12 * i + 3) y)) k i) n), up2 (up2 M 1 (8 + 12 * i + 2) x) 1 (8 + 12 * i + 3) y) := by
  obtain ⟨h1, h2⟩ := h
  have eN : up2 (up2 M 1 (8 + 12 * i + 2) x) 1 (8 + 12 * i + 3) y 1 0 = nI n := by rw [up2_at, if_neg (by omega), up2_at, if_neg (by omega)]; exact h2
  have s2 : fX12_set M (nI i) 2 x = some (up2 M 1 (8 + 12 * i + 2) x) := r_set M (o := 2) (by omega) (by decide) x
  have s3 : fX12_set (up2 M 1 (8 + 12 * i + 2) x) (nI i) 3 y = some (up2 (up2 M 1 (8 + 12 * i + 2) x) 1 (8 + 12 * i + 3) y) := r_set _ (o := 3) (by omega) (by decide) y
  unfold fX12_moves
  rw [s2]
  simp only [Option.bind_some]
  rw [s3]
  simp only [Option.bind_some]
  generalize hK : up2 (up2 M 1 (8 + 12 * i + 2) x) 1 (8 + 12 * i + 3) y = K at eN ⊢
  refine lp_up (fun t => (nI (cnt (fun k => hearP (vM K) k i) t), nI t, K)) n (fun t ht => ?_) ?_
  · have es : cnt (fun k => hearP (vM K) k i) (t + 1) = cnt (fun k => hearP (vM K) k i) t + (if hearP (vM K) t i = true then 1 else 0) := rfl
    unfold fX12_moves_s
    dsimp only
    rw [if_neg (show ¬ K 1 0 ≤ nI t by rw [eN]; exact lt_step h1 ht), r_hears K (by omega) (by omega), es]
    simp only [Option.bind_some]
    cases hq : hearP (vM K) t i with
    | true => rw [b2i_t rfl]; simp [nI_1]
    | false => rw [b2i_f rfl]; simp [nI_1]
  · unfold fX12_moves_s
    dsimp only
    rw [if_pos (show K 1 0 ≤ nI n by rw [eN]; exact nI_le (Nat.le_refl n) (by omega))]
theorem co_move {N M : Mem} {b B n w : Nat} {L : Nat → Nat} (h : RC N M b B n w L) {i : Nat} (hi : i < n) {x y : Int32} (hx : RG 2 x) (hy : RG 3 y) : CO M (fX6_moveTo N (nI i) x y) (fX12_moves M (nI i) x y) b B := by
  have r1 := RC_set h hi (f := 2) (by decide) hx (fun z => absurd z (by decide))
  have r2 := RC_set r1 hi (f := 3) (by decide) hy (fun z => absurd z (by decide))
  refine ⟨_, _, _, c_moveTo h.nv hi x y, ?_, (Fr1.up _ _ _).trans (Fr1.up _ _ _), n, w, L, r2⟩
  rw [r_moves h.mv hi]
  have e := cnt_congr (n := n) (fun k hk => (hearP_congr r2.v6 hk hi).symm)
  rw [e]
/-! a new station -/
def nfv (a b c d e g : Int32) (f : Nat) : Int32 := if f = 0 then a else if f = 1 then b else if f = 2 then c else if f = 3 then d else if f = 4 then e else if f = 5 then g else 0
theorem c_addN (N : Mem) {n : Nat} (hN : N 0 1 = nI n) (hn : n < 8) {a : Int32} (ha : isC a = true) (b c d e g : Int32) : ok (fX6_add N a b c d e g) (fun r => r.1 = nI n ∧ ∀ k f, r.2 k f = if k = 2 + n ∧ f ≤ 9 then nfv a b c d e g f else if k = 0 ∧ f = 1 then nI (n + 1) else N k f) := by
  have en : (nI n).toNatClampNeg = n := nI_clamp (by omega)
  unfold fX6_add
  rw [hN, gd_t (inb_nI hn (by decide)), gd_t ha, en, Nat.one_mul]
  refine ok_some.mpr ⟨rfl, fun k f => ?_⟩
  simp only [up2_at]
  by_cases hk : k = 2 + n
  · subst hk
    have z0 : ¬ (2 + n = 0) := by omega
    by_cases hf : f ≤ 9
    · unfold nfv
      rcases (show f = 0 ∨ f = 1 ∨ f = 2 ∨ f = 3 ∨ f = 4 ∨ f = 5 ∨ f = 6 ∨ f = 7 ∨ f = 8 ∨ f = 9 by omega) with h | h | h | h | h | h | h | h | h | h <;> subst h <;> simp [z0]
    · have h0 : ¬ f = 0 := by omega
      have h1 : ¬ f = 1 := by omega
      have h2 : ¬ f = 2 := by omega
      have h3 : ¬ f = 3 := by omega
      have h4 : ¬ f = 4 := by omega
      have h5 : ¬ f = 5 := by omega
      have h6 : ¬ f = 6 := by omega
      have h7 : ¬ f = 7 := by omega
      have h8 : ¬ f = 8 := by omega
      have h9 : ¬ f = 9 := by omega
      simp [h0, h1, h2, h3, h4, h5, h6, h7, h8, h9, hf]
  · have z1 : ¬ (0 = 2 + n) := by omega
    simp only [hk, z1, false_and, if_false, hN, nI_1]
def radd (M : Mem) (n : Nat) (t : Nat) : Mem := fun k f => if k = 1 ∧ 8 + 12 * n ≤ f ∧ f < 8 + 12 * n + t then 0 else M k f
theorem radd_0 (M : Mem) (n : Nat) : radd M n 0 = M := by
  funext k f
  unfold radd
  rw [if_neg (by omega)]
theorem radd_up (M : Mem) (n t : Nat) : up2 (radd M n t) 1 (8 + 12 * n + t) 0 = radd M n (t + 1) := by
  funext k f
  rw [up2_at]
  unfold radd
  by_cases c : k = 1 ∧ f = 8 + 12 * n + t
  · rw [if_pos c, if_pos (by omega)]
  · rw [if_neg c]
    by_cases g : k = 1 ∧ 8 + 12 * n ≤ f ∧ f < 8 + 12 * n + t
    · rw [if_pos g, if_pos (by omega)]
    · rw [if_neg g, if_neg (by omega)]
theorem r_addsN (M : Mem) {n : Nat} (hM : M 1 0 = nI n) (hn : n < 8) (a b c d e g : Int32) : ok (fX12_adds M a b c d e g) (fun r => r.1 = nI n ∧ ∀ k f, r.2 k f = if k = 1 ∧ 8 + 12 * n ≤ f ∧ f < 8 + 12 * n + 12 then nfv a b c d e g (f - (8 + 12 * n)) else if k = 1 ∧ f = 0 then nI (n + 1) else M k f) := by
  unfold fX12_adds
  rw [hM]
  have e0 : (nI n, (0 : Int32), M) = (fun t => (nI n, nI t, radd M n t)) 0 := by
    show _ = (nI n, nI 0, radd M n 0)
    rw [radd_0]
    rfl
  rw [e0]
  have s0 : ∀ (M : Mem) (v : Int32), fX12_set M (nI n) 0 v = some (up2 M 1 (8 + 12 * n + 0) v) := fun M v => r_set M (o := 0) hn (by decide) v
  have s1 : ∀ (M : Mem) (v : Int32), fX12_set M (nI n) 1 v = some (up2 M 1 (8 + 12 * n + 1) v) := fun M v => r_set M (o := 1) hn (by decide) v
  have s2 : ∀ (M : Mem) (v : Int32), fX12_set M (nI n) 2 v = some (up2 M 1 (8 + 12 * n + 2) v) := fun M v => r_set M (o := 2) hn (by decide) v
  have s3 : ∀ (M : Mem) (v : Int32), fX12_set M (nI n) 3 v = some (up2 M 1 (8 + 12 * n + 3) v) := fun M v => r_set M (o := 3) hn (by decide) v
  have s4 : ∀ (M : Mem) (v : Int32), fX12_set M (nI n) 4 v = some (up2 M 1 (8 + 12 * n + 4) v) := fun M v => r_set M (o := 4) hn (by decide) v
  have s5 : ∀ (M : Mem) (v : Int32), fX12_set M (nI n) 5 v = some (up2 M 1 (8 + 12 * n + 5) v) := fun M v => r_set M (o := 5) hn (by decide) v
  have hlast : ok (fX12_adds_s a b c d e g (nI n, nI 12, radd M n 12)) (fun y => ∃ r : Int32 × Mem, y = .inr r ∧ r.1 = nI n ∧ ∀ k f, r.2 k f = if k = 1 ∧ 8 + 12 * n ≤ f ∧ f < 8 + 12 * n + 12 then nfv a b c d e g (f - (8 + 12 * n)) else if k = 1 ∧ f = 0 then nI (n + 1) else M k f) := by
    unfold fX12_adds_s
    dsimp only
    rw [if_pos (by decide)]
    simp only [s0, s1, s2, s3, s4, s5, Option.bind_some]
    refine ok_some.mpr ⟨_, rfl, rfl, ?_⟩
    intro k f
    simp only [up2_at]
    by_cases f0 : k = 1 ∧ f = 0
    · rw [if_neg (show ¬ (k = 1 ∧ 8 + 12 * n ≤ f ∧ f < 8 + 12 * n + 12) by omega), if_pos f0, if_pos f0]
      have er0 : radd M n 12 1 0 = nI n := by unfold radd; rw [if_neg (by omega)]; exact hM
      have q0 : ∀ j, j < 6 → ¬ (0 = 8 + 12 * n + j) := fun j hj z => by omega
      simp only [q0 0 (by decide), q0 1 (by decide), q0 2 (by decide), q0 3 (by decide), q0 4 (by decide), q0 5 (by decide), and_false, if_false, er0, nI_1]
    · rw [if_neg f0]
      by_cases hf : k = 1 ∧ 8 + 12 * n ≤ f ∧ f < 8 + 12 * n + 12
      · rw [if_pos hf]
        obtain ⟨hk, hf1, hf2⟩ := hf
        subst hk
        obtain ⟨o, ho⟩ : ∃ o, f = 8 + 12 * n + o := ⟨f - (8 + 12 * n), by omega⟩
        subst ho
        have e1 : 8 + 12 * n + o - (8 + 12 * n) = o := by omega
        rw [e1]
        have q : ∀ j, (8 + 12 * n + o = 8 + 12 * n + j) = (o = j) := fun j => by rw [eq_iff_iff]; omega
        have er : radd M n 12 1 (8 + 12 * n + o) = 0 := by unfold radd; rw [if_pos ⟨rfl, hf1, hf2⟩]
        unfold nfv
        simp only [q, true_and, er]
        by_cases o0 : o = 0
        · subst o0; simp
        by_cases o1 : o = 1
        · subst o1; simp
        by_cases o2 : o = 2
        · subst o2; simp
        by_cases o3 : o = 3
        · subst o3; simp
        by_cases o4 : o = 4
        · subst o4; simp
        by_cases o5 : o = 5
        · subst o5; simp
        simp [o0, o1, o2, o3, o4, o5]
      · rw [if_neg hf, if_neg f0]
        have er : radd M n 12 k f = M k f := by unfold radd; rw [if_neg hf]
        have q : ∀ j, j < 6 → ¬ (k = 1 ∧ f = 8 + 12 * n + j) := fun j hj z => hf (by omega)
        rw [if_neg (q 5 (by decide)), if_neg (q 4 (by decide)), if_neg (q 3 (by decide)), if_neg (q 2 (by decide)), if_neg (q 1 (by decide)), if_neg (q 0 (by decide)), er]
  obtain ⟨y, hy, r, e1, hp⟩ := hlast
  subst e1
  refine ok_of (lp_up (fun t => (nI n, nI t, radd M n t)) 12 (fun t ht => ?_) hy) hp
  unfold fX12_adds_s
  dsimp only
  rw [if_neg (show ¬ (12 : Int32) ≤ nI t from nI_ge (b := 12) ht (by omega)), r_set _ hn ht]
  simp only [Option.bind_some]
  rw [radd_up, nI_1]
theorem co_add {N M : Mem} {b B n w : Nat} {L : Nat → Nat} (h : RC N M b B n w L) (hn : n < 8) {l d x y p c : Int32} (hl : RG 0 l) (hd : RG 1 d) (hx : RG 2 x) (hy : RG 3 y) (hp : RG 4 p) (hc : RG 5 c) (hl2 : isC l = true) : CO M (fX6_add N l d x y p c) (fX12_adds M l d x y p c) b B := by
  obtain ⟨⟨a1, a1', a1''⟩, a2, ⟨a3, lim, a31, a32, a33, a34⟩, a4, ⟨a51, a52, a53⟩, a6, ⟨a71, a72, a73⟩, ⟨a81, a82, a83⟩, ⟨k, h1, h2, h3⟩, ⟨q, c1, c2, c3, c4⟩⟩ := h
  obtain ⟨⟨r, N'⟩, g1, g2, g3⟩ := c_addN N a1' hn hl2 d x y p c
  obtain ⟨⟨r', M'⟩, g4, g5, g6⟩ := r_addsN M a1'' hn l d x y p c
  dsimp only at g2 g3 g5 g6
  have g2 : r = nI n := g2
  have g5 : r' = nI n := g5
  subst g2
  subst g5
  have f7 : ∀ f, 5 < f → nfv l d x y p c f = 0 := fun f hf => by
    unfold nfv
    rw [if_neg (by omega), if_neg (by omega), if_neg (by omega), if_neg (by omega), if_neg (by omega), if_neg (by omega)]
  have hrg : ∀ f, f < 7 → RG f (nfv l d x y p c f) := fun f hf => by
    rcases (show f = 0 ∨ f = 1 ∨ f = 2 ∨ f = 3 ∨ f = 4 ∨ f = 5 ∨ f = 6 by omega) with e | e | e | e | e | e | e <;> subst e
    · exact hl
    · exact hd
    · exact hx
    · exact hy
    · exact hp
    · exact hc
    · exact RG_60
  have eN : ∀ i f, i < n → vN N' i f = vN N i f := fun i f hi => by unfold vN; rw [g3, if_neg (by omega), if_neg (by omega)]
  have eN2 : ∀ f, f ≤ 9 → vN N' n f = nfv l d x y p c f := fun f hf => by unfold vN; rw [g3, if_pos ⟨rfl, hf⟩]
  have eM : ∀ i f, i < n → f ≤ 9 → vM M' i f = vM M i f := fun i f hi hf => by
    unfold vM
    rw [g6, if_neg (by split <;> omega), if_neg (by omega)]
  have eM2 : ∀ f, f ≤ 9 → vM M' n f = nfv l d x y p c f := fun f hf => by
    unfold vM
    rw [g6, if_pos (by split <;> omega)]
    by_cases c9 : f ≤ 7
    · rw [if_pos c9, Nat.add_sub_cancel_left]
    · rw [if_neg c9, Nat.add_sub_cancel_left, f7 _ (by omega), f7 _ (by omega)]
  have eT : ∀ i, i < n → tk M' i = tk M i := fun i hi => by unfold tk; rw [g6, if_neg (by omega), if_neg (by omega)]
  have eL : ∀ i, i < n → ls M' i = ls M i := fun i hi => by unfold ls; rw [g6, if_neg (by omega), if_neg (by omega)]
  have es : ∀ f, f ≠ 0 → (f < 8 ∨ 104 ≤ f) → M' 1 f = M 1 f := fun f h0 hf => by rw [g6, if_neg (by omega), if_neg (by omega)]
  have k0 : ∀ k g, ¬ (2 ≤ k ∧ k < 10) → ¬ (k = 0 ∧ g = 1) → N' k g = N k g := fun k g hk hg => by rw [g3, if_neg (by omega), if_neg hg]
  have m0 : vM M' n 6 = 0 := by rw [eM2 6 (by decide)]; exact f7 6 (by decide)
  refine ⟨nI n, N', M', g1, g4, fun k hk => by funext f; rw [g6, if_neg (fun z => hk z.1), if_neg (fun z => hk z.1)], n + 1, w, L, ⟨by omega, by rw [g3, if_neg (by omega), if_pos ⟨rfl, rfl⟩], by rw [g6, if_neg (by omega), if_pos ⟨rfl, rfl⟩]⟩, fun i hi f hf => ?_, ⟨by rw [k0 _ _ (by omega) (by omega), es _ (by omega) (by omega)]; exact a3, lim, a31, a32, by rw [k0 _ _ (by omega) (by omega)]; exact a33, by rw [es _ (by omega) (by omega)]; exact a34⟩, fun i hi => ?_, ⟨fun i hi f hf => ?_, fun i j hi hj q1 q2 q3 => ?_, fun i hi hm => ?_⟩, fun i hi hm => ?_, ⟨a71, by rw [k0 _ _ (by omega) (by omega)]; exact a72, fun j hj => by rw [k0 _ _ (by omega) (by omega)]; exact a73 j hj⟩, ⟨⟨fun j hj => by have := a81.1 j hj; omega, a81.2⟩, fun i hi => ?_, fun i j hij hj => ?_⟩, ⟨k, h1, by rw [es _ (by omega) (by omega)]; exact h2, fun j hj => ?_⟩, ⟨q, c1, by rw [k0 _ _ (by omega) (by omega)]; exact c2, by rw [es _ (by omega) (by omega)]; exact c3, fun z hz => ?_⟩⟩
  · by_cases e : i = n
    · subst e; rw [eN2 f hf, eM2 f hf]
    · rw [eN i f (by omega), eM i f (by omega) hf]; exact a2 i (by omega) f hf
  · rw [g3]
    by_cases e : i = n
    · subst e; rw [if_pos ⟨rfl, by decide⟩]; exact hl2
    · rw [if_neg (by omega), if_neg (by omega)]; exact a4 i hi
  · by_cases e : i = n
    · subst e; rw [eM2 f (by omega)]; exact hrg f hf
    · rw [eM i f (by omega) (by omega)]; exact a51 i (by omega) f hf
  · have i1 : i ≠ n := fun z => by rw [z, m0] at q1; exact absurd q1 (by decide)
    have j1 : j ≠ n := fun z => by rw [z, m0] at q2; exact absurd q2 (by decide)
    rw [eM i 6 (by omega) (by decide)] at q1
    rw [eM j 6 (by omega) (by decide)] at q2
    rw [eM i 5 (by omega) (by decide), eM j 5 (by omega) (by decide)] at q3
    exact a52 i j (by omega) (by omega) q1 q2 q3
  · have i1 : i ≠ n := fun z => by rw [z, m0] at hm; exact absurd hm (by decide)
    rw [eM i 6 (by omega) (by decide)] at hm
    obtain ⟨s, s1, s2, s3⟩ := a53 i (by omega) hm
    exact ⟨s, by omega, by rw [eM s 6 s1 (by decide)]; exact s2, by rw [eM s 5 s1 (by decide), eM i 5 (by omega) (by decide)]; exact s3⟩
  · have i1 : i ≠ n := fun z => by rw [z, m0] at hm; exact absurd hm (by decide)
    rw [eM i 6 (by omega) (by decide)] at hm
    obtain ⟨l, l1, l2, l3⟩ := a6 i (by omega) hm
    exact ⟨l, l1, by rw [eL i (by omega)]; exact l2, by rw [es _ (by omega) (by omega), eM i 7 (by omega) (by decide)]; exact l3⟩
  · by_cases e : i = n
    · subst e
      rw [m0]
      refine ⟨fun z => ?_, fun z => absurd z (by decide)⟩
      obtain ⟨j, hj, ej⟩ := of_decide_eq_true z
      have := a81.1 j hj
      omega
    · rw [eM i 6 (by omega) (by decide)]; exact a82 i (by omega)
  · rw [eT _ (a81.1 i (by omega)), eT _ (a81.1 j hj)]; exact a83 i j hij hj
  · rw [eT _ (a81.1 j hj)]; exact h3 j hj
  · rw [k0 _ _ (by omega) (by omega), k0 _ _ (by omega) (by omega), k0 _ _ (by omega) (by omega), es _ (by omega) (by omega), es _ (by omega) (by omega), es _ (by omega) (by omega)]
    exact c4 z hz
