/-! ===== the reference's reader, its primitives ===== -/
/-- the reader stands at Z.1, wrong or not, with the values Z.2.2 -/
def ST (M : Mem) (s : Nat → Int32) (len : Nat) (Z : PZ) : Prop := len ≤ 60 ∧ M 0 16 = nI len ∧ (∀ i, i < len → M 6 i = s i) ∧ M 0 17 = nI Z.1 ∧ Z.1 ≤ len ∧ M 0 19 = b2i Z.2.1 ∧ (Z.2.1 = false → ∀ j, j < Z.2.2.length → M 9 j = Z.2.2.getD j 0)
/-- what reading changes -/
def FR (M M' : Mem) : Prop := ∀ k f, k ≠ 9 → ¬ (k = 0 ∧ (f = 17 ∨ f = 19)) → M' k f = M k f
theorem FR.rfl' (M : Mem) : FR M M := fun _ _ _ _ => rfl
theorem FR.trans {M M1 M2 : Mem} (h : FR M M1) (g : FR M1 M2) : FR M M2 := fun k f a b => (g k f a b).trans (h k f a b)
def F9 (M M' : Mem) : Prop := ∀ k f, ¬ (k = 0 ∧ (f = 17 ∨ f = 19)) → M' k f = M k f
theorem F9.fr {M M' : Mem} (h : F9 M M') : FR M M' := fun k f _ b => h k f b
theorem r_mark {M : Mem} {s : Nat → Int32} {len : Nat} {Z : PZ} (h : ST M s len Z) : fX12_mark M = some (if Z.2.1 = true ∨ len ≤ Z.1 then -1 else s Z.1) := by
  obtain ⟨h1, h2, h3, h4, h5, h6, h7⟩ := h
  have e : (nI Z.1).toNatClampNeg = Z.1 := nI_clamp (by omega)
  unfold fX12_mark
  cases hz : Z.2.1 with
  | true =>
    rw [if_neg (show ¬ M 0 19 = 0 by rw [h6, hz]; decide), if_pos (Or.inl rfl)]
  | false =>
    rw [if_pos (show M 0 19 = 0 by rw [h6, hz]; rfl)]
    by_cases c : len ≤ Z.1
    · rw [if_pos (show M 0 16 ≤ M 0 17 by rw [h2, h4]; exact nI_le c (by omega)), if_pos (Or.inr c)]
    · rw [if_neg (show ¬ M 0 16 ≤ M 0 17 by rw [h2, h4]; exact nI_ge (by omega) (by omega)), if_neg (fun z => z.elim (fun y => by cases y) c), h4, gd_t (inb_nI (by omega) (by decide)), e, h3 _ (by omega)]
theorem or_0 (b : Bool) : b2i b ||| 0 = b2i b := by cases b <;> decide
theorem or_1 (b : Bool) : b2i b ||| 1 = 1 := by cases b <;> decide
/-- a state moved on -/
theorem ST_to {M : Mem} {s : Nat → Int32} {len : Nat} {Z : PZ} (h : ST M s len Z) {a : Nat} {wr : Bool} (ha : a ≤ len) (hw : wr = false → Z.2.1 = false) : ST (up2 (up2 M 0 19 (b2i wr)) 0 17 (nI a)) s len (a, wr, Z.2.2) := by
  obtain ⟨h1, h2, h3, h4, h5, h6, h7⟩ := h
  refine ⟨h1, by rw [up2_at, if_neg (by omega), up2_at, if_neg (by omega)]; exact h2, fun i hi => by rw [up2_at, if_neg (by omega), up2_at, if_neg (by omega)]; exact h3 i hi, by rw [up2_at, if_pos ⟨rfl, rfl⟩], ha, by rw [up2_at, if_neg (by omega), up2_at, if_pos ⟨rfl, rfl⟩], fun hz j hj => by rw [up2_at, if_neg (by omega), up2_at, if_neg (by omega)]; exact h7 (hw hz) j hj⟩
theorem F9_to (M : Mem) (x y : Int32) : F9 M (up2 (up2 M 0 19 x) 0 17 y) := fun k f h => by rw [up2_at, if_neg (by omega), up2_at, if_neg (by omega)]
theorem r_expect {M : Mem} {s : Nat → Int32} {len : Nat} {Z : PZ} (h : ST M s len Z) {c : Int32} (hc : c ≠ 68 ∧ c ≠ 76 ∧ c ≠ 78) (hm : c ≠ -1) : ∃ M', fX12_expect M c = some M' ∧ ST M' s len (pz s len Z c) ∧ F9 M M' := by
  have h' := h
  obtain ⟨h1, h2, h3, h4, h5, h6, h7⟩ := h
  have ecn : cntp s len c Z.1 = if len ≤ Z.1 then 0 else if s Z.1 = c then 1 else 0 := by
    unfold cntp
    rw [if_neg hc.1, if_neg hc.2.1, if_neg hc.2.2]
  have evp : valp s len c Z.1 = [] := by
    unfold valp
    rw [if_neg hc.1, if_neg hc.2.1, if_neg hc.2.2]
  have hz1 : isZ (M 0 19 ||| 1) = true := by rw [h6, or_1]; decide
  have hz0 : isZ (M 0 19 ||| 0) = true := by rw [h6, or_0]; exact b2i_z _
  unfold fX12_expect
  rw [r_mark h']
  simp only [Option.bind_some]
  have wrong : ∀ Z' : PZ, Z' = (Z.1, true, Z.2.2) → ∃ M', (gd (isZ ((M 0 19) ||| 1)) ((if ((up2 M 0 19 ((M 0 19) ||| 1)) 0 19) = 0 then some (up2 (up2 M 0 19 ((M 0 19) ||| 1)) 0 17 (((up2 M 0 19 ((M 0 19) ||| 1)) 0 17) + 1)) else some (up2 (up2 M 0 19 ((M 0 19) ||| 1)) 0 17 (((up2 M 0 19 ((M 0 19) ||| 1)) 0 17) + 0))))) = some M' ∧ ST M' s len Z' ∧ F9 M M' := fun Z' hZ' => by
    subst hZ'
    have e1 : up2 M 0 19 (M 0 19 ||| 1) 0 19 = 1 := by rw [up2_at, if_pos ⟨rfl, rfl⟩, h6, or_1]
    have e2 : up2 M 0 19 (M 0 19 ||| 1) 0 17 = nI Z.1 := by rw [up2_at, if_neg (by omega)]; exact h4
    rw [gd_t hz1, if_neg (by rw [e1]; decide), e2, Int32.add_zero, h6, or_1]
    exact ⟨_, rfl, ST_to h' (wr := true) h5 (fun z => by cases z), F9_to _ _ _⟩
  cases hz : Z.2.1 with
  | true =>
    rw [if_pos (Or.inl rfl), if_neg (Ne.symm hm)]
    refine wrong _ ?_
    unfold pz
    rw [if_pos hz]
    obtain ⟨z1, z2, z3⟩ := Z
    have hz : z2 = true := hz
    rw [hz]
  | false =>
    have epz : pz s len Z c = if cntp s len c Z.1 = 0 then (Z.1, true, Z.2.2) else (Z.1 + cntp s len c Z.1, false, Z.2.2 ++ valp s len c Z.1) := by
      unfold pz
      rw [if_neg (by rw [hz]; decide)]
    by_cases c0 : len ≤ Z.1
    · rw [if_pos (Or.inr c0), if_neg (Ne.symm hm)]
      refine wrong _ ?_
      rw [epz, ecn, if_pos c0, if_pos rfl]
    · have hcond : ¬ (false = true ∨ len ≤ Z.1) := fun z => z.elim (fun y => by cases y) c0
      rw [if_neg hcond]
      by_cases c1 : s Z.1 = c
      · have e1 : up2 M 0 19 (M 0 19 ||| 0) 0 19 = 0 := by rw [up2_at, if_pos ⟨rfl, rfl⟩, h6, or_0, hz]; rfl
        have e2 : up2 M 0 19 (M 0 19 ||| 0) 0 17 = nI Z.1 := by rw [up2_at, if_neg (by omega)]; exact h4
        rw [if_pos c1, gd_t hz0, if_pos e1, e2, nI_1, h6, or_0, hz]
        have eZ : pz s len Z c = (Z.1 + 1, false, Z.2.2) := by rw [epz, ecn, if_neg c0, if_pos c1, if_neg (by decide), evp, List.append_nil]
        rw [eZ]
        exact ⟨_, rfl, ST_to h' (wr := false) (by omega) (fun _ => hz), F9_to _ _ _⟩
      · rw [if_neg c1]
        refine wrong _ ?_
        rw [epz, ecn, if_neg c0, if_neg c1, if_pos rfl]
theorem in_dg {s : Nat → Int32} {len a : Nat} (h : a < len) : fX12_in (s a) 48 57 = some (b2i (dgB s len a)) := by
  unfold fX12_in dgB
  by_cases c1 : s a < 48
  · rw [if_pos c1, decide_eq_false (fun z => z.2.1 c1)]
    rfl
  · rw [if_neg c1]
    by_cases c2 : 57 < s a
    · rw [if_pos c2, decide_eq_false (fun z => z.2.2 c2)]
      rfl
    · rw [if_neg c2, decide_eq_true ⟨h, c1, c2⟩]
      rfl
theorem in_neg1 : fX12_in (-1) 48 57 = some 0 ∧ fX12_in (-1) 65 90 = some 0 := by decide +kernel
/-- is a digit here -/
theorem mark_dg {M : Mem} {s : Nat → Int32} {len : Nat} {Z : PZ} (h : ST M s len Z) : (fX12_mark M).bind (fun z8 => fX12_in z8 48 57) = some (b2i (!Z.2.1 && dgB s len Z.1)) := by
  rw [r_mark h]
  simp only [Option.bind_some]
  cases hz : Z.2.1 with
  | true => rw [if_pos (Or.inl rfl), in_neg1.1]; rfl
  | false =>
    by_cases c : len ≤ Z.1
    · have hd0 : dgB s len Z.1 = false := decide_eq_false (fun z => by have := z.1; omega)
      rw [if_pos (Or.inr c), in_neg1.1, hd0]
      rfl
    · have hcond : ¬ (false = true ∨ len ≤ Z.1) := fun z => z.elim (fun y => by cases y) c
      rw [if_neg hcond, in_dg (len := len) (by omega)]
      rfl
theorem mark_in {M : Mem} {α : Type} {s : Nat → Int32} {len : Nat} {Z : PZ} (h : ST M s len Z) (g : Int32 → Option α) : (fX12_mark M).bind (fun z8 => (fX12_in z8 48 57).bind g) = g (b2i (!Z.2.1 && dgB s len Z.1)) := by
  have e := mark_dg h
  rw [r_mark h] at e ⊢
  simp only [Option.bind_some] at e ⊢
  rw [e]
  rfl
/-- a number of m digits at most, m 1 or 2; c is its letter in the patterns -/
theorem r_number {M : Mem} {s : Nat → Int32} {len : Nat} {Z : PZ} (h : ST M s len Z) {m : Nat} {c : Int32} (hm : (m = 1 ∧ c = 68) ∨ (m = 2 ∧ c = 78)) :
    ∃ v M', fX12_number M (nI m) = some (v, M') ∧ ST M' s len ((pz s len Z c).1, (pz s len Z c).2.1, Z.2.2) ∧ F9 M M' ∧ ((pz s len Z c).2.1 = false → (pz s len Z c).2.2 = Z.2.2 ++ [v]) := by
  have h' := h
  obtain ⟨h1, h2, h3, h4, h5, h6, h7⟩ := h
  have hz1 : isZ (M 0 19 ||| 1) = true := by rw [h6, or_1]; decide
  have hz0 : isZ (M 0 19 ||| 0) = true := by rw [h6, or_0]; exact b2i_z _
  unfold fX12_number
  rw [mark_in h']
  have hm12 : m = 1 ∨ m = 2 := hm.elim (fun z => Or.inl z.1) (fun z => Or.inr z.1)
  have nle0 : ¬ nI m ≤ 0 := nI_nle (by omega) (by omega)
  have ecn0 : dgB s len Z.1 = false → cntp s len c Z.1 = 0 := fun hd => by
    unfold cntp
    rw [hd]
    rcases hm with ⟨_, hc⟩ | ⟨_, hc⟩
    · subst hc
      by_cases q : len ≤ Z.1
      · rw [if_pos q]
      · rw [if_neg q, if_pos rfl, if_neg (by decide)]
    · subst hc
      by_cases q : len ≤ Z.1
      · rw [if_pos q]
      · rw [if_neg q, if_neg (by decide), if_neg (by decide), if_pos rfl, if_neg (by decide)]
  cases hdd : (!Z.2.1 && dgB s len Z.1) with
  | false =>
    rw [b2i_f rfl, if_pos rfl, gd_t hz1, h6, or_1]
    have hS : ST (up2 (up2 M 0 19 (b2i true)) 0 17 (nI Z.1)) s len (Z.1, true, Z.2.2) := ST_to h' (wr := true) h5 (fun z => by cases z)
    have eM : up2 (up2 M 0 19 (b2i true)) 0 17 (nI Z.1) = up2 M 0 19 1 := by
      funext k f
      rw [up2_at]
      by_cases q : k = 0 ∧ f = 17
      · rw [if_pos q, up2_at, if_neg (by omega), q.1, q.2, h4]
      · rw [if_neg q]; rfl
    rw [eM] at hS
    have eZ : (pz s len Z c).1 = Z.1 ∧ (pz s len Z c).2.1 = true := by
      unfold pz
      cases hz : Z.2.1 with
      | true => rw [if_pos rfl]; exact ⟨rfl, hz⟩
      | false =>
        rw [hz] at hdd
        rw [if_neg (by decide), if_pos (ecn0 (by simpa using hdd))]
        exact ⟨rfl, rfl⟩
    refine ⟨0, up2 M 0 19 1, lp_inr ?_, by rw [eZ.1, eZ.2]; exact hS, fun k f hk => by rw [up2_at, if_neg (by omega)], fun z => by rw [eZ.2] at z; cases z⟩
    unfold fX12_number_s
    dsimp only
    rw [if_neg nle0, mark_in hS]
    rfl
  | true =>
    have hz : Z.2.1 = false := by
      cases q : Z.2.1 with
      | false => rfl
      | true => rw [q] at hdd; cases hdd
    have hd : dgB s len Z.1 = true := by rw [hz] at hdd; simpa using hdd
    have hlt : Z.1 < len := (of_decide_eq_true hd).1
    rw [b2i_t rfl, if_neg (by decide), gd_t hz0, h6, or_0, hz]
    -- the state at the number's first digit
    have hS0 : ST (up2 M 0 19 (b2i false)) s len Z := by
      refine ⟨h1, by rw [up2_at, if_neg (by omega)]; exact h2, fun i hi => by rw [up2_at, if_neg (by omega)]; exact h3 i hi, by rw [up2_at, if_neg (by omega)]; exact h4, h5, by rw [up2_at, if_pos ⟨rfl, rfl⟩, hz], fun hw j hj => by rw [up2_at, if_neg (by omega)]; exact h7 hw j hj⟩
    have f0 : F9 M (up2 M 0 19 (b2i false)) := fun k f hk => by rw [up2_at, if_neg (by omega)]
    generalize up2 M 0 19 (b2i false) = M0 at hS0 f0 ⊢
    have e17 : M0 0 17 = nI Z.1 := hS0.2.2.2.1
    have e6 : M0 6 Z.1 = s Z.1 := hS0.2.2.1 _ hlt
    have ecl : (nI Z.1).toNatClampNeg = Z.1 := nI_clamp (by omega)
    -- one digit read
    have hS1 : ST (up2 M0 0 17 (nI (Z.1 + 1))) s len (Z.1 + 1, false, Z.2.2) := by
      obtain ⟨g1, g2, g3, g4, g5, g6, g7⟩ := hS0
      refine ⟨g1, by rw [up2_at, if_neg (by omega)]; exact g2, fun i hi => by rw [up2_at, if_neg (by omega)]; exact g3 i hi, by rw [up2_at, if_pos ⟨rfl, rfl⟩], by show Z.1 + 1 ≤ len; omega, by rw [up2_at, if_neg (by omega), g6, hz], fun hw j hj => by rw [up2_at, if_neg (by omega)]; exact g7 hz j hj⟩
    have f1 : F9 M (up2 M0 0 17 (nI (Z.1 + 1))) := fun k f hk => by rw [up2_at, if_neg (by omega)]; exact f0 k f hk
    have step1 : fX12_number_s (nI m) (0, 0, M0) = some (.inl (s Z.1 - 48, nI 1, up2 M0 0 17 (nI (Z.1 + 1)))) := by
      unfold fX12_number_s
      dsimp only
      rw [if_neg nle0, mark_in hS0, hz, hd]
      rw [show b2i (!false && true) = 1 from rfl, if_neg (by decide), e17, gd_t (inb_nI (by omega) (by decide)), ecl, e6, nI_1]
      have : (10 : Int32) * 0 + s Z.1 - 48 = s Z.1 - 48 := by rw [Int32.mul_zero, Int32.zero_add]
      rw [this]
      rfl
    have epz : ∀ q, cntp s len c Z.1 = q → q ≠ 0 → pz s len Z c = (Z.1 + q, false, Z.2.2 ++ valp s len c Z.1) := fun q hq hq0 => by
      unfold pz
      rw [if_neg (by rw [hz]; decide), hq, if_neg hq0]
    rcases hm with ⟨hm1, hc⟩ | ⟨hm2, hc⟩
    · subst hm1
      subst hc
      have ec : cntp s len 68 Z.1 = 1 := by
        unfold cntp
        rw [if_neg (by omega), if_pos rfl, if_pos hd]
      have ev : valp s len 68 Z.1 = [s Z.1 - 48] := if_pos rfl
      rw [epz 1 ec (by decide), ev]
      refine ⟨s Z.1 - 48, _, (lp_inl step1).trans (lp_inr ?_), hS1, f1, fun _ => rfl⟩
      unfold fX12_number_s
      dsimp only
      rw [if_pos (Int32.le_refl _)]
    · subst hm2
      subst hc
      have ev : valp s len 78 Z.1 = [if dgB s len (Z.1 + 1) = true then 10 * (s Z.1 - 48) + s (Z.1 + 1) - 48 else s Z.1 - 48] := by
        unfold valp
        rw [if_neg (by decide), if_neg (by decide), if_pos rfl]
      cases hd2 : dgB s len (Z.1 + 1) with
      | false =>
        have ec : cntp s len 78 Z.1 = 1 := by
          unfold cntp
          rw [if_neg (by omega), if_neg (by decide), if_neg (by decide), if_pos rfl, if_pos hd, hd2]
          rfl
        rw [epz 1 ec (by decide), ev, hd2]
        refine ⟨s Z.1 - 48, _, (lp_inl step1).trans (lp_inr ?_), hS1, f1, fun _ => rfl⟩
        unfold fX12_number_s
        dsimp only
        rw [if_neg (by decide), mark_in hS1]
        rw [show b2i (!(Z.1 + 1, false, Z.2.2).2.1 && dgB s len (Z.1 + 1, false, Z.2.2).1) = b2i (dgB s len (Z.1 + 1)) from rfl, hd2]
        rfl
      | true =>
        have hlt2 : Z.1 + 1 < len := (of_decide_eq_true hd2).1
        have ec : cntp s len 78 Z.1 = 2 := by
          unfold cntp
          rw [if_neg (by omega), if_neg (by decide), if_neg (by decide), if_pos rfl, if_pos hd, hd2]
          rfl
        rw [epz 2 ec (by decide), ev, hd2]
        have hS2 : ST (up2 (up2 M0 0 17 (nI (Z.1 + 1))) 0 17 (nI (Z.1 + 2))) s len (Z.1 + 2, false, Z.2.2) := by
          obtain ⟨g1, g2, g3, g4, g5, g6, g7⟩ := hS1
          refine ⟨g1, by rw [up2_at, if_neg (by omega)]; exact g2, fun i hi => by rw [up2_at, if_neg (by omega)]; exact g3 i hi, by rw [up2_at, if_pos ⟨rfl, rfl⟩], by show Z.1 + 2 ≤ len; omega, by rw [up2_at, if_neg (by omega)]; exact g6, fun hw j hj => by rw [up2_at, if_neg (by omega)]; exact g7 rfl j hj⟩
        have ecl2 : (nI (Z.1 + 1)).toNatClampNeg = Z.1 + 1 := nI_clamp (by omega)
        have e17b : up2 M0 0 17 (nI (Z.1 + 1)) 0 17 = nI (Z.1 + 1) := by rw [up2_at, if_pos ⟨rfl, rfl⟩]
        have e6b : up2 M0 0 17 (nI (Z.1 + 1)) 6 (Z.1 + 1) = s (Z.1 + 1) := hS1.2.2.1 _ hlt2
        refine ⟨10 * (s Z.1 - 48) + s (Z.1 + 1) - 48, _, (lp_inl step1).trans ((lp_inl (s' := (10 * (s Z.1 - 48) + s (Z.1 + 1) - 48, nI 2, up2 (up2 M0 0 17 (nI (Z.1 + 1))) 0 17 (nI (Z.1 + 2)))) ?_).trans (lp_inr ?_)), hS2, fun k f hk => by rw [up2_at, if_neg (by omega)]; exact f1 k f hk, fun _ => rfl⟩
        · unfold fX12_number_s
          dsimp only
          rw [if_neg (by decide), mark_in hS1]
          rw [show b2i (!(Z.1 + 1, false, Z.2.2).2.1 && dgB s len (Z.1 + 1, false, Z.2.2).1) = b2i (dgB s len (Z.1 + 1)) from rfl, hd2, if_neg (by decide), e17b, gd_t (inb_nI (by omega) (by decide)), ecl2, e6b, nI_1, nI_1]
        · unfold fX12_number_s
          dsimp only
          rw [if_pos (by decide)]
theorem r_capital {M : Mem} {s : Nat → Int32} {len : Nat} {Z : PZ} (h : ST M s len Z) : ∃ v M', fX12_capital M = some (v, M') ∧ ST M' s len ((pz s len Z 76).1, (pz s len Z 76).2.1, Z.2.2) ∧ F9 M M' ∧ ((pz s len Z 76).2.1 = false → (pz s len Z 76).2.2 = Z.2.2 ++ [v]) := by
  have h' := h
  obtain ⟨h1, h2, h3, h4, h5, h6, h7⟩ := h
  have hz1 : isZ (M 0 19 ||| 1) = true := by rw [h6, or_1]; decide
  have hz0 : isZ (M 0 19 ||| 0) = true := by rw [h6, or_0]; exact b2i_z _
  have e1 : up2 M 0 19 (M 0 19 ||| 1) 0 19 = 1 := by rw [up2_at, if_pos ⟨rfl, rfl⟩, h6, or_1]
  have e2 : up2 M 0 19 (M 0 19 ||| 1) 0 17 = nI Z.1 := by rw [up2_at, if_neg (by omega)]; exact h4
  unfold fX12_capital
  rw [r_mark h']
  simp only [Option.bind_some]
  have ecn : cntp s len 76 Z.1 = if len ≤ Z.1 then 0 else if ltB s Z.1 = true then 1 else 0 := by
    unfold cntp
    rw [if_neg (show ¬ (76 : Int32) = 68 by decide), if_pos rfl]
  have evp : valp s len 76 Z.1 = [s Z.1] := by
    unfold valp
    rw [if_neg (by decide), if_pos rfl]
  cases hz : Z.2.1 with
  | true =>
    have eZ : pz s len Z 76 = Z := if_pos hz
    rw [if_pos (Or.inl rfl), in_neg1.2]
    simp only [Option.bind_some]
    rw [if_pos trivial, gd_t hz1, if_neg (by rw [e1]; decide), e2, Int32.add_zero, h6, or_1, eZ, hz]
    exact ⟨_, _, rfl, ST_to h' (wr := true) h5 (fun z => by cases z), F9_to _ _ _, fun z => by cases z⟩
  | false =>
    have epz : pz s len Z 76 = if cntp s len 76 Z.1 = 0 then (Z.1, true, Z.2.2) else (Z.1 + cntp s len 76 Z.1, false, Z.2.2 ++ valp s len 76 Z.1) := by
      unfold pz
      rw [if_neg (by rw [hz]; decide)]
    by_cases c0 : len ≤ Z.1
    · have eZ : pz s len Z 76 = (Z.1, true, Z.2.2) := by rw [epz, ecn, if_pos c0, if_pos rfl]
      rw [if_pos (Or.inr c0), in_neg1.2]
      simp only [Option.bind_some]
      rw [if_pos trivial, gd_t hz1, if_neg (by rw [e1]; decide), e2, Int32.add_zero, h6, or_1, eZ]
      exact ⟨_, _, rfl, ST_to h' (wr := true) h5 (fun z => by cases z), F9_to _ _ _, fun z => by cases z⟩
    · rw [if_neg (fun z => z.elim (fun y => by cases y) c0)]
      cases hl : ltB s Z.1 with
      | false =>
        have ein : fX12_in (s Z.1) 65 90 = some 0 := by
          unfold ltB at hl
          have := of_decide_eq_false hl
          unfold fX12_in
          by_cases q1 : s Z.1 < 65
          · rw [if_pos q1]
          · by_cases q2 : 90 < s Z.1
            · rw [if_neg q1, if_pos q2]
            · exact absurd ⟨q1, q2⟩ this
        have eZ : pz s len Z 76 = (Z.1, true, Z.2.2) := by rw [epz, ecn, if_neg c0, hl]; rfl
        rw [ein]
        simp only [Option.bind_some]
        rw [if_pos trivial, gd_t hz1, if_neg (by rw [e1]; decide), e2, Int32.add_zero, h6, or_1, eZ]
        exact ⟨_, _, rfl, ST_to h' (wr := true) h5 (fun z => by cases z), F9_to _ _ _, fun z => by cases z⟩
      | true =>
        have hb := of_decide_eq_true hl
        have ein : fX12_in (s Z.1) 65 90 = some 1 := by
          unfold fX12_in
          rw [if_neg hb.1, if_neg hb.2]
        have eZ : pz s len Z 76 = (Z.1 + 1, false, Z.2.2 ++ [s Z.1]) := by rw [epz, ecn, if_neg c0, hl, evp]; rfl
        have e1' : up2 M 0 19 (M 0 19 ||| 0) 0 19 = 0 := by rw [up2_at, if_pos ⟨rfl, rfl⟩, h6, or_0, hz]; rfl
        have e2' : up2 M 0 19 (M 0 19 ||| 0) 0 17 = nI Z.1 := by rw [up2_at, if_neg (by omega)]; exact h4
        rw [ein]
        simp only [Option.bind_some]
        rw [if_neg (by decide), gd_t hz0, if_pos e1', e2', nI_1, h6, or_0, hz, eZ]
        exact ⟨_, _, rfl, ST_to h' (wr := false) (by omega) (fun _ => hz), F9_to _ _ _, fun _ => rfl⟩
