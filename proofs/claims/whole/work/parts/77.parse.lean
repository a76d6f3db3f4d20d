/-! ===== a text read on both sides ===== -/
theorem isC_chEq {x : Int32} (h : isC x = true) : ch x = x := by
  have h1 : narrow .char (.int x) = .int x := isC_n h
  have h2 : x.toUInt32.toUInt16.toUInt32.toInt32 = x := Value.int.inj h1
  have h3 : x.toUInt32.toUInt16.toUInt32 = x.toUInt32 % 65536 := UInt32.toUInt32_toUInt16 x.toUInt32
  rw [h3] at h2
  exact h2
theorem nvl_cons (c : Int32) (l : List Int32) : nvl (c :: l) = (if (decide (c = 68) || (decide (c = 76) || decide (c = 78))) = true then 1 else 0) + nvl l := by
  unfold nvl
  rw [List.filter_cons]
  by_cases q : (decide (c = 68) || (decide (c = 76) || decide (c = 78))) = true
  · rw [if_pos q, if_pos q, List.length_cons]; omega
  · rw [if_neg q, if_neg q]; omega
theorem pzl_vl {s : Nat → Int32} {len : Nat} : ∀ (l : List Int32) (Z : PZ), (pzl s len l Z).2.1 = false → (pzl s len l Z).2.2.length = Z.2.2.length + nvl l := by
  intro l
  induction l with
  | nil => intro Z _; rfl
  | cons c l ih =>
    intro Z h
    rw [pzl_cons] at h ⊢
    have h1 : (pz s len Z c).2.1 = false := by
      cases q : (pz s len Z c).2.1 with
      | false => rfl
      | true => rw [pzl_wr s len l q, q] at h; cases h
    rw [ih _ h, (pz_vl h1).2, nvl_cons]
    omega
theorem KZ_vl {s : Nat → Int32} {len a κ : Nat} (h : (KZ s len a κ).2.1 = false) : (KZ s len a κ).2.2.length = nvl (patK κ) := by
  have := pzl_vl (patK κ) (a, false, []) h
  rw [show KZ s len a κ = pzl s len (patK κ) (a, false, []) from rfl, this]
  exact Nat.zero_add _
/-- what stands at a list's front stays there -/
theorem pzl_front {s : Nat → Int32} {len : Nat} : ∀ (l : List Int32) (Z : PZ) (j : Nat), j < Z.2.2.length → (pzl s len l Z).2.2.getD j 0 = Z.2.2.getD j 0 := by
  intro l
  induction l with
  | nil => intro Z j _; rfl
  | cons c l ih =>
    intro Z j hj
    rw [pzl_cons]
    have e : (pz s len Z c).2.2.getD j 0 = Z.2.2.getD j 0 ∧ j < (pz s len Z c).2.2.length := by
      unfold pz
      by_cases h1 : Z.2.1 = true
      · rw [if_pos h1]; exact ⟨rfl, hj⟩
      · rw [if_neg h1]
        by_cases h2 : cntp s len c Z.1 = 0
        · rw [if_pos h2]; exact ⟨rfl, hj⟩
        · rw [if_neg h2]
          refine ⟨?_, by rw [List.length_append]; omega⟩
          show (Z.2.2 ++ valp s len c Z.1).getD j 0 = _
          rw [List.getD_eq_getElem?_getD, List.getElem?_append_left hj, List.getD_eq_getElem?_getD]
    rw [ih _ j e.2, e.1]
/-- the first value of an adding command is a character of the text -/
theorem KZ_letter {s : Nat → Int32} {len a : Nat} (ha : a ≤ len) (h : (KZ s len a 0).2.1 = false) : ∃ x, x < len ∧ (KZ s len a 0).2.2.getD 0 0 = s x := by
  rw [KZ_split (by omega)] at h ⊢
  have hz : (ZW s len a 0).2.1 = false := by
    cases q : (ZW s len a 0).2.1 with
    | false => rfl
    | true => rw [pzl_wr s len _ q, q] at h; cases h
  have eZ : ZW s len a 0 = ((ZW s len a 0).1, false, []) := by rw [← ZW_vs s len a (κ := 0) (by omega), ← hz]
  have hp := ZW_le (s := s) ha 0
  rw [eZ] at h ⊢
  generalize (ZW s len a 0).1 = p at h hp ⊢
  have e1 : pzl s len (rsK 0) (p, false, []) = pzl s len [68, 32, 78, 44, 78, 32, 78, 32, 68] (pz s len (pz s len (p, false, []) 32) 76) := rfl
  rw [e1] at h ⊢
  rw [pz_lit (show lit 32 by unfold lit; decide)] at h ⊢
  by_cases q : p < len ∧ s p = 32
  · rw [if_pos q] at h ⊢
    have ecn : cntp s len 76 (p + 1) = if len ≤ p + 1 then 0 else if ltB s (p + 1) = true then 1 else 0 := by
      unfold cntp
      rw [if_neg (show ¬ (76 : Int32) = 68 by decide), if_pos rfl]
    have evp : valp s len 76 (p + 1) = [s (p + 1)] := by
      unfold valp
      rw [if_neg (by decide), if_pos rfl]
    have epz : pz s len (p + 1, false, []) 76 = if cntp s len 76 (p + 1) = 0 then (p + 1, true, []) else (p + 1 + cntp s len 76 (p + 1), false, [s (p + 1)]) := by
      unfold pz
      rw [if_neg (show ¬ (false = true) by decide), evp]
      rfl
    rw [epz] at h ⊢
    by_cases c0 : cntp s len 76 (p + 1) = 0
    · rw [if_pos c0, pzl_wr s len _ (Z := (p + 1, true, [])) rfl] at h
      cases h
    · rw [if_neg c0]
      refine ⟨p + 1, ?_, ?_⟩
      · by_cases g : len ≤ p + 1
        · rw [ecn, if_pos g] at c0; exact absurd rfl c0
        · omega
      · rw [pzl_front [68, 32, 78, 44, 78, 32, 78, 32, 68] (p + 1 + cntp s len 76 (p + 1), false, [s (p + 1)]) 0 (by simp)]
        rfl
  · rw [if_neg q] at h
    have e2 : pz s len (p, true, []) 76 = (p, true, []) := rfl
    rw [e2, pzl_wr s len _ (Z := (p, true, [])) rfl] at h
    cases h
/-- command k on both sides -/
def CM (P M : Mem) (k : Nat) : Prop := ∃ κ, κ < 10 ∧ P (3 + 2 * k) 0 = nI κ ∧ M 7 k = nI (min κ 8) ∧ (∀ j, j < nvl (patK κ) → P (3 + 2 * k + 1) j = M 8 (6 * k + j)) ∧ (κ = 8 → M 8 (6 * k) = 1) ∧ (κ = 0 → ch (M 8 (6 * k)) = M 8 (6 * k))
theorem okE_ge {s : Nat → Int32} {len a κ : Nat} (hκ : κ < 10) (h : okE s len (KZ s len a κ)) : a + 4 ≤ (KZ s len a κ).1 := by
  have h1 := h.1
  rw [KZ_split hκ] at h1 ⊢
  have hz : (ZW s len a κ).2.1 = false := by
    cases q : (ZW s len a κ).2.1 with
    | false => rfl
    | true => rw [pzl_wr s len _ q, q] at h1; cases h1
  have g := (ZW_full hκ hz).1
  have m := pzl_mono s len (rsK κ) (ZW s len a κ)
  have wl : 4 ≤ (wdK κ).length := by
    by_cases c : κ = 9
    · subst c; decide
    · exact (wd_len ⟨κ, by omega⟩).1
  omega
theorem parse_both {s : Nat → Int32} {len : Nat} (hs : ∀ i, i < len → isC (s i) = true) : ∀ d c, c + d = 13 → ∀ (P M : Mem) (a : Nat) (vs : List Int32), PX P s len → P 0 3 = nI c → ST M s len (a, false, vs) → M 0 18 = nI c → 5 * c ≤ a → (∀ k, k < c → CM P M k) →
    ∃ e P' M', lp fX7_parse_s (nI a, P) = some (e, P') ∧ ((fX12_command M).bind fun z => lp fX12_parse_s z) = some M' ∧ (P' 0 1 = P 0 1 ∧ ∀ i, P' 1 i = P 1 i) ∧ (∀ k f, ¬ (k = 0 ∧ 16 ≤ f ∧ f ≤ 19) → k ≠ 7 → k ≠ 8 → k ≠ 9 → M' k f = M k f) ∧
      ((e = -1 ∧ M' 0 19 = 0 ∧ ∃ c', c' ≤ 13 ∧ P' 0 3 = nI c' ∧ M' 0 18 = nI c' ∧ ∀ k, k < c' → CM P' M' k) ∨ (∃ p, p ≤ 60 ∧ e = nI p ∧ M' 0 19 = 1 ∧ M' 0 17 = nI p)) := by
  intro d
  induction d with
  | zero =>
    intro c hc P M a vs hP _ hS _ h5 _
    have h1 := hP.1
    have h2 : a ≤ len := hS.2.2.2.2.1
    omega
  | succ d ih =>
    intro c hc P M a vs hP hP3 hS hM18 h5 hCM
    have h60 := hP.1
    have ha : a ≤ len := hS.2.2.2.2.1
    have hk : cmdk (3 + 2 * c) = true := decide_eq_true (by omega)
    have ec : (nI c).toNatClampNeg = c := nI_clamp (by omega)
    obtain ⟨e, P1, r1, r2, r3⟩ := c_readCommand hP hk ha
    obtain ⟨M1, q1, q2, q3⟩ := r_command hS (show c < 13 by omega) hM18
    have hP1 := hP.fk (by omega) r2
    have p3 : P1 0 3 = nI c := by rw [r2 0 3 (by omega) (by omega) (by omega)]; exact hP3
    have frM : ∀ k f, ¬ (k = 0 ∧ 16 ≤ f ∧ f ≤ 19) → k ≠ 7 → k ≠ 8 → k ≠ 9 → M1 k f = M k f := fun k f a1 a2 a3 a4 => q2 k f a4 (by omega) (by omega) (by omega)
    have step : fX7_parse_s (nI a, P) = (if 0 ≤ e then (if e < (up2 P1 0 3 (nI (c + 1))) 0 1 then some (.inl (e + 1, up2 P1 0 3 (nI (c + 1)))) else some (.inr (-1, up2 P1 0 3 (nI (c + 1))))) else some (.inr (P1 0 4, P1))) := by
      unfold fX7_parse_s
      dsimp only
      rw [if_neg (show ¬ (13 : Int32) ≤ P 0 3 by rw [hP3]; exact nI_ge (b := 13) (by omega) (by omega)), hP3, gd_t (inb_nI (by omega) (by decide)), ec, r1]
      simp only [Option.bind_some]
      rw [p3, nI_1]
    have k1 : up2 P1 0 3 (nI (c + 1)) 0 1 = nI len := by rw [up2_at, if_neg (by omega)]; exact hP1.2.1
    rw [q1]
    simp only [Option.bind_some]
    rcases r3 with ⟨κ, κ1, κ2, κ3, κ4, κ5, κ6⟩ | ⟨n1, n2, n3⟩
    · rcases q3 with ⟨κ', g1, g2, g3, g4, g5, g6, g7, g8⟩ | ⟨m1, _⟩
      · have eκ : κ = κ' := by
          rcases Nat.lt_trichotomy κ κ' with z | z | z
          · exact absurd κ2 (g3 κ z)
          · exact z
          · exact absurd g2 (κ3 κ' z)
        subst eκ
        have hE := okE_ge κ1 κ2
        have hEl := KZ_len (s := s) ha κ
        have hv6 : nvl (patK κ) ≤ 6 := pat_nv ⟨κ, κ1⟩
        have hvl := KZ_vl κ2.1
        have hnew : ∀ (P2 M2 : Mem), (∀ f, P2 (3 + 2 * c) f = P1 (3 + 2 * c) f) → (∀ f, P2 (3 + 2 * c + 1) f = P1 (3 + 2 * c + 1) f) → (∀ f, M2 7 f = M1 7 f) → (∀ f, M2 8 f = M1 8 f) → CM P2 M2 c := fun P2 M2 a1 a2 a3 a4 => by
          refine ⟨κ, κ1, by rw [a1]; exact κ5, by rw [a3]; exact g6, fun j hj => ?_, fun z => by rw [a4]; exact g8 z, fun z => ?_⟩
          · rw [a2, a4, κ6.2 j (by omega), g7 j (by omega) (by omega)]
          · subst z
            obtain ⟨x, hx, ex⟩ := KZ_letter ha κ2.1
            have := g7 0 (by decide) (by rw [hvl]; decide)
            rw [a4, show 6 * c = 6 * c + 0 from rfl, this, ex]
            exact isC_chEq (hs x hx)
        have hold : ∀ (P2 M2 : Mem), (∀ k f, k ≠ 0 → P2 k f = P1 k f) → (∀ f, M2 7 f = M1 7 f) → (∀ f, M2 8 f = M1 8 f) → ∀ k, k < c → CM P2 M2 k := fun P2 M2 a1 a3 a4 k hkc => by
          obtain ⟨κ', b1, b2, b3, b4, b5, b6⟩ := hCM k hkc
          have u1 : ∀ f, P2 (3 + 2 * k) f = P (3 + 2 * k) f := fun f => by rw [a1 _ _ (by omega)]; exact r2 _ _ (by omega) (by omega) (by omega)
          have u2 : ∀ f, P2 (3 + 2 * k + 1) f = P (3 + 2 * k + 1) f := fun f => by rw [a1 _ _ (by omega)]; exact r2 _ _ (by omega) (by omega) (by omega)
          have u3 : M2 7 k = M 7 k := by rw [a3]; exact q2 7 k (by omega) (by omega) (by omega) (by omega)
          have u4 : ∀ j, j < 6 → M2 8 (6 * k + j) = M 8 (6 * k + j) := fun j hj => by rw [a4]; exact q2 8 _ (by omega) (by omega) (by omega) (by omega)
          have hv6' : nvl (patK κ') ≤ 6 := pat_nv ⟨κ', b1⟩
          exact ⟨κ', b1, by rw [u1]; exact b2, by rw [u3]; exact b3, fun j hj => by rw [u2, u4 j (by omega)]; exact b4 j hj, fun z => by rw [show 6 * k = 6 * k + 0 from rfl, u4 0 (by decide)]; exact b5 z, fun z => by rw [show 6 * k = 6 * k + 0 from rfl, u4 0 (by decide)]; exact b6 z⟩
        by_cases hend : len ≤ (KZ s len a κ).1
        · -- the text's end
          have hmk := r_mark g4
          rw [if_pos (Or.inr hend)] at hmk
          have e16 : M1 0 16 ≤ M1 0 17 := by rw [g4.2.1, g4.2.2.2.1]; exact nI_le hend (by omega)
          have e19 : M1 0 19 = 0 := by rw [g4.2.2.2.2.2.1, g2.1]; rfl
          refine ⟨-1, up2 P1 0 3 (nI (c + 1)), up2 M1 0 19 0, lp_inr ?_, lp_inr ?_, ⟨?_, fun i => ?_⟩, fun k f a1 a2 a3 a4 => ?_, Or.inl ⟨rfl, by rw [up2_at, if_pos ⟨rfl, rfl⟩], c + 1, by omega, by rw [up2_at, if_pos ⟨rfl, rfl⟩], by rw [up2_at, if_neg (by omega)]; exact g5, fun k hkc => ?_⟩⟩
          · rw [step, κ4, if_pos (nI_0le (by omega)), if_neg (by rw [k1]; exact nI_nlt hend (by omega))]
          · unfold fX12_parse_s
            rw [hmk]
            simp only [Option.bind_some]
            rw [if_neg (by decide), if_pos e16, e19]
            rfl
          · rw [k1, hP.2.1]
          · rw [up2_at, if_neg (by omega)]
            exact r2 1 i (by omega) (by omega) (by omega)
          · rw [up2_at, if_neg (by omega)]
            exact frM k f a1 a2 a3 a4
          · by_cases q : k = c
            · subst q
              exact hnew _ _ (fun f => by rw [up2_at, if_neg (by omega)]) (fun f => by rw [up2_at, if_neg (by omega)]) (fun f => by rw [up2_at, if_neg (by omega)]) (fun f => by rw [up2_at, if_neg (by omega)])
            · exact hold _ _ (fun k f hk0 => by rw [up2_at, if_neg (by omega)]) (fun f => by rw [up2_at, if_neg (by omega)]) (fun f => by rw [up2_at, if_neg (by omega)]) k (by omega)
        · -- another command
          have h59 : s (KZ s len a κ).1 = 59 := κ2.2.resolve_left hend
          have hmk := r_mark g4
          have hcond : ¬ ((KZ s len a κ).2.1 = true ∨ len ≤ (KZ s len a κ).1) := fun z => z.elim (fun y => by rw [κ2.1] at y; cases y) hend
          rw [if_neg hcond, h59] at hmk
          have hP2 : PX (up2 P1 0 3 (nI (c + 1))) s len := ⟨hP1.1, k1, fun i hi => by rw [up2_at, if_neg (by omega)]; exact hP1.2.2 i hi⟩
          have hS2 : ST (up2 M1 0 17 (nI ((KZ s len a κ).1 + 1))) s len ((KZ s len a κ).1 + 1, false, []) := by
            obtain ⟨y1, y2, y3, y4, y5, y6, y7⟩ := g4
            exact ⟨y1, by rw [up2_at, if_neg (by omega)]; exact y2, fun i hi => by rw [up2_at, if_neg (by omega)]; exact y3 i hi, by rw [up2_at, if_pos ⟨rfl, rfl⟩], by show (KZ s len a κ).1 + 1 ≤ len; omega, by rw [up2_at, if_neg (by omega), y6, κ2.1], fun _ j hj => absurd hj (Nat.not_lt_zero j)⟩
          obtain ⟨e', P', M', t1, t2, t3, t4, t5⟩ := ih (c + 1) (by omega) (up2 P1 0 3 (nI (c + 1))) (up2 M1 0 17 (nI ((KZ s len a κ).1 + 1))) ((KZ s len a κ).1 + 1) [] hP2 (by rw [up2_at, if_pos ⟨rfl, rfl⟩]) hS2 (by rw [up2_at, if_neg (by omega)]; exact g5) (by omega) (fun k hkc => by
            by_cases q : k = c
            · subst q
              exact hnew _ _ (fun f => by rw [up2_at, if_neg (by omega)]) (fun f => by rw [up2_at, if_neg (by omega)]) (fun f => by rw [up2_at, if_neg (by omega)]) (fun f => by rw [up2_at, if_neg (by omega)])
            · exact hold _ _ (fun k f hk0 => by rw [up2_at, if_neg (by omega)]) (fun f => by rw [up2_at, if_neg (by omega)]) (fun f => by rw [up2_at, if_neg (by omega)]) k (by omega))
          obtain ⟨M2, u1, u2⟩ := br_some t2
          refine ⟨e', P', M', ?_, ?_, ⟨?_, fun i => ?_⟩, fun k f a1 a2 a3 a4 => ?_, t5⟩
          · rw [lp_inl (s' := (nI ((KZ s len a κ).1 + 1), up2 P1 0 3 (nI (c + 1))))]
            · exact t1
            · rw [step, κ4, if_pos (nI_0le (by omega)), if_pos (by rw [k1]; exact nI_lt (by omega) (by omega)), nI_1]
          · rw [lp_inl (s' := M2)]
            · exact u2
            · unfold fX12_parse_s
              rw [hmk]
              simp only [Option.bind_some]
              rw [if_pos trivial, g4.2.2.2.1, nI_1, u1]
              rfl
          · rw [t3.1, k1, hP.2.1]
          · rw [t3.2 i, up2_at, if_neg (by omega)]
            exact r2 1 i (by omega) (by omega) (by omega)
          · rw [t4 k f a1 a2 a3 a4, up2_at, if_neg (by omega)]
            exact frM k f a1 a2 a3 a4
      · exact absurd κ2 (m1 κ κ1)
    · rcases q3 with ⟨κ', g1, g2, _⟩ | ⟨m1, Z, z1, z2, z3⟩
      · exact absurd g2 (n1 κ' g1)
      · have hml := mxK_len (s := s) ha 10
        have hmk := r_mark z1
        have hne : ¬ (if Z.2.1 = true ∨ len ≤ Z.1 then (-1 : Int32) else s Z.1) = 59 := by
          by_cases q : Z.2.1 = true ∨ len ≤ Z.1
          · rw [if_pos q]; decide
          · rw [if_neg q]
            rcases z3 with z | z
            · exact absurd (Or.inl z) q
            · exact z.2
        have hM' : fX12_parse_s M1 = some (.inr (up2 M1 0 19 1)) := by
          unfold fX12_parse_s
          rw [hmk]
          simp only [Option.bind_some]
          rw [if_neg hne]
          by_cases q : len ≤ Z.1
          · have hw : Z.2.1 = true := z3.resolve_right (fun z => by omega)
            rw [if_pos (show M1 0 16 ≤ M1 0 17 by rw [z1.2.1, z1.2.2.2.1]; exact nI_le q (by omega)), z1.2.2.2.2.2.1, or_0, hw, gd_t (by decide)]
            rfl
          · rw [if_neg (show ¬ M1 0 16 ≤ M1 0 17 by rw [z1.2.1, z1.2.2.2.1]; exact nI_ge (by omega) (by omega)), z1.2.2.2.2.2.1, or_1, gd_t (by decide)]
        refine ⟨nI (mxK s len a 10), P1, up2 M1 0 19 1, lp_inr ?_, lp_inr hM', ⟨r2 0 1 (by omega) (by omega) (by omega), fun i => r2 1 i (by omega) (by omega) (by omega)⟩, fun k f a1 a2 a3 a4 => by rw [up2_at, if_neg (by omega)]; exact frM k f a1 a2 a3 a4, Or.inr ⟨mxK s len a 10, by omega, rfl, by rw [up2_at, if_pos ⟨rfl, rfl⟩], by rw [up2_at, if_neg (by omega), z1.2.2.2.1, z2]⟩⟩
        rw [step, n2, if_neg (by decide), n3]
