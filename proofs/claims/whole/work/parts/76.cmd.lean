/-! ===== a command read on both sides ===== -/
theorem KZ_split {s : Nat → Int32} {len a κ : Nat} (h : κ < 10) : KZ s len a κ = pzl s len (rsK κ) (ZW s len a κ) := by
  unfold KZ ZW
  rw [pat_split ⟨κ, h⟩, pzl_app]
theorem KZ_wr {s : Nat → Int32} {len a κ : Nat} (h : κ < 10) (hz : (ZW s len a κ).2.1 = true) : KZ s len a κ = ZW s len a κ := by rw [KZ_split h, pzl_wr s len _ hz]
theorem ZW_9 (s : Nat → Int32) (len a : Nat) : ZW s len a 9 = ZW s len a 8 := rfl
theorem mxK_le {s : Nat → Int32} {len a q : Nat} (ha : a ≤ q) : ∀ m, (∀ κ, κ < m → (KZ s len a κ).1 ≤ q) → mxK s len a m ≤ q := by
  intro m
  induction m with
  | zero => intro _; exact ha
  | succ m ih =>
    intro h
    have h1 := ih (fun κ hκ => h κ (by omega))
    have h2 := h m (by omega)
    show max (mxK s len a m) (KZ s len a m).1 ≤ q
    omega
theorem mxK_ge {s : Nat → Int32} {len a κ0 : Nat} : ∀ m, κ0 < m → (KZ s len a κ0).1 ≤ mxK s len a m := by
  intro m
  induction m with
  | zero => intro h; omega
  | succ m ih =>
    intro h
    show _ ≤ max (mxK s len a m) (KZ s len a m).1
    by_cases e : κ0 = m
    · subst e; omega
    · have := ih (by omega)
      omega
theorem mxK_eq {s : Nat → Int32} {len a κ0 : Nat} (h0 : κ0 < 10) (h : ∀ κ, κ < 10 → (KZ s len a κ).1 ≤ (KZ s len a κ0).1) : mxK s len a 10 = (KZ s len a κ0).1 := by
  have h1 := mxK_le (s := s) (len := len) (a := a) (q := (KZ s len a κ0).1) (pzl_mono s len (patK κ0) (a, false, [])) 10 h
  have h2 := mxK_ge (s := s) (len := len) (a := a) (κ0 := κ0) 10 h0
  omega
theorem mxK_lgW {s : Nat → Int32} {len a : Nat} (h : ∀ κ, κ < 9 → (ZW s len a κ).2.1 = true) : mxK s len a 10 = a + lgW s len a 9 := by
  have key : ∀ m, m ≤ 9 → mxK s len a m = a + lgW s len a m := by
    intro m
    induction m with
    | zero => intro _; rfl
    | succ m ih =>
      intro hm
      have h1 := ih (by omega)
      have h2 := ZW_ge s len a m
      show max (mxK s len a m) (KZ s len a m).1 = a + max (lgW s len a m) ((ZW s len a m).1 - a)
      rw [h1, KZ_wr (by omega) (h m (by omega))]
      omega
  have h9 := key 9 (by omega)
  have e9 : KZ s len a 9 = ZW s len a 8 := KZ_wr (κ := 9) (by omega) (h 8 (by omega))
  have g := ZW_ge s len a 8
  have l8 : (ZW s len a 8).1 - a ≤ lgW s len a 9 := Nat.le_max_right _ _
  show max (mxK s len a 9) (KZ s len a 9).1 = _
  rw [h9, e9]
  omega
/-- the reference's side of a command read -/
def RCMD (M M' : Mem) (s : Nat → Int32) (len a c : Nat) : Prop :=
  (∃ κ, κ < 10 ∧ okE s len (KZ s len a κ) ∧ (∀ κ', κ' < κ → ¬ okE s len (KZ s len a κ')) ∧ ST M' s len (KZ s len a κ) ∧ M' 0 18 = nI (c + 1) ∧ M' 7 c = nI (min κ 8) ∧ (∀ j, j < 6 → j < (KZ s len a κ).2.2.length → M' 8 (6 * c + j) = (KZ s len a κ).2.2.getD j 0) ∧ (κ = 8 → M' 8 (6 * c) = 1)) ∨
  ((∀ κ, κ < 10 → ¬ okE s len (KZ s len a κ)) ∧ ∃ Z, ST M' s len Z ∧ Z.1 = mxK s len a 10 ∧ (Z.2.1 = true ∨ (Z.1 < len ∧ s Z.1 ≠ 59)))
theorem nok {s : Nat → Int32} {len : Nat} {Z : PZ} (h : ¬ okE s len Z) : Z.2.1 = true ∨ (Z.1 < len ∧ s Z.1 ≠ 59) := by
  cases hz : Z.2.1 with
  | true => exact Or.inl rfl
  | false =>
    right
    by_cases c : len ≤ Z.1
    · exact absurd ⟨hz, Or.inl c⟩ h
    · exact ⟨by omega, fun z => h ⟨hz, Or.inr z⟩⟩
theorem r_command {M : Mem} {s : Nat → Int32} {len a : Nat} {vs : List Int32} (h : ST M s len (a, false, vs)) {c : Nat} (hc : c < 13) (h18 : M 0 18 = nI c) : ∃ M', fX12_command M = some M' ∧ FC8 M M' c ∧ RCMD M M' s len a c := by
  have h60 := h.1
  have hle : a ≤ len := h.2.2.2.2.1
  unfold fX12_command
  rcases r_word h with ⟨κ0, hκ0, hz, ew⟩ | ⟨hall, ew⟩
  · -- a word is there
    have hp := ZW_le (s := s) hle κ0
    have hvs := ZW_vs s len a (show κ0 < 10 by omega)
    have hS1 : ST (up2 (up2 M 0 17 (nI (ZW s len a κ0).1)) 9 0 1) s len (ZW s len a κ0) := by
      obtain ⟨g1, g2, g3, g4, g5, g6, g7⟩ := h
      refine ⟨g1, by rw [up2_at, if_neg (by omega), up2_at, if_neg (by omega)]; exact g2, fun i hi => by rw [up2_at, if_neg (by omega), up2_at, if_neg (by omega)]; exact g3 i hi, by rw [up2_at, if_neg (by omega), up2_at, if_pos ⟨rfl, rfl⟩], hp, by rw [up2_at, if_neg (by omega), up2_at, if_neg (by omega), hz]; exact g6, fun _ j hj => by rw [hvs] at hj; exact absurd hj (Nat.not_lt_zero j)⟩
    have f1 : FC8 M (up2 (up2 M 0 17 (nI (ZW s len a κ0).1)) 9 0 1) c := fun k f a1 a2 _ _ => by rw [up2_at, if_neg (by omega), up2_at, if_neg (by omega)]
    have k18 : up2 (up2 M 0 17 (nI (ZW s len a κ0).1)) 9 0 1 0 18 = nI c := by rw [up2_at, if_neg (by omega), up2_at, if_neg (by omega)]; exact h18
    have k9 : up2 (up2 M 0 17 (nI (ZW s len a κ0).1)) 9 0 1 9 0 = 1 := by rw [up2_at, if_pos ⟨rfl, rfl⟩]
    rw [ew]
    simp only [Option.bind_some]
    generalize up2 (up2 M 0 17 (nI (ZW s len a κ0).1)) 9 0 1 = M1 at hS1 f1 k18 k9 ⊢
    have hl0 : (ZW s len a κ0).2.1 = false → (ZW s len a κ0).2.2.length = 0 := fun _ => by rw [hvs]; rfl
    -- the other words
    have oth : ∀ κ, κ < 9 → κ ≠ κ0 → (ZW s len a κ).2.1 = true ∧ (ZW s len a κ).1 < (ZW s len a κ0).1 := fun κ h1 h2 => ZW_other h1 hκ0 h2 hz
    have fr8 : ∀ M', FC8 M1 M' c → FC8 M M' c := fun M' hf k f a1 a2 a3 a4 => (hf k f a1 a2 a3 a4).trans (f1 k f a1 a2 a3 a4)
    by_cases h8 : κ0 < 8
    · have kin : ∃ M', ((fX12_expect M1 32).bind fun z44 => fX12_command_j33 (nI κ0) z44) = some M' ∧ RSP M1 M' s len c κ0 (pzl s len (rsK κ0) (ZW s len a κ0)) := by
        rcases (show κ0 = 0 ∨ κ0 = 1 ∨ κ0 = 2 ∨ κ0 = 3 ∨ κ0 = 4 ∨ κ0 = 5 ∨ κ0 = 6 ∨ κ0 = 7 by omega) with e | e | e | e | e | e | e | e <;> subst e
        · exact r_kind0 hS1 hl0 hc k18
        · exact r_kind1 hS1 hl0 hc k18
        · exact r_kind2 hS1 hl0 hc k18
        · exact r_kind3 hS1 hl0 hc k18
        · exact r_kind4 hS1 hl0 hc k18
        · exact r_kind5 hS1 hl0 hc k18
        · exact r_kind6 hS1 hl0 hc k18
        · exact r_kind7 hS1 hl0 hc k18
      obtain ⟨M', e1, e2, e3, e4⟩ := kin
      rw [← KZ_split (by omega)] at e2 e4
      have hK0 : (ZW s len a κ0).1 ≤ (KZ s len a κ0).1 := by rw [KZ_split (by omega)]; exact pzl_mono s len _ _
      have wr : ∀ κ, κ < 10 → κ ≠ κ0 → (KZ s len a κ).2.1 = true ∧ (KZ s len a κ).1 < (ZW s len a κ0).1 := fun κ h1 h2 => by
        by_cases q : κ = 9
        · subst q
          have o := oth 8 (by omega) (by omega)
          rw [KZ_wr (κ := 9) (by omega) o.1]
          exact o
        · have o := oth κ (by omega) h2
          rw [KZ_wr h1 o.1]
          exact o
      refine ⟨M', ?_, fr8 M' e3, ?_⟩
      · rw [if_pos (show nI κ0 < (8 : Int32) from nI_lt (b := 8) h8 (by omega))]
        exact e1
      · by_cases hok : okE s len (KZ s len a κ0)
        · obtain ⟨g1, g2, g3⟩ := e4 hok.1
          refine Or.inl ⟨κ0, by omega, hok, fun κ' hκ' ho => ?_, e2, g1, by rw [g2, Nat.min_eq_left (by omega)], g3, fun z => by omega⟩
          have := (wr κ' (by omega) (by omega)).1
          rw [ho.1] at this
          cases this
        · refine Or.inr ⟨fun κ hκ ho => ?_, KZ s len a κ0, e2, (mxK_eq (by omega) (fun κ hκ => ?_)).symm, nok hok⟩
          · by_cases q : κ = κ0
            · subst q; exact hok ho
            · have := (wr κ hκ q).1
              rw [ho.1] at this
              cases this
          · by_cases q : κ = κ0
            · subst q; exact Nat.le_refl _
            · have := (wr κ hκ q).2
              omega
    · have e8 : κ0 = 8 := by omega
      subst e8
      obtain ⟨w1, w2⟩ := ZW_full (show 8 < 10 by omega) hz
      have w1 : (ZW s len a 8).1 = a + 4 := w1
      have hb3 := w2 3 (by decide)
      have hb3 : a + 3 < len ∧ s (a + 3) = 116 := hb3
      have K8 : KZ s len a 8 = ZW s len a 8 := by rw [KZ_split (by omega)]; rfl
      have K9 : KZ s len a 9 = pzl s len (rsK 9) (ZW s len a 8) := by rw [KZ_split (by omega)]; rfl
      have hK9 : (ZW s len a 8).1 ≤ (KZ s len a 9).1 := by rw [K9]; exact pzl_mono s len _ _
      have wr : ∀ κ, κ < 8 → (KZ s len a κ).2.1 = true ∧ (KZ s len a κ).1 < (ZW s len a 8).1 := fun κ h1 => by
        have o := oth κ (by omega) (by omega)
        rw [KZ_wr (by omega) o.1]
        exact o
      have nok' : ∀ κ, κ < 8 → ¬ okE s len (KZ s len a κ) := fun κ hκ ho => by
        have := (wr κ hκ).1
        rw [ho.1] at this
        cases this
      rw [if_neg (show ¬ nI 8 < 8 by decide), r_mark hS1, hz]
      simp only [Option.bind_some]
      by_cases hb : (ZW s len a 8).1 < len ∧ s (ZW s len a 8).1 = 32
      · obtain ⟨M', e1, e2, e3, e4⟩ := r_kind9 hS1 hl0 hc k18 hz hb.1 hb.2
        rw [← K9] at e2 e4
        have hcond : ¬ (false = true ∨ len ≤ (ZW s len a 8).1) := fun z => z.elim (fun y => by cases y) (fun y => by omega)
        have n8 : ¬ okE s len (KZ s len a 8) := fun ho => by
          rw [K8] at ho
          rcases ho.2 with z | z
          · omega
          · rw [hb.2] at z; exact absurd z (by decide)
        refine ⟨M', ?_, fr8 M' e3, ?_⟩
        · rw [if_neg hcond, if_pos hb.2]
          exact e1
        · by_cases hok : okE s len (KZ s len a 9)
          · obtain ⟨g1, g2, g3⟩ := e4 hok.1
            refine Or.inl ⟨9, by omega, hok, fun κ' hκ' => ?_, e2, g1, g2, g3, fun z => by omega⟩
            by_cases q : κ' = 8
            · subst q; exact n8
            · exact nok' κ' (by omega)
          · refine Or.inr ⟨fun κ hκ => ?_, KZ s len a 9, e2, (mxK_eq (by omega) (fun κ hκ => ?_)).symm, nok hok⟩
            · by_cases q : κ = 8
              · subst q; exact n8
              · by_cases q2 : κ = 9
                · subst q2; exact hok
                · exact nok' κ (by omega)
            · by_cases q : κ = 8
              · subst q; rw [K8]; exact hK9
              · by_cases q2 : κ = 9
                · subst q2; exact Nat.le_refl _
                · have := (wr κ (by omega)).2
                  omega
      · obtain ⟨M', e1, ⟨e2, e3, e4⟩, e5⟩ := r_kind8 hS1 hc k18 (by omega) (by
          rw [w1, show a + 4 - 1 = a + 3 by omega, hb3.2]
          decide)
        have hmk : ¬ (if false = true ∨ len ≤ (ZW s len a 8).1 then (-1 : Int32) else s (ZW s len a 8).1) = 32 := by
          by_cases q : len ≤ (ZW s len a 8).1
          · rw [if_pos (Or.inr q)]; decide
          · have hcond : ¬ (false = true ∨ len ≤ (ZW s len a 8).1) := fun z => z.elim (fun y => by cases y) q
            rw [if_neg hcond]
            exact fun z => hb ⟨by omega, z⟩
        refine ⟨M', ?_, fr8 M' e3, ?_⟩
        · rw [if_neg hmk]
          exact e1
        · obtain ⟨g1, g2, g3⟩ := e4 hz
          by_cases hok : okE s len (ZW s len a 8)
          · refine Or.inl ⟨8, by omega, by rw [K8]; exact hok, nok', by rw [K8]; exact e2, g1, g2, by rw [K8]; exact g3, fun _ => (e5 hz).trans k9⟩
          · have hno := nok hok
            have hno := hno.resolve_left (by rw [hz]; decide)
            have e9 : KZ s len a 9 = ((ZW s len a 8).1, true, []) := by
              rw [K9]
              have eZ : ZW s len a 8 = ((ZW s len a 8).1, false, []) := by
                rw [← hvs, ← hz]
              rw [eZ]
              show pzl s len [78] (pz s len ((ZW s len a 8).1, false, []) 32) = _
              rw [pz_lit (show lit 32 by unfold lit; decide), if_neg (fun z => hb z)]
              exact pzl_wr s len _ (Z := ((ZW s len a 8).1, true, [])) rfl
            refine Or.inr ⟨fun κ hκ => ?_, ZW s len a 8, e2, ?_, Or.inr hno⟩
            · by_cases q : κ = 8
              · subst q; rw [K8]; exact hok
              · by_cases q2 : κ = 9
                · subst q2
                  rw [e9]
                  exact fun z => Bool.noConfusion (show true = false from z.1)
                · exact nok' κ (by omega)
            · have hm := mxK_eq (s := s) (len := len) (a := a) (κ0 := 8) (by omega) (fun κ hκ => by
                rw [K8]
                by_cases q : κ = 8
                · subst q; rw [K8]; exact Nat.le_refl _
                · by_cases q2 : κ = 9
                  · subst q2; rw [e9]; exact Nat.le_refl _
                  · have := (wr κ (by omega)).2
                    omega)
              rw [hm, K8]
  · -- no word is there
    have hlg := lgW_le (s := s) hle 9
    have hS1 : ST (up2 (up2 (up2 M 0 17 (nI (a + lgW s len a 9))) 0 19 1) 9 0 1) s len (a + lgW s len a 9, true, []) := by
      obtain ⟨g1, g2, g3, g4, g5, g6, g7⟩ := h
      exact ⟨g1, by rw [up2_at, if_neg (by omega), up2_at, if_neg (by omega), up2_at, if_neg (by omega)]; exact g2, fun i hi => by rw [up2_at, if_neg (by omega), up2_at, if_neg (by omega), up2_at, if_neg (by omega)]; exact g3 i hi, by rw [up2_at, if_neg (by omega), up2_at, if_neg (by omega), up2_at, if_pos ⟨rfl, rfl⟩], hlg, by rw [up2_at, if_neg (by omega), up2_at, if_pos ⟨rfl, rfl⟩]; rfl, fun z => Bool.noConfusion (show true = false from z)⟩
    have f1 : FC8 M (up2 (up2 (up2 M 0 17 (nI (a + lgW s len a 9))) 0 19 1) 9 0 1) c := fun k f a1 a2 _ _ => by rw [up2_at, if_neg (by omega), up2_at, if_neg (by omega), up2_at, if_neg (by omega)]
    have k18 : up2 (up2 (up2 M 0 17 (nI (a + lgW s len a 9))) 0 19 1) 9 0 1 0 18 = nI c := by rw [up2_at, if_neg (by omega), up2_at, if_neg (by omega), up2_at, if_neg (by omega)]; exact h18
    rw [ew]
    simp only [Option.bind_some]
    generalize up2 (up2 (up2 M 0 17 (nI (a + lgW s len a 9))) 0 19 1) 9 0 1 = M1 at hS1 f1 k18 ⊢
    obtain ⟨M', e1, e2, e3, e4⟩ := r_kind0 hS1 (fun z => Bool.noConfusion (show true = false from z)) hc k18
    rw [pzl_wr s len _ (Z := (a + lgW s len a 9, true, [])) rfl] at e2
    refine ⟨M', ?_, fun k f a1 a2 a3 a4 => (e3 k f a1 a2 a3 a4).trans (f1 k f a1 a2 a3 a4), Or.inr ⟨fun κ hκ ho => ?_, (a + lgW s len a 9, true, []), e2, (mxK_lgW hall).symm, Or.inl rfl⟩⟩
    · rw [if_pos (by decide)]
      exact e1
    · by_cases q : κ = 9
      · subst q
        rw [KZ_wr (κ := 9) (by omega) (hall 8 (by omega))] at ho
        have := hall 8 (by omega)
        rw [show (ZW s len a 8).2.1 = false from ho.1] at this
        cases this
      · have := hall κ (by omega)
        rw [KZ_wr hκ this] at ho
        rw [ho.1] at this
        cases this
