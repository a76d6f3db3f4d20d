/-! ===== the reference reads a word ===== -/
def wdK (κ : Nat) : List Int32 := match κ with
  | 0 => [115, 116, 97, 116, 105, 111, 110]
  | 1 => [109, 111, 118, 101]
  | 2 => [112, 111, 119, 101, 114]
  | 3 => [116, 117, 110, 101]
  | 4 => [99, 97, 108, 108]
  | 5 => [111, 118, 101, 114]
  | 6 => [99, 97, 110, 99, 101, 108]
  | 7 => [108, 105, 109, 105, 116]
  | _ => [119, 97, 105, 116]
def rsK (κ : Nat) : List Int32 := match κ with
  | 0 => [32, 76, 68, 32, 78, 44, 78, 32, 78, 32, 68]
  | 1 => [32, 68, 32, 78, 44, 78]
  | 2 => [32, 68, 61, 78]
  | 3 => [32, 68, 61, 68]
  | 4 => [32, 68]
  | 5 => [32, 68]
  | 6 => [32, 68]
  | 7 => [32, 78]
  | 8 => []
  | _ => [32, 78]
theorem pat_split : ∀ κ : Fin 10, patK κ.val = wdK κ.val ++ rsK κ.val := by decide +kernel
def lit (c : Int32) : Prop := c ≠ 68 ∧ c ≠ 76 ∧ c ≠ 78
theorem wd_lit : ∀ κ : Fin 10, ∀ c ∈ wdK κ.val, c ≠ 68 ∧ c ≠ 76 ∧ c ≠ 78 := by decide +kernel
theorem wd_diff : ∀ κ κ0 : Fin 9, κ ≠ κ0 → ∃ m : Fin 7, m.val < (wdK κ.val).length ∧ m.val < (wdK κ0.val).length ∧ (wdK κ.val).getD m.val 0 ≠ (wdK κ0.val).getD m.val 0 := by decide +kernel
theorem wd_sp : ∀ κ : Fin 9, ∀ k : Fin 8, fX12_spelled (nI κ.val) (nI k.val) = some ((wdK κ.val).getD k.val 0) := by decide +kernel
theorem wd_pos : ∀ κ : Fin 9, ∀ k : Fin 8, k.val < (wdK κ.val).length → ¬ (wdK κ.val).getD k.val 0 ≤ 0 := by decide +kernel
theorem wd_len : ∀ κ : Fin 9, 4 ≤ (wdK κ.val).length ∧ (wdK κ.val).length ≤ 7 := by decide +kernel
theorem pz_lit {s : Nat → Int32} {len : Nat} {c : Int32} (hc : lit c) (x : Nat) (vs : List Int32) : pz s len (x, false, vs) c = if x < len ∧ s x = c then (x + 1, false, vs) else (x, true, vs) := by
  have ecn : cntp s len c x = if len ≤ x then 0 else if s x = c then 1 else 0 := by
    unfold cntp
    rw [if_neg hc.1, if_neg hc.2.1, if_neg hc.2.2]
  have evp : valp s len c x = [] := by
    unfold valp
    rw [if_neg hc.1, if_neg hc.2.1, if_neg hc.2.2]
  unfold pz
  dsimp only
  rw [if_neg (show ¬ (false = true) by decide), ecn, evp, List.append_nil]
  by_cases c0 : len ≤ x
  · rw [if_pos c0, if_pos rfl, if_neg (by omega)]
  · rw [if_neg c0]
    by_cases c1 : s x = c
    · rw [if_pos c1, if_neg (by decide), if_pos ⟨by omega, c1⟩]
    · rw [if_neg c1, if_pos rfl, if_neg (fun z => c1 z.2)]
/-- letters walked along -/
theorem lit_walk (s : Nat → Int32) (len : Nat) : ∀ (l : List Int32), (∀ c ∈ l, lit c) → ∀ (x : Nat) (vs : List Int32), (pzl s len l (x, false, vs)).2.2 = vs ∧
    ((pzl s len l (x, false, vs)).2.1 = false → (pzl s len l (x, false, vs)).1 = x + l.length ∧ ∀ m, m < l.length → x + m < len ∧ s (x + m) = l.getD m 0) ∧
    (∀ m, m < l.length → (len ≤ x + m ∨ s (x + m) ≠ l.getD m 0) → (pzl s len l (x, false, vs)).2.1 = true ∧ (pzl s len l (x, false, vs)).1 ≤ x + m) := by
  intro l
  induction l with
  | nil => intro _ x vs; exact ⟨rfl, fun _ => ⟨rfl, fun m hm => absurd hm (Nat.not_lt_zero m)⟩, fun m hm => absurd hm (Nat.not_lt_zero m)⟩
  | cons c l ih =>
    intro hl x vs
    have hc := hl c (List.mem_cons_self)
    have hl' : ∀ c ∈ l, lit c := fun y hy => hl y (List.mem_cons_of_mem c hy)
    rw [pzl_cons, pz_lit hc]
    by_cases q : x < len ∧ s x = c
    · rw [if_pos q]
      obtain ⟨h1, h2, h3⟩ := ih hl' (x + 1) vs
      refine ⟨h1, fun hz => ?_, fun m hm hno => ?_⟩
      · obtain ⟨g1, g2⟩ := h2 hz
        refine ⟨by rw [g1, List.length_cons]; omega, fun m hm => ?_⟩
        cases m with
        | zero => exact ⟨q.1, q.2⟩
        | succ m =>
          have := g2 m (by rw [List.length_cons] at hm; omega)
          rw [show x + (m + 1) = x + 1 + m by omega]
          exact this
      · cases m with
        | zero => exact hno.elim (fun z => by omega) (fun z => absurd q.2 z)
        | succ m =>
          have := h3 m (by rw [List.length_cons] at hm; omega) (by
            rw [show x + 1 + m = x + (m + 1) by omega]
            exact hno)
          exact ⟨this.1, by have := this.2; omega⟩
    · rw [if_neg q, pzl_wr s len l (Z := (x, true, vs)) rfl]
      exact ⟨rfl, fun z => Bool.noConfusion (show true = false from z), fun m _ _ => ⟨rfl, Nat.le_add_right x m⟩⟩
def ZW (s : Nat → Int32) (len a κ : Nat) : PZ := pzl s len (wdK κ) (a, false, [])
theorem wd_lit' {κ : Nat} (h : κ < 10) : ∀ c ∈ wdK κ, lit c := wd_lit ⟨κ, h⟩
theorem ZW_vs (s : Nat → Int32) (len a : Nat) {κ : Nat} (h : κ < 10) : (ZW s len a κ).2.2 = [] := (lit_walk s len (wdK κ) (wd_lit' h) a []).1
theorem ZW_full {s : Nat → Int32} {len a κ : Nat} (h : κ < 10) (hz : (ZW s len a κ).2.1 = false) : (ZW s len a κ).1 = a + (wdK κ).length ∧ ∀ m, m < (wdK κ).length → a + m < len ∧ s (a + m) = (wdK κ).getD m 0 := (lit_walk s len (wdK κ) (wd_lit' h) a []).2.1 hz
/-- no other word is there -/
theorem ZW_other {s : Nat → Int32} {len a κ κ0 : Nat} (h : κ < 9) (h0 : κ0 < 9) (hne : κ ≠ κ0) (hz : (ZW s len a κ0).2.1 = false) : (ZW s len a κ).2.1 = true ∧ (ZW s len a κ).1 < (ZW s len a κ0).1 := by
  obtain ⟨g1, g2⟩ := ZW_full (show κ0 < 10 by omega) hz
  obtain ⟨⟨m, hm⟩, m1, m2, m3⟩ := wd_diff ⟨κ, h⟩ ⟨κ0, h0⟩ (fun z => hne (Fin.mk.inj z))
  dsimp only at m1 m2 m3
  obtain ⟨e1, e2⟩ := g2 m m2
  obtain ⟨w1, w2⟩ := (lit_walk s len (wdK κ) (wd_lit' (show κ < 10 by omega)) a []).2.2 m m1 (Or.inr (by rw [e2]; exact Ne.symm m3))
  exact ⟨w1, by have : (ZW s len a κ).1 ≤ a + m := w2
                omega⟩
def lgW (s : Nat → Int32) (len a : Nat) : Nat → Nat
  | 0 => 0
  | m + 1 => max (lgW s len a m) ((ZW s len a m).1 - a)
theorem ZW_ge (s : Nat → Int32) (len a κ : Nat) : a ≤ (ZW s len a κ).1 := pzl_mono s len (wdK κ) (a, false, [])
theorem ZW_le {s : Nat → Int32} {len a : Nat} (h : a ≤ len) (κ : Nat) : (ZW s len a κ).1 ≤ len := pzl_len _ (Z := (a, false, [])) h
theorem lgW_le {s : Nat → Int32} {len a : Nat} (h : a ≤ len) : ∀ m, a + lgW s len a m ≤ len := by
  intro m
  induction m with
  | zero => exact h
  | succ m ih =>
    have := ZW_le (s := s) h m
    show a + max (lgW s len a m) ((ZW s len a m).1 - a) ≤ len
    omega
theorem r_word {M : Mem} {s : Nat → Int32} {len a : Nat} {vs : List Int32} (h : ST M s len (a, false, vs)) :
    (∃ κ0, κ0 < 9 ∧ (ZW s len a κ0).2.1 = false ∧ fX12_word M = some (nI κ0, up2 M 0 17 (nI (ZW s len a κ0).1))) ∨ ((∀ κ, κ < 9 → (ZW s len a κ).2.1 = true) ∧ fX12_word M = some (0, up2 (up2 M 0 17 (nI (a + lgW s len a 9))) 0 19 1)) := by
  obtain ⟨h1, h2, h3, h4, h5, h6, h7⟩ := h
  dsimp only at h4 h5 h6
  -- along one word
  have inner : ∀ κ, κ < 9 → ∀ d k, k + d = (wdK κ).length → ∀ lg, lg ≤ 60 → a + k ≤ len →
      ((pzl s len ((wdK κ).drop k) (a + k, false, [])).2.1 = false → lp fX12_word_s (1, nI lg, nI κ, nI k, M) = some (nI κ, up2 M 0 17 (nI (pzl s len ((wdK κ).drop k) (a + k, false, [])).1))) ∧
      ((pzl s len ((wdK κ).drop k) (a + k, false, [])).2.1 = true → lp fX12_word_s (1, nI lg, nI κ, nI k, M) = lp fX12_word_s (0, nI (max lg ((pzl s len ((wdK κ).drop k) (a + k, false, [])).1 - a)), nI (κ + 1), 0, M)) := by
    intro κ hκ d
    induction d with
    | zero =>
      intro k hk lg hlg hak
      have ek : k = (wdK κ).length := by omega
      have hl7 := (wd_len ⟨κ, hκ⟩).2
      have hl7 : (wdK κ).length ≤ 7 := hl7
      have sp : fX12_spelled (nI κ) (nI k) = some ((wdK κ).getD k 0) := wd_sp ⟨κ, hκ⟩ ⟨k, by omega⟩
      have sp0 : (wdK κ).getD k 0 = 0 := by
        rw [List.getD_eq_getElem?_getD, List.getElem?_eq_none (by omega)]
        rfl
      rw [sp0] at sp
      have ed : (wdK κ).drop k = [] := by rw [ek]; exact List.drop_length
      rw [ed, pzl_nil]
      refine ⟨fun _ => lp_inr ?_, fun z => Bool.noConfusion (show false = true from z)⟩
      unfold fX12_word_s
      dsimp only
      rw [if_neg (by decide), sp]
      simp only [Option.bind_some]
      rw [if_pos (by decide)]
      rw [if_pos trivial, h4, nI_add]
    | succ d ih =>
      intro k hk lg hlg hak
      have hkl : k < (wdK κ).length := by omega
      have hl7 : (wdK κ).length ≤ 7 := (wd_len ⟨κ, hκ⟩).2
      have sp : fX12_spelled (nI κ) (nI k) = some ((wdK κ).getD k 0) := wd_sp ⟨κ, hκ⟩ ⟨k, by omega⟩
      have sp0 : ¬ (wdK κ).getD k 0 ≤ 0 := wd_pos ⟨κ, hκ⟩ ⟨k, by omega⟩ hkl
      have hne0 : ¬ (wdK κ).getD k 0 = 0 := fun z => sp0 (by rw [z]; decide)
      have edrop : (wdK κ).drop k = (wdK κ).getD k 0 :: (wdK κ).drop (k + 1) := by
        rw [List.drop_eq_getElem_cons hkl, List.getD_eq_getElem?_getD, List.getElem?_eq_getElem hkl]
        rfl
      have hlit : lit ((wdK κ).getD k 0) := by
        refine wd_lit' (show κ < 10 by omega) _ ?_
        rw [List.getD_eq_getElem?_getD, List.getElem?_eq_getElem hkl]
        exact List.getElem_mem hkl
      rw [edrop, pzl_cons, pz_lit hlit]
      generalize (wdK κ).getD k 0 = c at sp sp0 hne0 ⊢
      have e1 : M 0 17 + nI k = nI (a + k) := by rw [h4, nI_add]
      have ecl : (nI (a + k)).toNatClampNeg = a + k := nI_clamp (by omega)
      have emx : (if nI k ≤ nI lg then (some (.inl (0, nI lg, nI κ + 1, 0, M)) : Option ((Nat × Int32 × Int32 × Int32 × Mem) ⊕ (Int32 × Mem))) else some (.inl (0, nI k, nI κ + 1, 0, M))) = some (.inl (0, nI (max lg k), nI (κ + 1), 0, M)) := by
        rw [nI_1]
        by_cases c1 : k ≤ lg
        · rw [if_pos (nI_le c1 (by omega)), Nat.max_eq_left c1]
        · rw [if_neg (nI_ge (by omega) (by omega)), Nat.max_eq_right (by omega)]
      have fail : fX12_word_s (1, nI lg, nI κ, nI k, M) = some (.inl (0, nI (max lg k), nI (κ + 1), 0, M)) → ((pzl s len ((wdK κ).drop (k + 1)) (a + k, true, [])).2.1 = false → lp fX12_word_s (1, nI lg, nI κ, nI k, M) = some (nI κ, up2 M 0 17 (nI (pzl s len ((wdK κ).drop (k + 1)) (a + k, true, [])).1))) ∧
      ((pzl s len ((wdK κ).drop (k + 1)) (a + k, true, [])).2.1 = true → lp fX12_word_s (1, nI lg, nI κ, nI k, M) = lp fX12_word_s (0, nI (max lg ((pzl s len ((wdK κ).drop (k + 1)) (a + k, true, [])).1 - a)), nI (κ + 1), 0, M)) := fun e => by
        rw [pzl_wr s len _ (Z := (a + k, true, [])) rfl]
        refine ⟨fun z => Bool.noConfusion (show true = false from z), fun _ => ?_⟩
        rw [lp_inl e]
        dsimp only
        rw [Nat.add_sub_cancel_left]
      by_cases q : a + k < len ∧ s (a + k) = c
      · rw [if_pos q]
        have step : fX12_word_s (1, nI lg, nI κ, nI k, M) = some (.inl (1, nI lg, nI κ, nI (k + 1), M)) := by
          unfold fX12_word_s
          dsimp only
          rw [if_neg (by decide), sp]
          simp only [Option.bind_some]
          rw [if_neg sp0, e1, if_neg (show ¬ M 0 16 ≤ nI (a + k) by rw [h2]; exact nI_ge (by omega) (by omega)), gd_t (inb_nI (by omega) (by decide)), ecl, h3 _ q.1, if_pos q.2, nI_1]
        obtain ⟨g1, g2⟩ := ih (k + 1) (by omega) lg hlg (by omega)
        rw [show a + (k + 1) = a + k + 1 by omega] at g1 g2
        exact ⟨fun z => (lp_inl step).trans (g1 z), fun z => (lp_inl step).trans (g2 z)⟩
      · rw [if_neg q]
        refine fail ?_
        unfold fX12_word_s
        dsimp only
        rw [if_neg (by decide), sp]
        simp only [Option.bind_some]
        rw [if_neg sp0, e1]
        by_cases q1 : len ≤ a + k
        · rw [if_pos (show M 0 16 ≤ nI (a + k) by rw [h2]; exact nI_le q1 (by omega)), if_neg hne0]
          exact emx
        · rw [if_neg (show ¬ M 0 16 ≤ nI (a + k) by rw [h2]; exact nI_ge (by omega) (by omega)), gd_t (inb_nI (by omega) (by decide)), ecl, h3 _ (by omega), if_neg (fun z => q ⟨by omega, z⟩), if_neg hne0]
          exact emx
  have outer : ∀ d κ, κ + d = 9 → (∀ κ', κ' < κ → (ZW s len a κ').2.1 = true) →
      (∃ κ0, κ0 < 9 ∧ (ZW s len a κ0).2.1 = false ∧ lp fX12_word_s (0, nI (lgW s len a κ), nI κ, 0, M) = some (nI κ0, up2 M 0 17 (nI (ZW s len a κ0).1))) ∨ ((∀ κ, κ < 9 → (ZW s len a κ).2.1 = true) ∧ lp fX12_word_s (0, nI (lgW s len a κ), nI κ, 0, M) = some (0, up2 (up2 M 0 17 (nI (a + lgW s len a 9))) 0 19 1)) := by
    intro d
    induction d with
    | zero =>
      intro κ hκ hno
      have e : κ = 9 := by omega
      subst e
      refine Or.inr ⟨hno, lp_inr ?_⟩
      unfold fX12_word_s
      dsimp only
      rw [if_pos rfl, if_pos (by decide), h4, nI_add]
    | succ d ih =>
      intro κ hκ hno
      have hlg := lgW_le (s := s) h5 κ
      have step : fX12_word_s (0, nI (lgW s len a κ), nI κ, 0, M) = some (.inl (1, nI (lgW s len a κ), nI κ, nI 0, M)) := by
        unfold fX12_word_s
        dsimp only
        rw [if_pos rfl, if_neg (show ¬ (9 : Int32) ≤ nI κ from nI_ge (b := 9) (by omega) (by omega))]
        rfl
      obtain ⟨g1, g2⟩ := inner κ (by omega) (wdK κ).length 0 (by omega) (lgW s len a κ) (by omega) h5
      have eZ : pzl s len ((wdK κ).drop 0) (a + 0, false, []) = ZW s len a κ := rfl
      rw [eZ] at g1 g2
      cases hz : (ZW s len a κ).2.1 with
      | false => exact Or.inl ⟨κ, by omega, hz, (lp_inl step).trans (g1 hz)⟩
      | true =>
        have e := (lp_inl step).trans (g2 hz)
        have hlgs : max (lgW s len a κ) ((ZW s len a κ).1 - a) = lgW s len a (κ + 1) := rfl
        rw [hlgs] at e
        rw [e]
        exact ih (κ + 1) (by omega) (fun κ' hκ' => by
          by_cases q : κ' = κ
          · subst q; exact hz
          · exact hno κ' (by omega))
  unfold fX12_word
  exact outer 9 0 (by omega) (fun κ' hκ' => by omega)
