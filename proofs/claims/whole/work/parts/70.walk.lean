/-! ===== a text walked along a pattern ===== -/
def dgB (s : Nat → Int32) (len a : Nat) : Bool := decide (a < len ∧ ¬ s a < 48 ∧ ¬ 57 < s a)
def ltB (s : Nat → Int32) (a : Nat) : Bool := decide (¬ s a < 65 ∧ ¬ 90 < s a)
/-- how many characters fit a part of a pattern, and the values that it takes -/
def cntp (s : Nat → Int32) (len : Nat) (c : Int32) (a : Nat) : Nat :=
  if len ≤ a then 0 else if c = 68 then (if dgB s len a = true then 1 else 0) else if c = 76 then (if ltB s a = true then 1 else 0) else if c = 78 then (if dgB s len a = true then (if dgB s len (a + 1) = true then 2 else 1) else 0) else if s a = c then 1 else 0
def valp (s : Nat → Int32) (len : Nat) (c : Int32) (a : Nat) : List Int32 :=
  if c = 68 then [s a - 48] else if c = 76 then [s a] else if c = 78 then [if dgB s len (a + 1) = true then 10 * (s a - 48) + s (a + 1) - 48 else s a - 48] else []
abbrev PZ : Type := Nat × Bool × List Int32
def pz (s : Nat → Int32) (len : Nat) (Z : PZ) (c : Int32) : PZ := if Z.2.1 = true then Z else if cntp s len c Z.1 = 0 then (Z.1, true, Z.2.2) else (Z.1 + cntp s len c Z.1, false, Z.2.2 ++ valp s len c Z.1)
def pzl (s : Nat → Int32) (len : Nat) (l : List Int32) (Z : PZ) : PZ := l.foldl (pz s len) Z
theorem pzl_nil (s : Nat → Int32) (len : Nat) (Z : PZ) : pzl s len [] Z = Z := rfl
theorem pzl_cons (s : Nat → Int32) (len : Nat) (c : Int32) (l : List Int32) (Z : PZ) : pzl s len (c :: l) Z = pzl s len l (pz s len Z c) := rfl
theorem pzl_app (s : Nat → Int32) (len : Nat) (l m : List Int32) (Z : PZ) : pzl s len (l ++ m) Z = pzl s len m (pzl s len l Z) := List.foldl_append
theorem pzl_wr (s : Nat → Int32) (len : Nat) (l : List Int32) {Z : PZ} (h : Z.2.1 = true) : pzl s len l Z = Z := by
  induction l with
  | nil => rfl
  | cons c l ih => rw [pzl_cons, show pz s len Z c = Z from if_pos h, ih]
theorem cntp_le (s : Nat → Int32) (len : Nat) (c : Int32) (a : Nat) (h : cntp s len c a ≠ 0) : a + cntp s len c a ≤ len := by
  unfold cntp at h ⊢
  by_cases c0 : len ≤ a
  · rw [if_pos c0] at h; exact absurd rfl h
  · rw [if_neg c0] at h ⊢
    by_cases c1 : c = 68
    · rw [if_pos c1] at h ⊢
      split <;> omega
    · rw [if_neg c1] at h ⊢
      by_cases c2 : c = 76
      · rw [if_pos c2] at h ⊢
        split <;> omega
      · rw [if_neg c2] at h ⊢
        by_cases c3 : c = 78
        · rw [if_pos c3] at h ⊢
          by_cases d1 : dgB s len a = true
          · rw [if_pos d1] at h ⊢
            by_cases d2 : dgB s len (a + 1) = true
            · rw [if_pos d2]
              have := of_decide_eq_true d2
              omega
            · rw [if_neg d2]; omega
          · rw [if_neg d1] at h ⊢; omega
        · rw [if_neg c3]
          split <;> omega
theorem pz_mono (s : Nat → Int32) (len : Nat) (Z : PZ) (c : Int32) : Z.1 ≤ (pz s len Z c).1 := by
  unfold pz
  by_cases h : Z.2.1 = true
  · rw [if_pos h]; exact Nat.le_refl _
  · rw [if_neg h]
    split
    · exact Nat.le_refl _
    · exact Nat.le_add_right _ _
theorem pzl_mono (s : Nat → Int32) (len : Nat) (l : List Int32) : ∀ Z : PZ, Z.1 ≤ (pzl s len l Z).1 := by
  induction l with
  | nil => intro Z; exact Nat.le_refl _
  | cons c l ih => intro Z; rw [pzl_cons]; exact Nat.le_trans (pz_mono s len Z c) (ih _)
theorem pz_len {s : Nat → Int32} {len : Nat} {Z : PZ} (h : Z.1 ≤ len) (c : Int32) : (pz s len Z c).1 ≤ len := by
  unfold pz
  by_cases h1 : Z.2.1 = true
  · rw [if_pos h1]; exact h
  · rw [if_neg h1]
    by_cases h2 : cntp s len c Z.1 = 0
    · rw [if_pos h2]; exact h
    · rw [if_neg h2]; exact cntp_le s len c Z.1 h2
theorem pzl_len {s : Nat → Int32} {len : Nat} (l : List Int32) : ∀ {Z : PZ}, Z.1 ≤ len → (pzl s len l Z).1 ≤ len := by
  induction l with
  | nil => intro Z h; exact h
  | cons c l ih => intro Z h; rw [pzl_cons]; exact ih (pz_len h c)
/-! the class along a pattern -/
def PX (P : Mem) (s : Nat → Int32) (len : Nat) : Prop := len ≤ 60 ∧ P 0 1 = nI len ∧ ∀ i, i < len → P 1 i = s i
def VL (P : Mem) (k : Nat) (vs : List Int32) : Prop := P k 2 = nI vs.length ∧ ∀ j, j < vs.length → P (k + 1) j = vs.getD j 0
/-- only a command's values have changed, and their number -/
def FV (P P' : Mem) (k : Nat) : Prop := ∀ a f, ¬ (a = k ∧ f = 2) → a ≠ k + 1 → P' a f = P a f
theorem FV.rfl' (P : Mem) (k : Nat) : FV P P k := fun _ _ _ _ => rfl
theorem PX.fv {P P' : Mem} {s : Nat → Int32} {len k : Nat} (h : PX P s len) (hk : 3 ≤ k) (hf : FV P P' k) : PX P' s len := ⟨h.1, by rw [hf 0 1 (by omega) (by omega)]; exact h.2.1, fun i hi => by rw [hf 1 i (by omega) (by omega)]; exact h.2.2 i hi⟩
theorem getD_snoc (vs : List Int32) (v : Int32) (j : Nat) : (vs ++ [v]).getD j 0 = if j < vs.length then vs.getD j 0 else if j = vs.length then v else 0 := by
  by_cases h : j < vs.length
  · rw [if_pos h, List.getD_eq_getElem?_getD, List.getElem?_append_left h, List.getD_eq_getElem?_getD]
  · rw [if_neg h, List.getD_eq_getElem?_getD, List.getElem?_append_right (by omega)]
    by_cases e : j = vs.length
    · subst e; simp
    · rw [if_neg e]
      have : j - vs.length ≠ 0 := by omega
      obtain ⟨m, hm⟩ : ∃ m, j - vs.length = m + 1 := ⟨j - vs.length - 1, by omega⟩
      rw [hm]
      simp
theorem c_take {P : Mem} {k : Nat} (hk : cmdk k = true) {vs : List Int32} (h : VL P k vs) (hl : vs.length < 6) (v : Int32) : ∃ P', fX1_take P k v = some P' ∧ VL P' k (vs ++ [v]) ∧ FV P P' k := by
  obtain ⟨h1, h2⟩ := h
  have e : (nI vs.length).toNatClampNeg = vs.length := nI_clamp (by omega)
  have e2 : up2 P (k + 1) vs.length v k 2 = nI vs.length := by rw [up2_at, if_neg (by omega)]; exact h1
  refine ⟨up2 (up2 P (k + 1) vs.length v) k 2 (nI (vs.length + 1)), ?_, ⟨?_, fun j hj => ?_⟩, fun a f h3 h4 => ?_⟩
  · unfold fX1_take
    rw [gd_t hk, if_neg (show ¬ (6 : Int32) ≤ P k 2 by rw [h1]; exact nI_ge (b := 6) hl (by omega)), h1, gd_t (inb_nI hl (by decide)), e, e2, nI_1]
  · rw [up2_at, if_pos ⟨rfl, rfl⟩, List.length_append]
    rfl
  · have hj2 : j < vs.length + 1 := by rw [List.length_append] at hj; exact hj
    rw [up2_at, if_neg (by omega), up2_at, getD_snoc]
    by_cases q : j = vs.length
    · rw [if_pos ⟨rfl, q⟩, if_neg (by omega), if_pos q]
    · rw [if_neg (fun z => q z.2), if_pos (by omega)]
      exact h2 j (by omega)
  · rw [up2_at, if_neg h3, up2_at, if_neg (fun z => h4 z.1)]
theorem c_isDigitAt {P : Mem} {s : Nat → Int32} {len : Nat} (h : PX P s len) {a : Nat} (ha : a < 2 ^ 30) : fX7_isDigitAt P (nI a) = some (b2i (dgB s len a)) := by
  obtain ⟨h1, h2, h3⟩ := h
  have e : (nI a).toNatClampNeg = a := nI_clamp (by omega)
  unfold fX7_isDigitAt
  by_cases c : len ≤ a
  · rw [if_pos (show P 0 1 ≤ nI a by rw [h2]; exact nI_le c (by omega))]
    unfold dgB
    rw [decide_eq_false (fun z => by omega)]
    rfl
  · rw [if_neg (show ¬ P 0 1 ≤ nI a by rw [h2]; exact nI_ge (by omega) (by omega)), gd_t (inb_nI (by omega) (by decide)), e, h3 a (by omega)]
    by_cases c1 : s a < 48
    · rw [if_pos c1]
      unfold dgB
      rw [decide_eq_false (fun z => z.2.1 c1)]
      rfl
    · rw [if_neg c1, gd_t (inb_nI (by omega) (by decide))]
      by_cases c2 : 57 < s a
      · rw [if_pos c2]
        unfold dgB
        rw [decide_eq_false (fun z => z.2.2 c2)]
        rfl
      · rw [if_neg c2]
        unfold dgB
        rw [decide_eq_true ⟨by omega, c1, c2⟩]
        rfl
theorem c_readPart {P : Mem} {s : Nat → Int32} {len : Nat} (h : PX P s len) {k : Nat} (hk : cmdk k = true) {vs : List Int32} (hv : VL P k vs) (c : Int32) (hl : vs.length < 6 ∨ (c ≠ 68 ∧ c ≠ 76 ∧ c ≠ 78)) {a : Nat} (ha : a ≤ 60) : ∃ P', fX7_readPart P c (nI a) k = some (nI (cntp s len c a), P') ∧ FV P P' k ∧ (cntp s len c a ≠ 0 → VL P' k (vs ++ valp s len c a)) := by
  have h' := h
  obtain ⟨h1, h2, h3⟩ := h
  have k3 : 3 ≤ k := (of_decide_eq_true hk).1
  have e : (nI a).toNatClampNeg = a := nI_clamp (by omega)
  have e1 : (nI (a + 1)).toNatClampNeg = a + 1 := nI_clamp (by omega)
  unfold fX7_readPart cntp valp
  rw [gd_t hk]
  by_cases c0 : len ≤ a
  · rw [if_neg (show ¬ nI a < P 0 1 by rw [h2]; exact nI_nlt c0 (by omega)), if_pos c0]
    exact ⟨P, rfl, FV.rfl' P k, fun z => absurd rfl z⟩
  · have hal : inb (nI a) 60 = true := inb_nI (by omega) (by decide)
    have hs : P 1 a = s a := h3 a (by omega)
    rw [if_pos (show nI a < P 0 1 by rw [h2]; exact nI_lt (by omega) (by omega)), if_neg c0, gd_t hal, e, hs]
    by_cases c1 : c = 68
    · obtain ⟨P', t1, t2, t3⟩ := c_take hk hv (hl.resolve_right (fun z => z.1 c1)) (s a - 48)
      rw [if_pos c1, if_pos c1, if_pos c1, t1]
      simp only [Option.bind_some]
      rw [c_isDigitAt (h'.fv k3 t3) (by omega)]
      simp only [Option.bind_some]
      refine ⟨P', ?_, t3, fun _ => t2⟩
      cases dgB s len a with
      | true => rfl
      | false => rfl
    · rw [if_neg c1, if_neg c1, if_neg c1]
      by_cases c2 : c = 76
      · obtain ⟨P', t1, t2, t3⟩ := c_take hk hv (hl.resolve_right (fun z => z.2.1 c2)) (s a)
        rw [if_pos c2, if_pos c2, if_pos c2, t1]
        simp only [Option.bind_some]
        refine ⟨P', ?_, t3, fun _ => t2⟩
        unfold fX11_isLetter ltB
        by_cases q1 : s a < 65
        · rw [if_pos q1, decide_eq_false (fun z => z.1 q1)]
          rfl
        · by_cases q2 : 90 < s a
          · rw [if_neg q1, if_pos q2, decide_eq_false (fun z => z.2 q2)]
            rfl
          · rw [if_neg q1, if_neg q2, decide_eq_true ⟨q1, q2⟩]
            rfl
      · rw [if_neg c2, if_neg c2, if_neg c2]
        by_cases c3 : c = 78
        · rw [if_pos c3, if_pos c3, if_pos c3]
          unfold fX7_readNumber
          rw [gd_t hk, c_isDigitAt h' (by omega)]
          simp only [Option.bind_some]
          cases d1 : dgB s len a with
          | false => exact ⟨P, rfl, FV.rfl' P k, fun z => absurd rfl z⟩
          | true =>
            rw [b2i_t rfl, if_neg (by decide), gd_t hal, nI_1, c_isDigitAt h' (by omega)]
            simp only [Option.bind_some]
            cases d2 : dgB s len (a + 1) with
            | false =>
              obtain ⟨P', t1, t2, t3⟩ := c_take hk hv (hl.resolve_right (fun z => z.2.2 c3)) (s a - 48)
              rw [b2i_f rfl, if_pos rfl, e, hs, t1]
              exact ⟨P', rfl, t3, fun _ => t2⟩
            | true =>
              have hlt := (of_decide_eq_true d2).1
              obtain ⟨P', t1, t2, t3⟩ := c_take hk hv (hl.resolve_right (fun z => z.2.2 c3)) (10 * (s a - 48) + s (a + 1) - 48)
              rw [b2i_t rfl, if_neg (by decide), gd_t (inb_nI (by omega) (by decide)), e, e1, hs, h3 (a + 1) hlt, t1]
              exact ⟨P', rfl, t3, fun _ => t2⟩
        · rw [if_neg c3, if_neg c3, if_neg c3]
          by_cases q : s a = c
          · rw [if_pos q, if_pos q]
            exact ⟨P, rfl, FV.rfl' P k, fun _ => by rw [List.append_nil]; exact hv⟩
          · rw [if_neg q, if_neg q]
            exact ⟨P, rfl, FV.rfl' P k, fun z => absurd rfl z⟩
/-- a kind's pattern -/
def patK (κ : Nat) : List Int32 := paByt.getD κ []
theorem pat_len : ∀ κ : Fin 10, fJ0_length_8abf5 (nI κ.val) = some (nI (patK κ.val).length) ∧ (patK κ.val).length ≤ 18 := by decide +kernel
theorem pat_at : ∀ κ : Fin 10, ∀ i : Fin 18, i.val < (patK κ.val).length → fJ0_charAt_5068e (nI κ.val) (nI i.val) = some ((patK κ.val).getD i.val 0) := by decide +kernel
def nvl (l : List Int32) : Nat := (l.filter (fun c => decide (c = 68) || (decide (c = 76) || decide (c = 78)))).length
theorem pat_nv : ∀ κ : Fin 10, nvl (patK κ.val) ≤ 6 := by decide +kernel
theorem valp_len (s : Nat → Int32) (len : Nat) (c : Int32) (a : Nat) : (valp s len c a).length = if (decide (c = 68) || (decide (c = 76) || decide (c = 78))) = true then 1 else 0 := by
  unfold valp
  by_cases c1 : c = 68
  · subst c1; rfl
  · rw [if_neg c1]
    by_cases c2 : c = 76
    · subst c2; rfl
    · rw [if_neg c2]
      by_cases c3 : c = 78
      · subst c3; rfl
      · rw [if_neg c3, decide_eq_false c1, decide_eq_false c2, decide_eq_false c3]
        rfl
/-- a walk that comes to its end, at the text's end or a semicolon -/
def okE (s : Nat → Int32) (len : Nat) (Z : PZ) : Prop := Z.2.1 = false ∧ (len ≤ Z.1 ∨ s Z.1 = 59)
/-- only the furthest character and a command have changed -/
def FK (P P' : Mem) (k : Nat) : Prop := ∀ a f, ¬ (a = 0 ∧ f = 4) → a ≠ k → a ≠ k + 1 → P' a f = P a f
theorem PX.fk {P P' : Mem} {s : Nat → Int32} {len k : Nat} (h : PX P s len) (hk : 3 ≤ k) (hf : FK P P' k) : PX P' s len := ⟨h.1, by rw [hf 0 1 (by omega) (by omega) (by omega)]; exact h.2.1, fun i hi => by rw [hf 1 i (by omega) (by omega) (by omega)]; exact h.2.2 i hi⟩
theorem mx_nI {a b : Nat} (ha : a < 2 ^ 30) (hb : b < 2 ^ 30) : (if nI a < nI b then nI b else nI a) = nI (max a b) := by
  by_cases c : a < b
  · rw [if_pos (nI_lt c (by omega)), Nat.max_eq_right (by omega)]
  · rw [if_neg (nI_nlt (by omega) (by omega)), Nat.max_eq_left (by omega)]
theorem c_readKind {P : Mem} {s : Nat → Int32} {len : Nat} (h : PX P s len) {k : Nat} (hk : cmdk k = true) {κ : Nat} (hκ : κ < 10) {a f : Nat} (ha : a ≤ len) (hf : P 0 4 = nI f) (hf2 : f ≤ 60) :
    ∃ e P', fX7_readKind P (nI κ) (nI a) k = some (e, P') ∧ FK P P' k ∧ P' 0 4 = nI (max f (pzl s len (patK κ) (a, false, [])).1) ∧ ((okE s len (pzl s len (patK κ) (a, false, [])) ∧ e = nI (pzl s len (patK κ) (a, false, [])).1 ∧ P' k 0 = nI κ ∧ VL P' k (pzl s len (patK κ) (a, false, [])).2.2) ∨ (¬ okE s len (pzl s len (patK κ) (a, false, [])) ∧ e = -1)) := by
  have k3 : 3 ≤ k := (of_decide_eq_true hk).1
  have h60 := h.1
  obtain ⟨pl1, pl2⟩ := pat_len ⟨κ, hκ⟩
  have pl1 : fJ0_length_8abf5 (nI κ) = some (nI (patK κ).length) := pl1
  have pl2 : (patK κ).length ≤ 18 := pl2
  have hκ8 : inb (nI κ) 10 = true := inb_nI hκ (by decide)
  -- the loop from place i of the pattern on
  have key : ∀ d i, i + d = (patK κ).length → ∀ (P : Mem) (x f : Nat) (vs : List Int32), PX P s len → x ≤ len → P 0 4 = nI f → f ≤ 60 → P k 0 = nI κ → VL P k vs → vs.length + nvl ((patK κ).drop i) ≤ 6 →
      ∃ e P', lp (fX7_readKind_s (nI κ) (nI a) k) (nI x, nI i, P) = some (e, P') ∧ FK P P' k ∧ P' 0 4 = nI (max f (pzl s len ((patK κ).drop i) (x, false, vs)).1) ∧ ((okE s len (pzl s len ((patK κ).drop i) (x, false, vs)) ∧ e = nI (pzl s len ((patK κ).drop i) (x, false, vs)).1 ∧ P' k 0 = nI κ ∧ VL P' k (pzl s len ((patK κ).drop i) (x, false, vs)).2.2) ∨ (¬ okE s len (pzl s len ((patK κ).drop i) (x, false, vs)) ∧ e = -1)) := by
    intro d
    induction d with
    | zero =>
      intro i hi P x f vs hP hx hf hf2 hk0 hv hn
      have ei : i = (patK κ).length := by omega
      subst ei
      rw [List.drop_length, pzl_nil]
      have ex : (nI x).toNatClampNeg = x := nI_clamp (by omega)
      have k1 : ∀ y, up2 P 0 4 y 0 1 = nI len := fun y => by rw [up2_at, if_neg (by omega)]; exact hP.2.1
      have hFK : ∀ y, FK P (up2 P 0 4 y) k := fun y p q h1 _ _ => by rw [up2_at, if_neg h1]
      have hV : ∀ y, VL (up2 P 0 4 y) k vs := fun y => ⟨by rw [up2_at, if_neg (by omega)]; exact hv.1, fun j hj => by rw [up2_at, if_neg (by omega)]; exact hv.2 j hj⟩
      have emx : (if P 0 4 < nI x then nI x else P 0 4) = nI (max f x) := by rw [hf]; exact mx_nI (by omega) (by omega)
      by_cases c : len ≤ x
      · refine ⟨nI x, up2 P 0 4 (nI (max f x)), lp_inr ?_, hFK _, by rw [up2_at, if_pos ⟨rfl, rfl⟩], Or.inl ⟨⟨rfl, Or.inl c⟩, rfl, by rw [up2_at, if_neg (by omega)]; exact hk0, hV _⟩⟩
        unfold fX7_readKind_s
        dsimp only
        rw [gd_t hκ8, pl1]
        simp only [Option.bind_some]
        rw [if_pos (Int32.le_refl _), emx, if_pos (show up2 P 0 4 (nI (max f x)) 0 1 ≤ nI x by rw [k1]; exact nI_le c (by omega))]
      · have hb : inb (nI x) 60 = true := inb_nI (by omega) (by decide)
        have es : up2 P 0 4 (nI (max f x)) 1 x = s x := by rw [up2_at, if_neg (by omega)]; exact hP.2.2 x (by omega)
        by_cases c2 : s x = 59
        · refine ⟨nI x, up2 P 0 4 (nI (max f x)), lp_inr ?_, hFK _, by rw [up2_at, if_pos ⟨rfl, rfl⟩], Or.inl ⟨⟨rfl, Or.inr c2⟩, rfl, by rw [up2_at, if_neg (by omega)]; exact hk0, hV _⟩⟩
          unfold fX7_readKind_s
          dsimp only
          rw [gd_t hκ8, pl1]
          simp only [Option.bind_some]
          rw [if_pos (Int32.le_refl _), emx, if_neg (show ¬ up2 P 0 4 (nI (max f x)) 0 1 ≤ nI x by rw [k1]; exact nI_ge (by omega) (by omega)), gd_t hb, ex, if_pos (es.trans c2)]
        · refine ⟨-1, up2 P 0 4 (nI (max f x)), lp_inr ?_, hFK _, by rw [up2_at, if_pos ⟨rfl, rfl⟩], Or.inr ⟨fun z => z.2.elim c c2, rfl⟩⟩
          unfold fX7_readKind_s
          dsimp only
          rw [gd_t hκ8, pl1]
          simp only [Option.bind_some]
          rw [if_pos (Int32.le_refl _), emx, if_neg (show ¬ up2 P 0 4 (nI (max f x)) 0 1 ≤ nI x by rw [k1]; exact nI_ge (by omega) (by omega)), gd_t hb, ex, if_neg (fun z => c2 (es.symm.trans z))]
    | succ d ih =>
      intro i hi P x f vs hP hx hf hf2 hk0 hv hn
      have hil : i < (patK κ).length := by omega
      have pa : fJ0_charAt_5068e (nI κ) (nI i) = some ((patK κ).getD i 0) := pat_at ⟨κ, hκ⟩ ⟨i, by omega⟩ hil
      have edrop : (patK κ).drop i = (patK κ).getD i 0 :: (patK κ).drop (i + 1) := by
        rw [List.drop_eq_getElem_cons hil, List.getD_eq_getElem?_getD, List.getElem?_eq_getElem hil]
        rfl
      rw [edrop] at hn ⊢
      generalize (patK κ).getD i 0 = c at pa hn ⊢
      have hnc : nvl (c :: (patK κ).drop (i + 1)) = (if (decide (c = 68) || (decide (c = 76) || decide (c = 78))) = true then 1 else 0) + nvl ((patK κ).drop (i + 1)) := by
        unfold nvl
        rw [List.filter_cons]
        by_cases q : (decide (c = 68) || (decide (c = 76) || decide (c = 78))) = true
        · rw [if_pos q, if_pos q, List.length_cons]; omega
        · rw [if_neg q, if_neg q]; omega
      have hl6 : vs.length < 6 ∨ (c ≠ 68 ∧ c ≠ 76 ∧ c ≠ 78) := by
        by_cases q : (decide (c = 68) || (decide (c = 76) || decide (c = 78))) = true
        · rw [if_pos q] at hnc
          left; omega
        · right
          simp only [Bool.or_eq_true, decide_eq_true_eq, not_or] at q
          exact q
      obtain ⟨P1, t1, t2, t3⟩ := c_readPart hP hk hv c hl6 (show x ≤ 60 by omega)
      have f1 : P1 0 4 = nI f := by rw [t2 0 4 (by omega) (by omega)]; exact hf
      have emx : (if P1 0 4 < nI x then nI x else P1 0 4) = nI (max f x) := by rw [f1]; exact mx_nI (by omega) (by omega)
      have hP1 := hP.fv k3 t2
      have step : fX7_readKind_s (nI κ) (nI a) k (nI x, nI i, P) = (if nI (cntp s len c x) = 0 then some (.inr (-1, up2 P1 0 4 (nI (max f x)))) else some (.inl (nI x + nI (cntp s len c x), nI i + 1, up2 P1 0 4 (nI (max f x))))) := by
        unfold fX7_readKind_s
        dsimp only
        rw [gd_t hκ8, pl1]
        simp only [Option.bind_some]
        rw [if_neg (show ¬ nI (patK κ).length ≤ nI i from nI_ge hil (by omega)), gd_t hκ8, pa]
        simp only [Option.bind_some]
        rw [t1]
        simp only [Option.bind_some]
        rw [emx]
      rw [pzl_cons]
      by_cases c0 : cntp s len c x = 0
      · have ez : pz s len (x, false, vs) c = (x, true, vs) := by
          unfold pz
          rw [if_neg (show ¬ (false = true) by decide), if_pos c0]
        rw [ez, pzl_wr s len _ (Z := (x, true, vs)) rfl]
        refine ⟨-1, up2 P1 0 4 (nI (max f x)), lp_inr (by rw [step, c0, if_pos nI_0]), fun p q h1 h2 h3 => ?_, by rw [up2_at, if_pos ⟨rfl, rfl⟩], Or.inr ⟨fun z => Bool.noConfusion (show true = false from z.1), rfl⟩⟩
        rw [up2_at, if_neg h1]
        exact t2 p q (fun z => h2 z.1) h3
      · have hc := cntp_le s len c x c0
        have ez : pz s len (x, false, vs) c = (x + cntp s len c x, false, vs ++ valp s len c x) := by
          unfold pz
          rw [if_neg (show ¬ (false = true) by decide), if_neg c0]
        have hne : ¬ nI (cntp s len c x) = 0 := nI_ne0 (by omega) (by omega)
        have hV := t3 c0
        have hP2 : PX (up2 P1 0 4 (nI (max f x))) s len := ⟨hP1.1, by rw [up2_at, if_neg (by omega)]; exact hP1.2.1, fun j hj => by rw [up2_at, if_neg (by omega)]; exact hP1.2.2 j hj⟩
        have hV2 : VL (up2 P1 0 4 (nI (max f x))) k (vs ++ valp s len c x) := ⟨by rw [up2_at, if_neg (by omega)]; exact hV.1, fun j hj => by rw [up2_at, if_neg (by omega)]; exact hV.2 j hj⟩
        obtain ⟨e, P', r1, r2, r3, r4⟩ := ih (i + 1) (by omega) (up2 P1 0 4 (nI (max f x))) (x + cntp s len c x) (max f x) (vs ++ valp s len c x) hP2 hc (by rw [up2_at, if_pos ⟨rfl, rfl⟩]) (by omega) (by rw [up2_at, if_neg (by omega), t2 k 0 (by omega) (by omega)]; exact hk0) hV2 (by rw [List.length_append, valp_len]; omega)
        have mono := pzl_mono s len ((patK κ).drop (i + 1)) (x + cntp s len c x, false, vs ++ valp s len c x)
        dsimp only at mono
        rw [ez]
        refine ⟨e, P', ?_, fun p q h1 h2 h3 => ?_, ?_, r4⟩
        · rw [lp_inl (by rw [step, if_neg hne, nI_add, nI_1])]
          exact r1
        · rw [r2 p q h1 h2 h3, up2_at, if_neg h1]
          exact t2 p q (fun z => h2 z.1) h3
        · rw [r3]
          congr 1
          omega
  have e0 : ∃ P0, fX1_begin P k (nI κ) = some P0 ∧ PX P0 s len ∧ P0 0 4 = nI f ∧ P0 k 0 = nI κ ∧ VL P0 k [] ∧ ∀ a f, a ≠ k → P0 a f = P a f := by
    refine ⟨up2 (up2 P k 0 (nI κ)) k 2 0, ?_, ⟨h.1, ?_, fun i hi => ?_⟩, ?_, ?_, ⟨?_, fun j hj => absurd hj (Nat.not_lt_zero j)⟩, fun a f hne => ?_⟩
    · unfold fX1_begin
      rw [gd_t hk]
    · rw [up2_at, if_neg (by omega), up2_at, if_neg (by omega)]; exact h.2.1
    · rw [up2_at, if_neg (by omega), up2_at, if_neg (by omega)]; exact h.2.2 i hi
    · rw [up2_at, if_neg (by omega), up2_at, if_neg (by omega)]; exact hf
    · rw [up2_at, if_neg (by omega), up2_at, if_pos ⟨rfl, rfl⟩]
    · rw [up2_at, if_pos ⟨rfl, rfl⟩]; rfl
    · rw [up2_at, if_neg (by omega), up2_at, if_neg (by omega)]
  obtain ⟨P0, q1, q2, q3, q4, q5, q6⟩ := e0
  obtain ⟨e, P', r1, r2, r3, r4⟩ := key (patK κ).length 0 (by omega) P0 a f [] q2 ha q3 hf2 q4 q5 (by
    have := pat_nv ⟨κ, hκ⟩
    show 0 + nvl (patK κ) ≤ 6
    have : nvl (patK κ) ≤ 6 := this
    omega)
  refine ⟨e, P', ?_, fun x y h1 h2 h3 => (r2 x y h1 h2 h3).trans (q6 x y h2), r3, r4⟩
  unfold fX7_readKind
  rw [gd_t hk, q1]
  exact r1
