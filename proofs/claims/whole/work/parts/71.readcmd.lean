/-! ===== the class reads a command ===== -/
def KZ (s : Nat → Int32) (len a κ : Nat) : PZ := pzl s len (patK κ) (a, false, [])
def mxK (s : Nat → Int32) (len a : Nat) : Nat → Nat
  | 0 => a
  | m + 1 => max (mxK s len a m) (KZ s len a m).1
theorem KZ_len {s : Nat → Int32} {len a : Nat} (h : a ≤ len) (κ : Nat) : (KZ s len a κ).1 ≤ len := pzl_len _ (Z := (a, false, [])) h
theorem mxK_len {s : Nat → Int32} {len a : Nat} (h : a ≤ len) : ∀ m, mxK s len a m ≤ len := by
  intro m
  induction m with
  | zero => exact h
  | succ m ih =>
    have := KZ_len (s := s) h m
    show max (mxK s len a m) (KZ s len a m).1 ≤ len
    omega
theorem c_readCommand {P : Mem} {s : Nat → Int32} {len : Nat} (h : PX P s len) {k : Nat} (hk : cmdk k = true) {a : Nat} (ha : a ≤ len) :
    ∃ e P', fX7_readCommand P (nI a) k = some (e, P') ∧ FK P P' k ∧ ((∃ κ, κ < 10 ∧ okE s len (KZ s len a κ) ∧ (∀ κ', κ' < κ → ¬ okE s len (KZ s len a κ')) ∧ e = nI (KZ s len a κ).1 ∧ P' k 0 = nI κ ∧ VL P' k (KZ s len a κ).2.2) ∨ ((∀ κ, κ < 10 → ¬ okE s len (KZ s len a κ)) ∧ e = -1 ∧ P' 0 4 = nI (mxK s len a 10))) := by
  have k3 : 3 ≤ k := (of_decide_eq_true hk).1
  have h60 := h.1
  have key : ∀ d κ, κ + d = 10 → ∀ P : Mem, PX P s len → P 0 4 = nI (mxK s len a κ) → (∀ κ', κ' < κ → ¬ okE s len (KZ s len a κ')) →
      ∃ e P', lp (fX7_readCommand_s (nI a) k) (nI κ, P) = some (e, P') ∧ FK P P' k ∧ ((∃ κ, κ < 10 ∧ okE s len (KZ s len a κ) ∧ (∀ κ', κ' < κ → ¬ okE s len (KZ s len a κ')) ∧ e = nI (KZ s len a κ).1 ∧ P' k 0 = nI κ ∧ VL P' k (KZ s len a κ).2.2) ∨ ((∀ κ, κ < 10 → ¬ okE s len (KZ s len a κ)) ∧ e = -1 ∧ P' 0 4 = nI (mxK s len a 10))) := by
    intro d
    induction d with
    | zero =>
      intro κ hκ P hP hf hno
      have e : κ = 10 := by omega
      subst e
      refine ⟨-1, P, lp_inr ?_, fun _ _ _ _ _ => rfl, Or.inr ⟨hno, rfl, hf⟩⟩
      unfold fX7_readCommand_s
      dsimp only
      rw [if_pos (by decide)]
    | succ d ih =>
      intro κ hκ P hP hf hno
      have hm := mxK_len (s := s) ha κ
      have hK := KZ_len (s := s) ha κ
      obtain ⟨e, P1, r1, r2, r3, r4⟩ := c_readKind hP hk (show κ < 10 by omega) ha hf (by omega)
      have step : fX7_readCommand_s (nI a) k (nI κ, P) = (if e < 0 then some (.inl (nI κ + 1, P1)) else some (.inr (e, P1))) := by
        unfold fX7_readCommand_s
        dsimp only
        rw [if_neg (show ¬ (10 : Int32) ≤ nI κ from nI_ge (b := 10) (by omega) (by omega)), gd_t (inb_nI (by omega) (by decide)), r1]
        rfl
      rcases r4 with ⟨o1, o2, o3, o4⟩ | ⟨o1, o2⟩
      · have hK' : (pzl s len (patK κ) (a, false, [])).1 ≤ len := hK
        have hs : fX7_readCommand_s (nI a) k (nI κ, P) = some (.inr (e, P1)) := by rw [step, o2, if_neg (nI_pos (by omega))]
        exact ⟨e, P1, lp_inr hs, r2, Or.inl ⟨κ, by omega, o1, hno, o2, o3, o4⟩⟩
      · obtain ⟨e', P', q1, q2, q3⟩ := ih (κ + 1) (by omega) P1 (hP.fk k3 r2) r3 (fun κ' hκ' => by
          by_cases q : κ' = κ
          · subst q; exact o1
          · exact hno κ' (by omega))
        refine ⟨e', P', ?_, fun p q h1 h2 h3 => (q2 p q h1 h2 h3).trans (r2 p q h1 h2 h3), q3⟩
        rw [lp_inl (by rw [step, o2, if_pos neg1_lt, nI_1])]
        exact q1
  obtain ⟨e, P', q1, q2, q3⟩ := key 10 0 (by omega) (up2 P 0 4 (nI a)) ⟨h.1, by rw [up2_at, if_neg (by omega)]; exact h.2.1, fun i hi => by rw [up2_at, if_neg (by omega)]; exact h.2.2 i hi⟩ (by rw [up2_at, if_pos ⟨rfl, rfl⟩]; rfl) (fun κ' hκ' => by omega)
  refine ⟨e, P', ?_, fun p q h1 h2 h3 => by rw [q2 p q h1 h2 h3, up2_at, if_neg h1], q3⟩
  unfold fX7_readCommand
  rw [gd_t hk]
  exact q1
