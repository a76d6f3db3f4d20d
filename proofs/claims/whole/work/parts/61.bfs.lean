/-! ===== hops by breadth-first search are hops by sets ===== -/
theorem rowF_bit (v : Nat → Nat → Int32) (k y i : Nat) : ∀ m, (rowF v k y m).testBit i = (y.testBit i || (decide (i < m) && hearP v i k)) := by
  intro m
  induction m with
  | zero => show y.testBit i = _; simp
  | succ m ih =>
    unfold rowF
    by_cases c : hearP v m k = true
    · rw [if_pos c, Nat.testBit_or, ih, Nat.testBit_two_pow]
      by_cases e : m = i
      · subst e; simp [c]
      · have e2 : (i < m + 1) = (i < m) := by rw [eq_iff_iff]; omega
        simp [e, e2]
    · rw [if_neg c, ih]
      by_cases e : m = i
      · subst e
        have c0 : hearP v m k = false := by simpa using c
        simp [c0]
      · have e2 : (i < m + 1) = (i < m) := by rw [eq_iff_iff]; omega
        simp [e2]
theorem extF_bit (v : Nat → Nat → Int32) (n x i : Nat) : ∀ m, (extF v n x m).testBit i = true ↔ (x.testBit i = true ∨ ∃ k, k < m ∧ x.testBit k = true ∧ i < n ∧ hearP v i k = true) := by
  intro m
  induction m with
  | zero => exact ⟨Or.inl, fun z => z.elim id (fun ⟨k, hk, _⟩ => by omega)⟩
  | succ m ih =>
    unfold extF
    by_cases c : x.testBit m = true
    · rw [if_pos c, rowF_bit, Bool.or_eq_true, ih, Bool.and_eq_true, decide_eq_true_iff]
      constructor
      · rintro ((h | ⟨k, h1, h2⟩) | ⟨h1, h2⟩)
        · exact Or.inl h
        · exact Or.inr ⟨k, by omega, h2⟩
        · exact Or.inr ⟨m, by omega, c, h1, h2⟩
      · rintro (h | ⟨k, h1, h2, h3, h4⟩)
        · exact Or.inl (Or.inl h)
        · by_cases e : k = m
          · subst e; exact Or.inr ⟨h3, h4⟩
          · exact Or.inl (Or.inr ⟨k, by omega, h2, h3, h4⟩)
    · rw [if_neg c, ih]
      constructor
      · rintro (h | ⟨k, h1, h2⟩)
        · exact Or.inl h
        · exact Or.inr ⟨k, by omega, h2⟩
      · rintro (h | ⟨k, h1, h2, h3⟩)
        · exact Or.inl h
        · by_cases e : k = m
          · subst e; exact absurd h2 c
          · exact Or.inr ⟨k, by omega, h2, h3⟩
theorem set_0 (v : Nat → Nat → Int32) (n a i : Nat) : (setAt v n a 0).testBit i = true ↔ i = a := by
  show (2 ^ a).testBit i = true ↔ _
  rw [Nat.testBit_two_pow, decide_eq_true_iff]
  exact eq_comm
theorem set_s (v : Nat → Nat → Int32) (n a t i : Nat) : (setAt v n a (t + 1)).testBit i = true ↔ ((setAt v n a t).testBit i = true ∨ ∃ k, k < n ∧ (setAt v n a t).testBit k = true ∧ i < n ∧ hearP v i k = true) := extF_bit v n _ i n
def lvl (v : Nat → Nat → Int32) (n a i t : Nat) : Prop := (setAt v n a t).testBit i = true ∧ ∀ u, u < t → (setAt v n a u).testBit i = false
theorem set_up (v : Nat → Nat → Int32) (n a i : Nat) {t : Nat} (h : (setAt v n a t).testBit i = true) : ∀ d, (setAt v n a (t + d)).testBit i = true := by
  intro d
  induction d with
  | zero => exact h
  | succ d ih => exact (set_s v n a (t + d) i).mpr (Or.inl ih)
theorem lvl_ex (v : Nat → Nat → Int32) (n a i : Nat) : ∀ u, (setAt v n a u).testBit i = true → ∃ t, t ≤ u ∧ lvl v n a i t := by
  intro u
  induction u with
  | zero => intro h; exact ⟨0, Nat.le_refl _, h, fun q hq => by omega⟩
  | succ u ih =>
    intro h
    cases z : (setAt v n a u).testBit i with
    | true =>
      obtain ⟨t, h1, h2⟩ := ih z
      exact ⟨t, by omega, h2⟩
    | false =>
      refine ⟨u + 1, Nat.le_refl _, h, fun q hq => ?_⟩
      cases z2 : (setAt v n a q).testBit i with
      | false => rfl
      | true =>
        have := set_up v n a i z2 (u - q)
        rw [show q + (u - q) = u by omega, z] at this
        cases this
theorem lvl_eq {v : Nat → Nat → Int32} {n a i t u : Nat} (h : lvl v n a i t) (g : lvl v n a i u) : t = u := by
  rcases Nat.lt_trichotomy t u with z | z | z
  · have := g.2 t z
    rw [h.1] at this
    cases this
  · exact z
  · have := h.2 u z
    rw [g.1] at this
    cases this
theorem sel_first {R : Type} {P : Nat → Bool} {out : Nat → R} {no : R} {n t : Nat} (ht : t < n) (h1 : P t = true) (h2 : ∀ u, u < t → P u = false) : sel P out no n = out t := by
  have key : ∀ d i, i + d = n → i ≤ t → selF P out no d i = out t := by
    intro d
    induction d with
    | zero => intro i hi hit; omega
    | succ d ih =>
      intro i hi hit
      unfold selF
      by_cases e : i = t
      · subst e; rw [if_pos h1]
      · rw [if_neg (by rw [h2 i (by omega)]; decide)]
        exact ih (i + 1) (by omega) (by omega)
  exact key n 0 (by omega) (by omega)
theorem sel_no {R : Type} {P : Nat → Bool} {out : Nat → R} {no : R} {n : Nat} (h : ∀ t, t < n → P t = false) : sel P out no n = no := by
  rcases sel_spec P out no n with ⟨h1, _⟩ | ⟨j, h1, h2, _⟩
  · exact h1
  · rw [h j h1] at h2
    cases h2
/-- the search: the queue F of q stations, their hops V; h heads are done -/
def BF (v : Nat → Nat → Int32) (n a : Nat) (R : Mem) (q h : Nat) (F V : Nat → Nat) : Prop :=
  LI F q n ∧ (∀ j, j < q → R 2 j = nI (F j)) ∧ (∀ i, i < 8 → inL F q i = false → R 1 i = -1) ∧ (∀ i, inL F q i = true → R 1 i = nI (V i) ∧ lvl v n a i (V i)) ∧
  (∀ j j', j ≤ j' → j' < q → V (F j) ≤ V (F j')) ∧ (∀ j, j < h → ∀ i, i < n → hearP v i (F j) = true → inL F q i = true) ∧ 0 < q ∧ (∀ j, j < q → V (F j) ≤ j) ∧ inL F q a = true
def BH (v : Nat → Nat → Int32) (n a q h : Nat) (F V : Nat → Nat) : Prop := (∀ i t, lvl v n a i t → t ≤ V (F h) → inL F q i = true) ∧ ∀ j, j < q → V (F j) ≤ V (F h) + 1
theorem inL_of {F : Nat → Nat} {q j : Nat} (h : j < q) : inL F q (F j) = true := decide_eq_true ⟨j, h, rfl⟩
theorem BF_q {v : Nat → Nat → Int32} {n a : Nat} {R : Mem} {q h : Nat} {F V : Nat → Nat} (hB : BF v n a R q h F V) (hn : n ≤ 8) : q ≤ n := by
  have e := cnt_line (fun _ => true) q hB.1
  have e1 : ∀ m, cnt (fun _ => true) m = m := by
    intro m
    induction m with
    | zero => rfl
    | succ m ih => show cnt (fun _ => true) m + 1 = m + 1; rw [ih]
  have e2 := cnt_le (fun i => inL F q i && true) n
  rw [e1] at e
  omega
theorem bfs_in {N : Mem} {n a b : Nat} (hv : NV N n) {h : Nat} : ∀ d c, c + d = n → ∀ (R : Mem) (q : Nat) (F V : Nat → Nat), h < q → BF (vN N) n a R q h F V → BH (vN N) n a q h F V → (∀ i, i < c → hearP (vN N) i (F h) = true → inL F q i = true) →
    ∃ R' q' F' V', lp (fX8_hopsByBreadth_s N (nI a) (nI b)) (2, nI q, nI h, nI (F h), nI c, R) = lp (fX8_hopsByBreadth_s N (nI a) (nI b)) (1, nI q', nI (h + 1), 0, 0, R') ∧ h + 1 ≤ q' ∧ BF (vN N) n a R' q' (h + 1) F' V' ∧ (h + 1 < q' → BH (vN N) n a q' (h + 1) F' V') := by
  have hn := hv.1
  intro d
  induction d with
  | zero =>
    intro c hc R q F V hhq hB hH hI
    have e : c = n := by omega
    subst e
    obtain ⟨b1, b2, b3, b4, b5, b6, b7, b8, b9⟩ := hB
    have b6' : ∀ j, j < h + 1 → ∀ i, i < c → hearP (vN N) i (F j) = true → inL F q i = true := fun j hj i hi he => by
      by_cases e : j = h
      · subst e; exact hI i hi he
      · exact b6 j (by omega) i hi he
    refine ⟨R, q, F, V, lp_inl ?_, by omega, ⟨b1, b2, b3, b4, b5, b6', b7, b8, b9⟩, fun hq2 => ⟨fun i t hl ht => ?_, fun j hj => ?_⟩⟩
    · unfold fX8_hopsByBreadth_s
      dsimp only
      rw [if_neg (by decide), if_neg (by decide), if_pos (show N 0 1 ≤ nI c by rw [hv.2.1]; exact nI_le (Nat.le_refl c) (by omega)), nI_1]
    · by_cases g : t ≤ V (F h)
      · exact hH.1 i t hl g
      · have g1 := hH.2 (h + 1) hq2
        have et : t = V (F h) + 1 := by omega
        have eV : V (F (h + 1)) = V (F h) + 1 := by omega
        subst et
        have hnb := hl.2 (V (F h)) (by omega)
        rcases (set_s (vN N) c a (V (F h)) i).mp hl.1 with z | ⟨k, k1, k2, k3, k4⟩
        · rw [z] at hnb; cases hnb
        · obtain ⟨t', t1, t2⟩ := lvl_ex (vN N) c a k _ k2
          have kin := hH.1 k t' t2 t1
          obtain ⟨j, hj, ej⟩ := of_decide_eq_true kin
          have ek := lvl_eq (b4 k kin).2 t2
          have hjh : j < h + 1 := by
            by_cases g2 : j < h + 1
            · exact g2
            · have := b5 (h + 1) j (by omega) hj
              rw [ej, ek, eV] at this
              omega
          exact b6' j hjh i k3 (by rw [ej]; exact k4)
    · have g1 := hH.2 j hj
      have g2 := b5 h (h + 1) (by omega) hq2
      omega
  | succ d ih =>
    intro c hc R q F V hhq hB hH hI
    have hcn : c < n := by omega
    have hqn := BF_q hB hn
    have ec : (nI c).toNatClampNeg = c := nI_clamp (by omega)
    have hc8 : inb (nI c) 8 = true := inb_nI (by omega) (by decide)
    have hB' := hB
    obtain ⟨b1, b2, b3, b4, b5, b6, b7, b8, b9⟩ := hB
    have hF := b1.1 h hhq
    have er : (nI (F h)).toNatClampNeg = F h := nI_clamp (by omega)
    have hr8 : inb (nI (F h)) 8 = true := inb_nI (by omega) (by decide)
    have hlt : ¬ N 0 1 ≤ nI c := by rw [hv.2.1]; exact lt_step hn hcn
    have skip : fX8_hopsByBreadth_s N (nI a) (nI b) (2, nI q, nI h, nI (F h), nI c, R) = some (.inl (2, nI q, nI h, nI (F h), nI (c + 1), R)) → (hearP (vN N) c (F h) = true → inL F q c = true) → ∃ R' q' F' V', lp (fX8_hopsByBreadth_s N (nI a) (nI b)) (2, nI q, nI h, nI (F h), nI c, R) = lp (fX8_hopsByBreadth_s N (nI a) (nI b)) (1, nI q', nI (h + 1), 0, 0, R') ∧ h + 1 ≤ q' ∧ BF (vN N) n a R' q' (h + 1) F' V' ∧ (h + 1 < q' → BH (vN N) n a q' (h + 1) F' V') := fun e1 e2 => by
      obtain ⟨R', q', F', V', g1, g2⟩ := ih (c + 1) (by omega) R q F V hhq hB' hH (fun i hi he => by
        by_cases e : i = c
        · subst e; exact e2 he
        · exact hI i (by omega) he)
      exact ⟨R', q', F', V', (lp_inl e1).trans g1, g2⟩
    cases hin : inL F q c with
    | true =>
      refine skip ?_ (fun _ => hin)
      have e1 := (b4 c hin).1
      obtain ⟨j, hj, ej⟩ := of_decide_eq_true hin
      have hV := b8 j hj
      rw [ej] at hV
      unfold fX8_hopsByBreadth_s
      dsimp only
      rw [if_neg (by decide), if_neg (by decide), if_neg hlt, gd_t hc8, ec, if_pos (by rw [e1]; exact nI_pos' (by omega)), nI_1]
    | false =>
      have e1 := b3 c (by omega) hin
      have hq8 := line_lt b1 hcn hin
      have eq : (nI q).toNatClampNeg = q := nI_clamp (by omega)
      have hq8b : inb (nI q) 8 = true := inb_nI (by omega) (by decide)
      have hge : ¬ (8 : Int32) ≤ nI q := nI_ge (b := 8) (by omega) (by omega)
      have nneg : ¬ (0 : Int32) ≤ R 1 c := by rw [e1]; decide
      cases hh : hearP (vN N) c (F h) with
      | false =>
        refine skip ?_ (fun z => by rw [hh] at z; cases z)
        unfold fX8_hopsByBreadth_s
        dsimp only
        rw [if_neg (by decide), if_neg (by decide), if_neg hlt, gd_t hc8, ec, if_neg nneg, if_neg hge, gd_t hc8, gd_t hr8, er, Nat.one_mul, Nat.one_mul, c_hears N (by omega) (by omega), hh]
        simp only [Option.bind_some]
        rw [b2i_f rfl, if_pos rfl, nI_1]
      | true =>
        have eF := (b4 _ (inL_of hhq)).1
        have hVh := b8 h hhq
        have hcF : ∀ j, j < q → F j ≠ c := fun j hj z => (decide_eq_false_iff_not.mp hin) ⟨j, hj, z⟩
        have step : fX8_hopsByBreadth_s N (nI a) (nI b) (2, nI q, nI h, nI (F h), nI c, R) = some (.inl (2, nI (q + 1), nI h, nI (F h), nI (c + 1), up2 (up2 R 1 c (nI (V (F h) + 1))) 2 q (nI c))) := by
          unfold fX8_hopsByBreadth_s
          dsimp only
          rw [if_neg (by decide), if_neg (by decide), if_neg hlt, gd_t hc8, ec, if_neg nneg, if_neg hge, gd_t hc8, gd_t hr8, er, Nat.one_mul, Nat.one_mul, c_hears N (by omega) (by omega), hh]
          simp only [Option.bind_some]
          rw [b2i_t rfl, if_neg (by decide), gd_t hr8, gd_t hc8, gd_t hq8b, eF, nI_1, nI_1, nI_1, eq]
        have r1 : ∀ i, up2 (up2 R 1 c (nI (V (F h) + 1))) 2 q (nI c) 1 i = if i = c then nI (V (F h) + 1) else R 1 i := fun i => by
          rw [up2_at, if_neg (by omega), up2_at]
          by_cases z : i = c
          · rw [if_pos ⟨rfl, z⟩, if_pos z]
          · rw [if_neg (fun y => z y.2), if_neg z]
        have r2 : ∀ j, up2 (up2 R 1 c (nI (V (F h) + 1))) 2 q (nI c) 2 j = if j = q then nI c else R 2 j := fun j => by
          rw [up2_at]
          by_cases z : j = q
          · rw [if_pos ⟨rfl, z⟩, if_pos z]
          · rw [if_neg (fun y => z y.2), up2_at, if_neg (by omega), if_neg z]
        have eFh : addL F q c h = F h := addL_ne F (by omega)
        obtain ⟨V2, hVc, hVo⟩ : ∃ V2 : Nat → Nat, V2 c = V (F h) + 1 ∧ ∀ i, i ≠ c → V2 i = V i := ⟨fun i => if i = c then V (F h) + 1 else V i, if_pos rfl, fun i hi => if_neg hi⟩
        have hVn : ∀ j, j < q → V2 (F j) = V (F j) := fun j hj => hVo _ (hcF j hj)
        have inN : ∀ i, inL F q i = true → inL (addL F q c) (q + 1) i = true := fun i hi => (addL_inL F q c i).mpr (Or.inl hi)
        have hB2 : BF (vN N) n a (up2 (up2 R 1 c (nI (V (F h) + 1))) 2 q (nI c)) (q + 1) h (addL F q c) V2 := by
          refine ⟨addL_LI b1 hcn hin, fun j hj => ?_, fun i hi hf => ?_, fun i hi => ?_, fun j j' hjj hj' => ?_, fun j hj i hi he => ?_, by omega, fun j hj => ?_, inN a b9⟩
          · rw [r2]
            by_cases z : j = q
            · rw [if_pos z, z, addL_w]
            · rw [if_neg z, addL_ne F z]; exact b2 j (by omega)
          · have h1 : i ≠ c := fun z => by
              have := (addL_inL F q c i).mpr (Or.inr z)
              rw [hf] at this
              cases this
            have h2 : inL F q i = false := by
              cases z : inL F q i with
              | false => rfl
              | true => have := inN i z; rw [hf] at this; cases this
            rw [r1, if_neg h1]
            exact b3 i hi h2
          · rw [r1]
            by_cases z : i = c
            · subst z
              rw [if_pos rfl, hVc]
              refine ⟨rfl, ?_⟩
              refine ⟨(set_s (vN N) n a _ i).mpr (Or.inr ⟨F h, hF, ((b4 _ (inL_of hhq)).2).1, hcn, hh⟩), fun u hu => ?_⟩
              cases z2 : (setAt (vN N) n a u).testBit i with
              | false => rfl
              | true =>
                obtain ⟨t, t1, t2⟩ := lvl_ex (vN N) n a i u z2
                have := hH.1 i t t2 (by omega)
                rw [hin] at this
                cases this
            · rw [if_neg z, hVo i z]
              exact b4 i (((addL_inL F q c i).mp hi).resolve_right z)
          · by_cases z' : j' = q
            · by_cases z : j = q
              · rw [z, z']; exact Nat.le_refl _
              · rw [z', addL_w, addL_ne F z, hVc, hVn j (by omega)]
                exact hH.2 j (by omega)
            · rw [addL_ne F z', addL_ne F (show j ≠ q by omega), hVn j (by omega), hVn j' (by omega)]
              exact b5 j j' hjj (by omega)
          · rw [addL_ne F (show j ≠ q by omega)] at he
            exact inN i (b6 j hj i hi he)
          · by_cases z : j = q
            · rw [z, addL_w, hVc]; omega
            · rw [addL_ne F z, hVn j (by omega)]; exact b8 j (by omega)
        have hH2 : BH (vN N) n a (q + 1) h (addL F q c) V2 := by
          refine ⟨fun i t hl ht => ?_, fun j hj => ?_⟩
          · rw [eFh, hVn h hhq] at ht
            exact inN i (hH.1 i t hl ht)
          · rw [eFh, hVn h hhq]
            by_cases z : j = q
            · rw [z, addL_w, hVc]; exact Nat.le_refl _
            · rw [addL_ne F z, hVn j (by omega)]; exact hH.2 j (by omega)
        obtain ⟨R', q', F', V', g1, g2⟩ := ih (c + 1) (by omega) _ (q + 1) (addL F q c) V2 (by omega) hB2 hH2 (fun i hi he => by
          rw [eFh] at he
          by_cases e : i = c
          · exact (addL_inL F q c i).mpr (Or.inr e)
          · exact inN i (hI i (by omega) he))
        rw [eFh] at g1
        exact ⟨R', q', F', V', (lp_inl step).trans g1, g2⟩
theorem bfs_out {N : Mem} {n a b : Nat} (hv : NV N n) (hb : b < 8) : ∀ d h, h + d = 9 → ∀ (R : Mem) (q : Nat) (F V : Nat → Nat), h ≤ q → BF (vN N) n a R q h F V → (h < q → BH (vN N) n a q h F V) →
    ∃ R', lp (fX8_hopsByBreadth_s N (nI a) (nI b)) (1, nI q, nI h, 0, 0, R) = some (sel (fun t => (setAt (vN N) n a t).testBit b) nI (-1) 8, R') := by
  have hn := hv.1
  intro d
  induction d with
  | zero =>
    intro h hd R q F V hhq hB hH
    have := BF_q hB hn
    omega
  | succ d ih =>
    intro h hd R q F V hhq hB hH
    have hqn := BF_q hB hn
    have eb : (nI b).toNatClampNeg = b := nI_clamp (by omega)
    have hb8 : inb (nI b) 8 = true := inb_nI hb (by decide)
    by_cases c : h < q
    · obtain ⟨b1, b2, _⟩ := id hB
      have eh : (nI h).toNatClampNeg = h := nI_clamp (by omega)
      have step : fX8_hopsByBreadth_s N (nI a) (nI b) (1, nI q, nI h, 0, 0, R) = some (.inl (2, nI q, nI h, nI (F h), nI 0, R)) := by
        unfold fX8_hopsByBreadth_s
        dsimp only
        rw [if_neg (by decide), if_pos rfl, if_neg (show ¬ nI q ≤ nI h from nI_ge c (by omega)), if_neg (show ¬ (8 : Int32) ≤ nI h from nI_ge (b := 8) (by omega) (by omega)), gd_t (inb_nI (by omega) (by decide)), eh, b2 h c]
        rfl
      obtain ⟨R', q', F', V', g1, g2, g3, g4⟩ := bfs_in hv n 0 (by omega) R q F V c hB (hH c) (fun i hi => by omega)
      obtain ⟨R2, e⟩ := ih (h + 1) (by omega) R' q' F' V' g2 g3 g4
      exact ⟨R2, (lp_inl step).trans (g1.trans e)⟩
    · have e : q = h := by omega
      subst e
      obtain ⟨b1, b2, b3, b4, b5, b6, b7, b8, b9⟩ := hB
      have all : ∀ t i, (setAt (vN N) n a t).testBit i = true → inL F q i = true := by
        intro t
        induction t with
        | zero => intro i hi; rw [(set_0 (vN N) n a i).mp hi]; exact b9
        | succ t iht =>
          intro i hi
          rcases (set_s (vN N) n a t i).mp hi with z | ⟨k, k1, k2, k3, k4⟩
          · exact iht i z
          · obtain ⟨j, hj, ej⟩ := of_decide_eq_true (iht k k2)
            exact b6 j hj i k3 (by rw [ej]; exact k4)
      refine ⟨R, lp_inr ?_⟩
      unfold fX8_hopsByBreadth_s
      dsimp only
      rw [if_neg (by decide), if_pos rfl, if_pos (Int32.le_refl _), gd_t hb8, eb]
      cases hin : inL F q b with
      | true =>
        obtain ⟨h1, h2⟩ := b4 b hin
        obtain ⟨j, hj, ej⟩ := of_decide_eq_true hin
        have hV := b8 j hj
        rw [ej] at hV
        rw [h1, sel_first (t := V b) (by omega) h2.1 h2.2]
      | false =>
        rw [b3 b hb hin, sel_no (fun t _ => ?_)]
        cases z : (setAt (vN N) n a t).testBit b with
        | false => rfl
        | true => rw [all t b z] at hin; cases hin
theorem c_hopsByBreadth {N : Mem} {n a b : Nat} (hv : NV N n) (ha : a < n) (hb : b < 8) (R : Mem) : ∃ R', fX8_hopsByBreadth R N (nI a) (nI b) = some (sel (fun t => (setAt (vN N) n a t).testBit b) nI (-1) 8, R') := by
  have hn := hv.1
  have ea : (nI a).toNatClampNeg = a := nI_clamp (by omega)
  have ha8 : inb (nI a) 8 = true := inb_nI (by omega) (by decide)
  unfold fX8_hopsByBreadth
  have fill : ∀ t, t ≤ 8 → ∃ R', lp (fX8_hopsByBreadth_s N (nI a) (nI b)) (0, 0, 0, 0, 0, R) = lp (fX8_hopsByBreadth_s N (nI a) (nI b)) (0, nI t, 0, 0, 0, R') ∧ ∀ i, i < t → R' 1 i = -1 := by
    intro t
    induction t with
    | zero => intro _; exact ⟨R, rfl, fun i hi => by omega⟩
    | succ t ih =>
      intro ht
      obtain ⟨R', e, hR⟩ := ih (by omega)
      have et : (nI t).toNatClampNeg = t := nI_clamp (by omega)
      refine ⟨up2 R' 1 t (-1), e.trans (lp_inl ?_), fun i hi => ?_⟩
      · unfold fX8_hopsByBreadth_s
        dsimp only
        rw [if_pos rfl, if_neg (show ¬ (8 : Int32) ≤ nI t from nI_ge (b := 8) (by omega) (by omega)), gd_t (inb_nI (by omega) (by decide)), et, nI_1]
      · rw [up2_at]
        by_cases z : i = t
        · rw [if_pos ⟨rfl, z⟩]
        · rw [if_neg (fun y => z y.2)]; exact hR i (by omega)
  obtain ⟨R', e, hR⟩ := fill 8 (Nat.le_refl 8)
  have step : fX8_hopsByBreadth_s N (nI a) (nI b) (0, nI 8, 0, 0, 0, R') = some (.inl (1, nI 1, nI 0, 0, 0, up2 (up2 R' 1 a 0) 2 0 (nI a))) := by
    unfold fX8_hopsByBreadth_s
    dsimp only
    rw [if_pos rfl, if_pos (by decide), gd_t ha8, ea]
    rfl
  have hin : ∀ i, inL (fun _ => a) 1 i = true ↔ i = a := fun i => by
    unfold inL
    rw [decide_eq_true_iff]
    exact ⟨fun ⟨j, _, ej⟩ => ej.symm, fun z => ⟨0, by omega, z.symm⟩⟩
  have l0 : lvl (vN N) n a a 0 := ⟨(set_0 (vN N) n a a).mpr rfl, fun u hu => by omega⟩
  have hB : BF (vN N) n a (up2 (up2 R' 1 a 0) 2 0 (nI a)) 1 0 (fun _ => a) (fun _ => 0) := by
    refine ⟨⟨fun j hj => ha, fun i j hi hj _ => by omega⟩, fun j hj => ?_, fun i hi hf => ?_, fun i hi => ?_, fun j j' _ _ => Nat.le_refl 0, fun j hj => by omega, by omega, fun j hj => Nat.zero_le j, (hin a).mpr rfl⟩
    · rw [up2_at, if_pos ⟨rfl, by omega⟩]
    · have : i ≠ a := fun z => by rw [(hin i).mpr z] at hf; cases hf
      rw [up2_at, if_neg (by omega), up2_at, if_neg (by omega)]
      exact hR i hi
    · have := (hin i).mp hi
      subst this
      rw [up2_at, if_neg (by omega), up2_at, if_pos ⟨rfl, rfl⟩]
      exact ⟨rfl, l0⟩
  obtain ⟨R2, g⟩ := bfs_out hv hb 9 0 (by omega) _ 1 (fun _ => a) (fun _ => 0) (by omega) hB (fun _ => ⟨fun i t hl ht => by
    have et : t = 0 := Nat.le_zero.mp ht
    subst et
    exact (hin i).mpr ((set_0 (vN N) n a i).mp hl.1), fun j _ => Nat.zero_le _⟩)
  exact ⟨R2, e.trans ((lp_inl step).trans g)⟩
