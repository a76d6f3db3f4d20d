/-! ===== the output line, both sides ===== -/
def OB (Sb : TX) (M : Mem) (len : Nat) : Prop := Sb.1 0 1 = 0 ∧ Sb.1 0 3 = nI len ∧ M 0 10 = nI len ∧ (Sb.2 = 16 ∨ Sb.2 = 34) ∧ len ≤ Sb.2 ∧ (∀ i, i < len → ∃ c, c < 128 ∧ Sb.1 1 i = nI c ∧ M 5 i = nI c) ∧ fitB (Sb.1 1) Sb.2 = true
/-- what writing changes of the reference -/
def FWr (M M' : Mem) : Prop := ∀ k f, k ≠ 5 → ¬ (k = 0 ∧ f = 10) → M' k f = M k f
theorem FWr.rfl' (M : Mem) : FWr M M := fun _ _ _ _ => rfl
theorem FWr.trans {M M1 M2 : Mem} (h : FWr M M1) (g : FWr M1 M2) : FWr M M2 := fun k f a b => (g k f a b).trans (h k f a b)
theorem fitB_i {f : Nat → Int32} {n : Nat} (h : fitB f n = true) {i : Nat} (hi : i < n) : fits .byte (.int (f i)) = true := (@of_decide_eq_true (∀ i, i < n → fits .byte (.int (f i)) = true) _ h) i hi
theorem fitB_of {f : Nat → Int32} {n : Nat} (h : ∀ i, i < n → fits .byte (.int (f i)) = true) : fitB f n = true := decide_eq_true h
theorem byt : ∀ c : Fin 128, vp_nar .byte ((nI c.val).toInt8.toInt32) = nI c.val ∧ fits .byte (.int (nI c.val)) = true ∧ ¬ (255 : Int32) < nI c.val ∧ vp_nar .byte (nI c.val) = nI c.val := by decide +kernel
theorem fit0 : fits .byte (.int 0) = true := by decide +kernel
theorem shr0 : ∀ n : Fin 64, nI n.val >>> ((0 : Int32) &&& 31) = nI n.val := by decide +kernel
theorem sub_le0 {a b : Nat} (h : a ≤ b) (hb : b < 64) : nI a - nI b ≤ 0 := by
  have ea := nI_toInt (n := a) (by omega)
  have eb := nI_toInt (n := b) (by omega)
  rw [Int32.le_iff_toInt_le, Int32.toInt_sub, ea, eb, Int32.toInt_zero, Int.bmod_def]
  omega
theorem sub_nle0 {a b : Nat} (h : b < a) (hb : a < 64) : ¬ nI a - nI b ≤ 0 := by
  have ea := nI_toInt (n := a) (by omega)
  have eb := nI_toInt (n := b) (by omega)
  rw [Int32.le_iff_toInt_le, Int32.toInt_sub, ea, eb, Int32.toInt_zero, Int.bmod_def]
  omega
theorem c_setLength {Sb : TX} {M : Mem} {len : Nat} (h : OB Sb M len) (hl : len ≤ 34) : ∃ t, fJ4_setLength_d00df Sb 0 = some t ∧ OB t (up2 M 0 10 0) 0 := by
  obtain ⟨h1, h2, h3, h4, h5, h6, h7⟩ := h
  have hcap : ∃ c, c < 64 ∧ Sb.2 = c := ⟨Sb.2, by omega, rfl⟩
  obtain ⟨c, hc, ec⟩ := hcap
  have hle : (0 : Int32) - (nI Sb.2 >>> ((Sb.1 0 1) &&& 31)) ≤ 0 := by
    have q := sub_le0 (a := 0) (b := c) (Nat.zero_le c) hc
    have e : nI Sb.2 >>> ((Sb.1 0 1) &&& 31) = nI c := by rw [h1, ec, shr0 ⟨c, hc⟩]
    rw [e, ← nI_0]
    exact q
  have e1 : fJ5_ensureCapacityInternal_d00df (fun _ => Sb.1 0) (fun _ => Sb.1 1) Sb.2 0 = some () := by
    unfold fJ5_ensureCapacityInternal_d00df
    dsimp only
    exact if_pos hle
  unfold fJ4_setLength_d00df fJ5_setLength_d00df
  rw [if_pos (by decide), e1]
  simp only [Option.bind_some]
  rw [if_pos (show (0 : Int32) ≤ Sb.1 0 3 by rw [h2]; exact nI_0le (by omega))]
  have fin : ∀ So : Mem, So 0 1 = 0 → So 0 3 = 0 → OB (sbU So (fun _ => Sb.1 1) Sb.2) (up2 M 0 10 0) 0 := fun So s1 s3 => by
    refine ⟨s1, s3, by rw [up2_at, if_pos ⟨rfl, rfl⟩]; rfl, h4, Nat.zero_le _, fun i hi => by omega, ?_⟩
    show fitB (Sb.1 1) Sb.2 = true
    exact h7
  by_cases z : Sb.1 0 3 ≤ 0
  · rw [if_pos z]
    exact ⟨_, rfl, fin _ (by rw [up2_at, if_neg (by omega)]; exact h1) (by rw [up2_at, if_pos ⟨rfl, rfl⟩])⟩
  · rw [if_neg z]
    exact ⟨_, rfl, fin _ (by rw [up2_at, if_neg (by omega), up2_at, if_neg (by omega)]; exact h1) (by rw [up2_at, if_pos ⟨rfl, rfl⟩])⟩
theorem newcap : ∀ a : Fin 35, 16 < a.val → fJ8_newLength_cabcc (nI 16) ((nI a.val <<< ((0 : Int32) &&& 31)) - nI 16) (nI 16 + ((2 : Int32) <<< ((0 : Int32) &&& 31))) = some (nI 34) := by decide +kernel
theorem c_ens {Sb : TX} {M : Mem} {len : Nat} (h : OB Sb M len) {k : Nat} (hk : len + k ≤ 34) : ∃ t, sbEns Sb (nI (len + k)) = some t ∧ OB t M len ∧ len + k ≤ t.2 := by
  have h' := h
  obtain ⟨h1, h2, h3, h4, h5, h6, h7⟩ := h
  obtain ⟨c, hc, ec⟩ : ∃ c, c < 64 ∧ Sb.2 = c := ⟨Sb.2, by omega, rfl⟩
  unfold sbEns
  rw [h1, ec, shr0 ⟨c, hc⟩]
  by_cases q : len + k ≤ c
  · rw [if_pos (sub_le0 q hc)]
    exact ⟨Sb, rfl, h', by omega⟩
  · have c16 : c = 16 := by omega
    subst c16
    rw [if_neg (sub_nle0 (a := len + k) (b := 16) (by omega) (by omega))]
    have e1 : fJ5_newCapacity_0f7a4 (fun _ => Sb.1 0) (fun _ => Sb.1 1) 16 (nI (len + k)) = some (nI 34) := by
      unfold fJ5_newCapacity_0f7a4
      dsimp only
      rw [h1, newcap ⟨len + k, by omega⟩ (by show 16 < len + k; omega)]
      simp only [Option.bind_some]
      rw [if_neg (by decide), shr0 ⟨34, by decide⟩]
    rw [e1]
    simp only [Option.bind_some]
    rw [gd_t (by decide), gd_t (by rw [← ec]; exact h7)]
    refine ⟨_, rfl, ⟨h1, h2, h3, Or.inr (show (nI 34 <<< ((0 : Int32) &&& 31)).toNatClampNeg = 34 by decide), ?_, fun i hi => ?_, ?_⟩, ?_⟩
    · show len ≤ (nI 34 <<< ((0 : Int32) &&& 31)).toNatClampNeg
      have : (nI 34 <<< ((0 : Int32) &&& 31)).toNatClampNeg = 34 := by decide
      omega
    · obtain ⟨x, x1, x2, x3⟩ := h6 i hi
      refine ⟨x, x1, ?_, x3⟩
      show (if i < 16 then Sb.1 1 i else 0) = nI x
      rw [if_pos (by omega)]
      exact x2
    · refine fitB_of (fun i hi => ?_)
      show fits .byte (.int (if i < 16 then Sb.1 1 i else 0)) = true
      by_cases c2 : i < 16
      · rw [if_pos c2]; exact fitB_i h7 (by omega)
      · rw [if_neg c2]; exact fit0
    · show len + k ≤ (nI 34 <<< ((0 : Int32) &&& 31)).toNatClampNeg
      have : (nI 34 <<< ((0 : Int32) &&& 31)).toNatClampNeg = 34 := by decide
      omega
theorem r_write {M : Mem} {len : Nat} (h : M 0 10 = nI len) (hl : len < 40) (x : Int32) : fX12_write M x = some (up2 (up2 M 5 len x) 0 10 (nI (len + 1))) := by
  have e : (nI len).toNatClampNeg = len := nI_clamp (by omega)
  unfold fX12_write
  rw [h, gd_t (inb_nI hl (by decide)), e, show up2 M 5 len x 0 10 = nI len by rw [up2_at, if_neg (by omega)]; exact h, nI_1]
theorem FWr_write (M : Mem) (len : Nat) (x y : Int32) : FWr M (up2 (up2 M 5 len x) 0 10 y) := fun k f hk hf => by
  rw [up2_at, if_neg hf, up2_at, if_neg (by omega)]
/-- one more byte on both sides, given room -/
theorem OB_put {t : TX} {M : Mem} {len : Nat} (h : OB t M len) (hr : len + 1 ≤ t.2) {c : Nat} (hc : c < 128) {So Sy : Mem} (s1 : So 0 1 = 0) (s3 : So 0 3 = nI (len + 1)) (sy : ∀ i, Sy 0 i = if i = len then nI c else t.1 1 i) : OB (sbU So Sy t.2) (up2 (up2 M 5 len (nI c)) 0 10 (nI (len + 1))) (len + 1) := by
  obtain ⟨h1, h2, h3, h4, h5, h6, h7⟩ := h
  refine ⟨s1, s3, by rw [up2_at, if_pos ⟨rfl, rfl⟩], h4, hr, fun i hi => ?_, fitB_of (fun i hi => ?_)⟩
  · show ∃ c, c < 128 ∧ Sy 0 i = nI c ∧ _
    rw [sy]
    by_cases q : i = len
    · refine ⟨c, hc, if_pos q, ?_⟩
      rw [up2_at, if_neg (by omega), up2_at, if_pos ⟨rfl, q⟩]
    · obtain ⟨x, x1, x2, x3⟩ := h6 i (by omega)
      refine ⟨x, x1, by rw [if_neg q]; exact x2, ?_⟩
      rw [up2_at, if_neg (by omega), up2_at, if_neg (fun z => q z.2)]
      exact x3
  · show fits .byte (.int (Sy 0 i)) = true
    rw [sy]
    by_cases q : i = len
    · rw [if_pos q]; exact (byt ⟨c, hc⟩).2.1
    · rw [if_neg q]; exact fitB_i h7 hi
theorem ap_char {Sb : TX} {M : Mem} {len : Nat} (h : OB Sb M len) (hl : len + 1 ≤ 34) {c : Nat} (hc : c < 128) : ∃ t M', fJ4_append_cf468 Sb (nI c) = some t ∧ fX12_write M (nI c) = some M' ∧ OB t M' (len + 1) ∧ FWr M M' := by
  obtain ⟨t, e1, e2, e3⟩ := c_ens h hl
  obtain ⟨h1, h2, h3, h4, h5, h6, h7⟩ := id e2
  have el : (nI len).toNatClampNeg = len := nI_clamp (by omega)
  refine ⟨_, _, ?_, r_write h3 (by omega) (nI c), OB_put e2 e3 hc (So := up2 (fun _ => t.1 0) 0 3 (nI (len + 1))) (Sy := up2 (fun _ => t.1 1) 0 len (nI c)) ?_ ?_ (fun i => ?_), FWr_write _ _ _ _⟩
  · unfold fJ4_append_cf468 fJ5_append_3fe6f
    rw [show Sb.1 0 3 + 1 = nI (len + 1) by rw [h.2.1, nI_1], e1]
    simp only [Option.bind_some]
    unfold fJ5_append_3fe6f_g fJ5_isLatin1_aae02 fJ1_canEncode_fc78d
    dsimp only
    rw [if_neg (by decide), if_pos h1]
    simp only [Option.bind_some]
    rw [if_neg (by decide), if_neg (byt ⟨c, hc⟩).2.2.1]
    simp only [Option.bind_some]
    rw [if_neg (by decide), h2, gd_t (inb_nI (by omega) (by omega)), nI_1, el, (byt ⟨c, hc⟩).1]
    rfl
  · rw [up2_at, if_neg (by omega)]; exact h1
  · rw [up2_at, if_pos ⟨rfl, rfl⟩]
  · rw [up2_at]
    by_cases q : i = len
    · rw [if_pos ⟨rfl, q⟩, if_pos q]
    · rw [if_neg (fun z => q z.2), if_neg q]
theorem size1 : ∀ v : Fin 10, fJ6_stringSize_0f7a4_s (nI v.val) (-(nI v.val), 0, -10, 1) = some (.inr (nI 1)) ∧ ¬ nI v.val < 0 ∧ 0 ≤ nI v.val := by decide +kernel
theorem size2a : ∀ v : Fin 90, fJ6_stringSize_0f7a4_s (nI (10 + v.val)) (-(nI (10 + v.val)), 0, -10, 1) = some (.inl (-(nI (10 + v.val)), 0, -100, 2)) := by decide +kernel
theorem size2b : ∀ v : Fin 90, fJ6_stringSize_0f7a4_s (nI (10 + v.val)) (-(nI (10 + v.val)), 0, -100, 2) = some (.inr (nI 2)) := by decide +kernel
theorem size2c : ∀ v : Fin 100, ¬ nI v.val < 0 ∧ 0 ≤ nI v.val := by decide +kernel
theorem dig1 : ∀ v : Fin 10, (-100 : Int32) < -(nI v.val) ∧ inb (-(-(nI v.val))) 100 = true ∧ (-9 : Int32) ≤ -(nI v.val) ∧ vp_nar .byte (nI (48 + (-(-(nI v.val))).toNatClampNeg % 10)) = nI (48 + v.val) := by decide +kernel
theorem dig2 : ∀ v : Fin 100, 10 ≤ v.val → (-100 : Int32) < -(nI v.val) ∧ inb (-(-(nI v.val))) 100 = true ∧ ¬ (-9 : Int32) ≤ -(nI v.val) ∧ vp_nar .byte (nI (48 + (-(-(nI v.val))).toNatClampNeg % 10)) = nI (48 + v.val % 10) ∧ vp_nar .byte (nI (48 + (-(-(nI v.val))).toNatClampNeg / 10)) = nI (48 + v.val / 10) := by decide +kernel
theorem dec1 (n : Nat) : nI (n + 1) + (-1) = nI n := by
  rw [← Int32.sub_eq_add_neg]
  exact nI_pred n
/-- a digit on both sides -/
theorem ap_digit {Sb : TX} {M : Mem} {len : Nat} (h : OB Sb M len) (hl : len + 1 ≤ 34) {v : Nat} (hv : v < 10) : ∃ t M', fJ4_append_bf812 Sb (nI v) = some t ∧ fX12_write M (nI (48 + v)) = some M' ∧ OB t M' (len + 1) ∧ FWr M M' := by
  obtain ⟨t, e1, e2, e3⟩ := c_ens h hl
  obtain ⟨h1, h2, h3, h4, h5, h6, h7⟩ := id e2
  obtain ⟨s1, s2, s3⟩ := size1 ⟨v, hv⟩
  obtain ⟨d1, d2, d3, d4⟩ := dig1 ⟨v, hv⟩
  dsimp only at s1 s2 s3 d1 d2 d3 d4
  have el : (nI len).toNatClampNeg = len := nI_clamp (by omega)
  refine ⟨_, _, ?_, r_write h3 (by omega) (nI (48 + v)), OB_put e2 e3 (show 48 + v < 128 by omega) (So := up2 (fun _ => t.1 0) 0 3 (nI (len + 1))) (Sy := up2 (fun _ => t.1 1) 0 len (nI (48 + v))) ?_ ?_ (fun i => ?_), FWr_write _ _ _ _⟩
  · unfold fJ4_append_bf812 fJ5_append_c97b9 fJ6_stringSize_0f7a4
    rw [if_neg s2, lp_inr s1]
    simp only [Option.bind_some]
    rw [show Sb.1 0 3 + nI 1 = nI (len + 1) by rw [h.2.1, nI_add], e1]
    simp only [Option.bind_some]
    unfold fJ5_append_c97b9_g fJ5_isLatin1_aae02
    dsimp only
    rw [if_neg (by decide), if_pos h1]
    simp only [Option.bind_some]
    have eg : fJ6_getChars_ba4f3 (fun _ => t.1 1) t.2 (nI v) (nI (len + 1)) = some (nI len, up2 (fun _ => t.1 1) 0 len (nI (48 + v))) := by
      unfold fJ6_getChars_ba4f3
      rw [if_pos s3, if_pos rfl]
      refine lp_inr ?_
      unfold fJ6_getChars_ba4f3_s
      dsimp only
      rw [if_pos d1, gd_t d2, dec1, gd_t (inb_nI (by omega) (by omega)), if_pos d3, if_pos rfl, d4, el]
    rw [if_neg (by decide), eg]
    rfl
  · rw [up2_at, if_neg (by omega)]; exact h1
  · rw [up2_at, if_pos ⟨rfl, rfl⟩]
  · rw [up2_at]
    by_cases q : i = len
    · rw [if_pos ⟨rfl, q⟩, if_pos q]
    · rw [if_neg (fun z => q z.2), if_neg q]
theorem wn1 : ∀ v : Fin 10, nI v.val ≤ 9 ∧ (48 : Int32) + (nI v.val - nI v.val / 10 * 10) = nI (48 + v.val) := by decide +kernel
theorem wn2 : ∀ v : Fin 100, 10 ≤ v.val → ¬ nI v.val ≤ 9 ∧ (48 : Int32) + (nI v.val - nI v.val / 10 * 10) = nI (48 + v.val % 10) ∧ (48 : Int32) + nI v.val / 10 = nI (48 + v.val / 10) := by decide +kernel
/-- a number on both sides -/
theorem ap_num {Sb : TX} {M : Mem} {len : Nat} (h : OB Sb M len) (hl : len + 2 ≤ 34) {v : Nat} (hv : v < 100) : ∃ t M' len', fJ4_append_bf812 Sb (nI v) = some t ∧ fX12_writeNumber M (nI v) = some M' ∧ OB t M' len' ∧ len' ≤ len + 2 ∧ FWr M M' := by
  by_cases c : v < 10
  · obtain ⟨t, M', a1, a2, a3, a4⟩ := ap_digit h (by omega) c
    obtain ⟨w1, w2⟩ := wn1 ⟨v, c⟩
    dsimp only at w1 w2
    refine ⟨t, M', len + 1, a1, ?_, a3, by omega, a4⟩
    unfold fX12_writeNumber
    rw [if_pos w1, w2, a2]
    rfl
  · obtain ⟨t, e1, e2, e3⟩ := c_ens h hl
    obtain ⟨h1, h2, h3, h4, h5, h6, h7⟩ := id e2
    have s1 := size2a ⟨v - 10, by omega⟩
    have s2 := size2b ⟨v - 10, by omega⟩
    obtain ⟨s3, s4⟩ := size2c ⟨v, hv⟩
    rw [show 10 + (v - 10) = v by omega] at s1 s2
    obtain ⟨d1, d2, d3, d4, d5⟩ := dig2 ⟨v, hv⟩ (by show 10 ≤ v; omega)
    obtain ⟨w1, w2, w3⟩ := wn2 ⟨v, hv⟩ (by show 10 ≤ v; omega)
    dsimp only at s1 s2 s3 s4 d1 d2 d3 d4 d5 w1 w2 w3
    have el : (nI len).toNatClampNeg = len := nI_clamp (by omega)
    have el1 : (nI (len + 1)).toNatClampNeg = len + 1 := nI_clamp (by omega)
    have o1 := OB_put e2 (by omega) (show 48 + v / 10 < 128 by omega) (So := up2 (fun _ => t.1 0) 0 3 (nI (len + 1))) (Sy := fun _ i => if i = len then nI (48 + v / 10) else t.1 1 i) (by rw [up2_at, if_neg (by omega)]; exact h1) (by rw [up2_at, if_pos ⟨rfl, rfl⟩]) (fun i => rfl)
    have o2 := OB_put o1 (by show len + 1 + 1 ≤ t.2; omega) (show 48 + v % 10 < 128 by omega) (So := up2 (fun _ => t.1 0) 0 3 (nI (len + 2))) (Sy := up2 (up2 (fun _ => t.1 1) 0 (len + 1) (nI (48 + v % 10))) 0 len (nI (48 + v / 10))) (by rw [up2_at, if_neg (by omega)]; exact h1) (by rw [up2_at, if_pos ⟨rfl, rfl⟩]) (fun i => by
      show _ = if i = len + 1 then nI (48 + v % 10) else if i = len then nI (48 + v / 10) else t.1 1 i
      rw [up2_at]
      by_cases q : i = len
      · rw [if_pos ⟨rfl, q⟩, if_neg (by omega), if_pos q]
      · rw [if_neg (fun z => q z.2), up2_at]
        by_cases q1 : i = len + 1
        · rw [if_pos ⟨rfl, q1⟩, if_pos q1]
        · rw [if_neg (fun z => q1 z.2), if_neg q1, if_neg q])
    refine ⟨_, _, len + 2, ?_, ?_, o2, Nat.le_refl _, (FWr_write _ _ _ _).trans (FWr_write _ _ _ _)⟩
    · unfold fJ4_append_bf812 fJ5_append_c97b9 fJ6_stringSize_0f7a4
      rw [if_neg s3, lp_inl s1, lp_inr s2]
      simp only [Option.bind_some]
      rw [show Sb.1 0 3 + nI 2 = nI (len + 2) by rw [h.2.1, nI_add], e1]
      simp only [Option.bind_some]
      unfold fJ5_append_c97b9_g fJ5_isLatin1_aae02
      dsimp only
      rw [if_neg (by decide), if_pos h1]
      simp only [Option.bind_some]
      have eg : fJ6_getChars_ba4f3 (fun _ => t.1 1) t.2 (nI v) (nI (len + 2)) = some (nI len, up2 (up2 (fun _ => t.1 1) 0 (len + 1) (nI (48 + v % 10))) 0 len (nI (48 + v / 10))) := by
        unfold fJ6_getChars_ba4f3
        rw [if_pos s4, if_pos rfl]
        refine lp_inr ?_
        unfold fJ6_getChars_ba4f3_s
        dsimp only
        rw [if_pos d1, gd_t d2, show nI (len + 2) + (-1) = nI (len + 1) from dec1 (len + 1), dec1, gd_t (inb_nI (by omega) (by omega)), if_neg d3, gd_t d2, gd_t (inb_nI (by omega) (by omega)), if_pos rfl, d4, d5, el, el1]
      rw [if_neg (by decide), eg]
      rfl
    · unfold fX12_writeNumber
      rw [if_neg w1, w2, w3, r_write h3 (by omega)]
      simp only [Option.bind_some]
      rw [r_write (len := len + 1) (by rw [up2_at, if_pos ⟨rfl, rfl⟩]) (by omega)]
      rfl
/-- a call sign on both sides -/
theorem ap_sign {N M : Mem} {b B n w : Nat} {L : Nat → Nat} (hR : RC N M b B n w L) (G : Mem) {Sb : TX} {len : Nat} (h : OB Sb M len) (hl : len + 2 ≤ 34) {i : Nat} (hi : i < n) : ∃ t M', fX11_appendSign G N Sb (2 + i) = some t ∧ fX12_writeSign M (nI i) = some M' ∧ OB t M' (len + 2) ∧ FWr M M' := by
  have hn := hR.hn
  obtain ⟨c, c1, c2, c3⟩ := hR.rg hi (f := 0) (by decide)
  have c2 : c ≤ 90 := c2
  obtain ⟨d, d1, d2, d3⟩ := hR.rg hi (f := 1) (by decide)
  have d2 : d ≤ 9 := d2
  have n0 : N (2 + i) 0 = nI c := (hR.vw i hi 0 (by decide)).trans c3
  have n1 : N (2 + i) 1 = nI d := (hR.vw i hi 1 (by decide)).trans d3
  obtain ⟨t1, M1, a1, a2, a3, a4⟩ := ap_char h (by omega) (show c < 128 by omega)
  obtain ⟨t2, M2, b1, b2, b3, b4⟩ := ap_digit a3 (by omega) (show d < 10 by omega)
  refine ⟨t2, M2, ?_, ?_, b3, a4.trans b4⟩
  · unfold fX11_appendSign
    rw [gd_t (stn_2 (by omega)), n0, n1, a1]
    simp only [Option.bind_some]
    rw [b1]
    rfl
  · unfold fX12_writeSign
    rw [r_0 M (by omega), c3]
    simp only [Option.bind_some]
    rw [a2]
    simp only [Option.bind_some]
    have e1 : vM M1 i 1 = nI d := by rw [← d3]; exact a4 1 _ (by decide) (by omega)
    rw [r_1 M1 (by omega), e1]
    simp only [Option.bind_some]
    rw [show (48 : Int32) + nI d = nI (48 + d) from nI_add 48 d, b2]
    rfl
theorem RC.fw {N M M' : Mem} {b B n w : Nat} {L : Nat → Nat} (h : RC N M b B n w L) (hw : FWr M M') : RC N M' b B n w L := h.ref (fun f _ => hw 1 f (by decide) (by omega))
theorem SRa.fw {G N V Hs : Mem} {Q : Nat → Mem} {P : Mem} {Sb Sb' : TX} {M M' : Mem} {B len : Nat} (h : SRa G N V Hs Q P Sb M B) (hw : FWr M M') (ho : OB Sb' M' len) : SRa G N V Hs Q P Sb' M' B := by
  obtain ⟨h1, h2, h3, ⟨h4, h5⟩, h6, h7⟩ := h
  exact ⟨h1.ref (fun f _ => hw _ _ (by omega) (by omega)), h2.ref (hw _ _ (by omega) (by omega)) (fun f _ => hw _ _ (by omega) (by omega)), h3.ref (hw _ _ (by omega) (by omega)) (fun f _ => hw _ _ (by omega) (by omega)), ⟨by rw [hw _ _ (by omega) (by omega)]; exact h4, by rw [hw _ _ (by omega) (by omega)]; exact h5⟩, h6.ref (hw _ _ (by omega) (by omega)) (fun f => hw _ _ (by omega) (by omega)), len, ho⟩
theorem c_length {Sb : TX} {M : Mem} {len : Nat} (h : OB Sb M len) : fJ4_length_8abf5 Sb = some (nI len) := by
  show some (Sb.1 0 3) = _
  rw [h.2.1]
