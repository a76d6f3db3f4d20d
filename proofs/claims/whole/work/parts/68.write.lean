/-! ===== stations and channels written, characters read and typed ===== -/
theorem OB.r04 {Sb : TX} {M : Mem} {len : Nat} (h : OB Sb M len) (x : Int32) : OB Sb (up2 M 0 4 x) len := by
  obtain ⟨h1, h2, h3, h4, h5, h6, h7⟩ := h
  exact ⟨h1, h2, by rw [up2_at, if_neg (by omega)]; exact h3, h4, h5, fun i hi => by rw [up2_at, if_neg (by omega)]; exact h6 i hi, h7⟩
theorem FWr.row {M M' : Mem} (h : FWr M M') (i f : Nat) : vM M' i f = vM M i f := h 1 _ (by decide) (by omega)
theorem q_writeStation {z : KS} {M : Mem} {B : Nat} (h : SR z M B) (a : Int32) : ok (fC_writeStation z M a) (fun r => SR r.1 r.2 B) := by
  obtain ⟨n, w, L, hR⟩ := h.1
  have hn := hR.hn
  unfold fC_writeStation
  rcases st_or n a with ⟨i, hi, e⟩ | hno
  · subst e
    have hs : stn (2 + i) = true := stn_2 (by omega)
    obtain ⟨len, hO⟩ := h.2.2.2.2.2
    have hO : OB z.Sb M len := hO
    have hl34 : len ≤ 34 := by rcases hO.2.2.2.1 with q | q <;> have := hO.2.2.2.2.1 <;> omega
    obtain ⟨t0, c0, o0⟩ := c_setLength (hO.r04 0) hl34
    have w0 : FWr (up2 M 0 4 0) (up2 (up2 M 0 4 0) 0 10 0) := fun k f hk hf => by rw [up2_at, if_neg hf]
    have hR0 : RC z.N (up2 M 0 4 0) 59 B n w L := hR.ref (fun f _ => by rw [up2_at, if_neg (by omega)])
    have hRw := hR0.fw w0
    obtain ⟨x, x1, x2⟩ := RG_lt (hR0.rg hi (f := 2) (by decide))
    obtain ⟨y, y1, y2⟩ := RG_lt (hR0.rg hi (f := 3) (by decide))
    obtain ⟨c, c1, c2⟩ := RG_lt (hR0.rg hi (f := 5) (by decide))
    have n2 : z.N (2 + i) 2 = nI x := (hR0.vw i hi 2 (by decide)).trans x2
    have n3 : z.N (2 + i) 3 = nI y := (hR0.vw i hi 3 (by decide)).trans y2
    have n5 : z.N (2 + i) 5 = nI c := (hR0.vw i hi 5 (by decide)).trans c2
    have n6 : z.N (2 + i) 6 = vM (up2 M 0 4 0) i 6 := hR0.vw i hi 6 (by decide)
    obtain ⟨t1, M1, a1, b1, o1, w1⟩ := ap_sign hRw z.G o0 (by omega) hi
    obtain ⟨t2, M2, a2, b2, o2, w2⟩ := ap_char o1 (by omega) (show 64 < 128 by decide)
    obtain ⟨t3, M3, l3, a3, b3, o3, p3, w3⟩ := ap_num o2 (by omega) (show x < 100 by omega)
    obtain ⟨t4, M4, a4, b4, o4, w4⟩ := ap_char o3 (by omega) (show 44 < 128 by decide)
    obtain ⟨t5, M5, l5, a5, b5, o5, p5, w5⟩ := ap_num o4 (by omega) (show y < 100 by omega)
    obtain ⟨t6, M6, a6, b6, o6, w6⟩ := ap_char o5 (by omega) (show 35 < 128 by decide)
    obtain ⟨t7, M7, l7, a7, b7, o7, p7, w7⟩ := ap_num o6 (by omega) (show c < 100 by omega)
    have f2 := (w0.trans w1).trans w2
    have f4 := (f2.trans w3).trans w4
    have f6 := (f4.trans w5).trans w6
    have f7 := f6.trans w7
    have e2 : fX12_t M2 (nI i) 2 = some (nI x) := by rw [r_2 M2 (by omega), f2.row, x2]
    have e3 : fX12_t M4 (nI i) 3 = some (nI y) := by rw [r_3 M4 (by omega), f4.row, y2]
    have e5 : fX12_t M6 (nI i) 5 = some (nI c) := by rw [r_5 M6 (by omega), f6.row, c2]
    have h3 := hR.nv.2.2 i hi
    -- the end of it: what is written behind
    have key : ∃ t M' len', (if z.N (2 + i) 6 = 1 then (fJ4_append_cf468 t7 33).bind fun z31 => (fJ4_length_8abf5 z31).bind fun z33 => some ((Sum.inr z33 : Nat ⊕ Int32), z31) else gd (inb (z.N (2 + i) 6) 3) (if z.N (2 + i) 6 = 2 then (fJ4_append_cf468 t7 63).bind fun z27 => (fJ4_length_8abf5 z27).bind fun z29 => some ((Sum.inr z29 : Nat ⊕ Int32), z27) else (fJ4_length_8abf5 t7).bind fun z25 => some ((Sum.inr z25 : Nat ⊕ Int32), t7))) = some (.inr (nI len'), t) ∧
        ((fX12_t M7 (nI i) 6).bind fun z24 => if z24 = 1 then (fX12_write M7 33).bind fun z32 => (fX12_t z32 (nI i) 6).bind fun z34 => if z34 = 2 then (fX12_write z32 63).bind fun z37 => some (z37 0 10, z37) else some (z32 0 10, z32) else (fX12_t M7 (nI i) 6).bind fun z27 => if z27 = 2 then (fX12_write M7 63).bind fun z30 => some (z30 0 10, z30) else some (M7 0 10, M7)) = some (nI len', M') ∧ OB t M' len' ∧ FWr M7 M' := by
      rw [n6, r_6 M7 (by omega), f7.row]
      simp only [Option.bind_some]
      by_cases m1 : vM (up2 M 0 4 0) i 6 = 1
      · obtain ⟨t8, M8, a8, b8, o8, w8⟩ := ap_char o7 (by omega) (show 33 < 128 by decide)
        have a8 : fJ4_append_cf468 t7 33 = some t8 := a8
        have b8 : fX12_write M7 33 = some M8 := b8
        refine ⟨t8, M8, l7 + 1, ?_, ?_, o8, w8⟩
        · rw [if_pos m1, a8]
          simp only [Option.bind_some]
          rw [c_length o8]
          rfl
        · rw [if_pos m1, b8]
          simp only [Option.bind_some]
          rw [r_6 M8 (by omega), w8.row, f7.row]
          simp only [Option.bind_some]
          rw [if_neg (by rw [m1]; decide), o8.2.2.1]
      · by_cases m2 : vM (up2 M 0 4 0) i 6 = 2
        · obtain ⟨t8, M8, a8, b8, o8, w8⟩ := ap_char o7 (by omega) (show 63 < 128 by decide)
          have a8 : fJ4_append_cf468 t7 63 = some t8 := a8
          have b8 : fX12_write M7 63 = some M8 := b8
          refine ⟨t8, M8, l7 + 1, ?_, ?_, o8, w8⟩
          · rw [if_neg m1, gd_t (by rw [← n6]; exact h3), if_pos m2, a8]
            simp only [Option.bind_some]
            rw [c_length o8]
            rfl
          · rw [if_neg m1, if_pos m2, b8]
            simp only [Option.bind_some]
            rw [o8.2.2.1]
        · refine ⟨t7, M7, l7, ?_, ?_, o7, FWr.rfl' M7⟩
          · rw [if_neg m1, gd_t (by rw [← n6]; exact h3), if_neg m2, c_length o7]
            rfl
          · rw [if_neg m1, if_neg m2, o7.2.2.1]
    obtain ⟨t, M', len', k1, k2, k3, k4⟩ := key
    have fall := f7.trans k4
    refine fin (k := 0) (z' := KS.mk z.G z.N z.T z.V z.Hs z.Q z.R z.P t (nI len').toInt64 z.od) (b := nI len') (M' := M') ?_ ?_ ?_ (fun _ => rfl) ((h.r04 0).fw fall k3)
    · unfold fL_writeStation fX11_writeStation
      rw [c_known_yes hR.nv z.G hi]
      simp only [Option.bind_some, sx]
      rw [gd_t hs, c0]
      simp only [Option.bind_some]
      rw [a1]
      simp only [Option.bind_some]
      rw [show fJ4_append_cf468 t1 64 = some t2 from a2]
      simp only [Option.bind_some]
      rw [n2, a3]
      simp only [Option.bind_some]
      rw [show fJ4_append_cf468 t3 44 = some t4 from a4]
      simp only [Option.bind_some]
      rw [n3, a5]
      simp only [Option.bind_some]
      rw [show fJ4_append_cf468 t5 35 = some t6 from a6]
      simp only [Option.bind_some]
      rw [n5, a7]
      simp only [Option.bind_some]
      rw [gd_t h3, k1]
      rfl
    · unfold fX12_writeStation
      rw [r_areStations_yes hR.mv hi hi]
      simp only [Option.bind_some]
      rw [if_neg (by decide), b1]
      simp only [Option.bind_some]
      rw [show fX12_write M1 64 = some M2 from b2]
      simp only [Option.bind_some]
      rw [e2]
      simp only [Option.bind_some]
      rw [b3]
      simp only [Option.bind_some]
      rw [show fX12_write M3 44 = some M4 from b4]
      simp only [Option.bind_some]
      rw [e3]
      simp only [Option.bind_some]
      rw [b5]
      simp only [Option.bind_some]
      rw [show fX12_write M5 35 = some M6 from b6]
      simp only [Option.bind_some]
      rw [e5]
      simp only [Option.bind_some]
      rw [b7]
      simp only [Option.bind_some]
      exact k2
    · rw [fall 0 4 (by decide) (by omega)]
      exact e_04 M 0
  · refine fin (k := 1) (z' := z) (b := 0) (M' := up2 M 0 4 1) ?_ ?_ (e_04 _ _) (fun q => absurd q (by decide)) (h.r04 1)
    · unfold fL_writeStation fX11_writeStation
      rw [c_known_no hR.nv z.G hno]
      rfl
    · unfold fX12_writeStation
      rw [r_areStations_no hR.mv (Or.inl hno)]
      rfl
theorem by255 : ∀ c : Fin 128, ((nI c.val &&& 255).toUInt32 % 65536).toInt32 = nI c.val := by decide +kernel
theorem q_charAt {z : KS} {M : Mem} {B : Nat} (h : SR z M B) (a : Int32) : ok (fC_charAt z M a) (fun r => SR r.1 r.2 B) := by
  obtain ⟨len, hO⟩ := h.2.2.2.2.2
  have hO' := hO
  obtain ⟨h1, h2, h3, h4, h5, h6, h7⟩ := hO
  obtain ⟨cp, hcp, ecp⟩ : ∃ c, c ≤ 34 ∧ z.Sb.2 = c := ⟨z.Sb.2, by omega, rfl⟩
  unfold fC_charAt
  rcases st_or len a with ⟨i, hi, ea⟩ | hno
  · subst ea
    obtain ⟨c, c1, c2, c3⟩ := h6 i hi
    have ei : (nI i).toNatClampNeg = i := nI_clamp (by omega)
    have hin : fX12_in (nI i) 0 (M 0 10 - 1) = some 1 := by
      unfold fX12_in
      obtain ⟨l', rfl⟩ : ∃ l', len = l' + 1 := ⟨len - 1, by omega⟩
      rw [h3, nI_pred, if_neg (nI_pos (by omega)), if_neg (nI_nlt (by omega) (by omega))]
    have hch : fJ4_charAt_5068e z.Sb (nI i) = some (nI c) := by
      unfold fJ4_charAt_5068e fJ5_charAt_5068e
      dsimp only
      have econd : ¬ (nI z.Sb.2 >>> ((z.Sb.1 0 1) &&& 31)) < z.Sb.1 0 3 := by
        have e : nI z.Sb.2 >>> ((z.Sb.1 0 1) &&& 31) = nI cp := by rw [h1, ecp, shr0 ⟨cp, by omega⟩]
        rw [e, h2]
        exact nI_nlt (by omega) (by omega)
      have eck : fJ0_checkIndex_df160 (nI i) (z.Sb.1 0 3) = some () := by
        unfold fJ0_checkIndex_df160
        rw [if_neg (nI_pos (by omega)), if_pos (by rw [h2]; exact nI_lt hi (by omega))]
      rw [if_neg econd, eck]
      simp only [Option.bind_some]
      rw [if_pos h1, gd_t (inb_nI (by omega) (by omega)), ei, c2, by255 ⟨c, c1⟩, gd_t (ch_nI ⟨c, c1⟩).2]
      simp only [Option.bind_some]
      rw [gd_t (ch_nI ⟨c, c1⟩).2]
    refine fin (k := 0) (z' := KS.mk z.G z.N z.T z.V z.Hs z.Q z.R z.P z.Sb (nI c).toInt64 z.od) (b := nI c) (M' := up2 M 0 4 0) ?_ ?_ (e_04 _ _) (fun _ => rfl) (h.r04 0)
    · unfold fL_charAt fX11_charAt
      rw [if_neg (nI_pos (by omega)), c_length hO']
      simp only [Option.bind_some]
      rw [if_pos (nI_lt hi (by omega)), hch]
      simp only [Option.bind_some]
      rw [gd_t (ch_nI ⟨c, c1⟩).2]
      rfl
    · unfold fX12_charAt
      have e5 : up2 M 0 4 0 5 i = nI c := by rw [up2_at, if_neg (by omega)]; exact c3
      rw [hin]
      simp only [Option.bind_some]
      rw [if_neg (by decide), if_pos (le0 M), gd_t (inb_nI (by omega) (by decide)), ei, e5, (ch_nI ⟨c, c1⟩).1, gd_t (ch_nI ⟨c, c1⟩).2]
  · have hl31 : len < 2 ^ 30 := by omega
    have hin : fX12_in a 0 (M 0 10 - 1) = some 0 := by
      unfold fX12_in
      by_cases q : a < 0
      · rw [if_pos q]
      · rw [if_neg q, h3]
        obtain ⟨j, hj, ej⟩ := nI_of q
        by_cases q2 : j < len
        · exact absurd ej (hno j q2)
        · rw [if_pos (by
            rw [ej, Int32.lt_iff_toInt_lt, Int32.toInt_sub, nI_toInt hj, nI_toInt (by omega), Int32.toInt_one, Int.bmod_def]
            omega)]
    refine fin (k := 1) (z' := z) (b := 32) (M' := up2 M 0 4 1) ?_ ?_ (e_04 _ _) (fun q => absurd q (by decide)) (h.r04 1)
    · unfold fL_charAt fX11_charAt
      by_cases q : a < 0
      · rw [if_pos q]
        rfl
      · rw [if_neg q, c_length hO']
        simp only [Option.bind_some]
        obtain ⟨j, hj, ej⟩ := nI_of q
        by_cases q2 : j < len
        · exact absurd ej (hno j q2)
        · rw [ej, if_neg (nI_nlt (by omega) hj)]
          rfl
    · unfold fX12_charAt
      rw [hin]
      simp only [Option.bind_some]
      rw [if_pos trivial, if_neg (nle1 M)]
theorem nar_c {x : Int32} (h : isC x = true) : vp_nar .char x = x := by
  unfold vp_nar
  rw [isC_n h]
theorem isC_chx (x : Int32) : isC (ch x) = true := by
  unfold isC
  rw [Bool.and_eq_true]
  exact ⟨decide_eq_true (pk_nc x), pk_fc x⟩
theorem q_type {z : KS} {M : Mem} {B : Nat} (h : SR z M B) (a : Int32) : ok (fC_type z M a) (fun r => SR r.1 r.2 B) := by
  have h' := h
  obtain ⟨g1, g2, g3, ⟨g4, g5⟩, ⟨len, p1, p2, p3, p4⟩, g7⟩ := h
  unfold fC_type
  by_cases c : len = 60
  · subst c
    refine fin (k := 1) (z' := z) (b := 0) (M' := up2 M 0 4 1) ?_ ?_ (e_04 _ _) (fun q => absurd q (by decide)) (h'.r04 1)
    · unfold fL_type fX11_type
      rw [if_neg (show ¬ z.P 0 1 < 60 by rw [p2]; decide)]
      rfl
    · unfold fX12_type
      rw [if_pos (show M 0 15 = 60 by rw [p3]; rfl), if_neg (nle1 M)]
  · have el : (nI len).toNatClampNeg = len := nI_clamp (by omega)
    have hl : inb (nI len) 60 = true := inb_nI (by omega) (by decide)
    have ec : fX11_type z.G z.P (ch a) = some (.inr (nI (len + 1)), up2 (up2 z.P 1 len (ch a)) 0 1 (nI (len + 1))) := by
      have eq1 : up2 z.P 1 len (ch a) 0 1 = nI len := by rw [up2_at, if_neg (by omega)]; exact p2
      unfold fX11_type
      rw [if_pos (show z.P 0 1 < 60 by rw [p2]; exact nI_lt (b := 60) (by omega) (by omega))]
      unfold fX7_append
      rw [if_neg (show ¬ (60 : Int32) ≤ z.P 0 1 by rw [p2]; exact nI_ge (b := 60) (by omega) (by omega)), p2, gd_t hl, el, nar_c (isC_chx a), eq1, nI_1]
      simp only [Option.bind_some]
      rw [up2_at, if_pos ⟨rfl, rfl⟩]
    have m15 : up2 M 0 4 0 0 15 = nI len := by rw [up2_at, if_neg (by omega)]; exact p3
    have er : fX12_type M (ch a) = some (nI (len + 1), up2 (up2 (up2 M 0 4 0) 6 len (ch a)) 0 15 (nI (len + 1))) := by
      have eq1 : up2 (up2 M 0 4 0) 6 len (ch a) 0 15 = nI len := by rw [up2_at, if_neg (by omega)]; exact m15
      unfold fX12_type
      rw [if_neg (show ¬ M 0 15 = 60 by
        rw [p3, show (60 : Int32) = nI 60 from rfl, nI_eq (by omega) (by omega)]
        exact c), if_pos (le0 M), m15, gd_t hl, el, eq1, nI_1, up2_at, if_pos ⟨rfl, rfl⟩]
    have f0 : ∀ k f, k ≠ 6 → ¬ (k = 0 ∧ (f = 4 ∨ f = 15)) → up2 (up2 (up2 M 0 4 0) 6 len (ch a)) 0 15 (nI (len + 1)) k f = M k f := fun k f hk hf => by
      rw [up2_at, if_neg (by omega), up2_at, if_neg (by omega), up2_at, if_neg (by omega)]
    have hS : SRa z.G z.N z.V z.Hs z.Q (up2 (up2 z.P 1 len (ch a)) 0 1 (nI (len + 1))) z.Sb (up2 (up2 (up2 M 0 4 0) 6 len (ch a)) 0 15 (nI (len + 1))) B := by
      refine ⟨g1.ref (fun f _ => f0 _ _ (by omega) (by omega)), g2.ref (f0 _ _ (by omega) (by omega)) (fun f _ => f0 _ _ (by omega) (by omega)), g3.ref (f0 _ _ (by omega) (by omega)) (fun f _ => f0 _ _ (by omega) (by omega)), ⟨by rw [f0 _ _ (by omega) (by omega)]; exact g4, by rw [f0 _ _ (by omega) (by omega)]; exact g5⟩, ⟨len + 1, by omega, by rw [up2_at, if_pos ⟨rfl, rfl⟩], by rw [up2_at, if_pos ⟨rfl, rfl⟩], fun i hi => ?_⟩, g7.ref (f0 _ _ (by omega) (by omega)) (fun f => f0 _ _ (by omega) (by omega))⟩
      have eP : up2 (up2 z.P 1 len (ch a)) 0 1 (nI (len + 1)) 1 i = if i = len then ch a else z.P 1 i := by
        rw [up2_at, if_neg (by omega), up2_at]
        by_cases q : i = len
        · rw [if_pos ⟨rfl, q⟩, if_pos q]
        · rw [if_neg (fun z => q z.2), if_neg q]
      have eM : up2 (up2 (up2 M 0 4 0) 6 len (ch a)) 0 15 (nI (len + 1)) 6 i = if i = len then ch a else M 6 i := by
        rw [up2_at, if_neg (by omega), up2_at]
        by_cases q : i = len
        · rw [if_pos ⟨rfl, q⟩, if_pos q]
        · rw [if_neg (fun z => q z.2), if_neg q, up2_at, if_neg (by omega)]
      rw [eP, eM]
      by_cases q : i = len
      · rw [if_pos q, if_pos q]
        exact ⟨rfl, isC_chx a⟩
      · rw [if_neg q, if_neg q]
        exact p4 i (by omega)
    refine fin (k := 0) (z' := KS.mk z.G z.N z.T z.V z.Hs z.Q z.R (up2 (up2 z.P 1 len (ch a)) 0 1 (nI (len + 1))) z.Sb (nI (len + 1)).toInt64 z.od) (b := nI (len + 1)) ?_ er ?_ (fun _ => rfl) hS
    · unfold fL_type
      rw [ec]
      rfl
    · rw [up2_at, if_neg (by omega), up2_at, if_neg (by omega)]
      exact e_04 M 0
