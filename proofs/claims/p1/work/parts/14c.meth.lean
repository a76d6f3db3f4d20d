/-! ===== laid by program: programs ===== -/
def fJ0_coder_7d493 (a0 : Int32) : Option (Int32) := gd (inb a0 10) ((if (1 : Int32) = 0 then some 1 else some 0))
set_option maxHeartbeats 4000000 in
set_option maxRecDepth 100000 in
theorem mJ0_coder_7d493 (l : Launch) (E : EP) (B0 : Nat) (a0 : Int32) (r : Int32) (hf : fJ0_coder_7d493 a0 = some r) : MU l E B0 yJ0_coder_7d493 cJ0_coder_7d493 1 (some .byte) 0 0 0 [.ref (E.2.2 4 a0.toNatClampNeg)] (fun _ => True) (some (.int r)) (fun _ => True) nv := by
  refine mu_of (by decide +kernel) (Nat.le_of_ble_eq_true rfl) ?_
  intro p e s m args below meth c hx hb hml hown hts hrt hlocks hE H _ hS ls hl
  have hown : s.vm.findClass RJ0 = some m.cls := hown
  have hl : lv_has ls 1 [(0, .ref (E.2.2 4 a0.toNatClampNeg))] := hl
  have hw : ∀ w ∈ WA, w.before args s = true := fun w h => hts w (List.mem_cons_of_mem _ h)
  have hAB : ∀ q, nv q → B0 ≤ q := fun _ h => h.elim
  unfold fJ0_coder_7d493 at hf
  obtain ⟨g0, hf⟩ := gd_some hf
  refine w_compact hx hb hw hown hE gc_J0_38 hS hAB dJ0_coder_7d493_0 ?_
  refine lv_if_eq (tgt := 13) hx hb dJ0_coder_7d493_3 (by decide) (fun c1 => ?_) (fun c1 => ?_)
  · rw [if_pos c1] at hf
    refine lv_iconst (v := 1) hx hb dJ0_coder_7d493_13 (by decide) ?_
    have hre := Option.some.inj hf
    subst hre
    exact mu_z (v := 1) hx hb hrt rfl hlocks trivial hS dJ0_coder_7d493_14
  · rw [if_neg c1] at hf
    refine lv_aload_n hx hb dJ0_coder_7d493_6 rfl (lv_at hl 0 rfl) ?_
    refine w_sfc (x := a0) hx hb hw hown hE g0 fs_J0_15 hS hAB dJ0_coder_7d493_7 ?_
    refine lv_goto (tgt := 14) hx hb dJ0_coder_7d493_10 (by decide) ?_
    have hre := Option.some.inj hf
    subst hre
    exact mu_z (v := 0) hx hb hrt rfl hlocks trivial hS dJ0_coder_7d493_14
def fJ0_length_8abf5 (a0 : Int32) : Option (Int32) := gd (inb a0 10) ((fJ0_coder_7d493 a0).bind fun z1 => some ((nI (paLen.getD a0.toNatClampNeg 0)) >>> (z1 &&& 31)))
set_option maxHeartbeats 4000000 in
set_option maxRecDepth 100000 in
theorem mJ0_length_8abf5 (l : Launch) (E : EP) (B0 : Nat) (a0 : Int32) (r : Int32) (hf : fJ0_length_8abf5 a0 = some r) : MU l E B0 yJ0_length_8abf5 cJ0_length_8abf5 1 (some .int) 1 0 0 [.ref (E.2.2 4 a0.toNatClampNeg)] (fun _ => True) (some (.int r)) (fun _ => True) nv := by
  refine mu_of (by decide +kernel) (Nat.le_of_ble_eq_true rfl) ?_
  intro p e s m args below meth c hx hb hml hown hts hrt hlocks hE H _ hS ls hl
  have hown : s.vm.findClass RJ0 = some m.cls := hown
  have hl : lv_has ls 1 [(0, .ref (E.2.2 4 a0.toNatClampNeg))] := hl
  have hw : ∀ w ∈ WA, w.before args s = true := fun w h => hts w (List.mem_cons_of_mem _ h)
  have hAB : ∀ q, nv q → B0 ≤ q := fun _ h => h.elim
  unfold fJ0_length_8abf5 at hf
  obtain ⟨g0, hf⟩ := gd_some hf
  refine lv_aload_n hx hb dJ0_length_8abf5_0 rfl (lv_at hl 0 rfl) ?_
  refine w_sfv (x := a0) hx hb hw hown hE g0 fs_J0_9 hS hAB dJ0_length_8abf5_1 ?_
  refine w_svlen (x := a0) hx hb hE g0 hS hAB dJ0_length_8abf5_4 ?_
  refine lv_aload_n hx hb dJ0_length_8abf5_5 rfl (lv_at hl 0 rfl) ?_
  obtain ⟨z1, hc2, hf⟩ := br_some hf
  refine mu_cV (As := []) (rest := [.int (nI (paLen.getD a0.toNatClampNeg 0))]) hx hb hml hown hts hE (mJ0_coder_7d493 l E B0 a0 z1 hc2) cv_J0_335 (str_recv hE g0 hS hAB) trivial hS hAB (fun _ h => h.elim) rfl hl.1 rfl (by decide) (Nat.le_of_ble_eq_true rfl) ⟨Nat.le_refl _, Nat.le_refl _⟩ dJ0_length_8abf5_6 (fun H locs _ _ hu hS => ?_)
  refine lv_ishr hx hb dJ0_length_8abf5_9 ?_
  have hre := Option.some.inj hf
  subst hre
  exact mu_i (v := ((nI (paLen.getD a0.toNatClampNeg 0)) >>> (z1 &&& 31))) hx hb hrt hlocks trivial hS dJ0_length_8abf5_10
def fJ0_isLatin1_aae02 (a0 : Int32) : Option (Int32) := gd (inb a0 10) ((if (1 : Int32) = 0 then some 0 else (if (0 : Int32) = 0 then some 1 else some 0)))
set_option maxHeartbeats 4000000 in
set_option maxRecDepth 100000 in
theorem mJ0_isLatin1_aae02 (l : Launch) (E : EP) (B0 : Nat) (a0 : Int32) (r : Int32) (hf : fJ0_isLatin1_aae02 a0 = some r) : MU l E B0 yJ0_isLatin1_aae02 cJ0_isLatin1_aae02 1 (some .boolean) 0 0 0 [.ref (E.2.2 4 a0.toNatClampNeg)] (fun _ => True) (some (.int r)) (fun _ => True) nv := by
  refine mu_of (by decide +kernel) (Nat.le_of_ble_eq_true rfl) ?_
  intro p e s m args below meth c hx hb hml hown hts hrt hlocks hE H _ hS ls hl
  have hown : s.vm.findClass RJ0 = some m.cls := hown
  have hl : lv_has ls 1 [(0, .ref (E.2.2 4 a0.toNatClampNeg))] := hl
  have hw : ∀ w ∈ WA, w.before args s = true := fun w h => hts w (List.mem_cons_of_mem _ h)
  have hAB : ∀ q, nv q → B0 ≤ q := fun _ h => h.elim
  unfold fJ0_isLatin1_aae02 at hf
  obtain ⟨g0, hf⟩ := gd_some hf
  refine w_compact hx hb hw hown hE gc_J0_38 hS hAB dJ0_isLatin1_aae02_0 ?_
  refine lv_if_eq (tgt := 17) hx hb dJ0_isLatin1_aae02_3 (by decide) (fun c1 => ?_) (fun c1 => ?_)
  · rw [if_pos c1] at hf
    refine lv_iconst (v := 0) hx hb dJ0_isLatin1_aae02_17 (by decide) ?_
    have hre := Option.some.inj hf
    subst hre
    exact mu_z (v := 0) hx hb hrt rfl hlocks trivial hS dJ0_isLatin1_aae02_18
  · rw [if_neg c1] at hf
    refine lv_aload_n hx hb dJ0_isLatin1_aae02_6 rfl (lv_at hl 0 rfl) ?_
    refine w_sfc (x := a0) hx hb hw hown hE g0 fs_J0_15 hS hAB dJ0_isLatin1_aae02_7 ?_
    refine lv_if_ne (tgt := 17) hx hb dJ0_isLatin1_aae02_10 (by decide) (fun c2 => ?_) (fun c2 => ?_)
    · rw [if_neg c2] at hf
      refine lv_iconst (v := 0) hx hb dJ0_isLatin1_aae02_17 (by decide) ?_
      have hre := Option.some.inj hf
      subst hre
      exact mu_z (v := 0) hx hb hrt rfl hlocks trivial hS dJ0_isLatin1_aae02_18
    · rw [if_pos c2] at hf
      refine lv_iconst (v := 1) hx hb dJ0_isLatin1_aae02_13 (by decide) ?_
      refine lv_goto (tgt := 18) hx hb dJ0_isLatin1_aae02_14 (by decide) ?_
      have hre := Option.some.inj hf
      subst hre
      exact mu_z (v := 1) hx hb hrt rfl hlocks trivial hS dJ0_isLatin1_aae02_18
def fJ1_charAt_3b067 (a1 : Int32) (a2 : Int32) : Option (Int32) := gd (inb a1 10) ((fJ0_checkIndex_df160 a2 (nI (paLen.getD a1.toNatClampNeg 0))).bind fun z1 => gd (inb a2 (paLen.getD a1.toNatClampNeg 0)) (gd (isC (((((paByt.getD a1.toNatClampNeg []).getD a2.toNatClampNeg 0) &&& 255).toUInt32 % 65536).toInt32)) (some (((((paByt.getD a1.toNatClampNeg []).getD a2.toNatClampNeg 0) &&& 255).toUInt32 % 65536).toInt32))))
set_option maxHeartbeats 4000000 in
set_option maxRecDepth 100000 in
theorem mJ1_charAt_3b067 (l : Launch) (E : EP) (B0 : Nat) (a1 : Int32) (a2 : Int32) (r : Int32) (hf : fJ1_charAt_3b067 a1 a2 = some r) : MU l E B0 yJ1_charAt_3b067 cJ1_charAt_3b067 2 (some .char) 2 0 0 [.ref (E.2.2 5 a1.toNatClampNeg), .int a2] (fun _ => True) (some (.int r)) (fun _ => True) nv := by
  refine mu_of (by decide +kernel) (Nat.le_of_ble_eq_true rfl) ?_
  intro p e s m args below meth c hx hb hml hown hts hrt hlocks hE H _ hS ls hl
  have hown : s.vm.findClass RJ1 = some m.cls := hown
  have hl : lv_has ls 2 [(0, .ref (E.2.2 5 a1.toNatClampNeg)), (1, .int a2)] := hl
  have hw : ∀ w ∈ WA, w.before args s = true := fun w h => hts w (List.mem_cons_of_mem _ h)
  have hAB : ∀ q, nv q → B0 ≤ q := fun _ h => h.elim
  unfold fJ1_charAt_3b067 at hf
  obtain ⟨g1, hf⟩ := gd_some hf
  refine lv_iload_n hx hb dJ1_charAt_3b067_0 rfl (lv_at hl 1 rfl) ?_
  refine lv_aload_n hx hb dJ1_charAt_3b067_1 rfl (lv_at hl 0 rfl) ?_
  refine w_svlen (x := a1) hx hb hE g1 hS hAB dJ1_charAt_3b067_2 ?_
  obtain ⟨z1, hc2, hf⟩ := br_some hf
  refine mu_cS (As := [.int a2, .int (nI (paLen.getD a1.toNatClampNeg 0))]) (rest := []) hx hb hml hown hts hE (mJ0_checkIndex_df160 l E B0 a2 (nI (paLen.getD a1.toNatClampNeg 0)) z1 hc2) cs_J1_9 trivial hS hAB (fun _ h => h.elim) rfl hl.1 rfl (by decide) (Nat.le_of_ble_eq_true rfl) ⟨Nat.le_refl _, Nat.le_refl _⟩ dJ1_charAt_3b067_3 (fun H locs _ _ hu hS => ?_)
  refine lv_aload_n hx hb dJ1_charAt_3b067_6 rfl (lv_at hl 0 rfl) ?_
  refine lv_iload_n hx hb dJ1_charAt_3b067_7 rfl (lv_at hl 1 rfl) ?_
  obtain ⟨h3, hf⟩ := gd_some hf
  refine w_svld (x := a1) hx hb hE g1 h3 hS hAB dJ1_charAt_3b067_8 ?_
  refine lv_sipush (v := 255) hx hb dJ1_charAt_3b067_9 (by decide) ?_
  refine lv_iand hx hb dJ1_charAt_3b067_12 ?_
  refine lv_i2c (v := ((((paByt.getD a1.toNatClampNeg []).getD a2.toNatClampNeg 0) &&& 255).toUInt32 % 65536).toInt32) hx hb dJ1_charAt_3b067_13 rfl ?_
  obtain ⟨h4, hf⟩ := gd_some hf
  have hre := Option.some.inj hf
  subst hre
  exact mu_z (v := (((((paByt.getD a1.toNatClampNeg []).getD a2.toNatClampNeg 0) &&& 255).toUInt32 % 65536).toInt32)) hx hb hrt (isC_n h4) hlocks trivial hS dJ1_charAt_3b067_14
def fJ0_charAt_5068e (a0 : Int32) (a1 : Int32) : Option (Int32) := gd (inb a0 10) ((fJ0_isLatin1_aae02 a0).bind fun z1 => (if z1 = 0 then none else (fJ1_charAt_3b067 a0 a1).bind fun z4 => gd (isC z4) (some z4)))
set_option maxHeartbeats 4000000 in
set_option maxRecDepth 100000 in
theorem mJ0_charAt_5068e (l : Launch) (E : EP) (B0 : Nat) (a0 : Int32) (a1 : Int32) (r : Int32) (hf : fJ0_charAt_5068e a0 a1 = some r) : MU l E B0 yJ0_charAt_5068e cJ0_charAt_5068e 2 (some .char) 3 0 0 [.ref (E.2.2 4 a0.toNatClampNeg), .int a1] (fun _ => True) (some (.int r)) (fun _ => True) nv := by
  refine mu_of (by decide +kernel) (Nat.le_of_ble_eq_true rfl) ?_
  intro p e s m args below meth c hx hb hml hown hts hrt hlocks hE H _ hS ls hl
  have hown : s.vm.findClass RJ0 = some m.cls := hown
  have hl : lv_has ls 2 [(0, .ref (E.2.2 4 a0.toNatClampNeg)), (1, .int a1)] := hl
  have hw : ∀ w ∈ WA, w.before args s = true := fun w h => hts w (List.mem_cons_of_mem _ h)
  have hAB : ∀ q, nv q → B0 ≤ q := fun _ h => h.elim
  unfold fJ0_charAt_5068e at hf
  obtain ⟨g0, hf⟩ := gd_some hf
  refine lv_aload_n hx hb dJ0_charAt_5068e_0 rfl (lv_at hl 0 rfl) ?_
  obtain ⟨z1, hc2, hf⟩ := br_some hf
  refine mu_cV (As := []) (rest := []) hx hb hml hown hts hE (mJ0_isLatin1_aae02 l E B0 a0 z1 hc2) cv_J0_492 (str_recv hE g0 hS hAB) trivial hS hAB (fun _ h => h.elim) rfl hl.1 rfl (by decide) (Nat.le_of_ble_eq_true rfl) ⟨Nat.le_refl _, Nat.le_refl _⟩ dJ0_charAt_5068e_1 (fun H locs _ _ hu hS => ?_)
  refine lv_if_eq (tgt := 16) hx hb dJ0_charAt_5068e_4 (by decide) (fun c3 => ?_) (fun c3 => ?_)
  · rw [if_pos c3] at hf
    refine lv_aload_n hx hb dJ0_charAt_5068e_16 rfl (lv_at hl 0 rfl) ?_
    refine w_sfv (x := a0) hx hb hw hown hE g0 fs_J0_9 hS hAB dJ0_charAt_5068e_17 ?_
    refine lv_iload_n hx hb dJ0_charAt_5068e_20 rfl (lv_at hl 1 rfl) ?_
    exact nomatch hf
  · rw [if_neg c3] at hf
    refine lv_aload_n hx hb dJ0_charAt_5068e_7 rfl (lv_at hl 0 rfl) ?_
    refine w_sfv (x := a0) hx hb hw hown hE g0 fs_J0_9 hS hAB dJ0_charAt_5068e_8 ?_
    refine lv_iload_n hx hb dJ0_charAt_5068e_11 rfl (lv_at hl 1 rfl) ?_
    obtain ⟨z4, hc5, hf⟩ := br_some hf
    refine mu_cS (As := [.ref (E.2.2 5 a0.toNatClampNeg), .int a1]) (rest := []) hx hb hml hown hts hE (mJ1_charAt_3b067 l E B0 a0 a1 z4 hc5) cs_J0_495 trivial hS hAB (fun _ h => h.elim) rfl hl.1 rfl (by decide) (Nat.le_of_ble_eq_true rfl) ⟨Nat.le_refl _, Nat.le_refl _⟩ dJ0_charAt_5068e_12 (fun H locs _ _ hu hS => ?_)
    obtain ⟨h6, hf⟩ := gd_some hf
    have hre := Option.some.inj hf
    subst hre
    exact mu_z (v := z4) hx hb hrt (isC_n h6) hlocks trivial hS dJ0_charAt_5068e_15
def fX1_begin (P : Mem) (k0 : Nat) (a1 : Int32) : Option (Mem) := gd (cmdk k0) (some (up2 (up2 P k0 0 a1) k0 2 (0 : Int32)))
set_option maxHeartbeats 4000000 in
set_option maxRecDepth 100000 in
theorem mX1_begin (l : Launch) (E : EP) (B0 : Nat) (bp : Nat) (hb0 : B0 ≤ bp) (P : Mem) (k0 : Nat) (a1 : Int32) (r : Mem) (hf : fX1_begin P k0 a1 = some r) : MU l E B0 yX1_begin cX1_begin 2 none 0 0 0 [.ref (bp + k0), .ref (E.2.2 2 a1.toNatClampNeg)] (Blk E bp progSh 29 P) none (Blk E bp progSh 29 r) (iv bp 29) := by
  refine mu_of (by decide +kernel) (Nat.le_of_ble_eq_true rfl) ?_
  intro p e s m args below meth c hx hb hml hown hts hrt hlocks hE H hP hS ls hl
  have hown : s.vm.findClass RX1 = some m.cls := hown
  have hl : lv_has ls 2 [(0, .ref (bp + k0)), (1, .ref (E.2.2 2 a1.toNatClampNeg))] := hl
  have hw : ∀ w ∈ WA, w.before args s = true := fun w h => hts w (List.mem_cons_of_mem _ h)
  have hAB : ∀ q, (iv bp 29) q → B0 ≤ q := (iv_ge (by omega))
  unfold fX1_begin at hf
  obtain ⟨g0, hf⟩ := gd_some hf
  refine lv_aload_n hx hb dX1_begin_0 rfl (lv_at hl 0 rfl) ?_
  refine lv_aload_n hx hb dX1_begin_1 rfl (lv_at hl 1 rfl) ?_
  refine w_put (k := k0) (v := .ref (E.2.2 2 a1.toNatClampNeg)) hx hb hw hown hE fl_X1_15 fw_X1_0 hP (cmd_lt g0) (cmd_sh g0) rfl a1 rfl rfl rfl hS (iv_mem (cmd_lt g0)) dX1_begin_2 (fun H locs hP _ hu hS => ?_)
  refine lv_aload_n hx hb dX1_begin_5 rfl (lv_at hl 0 rfl) ?_
  refine lv_iconst (v := 0) hx hb dX1_begin_6 (by decide) ?_
  refine w_put (k := k0) (v := .int 0) hx hb hw hown hE fl_X1_24 fw_X1_2 hP (cmd_lt g0) (cmd_sh g0) rfl (0 : Int32) rfl rfl rfl hS (iv_mem (cmd_lt g0)) dX1_begin_7 (fun H locs hP _ hu hS => ?_)
  have hre := Option.some.inj hf
  subst hre
  exact mu_v hx hb hrt hlocks hP hS dX1_begin_10
def fX1_take (P : Mem) (k0 : Nat) (a1 : Int32) : Option (Mem) := gd (cmdk k0) ((if (6 : Int32) ≤ (P k0 2) then some P else gd (inb (P k0 2) 6) (some (up2 (up2 P (k0 + 1) ((P k0 2).toNatClampNeg) a1) k0 2 (((up2 P (k0 + 1) ((P k0 2).toNatClampNeg) a1) k0 2) + 1)))))
set_option maxHeartbeats 4000000 in
set_option maxRecDepth 100000 in
theorem mX1_take (l : Launch) (E : EP) (B0 : Nat) (bp : Nat) (hb0 : B0 ≤ bp) (P : Mem) (k0 : Nat) (a1 : Int32) (r : Mem) (hf : fX1_take P k0 a1 = some r) : MU l E B0 yX1_take cX1_take 2 none 0 0 0 [.ref (bp + k0), .int a1] (Blk E bp progSh 29 P) none (Blk E bp progSh 29 r) (iv bp 29) := by
  refine mu_of (by decide +kernel) (Nat.le_of_ble_eq_true rfl) ?_
  intro p e s m args below meth c hx hb hml hown hts hrt hlocks hE H hP hS ls hl
  have hown : s.vm.findClass RX1 = some m.cls := hown
  have hl : lv_has ls 2 [(0, .ref (bp + k0)), (1, .int a1)] := hl
  have hw : ∀ w ∈ WA, w.before args s = true := fun w h => hts w (List.mem_cons_of_mem _ h)
  have hAB : ∀ q, (iv bp 29) q → B0 ≤ q := (iv_ge (by omega))
  unfold fX1_take at hf
  obtain ⟨g0, hf⟩ := gd_some hf
  refine lv_aload_n hx hb dX1_take_0 rfl (lv_at hl 0 rfl) ?_
  refine w_get (k := k0) (v := .int (P k0 2)) hx hb hw hown hE fl_X1_24 hP (cmd_lt g0) (cmd_sh g0) rfl rfl dX1_take_1 ?_
  refine lv_bipush (v := 6) hx hb dX1_take_4 (by decide) ?_
  refine lv_icmp_ge (tgt := 29) hx hb dX1_take_6 (by decide) (fun c1 => ?_) (fun c1 => ?_)
  · rw [if_pos c1] at hf
    have hre := Option.some.inj hf
    subst hre
    exact mu_v hx hb hrt hlocks hP hS dX1_take_29
  · rw [if_neg c1] at hf
    refine lv_aload_n hx hb dX1_take_9 rfl (lv_at hl 0 rfl) ?_
    refine w_get (k := k0) (v := .ref (bp + (k0 + 1))) hx hb hw hown hE fl_X1_20 hP (cmd_lt g0) (cmd_sh g0) rfl rfl dX1_take_10 ?_
    refine lv_aload_n hx hb dX1_take_13 rfl (lv_at hl 0 rfl) ?_
    refine w_get (k := k0) (v := .int (P k0 2)) hx hb hw hown hE fl_X1_24 hP (cmd_lt g0) (cmd_sh g0) rfl rfl dX1_take_14 ?_
    refine lv_iload_n hx hb dX1_take_17 rfl (lv_at hl 1 rfl) ?_
    obtain ⟨h2, hf⟩ := gd_some hf
    refine w_iast (k := (k0 + 1)) (x9 := (P k0 2).toNatClampNeg) (x := a1) hx hb hE hP (val_lt g0) (val_sh g0) rfl h2 hS (iv_mem (val_lt g0)) dX1_take_18 (fun H locs hP _ hu hS => ?_)
    refine lv_aload_n hx hb dX1_take_19 rfl (lv_at hl 0 rfl) ?_
    refine lv_dup hx hb dX1_take_20 rfl ?_
    refine w_get (k := k0) (v := .int ((up2 P (k0 + 1) ((P k0 2).toNatClampNeg) a1) k0 2)) hx hb hw hown hE fl_X1_24 hP (cmd_lt g0) (cmd_sh g0) rfl rfl dX1_take_21 ?_
    refine lv_iconst (v := 1) hx hb dX1_take_24 (by decide) ?_
    refine lv_iadd hx hb dX1_take_25 ?_
    refine w_put (k := k0) (v := .int (((up2 P (k0 + 1) ((P k0 2).toNatClampNeg) a1) k0 2) + 1)) hx hb hw hown hE fl_X1_24 fw_X1_2 hP (cmd_lt g0) (cmd_sh g0) rfl (((up2 P (k0 + 1) ((P k0 2).toNatClampNeg) a1) k0 2) + 1) rfl rfl rfl hS (iv_mem (cmd_lt g0)) dX1_take_26 (fun H locs hP _ hu hS => ?_)
    have hre := Option.some.inj hf
    subst hre
    exact mu_v hx hb hrt hlocks hP hS dX1_take_29
noncomputable def fX1_faultOn (P : Mem) (N : Mem) (k0 : Nat) : Option (Int32) := gd (cmdk k0) (gd (inb (P k0 0) 10) (gd (inb (P k0 0) 10) ((if (swK.getD (P k0 0).toNatClampNeg 0) = 1 then (fX6_faultOfAdding N (((P (k0 + 1) 0).toUInt32 % 65536).toInt32) (P (k0 + 1) 1) (P (k0 + 1) 2) (P (k0 + 1) 3) (P (k0 + 1) 4) (P (k0 + 1) 5)).bind fun z4 => some z4 else (if (swK.getD (P k0 0).toNatClampNeg 0) = 2 then (fX6_faultOfMoving N (P (k0 + 1) 0) (P (k0 + 1) 1) (P (k0 + 1) 2)).bind fun z7 => some z7 else (if (swK.getD (P k0 0).toNatClampNeg 0) = 3 then (fX6_faultOfPower N (P (k0 + 1) 0) (P (k0 + 1) 1)).bind fun z10 => some z10 else (if (swK.getD (P k0 0).toNatClampNeg 0) = 4 then (fX6_faultOfTuning N (P (k0 + 1) 0) (P (k0 + 1) 1)).bind fun z13 => some z13 else (if (swK.getD (P k0 0).toNatClampNeg 0) = 5 then (fX6_faultOfMode N (P (k0 + 1) 0) (0 : Int32)).bind fun z16 => some z16 else (if (swK.getD (P k0 0).toNatClampNeg 0) = 6 then (fX6_faultOfMode N (P (k0 + 1) 0) (1 : Int32)).bind fun z19 => some z19 else (if (swK.getD (P k0 0).toNatClampNeg 0) = 7 then (fX6_faultOfMode N (P (k0 + 1) 0) (2 : Int32)).bind fun z22 => some z22 else (if (swK.getD (P k0 0).toNatClampNeg 0) = 8 then (fX11_faultOfMinutes (P (k0 + 1) 0)).bind fun z25 => some z25 else (if (swK.getD (P k0 0).toNatClampNeg 0) = 9 then (fX11_faultOfMinutes (P (k0 + 1) 0)).bind fun z28 => some z28 else some (0 : Int32)))))))))))))
set_option maxHeartbeats 4000000 in
set_option maxRecDepth 100000 in
theorem mX1_faultOn (l : Launch) (E : EP) (B0 : Nat) (bp : Nat) (b : Nat) (hb0 : B0 ≤ bp) (hb1 : B0 ≤ b) (hb2 : bp + 29 ≤ b ∨ b + 15 ≤ bp) (P : Mem) (N : Mem) (k0 : Nat) (r : Int32) (hf : fX1_faultOn P N k0 = some r) : MU l E B0 yX1_faultOn cX1_faultOn 2 (some (.object "RadioNet$Fault")) 3 0 0 [.ref (bp + k0), .ref (b + 0)] (fun H => Blk E bp progSh 29 P H ∧ Blk E b netSh 15 N H) (some (.ref (E.2.2 1 r.toNatClampNeg))) (fun H => Blk E bp progSh 29 P H ∧ Blk E b netSh 15 N H) nv := by
  refine mu_of (by decide +kernel) (Nat.le_of_ble_eq_true rfl) ?_
  intro p e s m args below meth c hx hb hml hown hts hrt hlocks hE H hP9 hS ls hl
  obtain ⟨hP, hN⟩ := hP9
  have hown : s.vm.findClass RX1 = some m.cls := hown
  have hl : lv_has ls 2 [(0, .ref (bp + k0)), (1, .ref (b + 0))] := hl
  have hw : ∀ w ∈ WA, w.before args s = true := fun w h => hts w (List.mem_cons_of_mem _ h)
  have hAB : ∀ q, nv q → B0 ≤ q := fun _ h => h.elim
  unfold fX1_faultOn at hf
  obtain ⟨g0, hf⟩ := gd_some hf
  refine w_sw1 hx hb hw hown hE gw_X1_28 hS hAB dX1_faultOn_0 ?_
  refine lv_aload_n hx hb dX1_faultOn_3 rfl (lv_at hl 0 rfl) ?_
  refine w_get (k := k0) (v := .ref (E.2.2 2 (P k0 0).toNatClampNeg)) hx hb hw hown hE fl_X1_15 hP (cmd_lt g0) (cmd_sh g0) rfl rfl dX1_faultOn_4 ?_
  obtain ⟨h1, hf⟩ := gd_some hf
  refine w_ord (j := 2) (x := (P k0 0)) hx hb hml hown hts hE (fun U H h => EV.en2 h) (ordL2 h1) h1 hS hAB po_X1_33 hl.1 (by decide) (Nat.le_of_ble_eq_true rfl) (Nat.zero_le _) (Nat.zero_le _) dX1_faultOn_7 (fun H locs hz hu hS => ?_)
  have hP := Blk.off hP hu (fun _ _ _ h => h)
  have hN := Blk.off hN hu (fun _ _ _ h => h)
  obtain ⟨h2, hf⟩ := gd_some hf
  refine w_sald1 hx hb hE hS hAB h2 dX1_faultOn_10 ?_
  by_cases c3 : (swK.getD (P k0 0).toNatClampNeg 0) = 1
  · rw [if_pos c3] at hf
    refine lv_tableIn (off := 49) (tgt := 60) hx hb dX1_faultOn_11 (by rw [c3]; decide) (by rw [c3]; decide) (by rw [c3]; rfl) (by decide) ?_
    refine lv_aload_n hx hb dX1_faultOn_60 rfl (lv_at hl 1 rfl) ?_
    refine lv_aload_n hx hb dX1_faultOn_61 rfl (lv_at hl 0 rfl) ?_
    refine w_get (k := k0) (v := .ref (bp + (k0 + 1))) hx hb hw hown hE fl_X1_20 hP (cmd_lt g0) (cmd_sh g0) rfl rfl dX1_faultOn_62 ?_
    refine lv_iconst (v := 0) hx hb dX1_faultOn_65 (by decide) ?_
    refine w_iald (k := (k0 + 1)) (x9 := 0) hx hb hE hP (val_lt g0) (val_sh g0) (by decide) (by decide) dX1_faultOn_66 ?_
    refine lv_i2c (v := ((P (k0 + 1) 0).toUInt32 % 65536).toInt32) hx hb dX1_faultOn_67 rfl ?_
    refine lv_aload_n hx hb dX1_faultOn_68 rfl (lv_at hl 0 rfl) ?_
    refine w_get (k := k0) (v := .ref (bp + (k0 + 1))) hx hb hw hown hE fl_X1_20 hP (cmd_lt g0) (cmd_sh g0) rfl rfl dX1_faultOn_69 ?_
    refine lv_iconst (v := 1) hx hb dX1_faultOn_72 (by decide) ?_
    refine w_iald (k := (k0 + 1)) (x9 := 1) hx hb hE hP (val_lt g0) (val_sh g0) (by decide) (by decide) dX1_faultOn_73 ?_
    refine lv_aload_n hx hb dX1_faultOn_74 rfl (lv_at hl 0 rfl) ?_
    refine w_get (k := k0) (v := .ref (bp + (k0 + 1))) hx hb hw hown hE fl_X1_20 hP (cmd_lt g0) (cmd_sh g0) rfl rfl dX1_faultOn_75 ?_
    refine lv_iconst (v := 2) hx hb dX1_faultOn_78 (by decide) ?_
    refine w_iald (k := (k0 + 1)) (x9 := 2) hx hb hE hP (val_lt g0) (val_sh g0) (by decide) (by decide) dX1_faultOn_79 ?_
    refine lv_aload_n hx hb dX1_faultOn_80 rfl (lv_at hl 0 rfl) ?_
    refine w_get (k := k0) (v := .ref (bp + (k0 + 1))) hx hb hw hown hE fl_X1_20 hP (cmd_lt g0) (cmd_sh g0) rfl rfl dX1_faultOn_81 ?_
    refine lv_iconst (v := 3) hx hb dX1_faultOn_84 (by decide) ?_
    refine w_iald (k := (k0 + 1)) (x9 := 3) hx hb hE hP (val_lt g0) (val_sh g0) (by decide) (by decide) dX1_faultOn_85 ?_
    refine lv_aload_n hx hb dX1_faultOn_86 rfl (lv_at hl 0 rfl) ?_
    refine w_get (k := k0) (v := .ref (bp + (k0 + 1))) hx hb hw hown hE fl_X1_20 hP (cmd_lt g0) (cmd_sh g0) rfl rfl dX1_faultOn_87 ?_
    refine lv_iconst (v := 4) hx hb dX1_faultOn_90 (by decide) ?_
    refine w_iald (k := (k0 + 1)) (x9 := 4) hx hb hE hP (val_lt g0) (val_sh g0) (by decide) (by decide) dX1_faultOn_91 ?_
    refine lv_aload_n hx hb dX1_faultOn_92 rfl (lv_at hl 0 rfl) ?_
    refine w_get (k := k0) (v := .ref (bp + (k0 + 1))) hx hb hw hown hE fl_X1_20 hP (cmd_lt g0) (cmd_sh g0) rfl rfl dX1_faultOn_93 ?_
    refine lv_iconst (v := 5) hx hb dX1_faultOn_96 (by decide) ?_
    refine w_iald (k := (k0 + 1)) (x9 := 5) hx hb hE hP (val_lt g0) (val_sh g0) (by decide) (by decide) dX1_faultOn_97 ?_
    obtain ⟨z4, hc5, hf⟩ := br_some hf
    refine mu_cV (As := [.int (((P (k0 + 1) 0).toUInt32 % 65536).toInt32), .int (P (k0 + 1) 1), .int (P (k0 + 1) 2), .int (P (k0 + 1) 3), .int (P (k0 + 1) 4), .int (P (k0 + 1) 5)]) (rest := []) hx hb hml hown hts hE (mX6_faultOfAdding l E B0 b (by omega) N (((P (k0 + 1) 0).toUInt32 % 65536).toInt32) (P (k0 + 1) 1) (P (k0 + 1) 2) (P (k0 + 1) 3) (P (k0 + 1) 4) (P (k0 + 1) 5) z4 hc5) cv_X1_37 (w_recv (k := 0) (ci := 6) hE hN (by decide) rfl rfl) hN hS hAB (fun _ h => h.elim) rfl hl.1 rfl (by decide) (Nat.le_of_ble_eq_true rfl) ⟨Nat.le_refl _, Nat.le_refl _⟩ dX1_faultOn_98 (fun H locs hN _ hu hS => ?_)
    have hP := Blk.off hP hu (fun _ _ _ h => h)
    have hre := Option.some.inj hf
    subst hre
    exact mu_a hx hb hrt hlocks ⟨hP, hN⟩ hS dX1_faultOn_101
  rw [if_neg c3] at hf
  by_cases c6 : (swK.getD (P k0 0).toNatClampNeg 0) = 2
  · rw [if_pos c6] at hf
    refine lv_tableIn (off := 91) (tgt := 102) hx hb dX1_faultOn_11 (by rw [c6]; decide) (by rw [c6]; decide) (by rw [c6]; rfl) (by decide) ?_
    refine lv_aload_n hx hb dX1_faultOn_102 rfl (lv_at hl 1 rfl) ?_
    refine lv_aload_n hx hb dX1_faultOn_103 rfl (lv_at hl 0 rfl) ?_
    refine w_get (k := k0) (v := .ref (bp + (k0 + 1))) hx hb hw hown hE fl_X1_20 hP (cmd_lt g0) (cmd_sh g0) rfl rfl dX1_faultOn_104 ?_
    refine lv_iconst (v := 0) hx hb dX1_faultOn_107 (by decide) ?_
    refine w_iald (k := (k0 + 1)) (x9 := 0) hx hb hE hP (val_lt g0) (val_sh g0) (by decide) (by decide) dX1_faultOn_108 ?_
    refine lv_aload_n hx hb dX1_faultOn_109 rfl (lv_at hl 0 rfl) ?_
    refine w_get (k := k0) (v := .ref (bp + (k0 + 1))) hx hb hw hown hE fl_X1_20 hP (cmd_lt g0) (cmd_sh g0) rfl rfl dX1_faultOn_110 ?_
    refine lv_iconst (v := 1) hx hb dX1_faultOn_113 (by decide) ?_
    refine w_iald (k := (k0 + 1)) (x9 := 1) hx hb hE hP (val_lt g0) (val_sh g0) (by decide) (by decide) dX1_faultOn_114 ?_
    refine lv_aload_n hx hb dX1_faultOn_115 rfl (lv_at hl 0 rfl) ?_
    refine w_get (k := k0) (v := .ref (bp + (k0 + 1))) hx hb hw hown hE fl_X1_20 hP (cmd_lt g0) (cmd_sh g0) rfl rfl dX1_faultOn_116 ?_
    refine lv_iconst (v := 2) hx hb dX1_faultOn_119 (by decide) ?_
    refine w_iald (k := (k0 + 1)) (x9 := 2) hx hb hE hP (val_lt g0) (val_sh g0) (by decide) (by decide) dX1_faultOn_120 ?_
    obtain ⟨z7, hc8, hf⟩ := br_some hf
    refine mu_cV (As := [.int (P (k0 + 1) 0), .int (P (k0 + 1) 1), .int (P (k0 + 1) 2)]) (rest := []) hx hb hml hown hts hE (mX6_faultOfMoving l E B0 b (by omega) N (P (k0 + 1) 0) (P (k0 + 1) 1) (P (k0 + 1) 2) z7 hc8) cv_X1_43 (w_recv (k := 0) (ci := 6) hE hN (by decide) rfl rfl) hN hS hAB (fun _ h => h.elim) rfl hl.1 rfl (by decide) (Nat.le_of_ble_eq_true rfl) ⟨Nat.le_refl _, Nat.le_refl _⟩ dX1_faultOn_121 (fun H locs hN _ hu hS => ?_)
    have hP := Blk.off hP hu (fun _ _ _ h => h)
    have hre := Option.some.inj hf
    subst hre
    exact mu_a hx hb hrt hlocks ⟨hP, hN⟩ hS dX1_faultOn_124
  rw [if_neg c6] at hf
  by_cases c9 : (swK.getD (P k0 0).toNatClampNeg 0) = 3
  · rw [if_pos c9] at hf
    refine lv_tableIn (off := 114) (tgt := 125) hx hb dX1_faultOn_11 (by rw [c9]; decide) (by rw [c9]; decide) (by rw [c9]; rfl) (by decide) ?_
    refine lv_aload_n hx hb dX1_faultOn_125 rfl (lv_at hl 1 rfl) ?_
    refine lv_aload_n hx hb dX1_faultOn_126 rfl (lv_at hl 0 rfl) ?_
    refine w_get (k := k0) (v := .ref (bp + (k0 + 1))) hx hb hw hown hE fl_X1_20 hP (cmd_lt g0) (cmd_sh g0) rfl rfl dX1_faultOn_127 ?_
    refine lv_iconst (v := 0) hx hb dX1_faultOn_130 (by decide) ?_
    refine w_iald (k := (k0 + 1)) (x9 := 0) hx hb hE hP (val_lt g0) (val_sh g0) (by decide) (by decide) dX1_faultOn_131 ?_
    refine lv_aload_n hx hb dX1_faultOn_132 rfl (lv_at hl 0 rfl) ?_
    refine w_get (k := k0) (v := .ref (bp + (k0 + 1))) hx hb hw hown hE fl_X1_20 hP (cmd_lt g0) (cmd_sh g0) rfl rfl dX1_faultOn_133 ?_
    refine lv_iconst (v := 1) hx hb dX1_faultOn_136 (by decide) ?_
    refine w_iald (k := (k0 + 1)) (x9 := 1) hx hb hE hP (val_lt g0) (val_sh g0) (by decide) (by decide) dX1_faultOn_137 ?_
    obtain ⟨z10, hc11, hf⟩ := br_some hf
    refine mu_cV (As := [.int (P (k0 + 1) 0), .int (P (k0 + 1) 1)]) (rest := []) hx hb hml hown hts hE (mX6_faultOfPower l E B0 b (by omega) N (P (k0 + 1) 0) (P (k0 + 1) 1) z10 hc11) cv_X1_47 (w_recv (k := 0) (ci := 6) hE hN (by decide) rfl rfl) hN hS hAB (fun _ h => h.elim) rfl hl.1 rfl (by decide) (Nat.le_of_ble_eq_true rfl) ⟨Nat.le_refl _, Nat.le_refl _⟩ dX1_faultOn_138 (fun H locs hN _ hu hS => ?_)
    have hP := Blk.off hP hu (fun _ _ _ h => h)
    have hre := Option.some.inj hf
    subst hre
    exact mu_a hx hb hrt hlocks ⟨hP, hN⟩ hS dX1_faultOn_141
  rw [if_neg c9] at hf
  by_cases c12 : (swK.getD (P k0 0).toNatClampNeg 0) = 4
  · rw [if_pos c12] at hf
    refine lv_tableIn (off := 131) (tgt := 142) hx hb dX1_faultOn_11 (by rw [c12]; decide) (by rw [c12]; decide) (by rw [c12]; rfl) (by decide) ?_
    refine lv_aload_n hx hb dX1_faultOn_142 rfl (lv_at hl 1 rfl) ?_
    refine lv_aload_n hx hb dX1_faultOn_143 rfl (lv_at hl 0 rfl) ?_
    refine w_get (k := k0) (v := .ref (bp + (k0 + 1))) hx hb hw hown hE fl_X1_20 hP (cmd_lt g0) (cmd_sh g0) rfl rfl dX1_faultOn_144 ?_
    refine lv_iconst (v := 0) hx hb dX1_faultOn_147 (by decide) ?_
    refine w_iald (k := (k0 + 1)) (x9 := 0) hx hb hE hP (val_lt g0) (val_sh g0) (by decide) (by decide) dX1_faultOn_148 ?_
    refine lv_aload_n hx hb dX1_faultOn_149 rfl (lv_at hl 0 rfl) ?_
    refine w_get (k := k0) (v := .ref (bp + (k0 + 1))) hx hb hw hown hE fl_X1_20 hP (cmd_lt g0) (cmd_sh g0) rfl rfl dX1_faultOn_150 ?_
    refine lv_iconst (v := 1) hx hb dX1_faultOn_153 (by decide) ?_
    refine w_iald (k := (k0 + 1)) (x9 := 1) hx hb hE hP (val_lt g0) (val_sh g0) (by decide) (by decide) dX1_faultOn_154 ?_
    obtain ⟨z13, hc14, hf⟩ := br_some hf
    refine mu_cV (As := [.int (P (k0 + 1) 0), .int (P (k0 + 1) 1)]) (rest := []) hx hb hml hown hts hE (mX6_faultOfTuning l E B0 b (by omega) N (P (k0 + 1) 0) (P (k0 + 1) 1) z13 hc14) cv_X1_51 (w_recv (k := 0) (ci := 6) hE hN (by decide) rfl rfl) hN hS hAB (fun _ h => h.elim) rfl hl.1 rfl (by decide) (Nat.le_of_ble_eq_true rfl) ⟨Nat.le_refl _, Nat.le_refl _⟩ dX1_faultOn_155 (fun H locs hN _ hu hS => ?_)
    have hP := Blk.off hP hu (fun _ _ _ h => h)
    have hre := Option.some.inj hf
    subst hre
    exact mu_a hx hb hrt hlocks ⟨hP, hN⟩ hS dX1_faultOn_158
  rw [if_neg c12] at hf
  by_cases c15 : (swK.getD (P k0 0).toNatClampNeg 0) = 5
  · rw [if_pos c15] at hf
    refine lv_tableIn (off := 148) (tgt := 159) hx hb dX1_faultOn_11 (by rw [c15]; decide) (by rw [c15]; decide) (by rw [c15]; rfl) (by decide) ?_
    refine lv_aload_n hx hb dX1_faultOn_159 rfl (lv_at hl 1 rfl) ?_
    refine lv_aload_n hx hb dX1_faultOn_160 rfl (lv_at hl 0 rfl) ?_
    refine w_get (k := k0) (v := .ref (bp + (k0 + 1))) hx hb hw hown hE fl_X1_20 hP (cmd_lt g0) (cmd_sh g0) rfl rfl dX1_faultOn_161 ?_
    refine lv_iconst (v := 0) hx hb dX1_faultOn_164 (by decide) ?_
    refine w_iald (k := (k0 + 1)) (x9 := 0) hx hb hE hP (val_lt g0) (val_sh g0) (by decide) (by decide) dX1_faultOn_165 ?_
    refine w_gs (i := 0) (z := 0) hx hb hw hown (EV.en0 hE) (by decide) hS hAB gs_X1_54 (by decide) dX1_faultOn_166 ?_
    obtain ⟨z16, hc17, hf⟩ := br_some hf
    refine mu_cV (As := [.int (P (k0 + 1) 0), .ref (E.2.2 0 (0 : Int32).toNatClampNeg)]) (rest := []) hx hb hml hown hts hE (mX6_faultOfMode l E B0 b (by omega) N (P (k0 + 1) 0) (0 : Int32) z16 hc17) cv_X1_60 (w_recv (k := 0) (ci := 6) hE hN (by decide) rfl rfl) hN hS hAB (fun _ h => h.elim) rfl hl.1 rfl (by decide) (Nat.le_of_ble_eq_true rfl) ⟨Nat.le_refl _, Nat.le_refl _⟩ dX1_faultOn_169 (fun H locs hN _ hu hS => ?_)
    have hP := Blk.off hP hu (fun _ _ _ h => h)
    have hre := Option.some.inj hf
    subst hre
    exact mu_a hx hb hrt hlocks ⟨hP, hN⟩ hS dX1_faultOn_172
  rw [if_neg c15] at hf
  by_cases c18 : (swK.getD (P k0 0).toNatClampNeg 0) = 6
  · rw [if_pos c18] at hf
    refine lv_tableIn (off := 162) (tgt := 173) hx hb dX1_faultOn_11 (by rw [c18]; decide) (by rw [c18]; decide) (by rw [c18]; rfl) (by decide) ?_
    refine lv_aload_n hx hb dX1_faultOn_173 rfl (lv_at hl 1 rfl) ?_
    refine lv_aload_n hx hb dX1_faultOn_174 rfl (lv_at hl 0 rfl) ?_
    refine w_get (k := k0) (v := .ref (bp + (k0 + 1))) hx hb hw hown hE fl_X1_20 hP (cmd_lt g0) (cmd_sh g0) rfl rfl dX1_faultOn_175 ?_
    refine lv_iconst (v := 0) hx hb dX1_faultOn_178 (by decide) ?_
    refine w_iald (k := (k0 + 1)) (x9 := 0) hx hb hE hP (val_lt g0) (val_sh g0) (by decide) (by decide) dX1_faultOn_179 ?_
    refine w_gs (i := 1) (z := 1) hx hb hw hown (EV.en0 hE) (by decide) hS hAB gs_X1_64 (by decide) dX1_faultOn_180 ?_
    obtain ⟨z19, hc20, hf⟩ := br_some hf
    refine mu_cV (As := [.int (P (k0 + 1) 0), .ref (E.2.2 0 (1 : Int32).toNatClampNeg)]) (rest := []) hx hb hml hown hts hE (mX6_faultOfMode l E B0 b (by omega) N (P (k0 + 1) 0) (1 : Int32) z19 hc20) cv_X1_60 (w_recv (k := 0) (ci := 6) hE hN (by decide) rfl rfl) hN hS hAB (fun _ h => h.elim) rfl hl.1 rfl (by decide) (Nat.le_of_ble_eq_true rfl) ⟨Nat.le_refl _, Nat.le_refl _⟩ dX1_faultOn_183 (fun H locs hN _ hu hS => ?_)
    have hP := Blk.off hP hu (fun _ _ _ h => h)
    have hre := Option.some.inj hf
    subst hre
    exact mu_a hx hb hrt hlocks ⟨hP, hN⟩ hS dX1_faultOn_186
  rw [if_neg c18] at hf
  by_cases c21 : (swK.getD (P k0 0).toNatClampNeg 0) = 7
  · rw [if_pos c21] at hf
    refine lv_tableIn (off := 176) (tgt := 187) hx hb dX1_faultOn_11 (by rw [c21]; decide) (by rw [c21]; decide) (by rw [c21]; rfl) (by decide) ?_
    refine lv_aload_n hx hb dX1_faultOn_187 rfl (lv_at hl 1 rfl) ?_
    refine lv_aload_n hx hb dX1_faultOn_188 rfl (lv_at hl 0 rfl) ?_
    refine w_get (k := k0) (v := .ref (bp + (k0 + 1))) hx hb hw hown hE fl_X1_20 hP (cmd_lt g0) (cmd_sh g0) rfl rfl dX1_faultOn_189 ?_
    refine lv_iconst (v := 0) hx hb dX1_faultOn_192 (by decide) ?_
    refine w_iald (k := (k0 + 1)) (x9 := 0) hx hb hE hP (val_lt g0) (val_sh g0) (by decide) (by decide) dX1_faultOn_193 ?_
    refine w_gs (i := 2) (z := 2) hx hb hw hown (EV.en0 hE) (by decide) hS hAB gs_X1_67 (by decide) dX1_faultOn_194 ?_
    obtain ⟨z22, hc23, hf⟩ := br_some hf
    refine mu_cV (As := [.int (P (k0 + 1) 0), .ref (E.2.2 0 (2 : Int32).toNatClampNeg)]) (rest := []) hx hb hml hown hts hE (mX6_faultOfMode l E B0 b (by omega) N (P (k0 + 1) 0) (2 : Int32) z22 hc23) cv_X1_60 (w_recv (k := 0) (ci := 6) hE hN (by decide) rfl rfl) hN hS hAB (fun _ h => h.elim) rfl hl.1 rfl (by decide) (Nat.le_of_ble_eq_true rfl) ⟨Nat.le_refl _, Nat.le_refl _⟩ dX1_faultOn_197 (fun H locs hN _ hu hS => ?_)
    have hP := Blk.off hP hu (fun _ _ _ h => h)
    have hre := Option.some.inj hf
    subst hre
    exact mu_a hx hb hrt hlocks ⟨hP, hN⟩ hS dX1_faultOn_200
  rw [if_neg c21] at hf
  by_cases c24 : (swK.getD (P k0 0).toNatClampNeg 0) = 8
  · rw [if_pos c24] at hf
    refine lv_tableIn (off := 190) (tgt := 201) hx hb dX1_faultOn_11 (by rw [c24]; decide) (by rw [c24]; decide) (by rw [c24]; rfl) (by decide) ?_
    refine lv_aload_n hx hb dX1_faultOn_201 rfl (lv_at hl 0 rfl) ?_
    refine w_get (k := k0) (v := .ref (bp + (k0 + 1))) hx hb hw hown hE fl_X1_20 hP (cmd_lt g0) (cmd_sh g0) rfl rfl dX1_faultOn_202 ?_
    refine lv_iconst (v := 0) hx hb dX1_faultOn_205 (by decide) ?_
    refine w_iald (k := (k0 + 1)) (x9 := 0) hx hb hE hP (val_lt g0) (val_sh g0) (by decide) (by decide) dX1_faultOn_206 ?_
    obtain ⟨z25, hc26, hf⟩ := br_some hf
    refine mu_cSN (As := [.int (P (k0 + 1) 0)]) (rest := []) hx hb hml hown hts hE (mX11_faultOfMinutes l E B0 (P (k0 + 1) 0) z25 hc26) cn_X1_70 trivial hS hAB (fun _ h => h.elim) rfl hl.1 rfl (by decide) (Nat.le_of_ble_eq_true rfl) ⟨Nat.le_refl _, Nat.le_refl _⟩ dX1_faultOn_207 (fun H locs _ _ hu hS => ?_)
    have hP := Blk.off hP hu (fun _ _ _ h => h)
    have hN := Blk.off hN hu (fun _ _ _ h => h)
    have hre := Option.some.inj hf
    subst hre
    exact mu_a hx hb hrt hlocks ⟨hP, hN⟩ hS dX1_faultOn_210
  rw [if_neg c24] at hf
  by_cases c27 : (swK.getD (P k0 0).toNatClampNeg 0) = 9
  · rw [if_pos c27] at hf
    refine lv_tableIn (off := 190) (tgt := 201) hx hb dX1_faultOn_11 (by rw [c27]; decide) (by rw [c27]; decide) (by rw [c27]; rfl) (by decide) ?_
    refine lv_aload_n hx hb dX1_faultOn_201 rfl (lv_at hl 0 rfl) ?_
    refine w_get (k := k0) (v := .ref (bp + (k0 + 1))) hx hb hw hown hE fl_X1_20 hP (cmd_lt g0) (cmd_sh g0) rfl rfl dX1_faultOn_202 ?_
    refine lv_iconst (v := 0) hx hb dX1_faultOn_205 (by decide) ?_
    refine w_iald (k := (k0 + 1)) (x9 := 0) hx hb hE hP (val_lt g0) (val_sh g0) (by decide) (by decide) dX1_faultOn_206 ?_
    obtain ⟨z28, hc29, hf⟩ := br_some hf
    refine mu_cSN (As := [.int (P (k0 + 1) 0)]) (rest := []) hx hb hml hown hts hE (mX11_faultOfMinutes l E B0 (P (k0 + 1) 0) z28 hc29) cn_X1_70 trivial hS hAB (fun _ h => h.elim) rfl hl.1 rfl (by decide) (Nat.le_of_ble_eq_true rfl) ⟨Nat.le_refl _, Nat.le_refl _⟩ dX1_faultOn_207 (fun H locs _ _ hu hS => ?_)
    have hP := Blk.off hP hu (fun _ _ _ h => h)
    have hN := Blk.off hN hu (fun _ _ _ h => h)
    have hre := Option.some.inj hf
    subst hre
    exact mu_a hx hb hrt hlocks ⟨hP, hN⟩ hS dX1_faultOn_210
  rw [if_neg c27] at hf
  refine lv_tableOut (tgt := 211) hx hb dX1_faultOn_11 (by have q0 := i32ne (k := 1) c3 (by decide); have q1 := i32ne (k := 2) c6 (by decide); have q2 := i32ne (k := 3) c9 (by decide); have q3 := i32ne (k := 4) c12 (by decide); have q4 := i32ne (k := 5) c15 (by decide); have q5 := i32ne (k := 6) c18 (by decide); have q6 := i32ne (k := 7) c21 (by decide); have q7 := i32ne (k := 8) c24 (by decide); have q8 := i32ne (k := 9) c27 (by decide); omega) (by decide) ?_
  refine w_gs (i := 0) (z := 0) hx hb hw hown (EV.en1 hE) (by decide) hS hAB gs_X1_74 (by decide) dX1_faultOn_211 ?_
  have hre := Option.some.inj hf
  subst hre
  exact mu_a hx hb hrt hlocks ⟨hP, hN⟩ hS dX1_faultOn_214
noncomputable def fX1_succeedsOn (P : Mem) (N : Mem) (k0 : Nat) : Option (Int32 × Mem) := gd (cmdk k0) ((fX1_faultOn P N k0).bind fun z1 => gd (inb z1 5) ((if z1 = (0 : Int32) then gd (inb (P k0 0) 10) (gd (inb (P k0 0) 10) ((if (swK.getD (P k0 0).toNatClampNeg 0) = 1 then (fX6_add N (((P (k0 + 1) 0).toUInt32 % 65536).toInt32) (P (k0 + 1) 1) (P (k0 + 1) 2) (P (k0 + 1) 3) (P (k0 + 1) 4) (P (k0 + 1) 5)).bind fun z8 => some (1, z8.2) else (if (swK.getD (P k0 0).toNatClampNeg 0) = 2 then (fX6_moveTo N (P (k0 + 1) 0) (P (k0 + 1) 1) (P (k0 + 1) 2)).bind fun z11 => some (1, z11.2) else (if (swK.getD (P k0 0).toNatClampNeg 0) = 3 then (fX6_changePower N (P (k0 + 1) 0) (P (k0 + 1) 1)).bind fun z14 => some (1, z14.2) else (if (swK.getD (P k0 0).toNatClampNeg 0) = 4 then (fX6_changeChannel N (P (k0 + 1) 0) (P (k0 + 1) 1)).bind fun z17 => some (1, z17.2) else (if (swK.getD (P k0 0).toNatClampNeg 0) = 5 then (fX6_speakOrWait N (P (k0 + 1) 0)).bind fun z20 => some (1, z20.2) else (if (swK.getD (P k0 0).toNatClampNeg 0) = 6 then (fX6_endTurn N (P (k0 + 1) 0)).bind fun z23 => some (1, z23.2) else (if (swK.getD (P k0 0).toNatClampNeg 0) = 7 then (fX6_stopWaiting N (P (k0 + 1) 0)).bind fun z26 => some (1, z26.2) else (if (swK.getD (P k0 0).toNatClampNeg 0) = 8 then (fX6_changeTurnLimit N (P (k0 + 1) 0)).bind fun z29 => some (1, z29.2) else (if (swK.getD (P k0 0).toNatClampNeg 0) = 9 then (fX6_passMinutes N (P (k0 + 1) 0)).bind fun z32 => some (1, z32.2) else (fX6_passMinute N).bind fun z34 => some (1, z34.2)))))))))))) else some (0, N))))
set_option maxHeartbeats 4000000 in
set_option maxRecDepth 100000 in
theorem mX1_succeedsOn (l : Launch) (E : EP) (B0 : Nat) (bp : Nat) (b : Nat) (hb0 : B0 ≤ bp) (hb1 : B0 ≤ b) (hb2 : bp + 29 ≤ b ∨ b + 15 ≤ bp) (P : Mem) (N : Mem) (k0 : Nat) (r : Int32 × Mem) (hf : fX1_succeedsOn P N k0 = some r) : MU l E B0 yX1_succeedsOn cX1_succeedsOn 2 (some .boolean) 5 0 0 [.ref (bp + k0), .ref (b + 0)] (fun H => Blk E bp progSh 29 P H ∧ Blk E b netSh 15 N H) (some (.int r.1)) (fun H => Blk E bp progSh 29 P H ∧ Blk E b netSh 15 r.2 H) (iv b 15) := by
  refine mu_of (by decide +kernel) (Nat.le_of_ble_eq_true rfl) ?_
  intro p e s m args below meth c hx hb hml hown hts hrt hlocks hE H hP9 hS ls hl
  obtain ⟨hP, hN⟩ := hP9
  have hown : s.vm.findClass RX1 = some m.cls := hown
  have hl : lv_has ls 2 [(0, .ref (bp + k0)), (1, .ref (b + 0))] := hl
  have hw : ∀ w ∈ WA, w.before args s = true := fun w h => hts w (List.mem_cons_of_mem _ h)
  have hAB : ∀ q, (iv b 15) q → B0 ≤ q := (iv_ge (by omega))
  unfold fX1_succeedsOn at hf
  obtain ⟨g0, hf⟩ := gd_some hf
  refine lv_aload_n hx hb dX1_succeedsOn_0 rfl (lv_at hl 0 rfl) ?_
  refine lv_aload_n hx hb dX1_succeedsOn_1 rfl (lv_at hl 1 rfl) ?_
  obtain ⟨z1, hc2, hf⟩ := br_some hf
  refine mu_cV (As := [.ref (b + 0)]) (rest := []) hx hb hml hown hts hE (mX1_faultOn l E B0 bp b (by omega) (by omega) (by omega) P N k0 z1 hc2) cv_X1_80 (w_recv (k := k0) (ci := 4) hE hP (cmd_lt g0) (cmd_sh g0) rfl) ⟨hP, hN⟩ hS hAB (fun _ h => h.elim) rfl hl.1 rfl (by decide) (Nat.le_of_ble_eq_true rfl) ⟨Nat.le_refl _, Nat.le_refl _⟩ dX1_succeedsOn_2 (fun H locs hP9 _ hu hS => ?_)
  obtain ⟨hP, hN⟩ := hP9
  refine w_gs (i := 0) (z := 0) hx hb hw hown (EV.en1 hE) (by decide) hS hAB gs_X1_74 (by decide) dX1_succeedsOn_5 ?_
  obtain ⟨h3, hf⟩ := gd_some hf
  refine w_acmpE_eq (tgt := 13) hx hb (EV.en1 hE) h3 (by decide) dX1_succeedsOn_8 (by decide) (fun c4 => ?_) (fun c4 => ?_)
  · rw [if_pos c4] at hf
    refine w_sw1 hx hb hw hown hE gw_X1_28 hS hAB dX1_succeedsOn_13 ?_
    refine lv_aload_n hx hb dX1_succeedsOn_16 rfl (lv_at hl 0 rfl) ?_
    refine w_get (k := k0) (v := .ref (E.2.2 2 (P k0 0).toNatClampNeg)) hx hb hw hown hE fl_X1_15 hP (cmd_lt g0) (cmd_sh g0) rfl rfl dX1_succeedsOn_17 ?_
    obtain ⟨h5, hf⟩ := gd_some hf
    refine w_ord (j := 2) (x := (P k0 0)) hx hb hml hown hts hE (fun U H h => EV.en2 h) (ordL2 h5) h5 hS hAB po_X1_33 hl.1 (by decide) (Nat.le_of_ble_eq_true rfl) (Nat.zero_le _) (Nat.zero_le _) dX1_succeedsOn_20 (fun H locs hz hu hS => ?_)
    have hP := Blk.off hP hu (fun _ _ _ h => h)
    have hN := Blk.off hN hu (fun _ _ _ h => h)
    obtain ⟨h6, hf⟩ := gd_some hf
    refine w_sald1 hx hb hE hS hAB h6 dX1_succeedsOn_23 ?_
    by_cases c7 : (swK.getD (P k0 0).toNatClampNeg 0) = 1
    · rw [if_pos c7] at hf
      refine lv_tableIn (off := 52) (tgt := 76) hx hb dX1_succeedsOn_24 (by rw [c7]; decide) (by rw [c7]; decide) (by rw [c7]; rfl) (by decide) ?_
      refine lv_aload_n hx hb dX1_succeedsOn_76 rfl (lv_at hl 1 rfl) ?_
      refine lv_aload_n hx hb dX1_succeedsOn_77 rfl (lv_at hl 0 rfl) ?_
      refine w_get (k := k0) (v := .ref (bp + (k0 + 1))) hx hb hw hown hE fl_X1_20 hP (cmd_lt g0) (cmd_sh g0) rfl rfl dX1_succeedsOn_78 ?_
      refine lv_iconst (v := 0) hx hb dX1_succeedsOn_81 (by decide) ?_
      refine w_iald (k := (k0 + 1)) (x9 := 0) hx hb hE hP (val_lt g0) (val_sh g0) (by decide) (by decide) dX1_succeedsOn_82 ?_
      refine lv_i2c (v := ((P (k0 + 1) 0).toUInt32 % 65536).toInt32) hx hb dX1_succeedsOn_83 rfl ?_
      refine lv_aload_n hx hb dX1_succeedsOn_84 rfl (lv_at hl 0 rfl) ?_
      refine w_get (k := k0) (v := .ref (bp + (k0 + 1))) hx hb hw hown hE fl_X1_20 hP (cmd_lt g0) (cmd_sh g0) rfl rfl dX1_succeedsOn_85 ?_
      refine lv_iconst (v := 1) hx hb dX1_succeedsOn_88 (by decide) ?_
      refine w_iald (k := (k0 + 1)) (x9 := 1) hx hb hE hP (val_lt g0) (val_sh g0) (by decide) (by decide) dX1_succeedsOn_89 ?_
      refine lv_aload_n hx hb dX1_succeedsOn_90 rfl (lv_at hl 0 rfl) ?_
      refine w_get (k := k0) (v := .ref (bp + (k0 + 1))) hx hb hw hown hE fl_X1_20 hP (cmd_lt g0) (cmd_sh g0) rfl rfl dX1_succeedsOn_91 ?_
      refine lv_iconst (v := 2) hx hb dX1_succeedsOn_94 (by decide) ?_
      refine w_iald (k := (k0 + 1)) (x9 := 2) hx hb hE hP (val_lt g0) (val_sh g0) (by decide) (by decide) dX1_succeedsOn_95 ?_
      refine lv_aload_n hx hb dX1_succeedsOn_96 rfl (lv_at hl 0 rfl) ?_
      refine w_get (k := k0) (v := .ref (bp + (k0 + 1))) hx hb hw hown hE fl_X1_20 hP (cmd_lt g0) (cmd_sh g0) rfl rfl dX1_succeedsOn_97 ?_
      refine lv_iconst (v := 3) hx hb dX1_succeedsOn_100 (by decide) ?_
      refine w_iald (k := (k0 + 1)) (x9 := 3) hx hb hE hP (val_lt g0) (val_sh g0) (by decide) (by decide) dX1_succeedsOn_101 ?_
      refine lv_aload_n hx hb dX1_succeedsOn_102 rfl (lv_at hl 0 rfl) ?_
      refine w_get (k := k0) (v := .ref (bp + (k0 + 1))) hx hb hw hown hE fl_X1_20 hP (cmd_lt g0) (cmd_sh g0) rfl rfl dX1_succeedsOn_103 ?_
      refine lv_iconst (v := 4) hx hb dX1_succeedsOn_106 (by decide) ?_
      refine w_iald (k := (k0 + 1)) (x9 := 4) hx hb hE hP (val_lt g0) (val_sh g0) (by decide) (by decide) dX1_succeedsOn_107 ?_
      refine lv_aload_n hx hb dX1_succeedsOn_108 rfl (lv_at hl 0 rfl) ?_
      refine w_get (k := k0) (v := .ref (bp + (k0 + 1))) hx hb hw hown hE fl_X1_20 hP (cmd_lt g0) (cmd_sh g0) rfl rfl dX1_succeedsOn_109 ?_
      refine lv_iconst (v := 5) hx hb dX1_succeedsOn_112 (by decide) ?_
      refine w_iald (k := (k0 + 1)) (x9 := 5) hx hb hE hP (val_lt g0) (val_sh g0) (by decide) (by decide) dX1_succeedsOn_113 ?_
      obtain ⟨z8, hc9, hf⟩ := br_some hf
      refine mu_cV (As := [.int (((P (k0 + 1) 0).toUInt32 % 65536).toInt32), .int (P (k0 + 1) 1), .int (P (k0 + 1) 2), .int (P (k0 + 1) 3), .int (P (k0 + 1) 4), .int (P (k0 + 1) 5)]) (rest := []) hx hb hml hown hts hE (mX6_add l E B0 b (by omega) N (((P (k0 + 1) 0).toUInt32 % 65536).toInt32) (P (k0 + 1) 1) (P (k0 + 1) 2) (P (k0 + 1) 3) (P (k0 + 1) 4) (P (k0 + 1) 5) z8 hc9) cv_X1_84 (w_recv (k := 0) (ci := 6) hE hN (by decide) rfl rfl) hN hS hAB (fun _ h => h) rfl hl.1 rfl (by decide) (Nat.le_of_ble_eq_true rfl) ⟨Nat.le_refl _, Nat.le_refl _⟩ dX1_succeedsOn_114 (fun H locs hN _ hu hS => ?_)
      have hP := Blk.off hP hu (iv_dis (by omega))
      refine lv_pop hx hb dX1_succeedsOn_117 rfl ?_
      refine lv_goto (tgt := 262) hx hb dX1_succeedsOn_118 (by decide) ?_
      refine lv_iconst (v := 1) hx hb dX1_succeedsOn_262 (by decide) ?_
      have hre := Option.some.inj hf
      subst hre
      exact mu_z (v := 1) hx hb hrt rfl hlocks ⟨hP, hN⟩ hS dX1_succeedsOn_263
    rw [if_neg c7] at hf
    by_cases c10 : (swK.getD (P k0 0).toNatClampNeg 0) = 2
    · rw [if_pos c10] at hf
      refine lv_tableIn (off := 97) (tgt := 121) hx hb dX1_succeedsOn_24 (by rw [c10]; decide) (by rw [c10]; decide) (by rw [c10]; rfl) (by decide) ?_
      refine lv_aload_n hx hb dX1_succeedsOn_121 rfl (lv_at hl 1 rfl) ?_
      refine lv_aload_n hx hb dX1_succeedsOn_122 rfl (lv_at hl 0 rfl) ?_
      refine w_get (k := k0) (v := .ref (bp + (k0 + 1))) hx hb hw hown hE fl_X1_20 hP (cmd_lt g0) (cmd_sh g0) rfl rfl dX1_succeedsOn_123 ?_
      refine lv_iconst (v := 0) hx hb dX1_succeedsOn_126 (by decide) ?_
      refine w_iald (k := (k0 + 1)) (x9 := 0) hx hb hE hP (val_lt g0) (val_sh g0) (by decide) (by decide) dX1_succeedsOn_127 ?_
      refine lv_aload_n hx hb dX1_succeedsOn_128 rfl (lv_at hl 0 rfl) ?_
      refine w_get (k := k0) (v := .ref (bp + (k0 + 1))) hx hb hw hown hE fl_X1_20 hP (cmd_lt g0) (cmd_sh g0) rfl rfl dX1_succeedsOn_129 ?_
      refine lv_iconst (v := 1) hx hb dX1_succeedsOn_132 (by decide) ?_
      refine w_iald (k := (k0 + 1)) (x9 := 1) hx hb hE hP (val_lt g0) (val_sh g0) (by decide) (by decide) dX1_succeedsOn_133 ?_
      refine lv_aload_n hx hb dX1_succeedsOn_134 rfl (lv_at hl 0 rfl) ?_
      refine w_get (k := k0) (v := .ref (bp + (k0 + 1))) hx hb hw hown hE fl_X1_20 hP (cmd_lt g0) (cmd_sh g0) rfl rfl dX1_succeedsOn_135 ?_
      refine lv_iconst (v := 2) hx hb dX1_succeedsOn_138 (by decide) ?_
      refine w_iald (k := (k0 + 1)) (x9 := 2) hx hb hE hP (val_lt g0) (val_sh g0) (by decide) (by decide) dX1_succeedsOn_139 ?_
      obtain ⟨z11, hc12, hf⟩ := br_some hf
      refine mu_cV (As := [.int (P (k0 + 1) 0), .int (P (k0 + 1) 1), .int (P (k0 + 1) 2)]) (rest := []) hx hb hml hown hts hE (mX6_moveTo l E B0 b (by omega) N (P (k0 + 1) 0) (P (k0 + 1) 1) (P (k0 + 1) 2) z11 hc12) cv_X1_88 (w_recv (k := 0) (ci := 6) hE hN (by decide) rfl rfl) hN hS hAB (fun _ h => h) rfl hl.1 rfl (by decide) (Nat.le_of_ble_eq_true rfl) ⟨Nat.le_refl _, Nat.le_refl _⟩ dX1_succeedsOn_140 (fun H locs hN _ hu hS => ?_)
      have hP := Blk.off hP hu (iv_dis (by omega))
      refine lv_pop hx hb dX1_succeedsOn_143 rfl ?_
      refine lv_goto (tgt := 262) hx hb dX1_succeedsOn_144 (by decide) ?_
      refine lv_iconst (v := 1) hx hb dX1_succeedsOn_262 (by decide) ?_
      have hre := Option.some.inj hf
      subst hre
      exact mu_z (v := 1) hx hb hrt rfl hlocks ⟨hP, hN⟩ hS dX1_succeedsOn_263
    rw [if_neg c10] at hf
    by_cases c13 : (swK.getD (P k0 0).toNatClampNeg 0) = 3
    · rw [if_pos c13] at hf
      refine lv_tableIn (off := 123) (tgt := 147) hx hb dX1_succeedsOn_24 (by rw [c13]; decide) (by rw [c13]; decide) (by rw [c13]; rfl) (by decide) ?_
      refine lv_aload_n hx hb dX1_succeedsOn_147 rfl (lv_at hl 1 rfl) ?_
      refine lv_aload_n hx hb dX1_succeedsOn_148 rfl (lv_at hl 0 rfl) ?_
      refine w_get (k := k0) (v := .ref (bp + (k0 + 1))) hx hb hw hown hE fl_X1_20 hP (cmd_lt g0) (cmd_sh g0) rfl rfl dX1_succeedsOn_149 ?_
      refine lv_iconst (v := 0) hx hb dX1_succeedsOn_152 (by decide) ?_
      refine w_iald (k := (k0 + 1)) (x9 := 0) hx hb hE hP (val_lt g0) (val_sh g0) (by decide) (by decide) dX1_succeedsOn_153 ?_
      refine lv_aload_n hx hb dX1_succeedsOn_154 rfl (lv_at hl 0 rfl) ?_
      refine w_get (k := k0) (v := .ref (bp + (k0 + 1))) hx hb hw hown hE fl_X1_20 hP (cmd_lt g0) (cmd_sh g0) rfl rfl dX1_succeedsOn_155 ?_
      refine lv_iconst (v := 1) hx hb dX1_succeedsOn_158 (by decide) ?_
      refine w_iald (k := (k0 + 1)) (x9 := 1) hx hb hE hP (val_lt g0) (val_sh g0) (by decide) (by decide) dX1_succeedsOn_159 ?_
      obtain ⟨z14, hc15, hf⟩ := br_some hf
      refine mu_cV (As := [.int (P (k0 + 1) 0), .int (P (k0 + 1) 1)]) (rest := []) hx hb hml hown hts hE (mX6_changePower l E B0 b (by omega) N (P (k0 + 1) 0) (P (k0 + 1) 1) z14 hc15) cv_X1_92 (w_recv (k := 0) (ci := 6) hE hN (by decide) rfl rfl) hN hS hAB (fun _ h => h) rfl hl.1 rfl (by decide) (Nat.le_of_ble_eq_true rfl) ⟨Nat.le_refl _, Nat.le_refl _⟩ dX1_succeedsOn_160 (fun H locs hN _ hu hS => ?_)
      have hP := Blk.off hP hu (iv_dis (by omega))
      refine lv_pop hx hb dX1_succeedsOn_163 rfl ?_
      refine lv_goto (tgt := 262) hx hb dX1_succeedsOn_164 (by decide) ?_
      refine lv_iconst (v := 1) hx hb dX1_succeedsOn_262 (by decide) ?_
      have hre := Option.some.inj hf
      subst hre
      exact mu_z (v := 1) hx hb hrt rfl hlocks ⟨hP, hN⟩ hS dX1_succeedsOn_263
    rw [if_neg c13] at hf
    by_cases c16 : (swK.getD (P k0 0).toNatClampNeg 0) = 4
    · rw [if_pos c16] at hf
      refine lv_tableIn (off := 143) (tgt := 167) hx hb dX1_succeedsOn_24 (by rw [c16]; decide) (by rw [c16]; decide) (by rw [c16]; rfl) (by decide) ?_
      refine lv_aload_n hx hb dX1_succeedsOn_167 rfl (lv_at hl 1 rfl) ?_
      refine lv_aload_n hx hb dX1_succeedsOn_168 rfl (lv_at hl 0 rfl) ?_
      refine w_get (k := k0) (v := .ref (bp + (k0 + 1))) hx hb hw hown hE fl_X1_20 hP (cmd_lt g0) (cmd_sh g0) rfl rfl dX1_succeedsOn_169 ?_
      refine lv_iconst (v := 0) hx hb dX1_succeedsOn_172 (by decide) ?_
      refine w_iald (k := (k0 + 1)) (x9 := 0) hx hb hE hP (val_lt g0) (val_sh g0) (by decide) (by decide) dX1_succeedsOn_173 ?_
      refine lv_aload_n hx hb dX1_succeedsOn_174 rfl (lv_at hl 0 rfl) ?_
      refine w_get (k := k0) (v := .ref (bp + (k0 + 1))) hx hb hw hown hE fl_X1_20 hP (cmd_lt g0) (cmd_sh g0) rfl rfl dX1_succeedsOn_175 ?_
      refine lv_iconst (v := 1) hx hb dX1_succeedsOn_178 (by decide) ?_
      refine w_iald (k := (k0 + 1)) (x9 := 1) hx hb hE hP (val_lt g0) (val_sh g0) (by decide) (by decide) dX1_succeedsOn_179 ?_
      obtain ⟨z17, hc18, hf⟩ := br_some hf
      refine mu_cV (As := [.int (P (k0 + 1) 0), .int (P (k0 + 1) 1)]) (rest := []) hx hb hml hown hts hE (mX6_changeChannel l E B0 b (by omega) N (P (k0 + 1) 0) (P (k0 + 1) 1) z17 hc18) cv_X1_96 (w_recv (k := 0) (ci := 6) hE hN (by decide) rfl rfl) hN hS hAB (fun _ h => h) rfl hl.1 rfl (by decide) (Nat.le_of_ble_eq_true rfl) ⟨Nat.le_refl _, Nat.le_refl _⟩ dX1_succeedsOn_180 (fun H locs hN _ hu hS => ?_)
      have hP := Blk.off hP hu (iv_dis (by omega))
      refine lv_pop hx hb dX1_succeedsOn_183 rfl ?_
      refine lv_goto (tgt := 262) hx hb dX1_succeedsOn_184 (by decide) ?_
      refine lv_iconst (v := 1) hx hb dX1_succeedsOn_262 (by decide) ?_
      have hre := Option.some.inj hf
      subst hre
      exact mu_z (v := 1) hx hb hrt rfl hlocks ⟨hP, hN⟩ hS dX1_succeedsOn_263
    rw [if_neg c16] at hf
    by_cases c19 : (swK.getD (P k0 0).toNatClampNeg 0) = 5
    · rw [if_pos c19] at hf
      refine lv_tableIn (off := 163) (tgt := 187) hx hb dX1_succeedsOn_24 (by rw [c19]; decide) (by rw [c19]; decide) (by rw [c19]; rfl) (by decide) ?_
      refine lv_aload_n hx hb dX1_succeedsOn_187 rfl (lv_at hl 1 rfl) ?_
      refine lv_aload_n hx hb dX1_succeedsOn_188 rfl (lv_at hl 0 rfl) ?_
      refine w_get (k := k0) (v := .ref (bp + (k0 + 1))) hx hb hw hown hE fl_X1_20 hP (cmd_lt g0) (cmd_sh g0) rfl rfl dX1_succeedsOn_189 ?_
      refine lv_iconst (v := 0) hx hb dX1_succeedsOn_192 (by decide) ?_
      refine w_iald (k := (k0 + 1)) (x9 := 0) hx hb hE hP (val_lt g0) (val_sh g0) (by decide) (by decide) dX1_succeedsOn_193 ?_
      obtain ⟨z20, hc21, hf⟩ := br_some hf
      refine mu_cV (As := [.int (P (k0 + 1) 0)]) (rest := []) hx hb hml hown hts hE (mX6_speakOrWait l E B0 b (by omega) N (P (k0 + 1) 0) z20 hc21) cv_X1_99 (w_recv (k := 0) (ci := 6) hE hN (by decide) rfl rfl) hN hS hAB (fun _ h => h) rfl hl.1 rfl (by decide) (Nat.le_of_ble_eq_true rfl) ⟨Nat.le_refl _, Nat.le_refl _⟩ dX1_succeedsOn_194 (fun H locs hN _ hu hS => ?_)
      have hP := Blk.off hP hu (iv_dis (by omega))
      refine lv_pop hx hb dX1_succeedsOn_197 rfl ?_
      refine lv_goto (tgt := 262) hx hb dX1_succeedsOn_198 (by decide) ?_
      refine lv_iconst (v := 1) hx hb dX1_succeedsOn_262 (by decide) ?_
      have hre := Option.some.inj hf
      subst hre
      exact mu_z (v := 1) hx hb hrt rfl hlocks ⟨hP, hN⟩ hS dX1_succeedsOn_263
    rw [if_neg c19] at hf
    by_cases c22 : (swK.getD (P k0 0).toNatClampNeg 0) = 6
    · rw [if_pos c22] at hf
      refine lv_tableIn (off := 177) (tgt := 201) hx hb dX1_succeedsOn_24 (by rw [c22]; decide) (by rw [c22]; decide) (by rw [c22]; rfl) (by decide) ?_
      refine lv_aload_n hx hb dX1_succeedsOn_201 rfl (lv_at hl 1 rfl) ?_
      refine lv_aload_n hx hb dX1_succeedsOn_202 rfl (lv_at hl 0 rfl) ?_
      refine w_get (k := k0) (v := .ref (bp + (k0 + 1))) hx hb hw hown hE fl_X1_20 hP (cmd_lt g0) (cmd_sh g0) rfl rfl dX1_succeedsOn_203 ?_
      refine lv_iconst (v := 0) hx hb dX1_succeedsOn_206 (by decide) ?_
      refine w_iald (k := (k0 + 1)) (x9 := 0) hx hb hE hP (val_lt g0) (val_sh g0) (by decide) (by decide) dX1_succeedsOn_207 ?_
      obtain ⟨z23, hc24, hf⟩ := br_some hf
      refine mu_cV (As := [.int (P (k0 + 1) 0)]) (rest := []) hx hb hml hown hts hE (mX6_endTurn l E B0 b (by omega) N (P (k0 + 1) 0) z23 hc24) cv_X1_103 (w_recv (k := 0) (ci := 6) hE hN (by decide) rfl rfl) hN hS hAB (fun _ h => h) rfl hl.1 rfl (by decide) (Nat.le_of_ble_eq_true rfl) ⟨Nat.le_refl _, Nat.le_refl _⟩ dX1_succeedsOn_208 (fun H locs hN _ hu hS => ?_)
      have hP := Blk.off hP hu (iv_dis (by omega))
      refine lv_pop hx hb dX1_succeedsOn_211 rfl ?_
      refine lv_goto (tgt := 262) hx hb dX1_succeedsOn_212 (by decide) ?_
      refine lv_iconst (v := 1) hx hb dX1_succeedsOn_262 (by decide) ?_
      have hre := Option.some.inj hf
      subst hre
      exact mu_z (v := 1) hx hb hrt rfl hlocks ⟨hP, hN⟩ hS dX1_succeedsOn_263
    rw [if_neg c22] at hf
    by_cases c25 : (swK.getD (P k0 0).toNatClampNeg 0) = 7
    · rw [if_pos c25] at hf
      refine lv_tableIn (off := 191) (tgt := 215) hx hb dX1_succeedsOn_24 (by rw [c25]; decide) (by rw [c25]; decide) (by rw [c25]; rfl) (by decide) ?_
      refine lv_aload_n hx hb dX1_succeedsOn_215 rfl (lv_at hl 1 rfl) ?_
      refine lv_aload_n hx hb dX1_succeedsOn_216 rfl (lv_at hl 0 rfl) ?_
      refine w_get (k := k0) (v := .ref (bp + (k0 + 1))) hx hb hw hown hE fl_X1_20 hP (cmd_lt g0) (cmd_sh g0) rfl rfl dX1_succeedsOn_217 ?_
      refine lv_iconst (v := 0) hx hb dX1_succeedsOn_220 (by decide) ?_
      refine w_iald (k := (k0 + 1)) (x9 := 0) hx hb hE hP (val_lt g0) (val_sh g0) (by decide) (by decide) dX1_succeedsOn_221 ?_
      obtain ⟨z26, hc27, hf⟩ := br_some hf
      refine mu_cV (As := [.int (P (k0 + 1) 0)]) (rest := []) hx hb hml hown hts hE (mX6_stopWaiting l E B0 b (by omega) N (P (k0 + 1) 0) z26 hc27) cv_X1_106 (w_recv (k := 0) (ci := 6) hE hN (by decide) rfl rfl) hN hS hAB (fun _ h => h) rfl hl.1 rfl (by decide) (Nat.le_of_ble_eq_true rfl) ⟨Nat.le_refl _, Nat.le_refl _⟩ dX1_succeedsOn_222 (fun H locs hN _ hu hS => ?_)
      have hP := Blk.off hP hu (iv_dis (by omega))
      refine lv_pop hx hb dX1_succeedsOn_225 rfl ?_
      refine lv_goto (tgt := 262) hx hb dX1_succeedsOn_226 (by decide) ?_
      refine lv_iconst (v := 1) hx hb dX1_succeedsOn_262 (by decide) ?_
      have hre := Option.some.inj hf
      subst hre
      exact mu_z (v := 1) hx hb hrt rfl hlocks ⟨hP, hN⟩ hS dX1_succeedsOn_263
    rw [if_neg c25] at hf
    by_cases c28 : (swK.getD (P k0 0).toNatClampNeg 0) = 8
    · rw [if_pos c28] at hf
      refine lv_tableIn (off := 205) (tgt := 229) hx hb dX1_succeedsOn_24 (by rw [c28]; decide) (by rw [c28]; decide) (by rw [c28]; rfl) (by decide) ?_
      refine lv_aload_n hx hb dX1_succeedsOn_229 rfl (lv_at hl 1 rfl) ?_
      refine lv_aload_n hx hb dX1_succeedsOn_230 rfl (lv_at hl 0 rfl) ?_
      refine w_get (k := k0) (v := .ref (bp + (k0 + 1))) hx hb hw hown hE fl_X1_20 hP (cmd_lt g0) (cmd_sh g0) rfl rfl dX1_succeedsOn_231 ?_
      refine lv_iconst (v := 0) hx hb dX1_succeedsOn_234 (by decide) ?_
      refine w_iald (k := (k0 + 1)) (x9 := 0) hx hb hE hP (val_lt g0) (val_sh g0) (by decide) (by decide) dX1_succeedsOn_235 ?_
      obtain ⟨z29, hc30, hf⟩ := br_some hf
      refine mu_cV (As := [.int (P (k0 + 1) 0)]) (rest := []) hx hb hml hown hts hE (mX6_changeTurnLimit l E B0 b (by omega) N (P (k0 + 1) 0) z29 hc30) cv_X1_109 (w_recv (k := 0) (ci := 6) hE hN (by decide) rfl rfl) hN hS hAB (fun _ h => h) rfl hl.1 rfl (by decide) (Nat.le_of_ble_eq_true rfl) ⟨Nat.le_refl _, Nat.le_refl _⟩ dX1_succeedsOn_236 (fun H locs hN _ hu hS => ?_)
      have hP := Blk.off hP hu (iv_dis (by omega))
      refine lv_pop hx hb dX1_succeedsOn_239 rfl ?_
      refine lv_goto (tgt := 262) hx hb dX1_succeedsOn_240 (by decide) ?_
      refine lv_iconst (v := 1) hx hb dX1_succeedsOn_262 (by decide) ?_
      have hre := Option.some.inj hf
      subst hre
      exact mu_z (v := 1) hx hb hrt rfl hlocks ⟨hP, hN⟩ hS dX1_succeedsOn_263
    rw [if_neg c28] at hf
    by_cases c31 : (swK.getD (P k0 0).toNatClampNeg 0) = 9
    · rw [if_pos c31] at hf
      refine lv_tableIn (off := 219) (tgt := 243) hx hb dX1_succeedsOn_24 (by rw [c31]; decide) (by rw [c31]; decide) (by rw [c31]; rfl) (by decide) ?_
      refine lv_aload_n hx hb dX1_succeedsOn_243 rfl (lv_at hl 1 rfl) ?_
      refine lv_aload_n hx hb dX1_succeedsOn_244 rfl (lv_at hl 0 rfl) ?_
      refine w_get (k := k0) (v := .ref (bp + (k0 + 1))) hx hb hw hown hE fl_X1_20 hP (cmd_lt g0) (cmd_sh g0) rfl rfl dX1_succeedsOn_245 ?_
      refine lv_iconst (v := 0) hx hb dX1_succeedsOn_248 (by decide) ?_
      refine w_iald (k := (k0 + 1)) (x9 := 0) hx hb hE hP (val_lt g0) (val_sh g0) (by decide) (by decide) dX1_succeedsOn_249 ?_
      obtain ⟨z32, hc33, hf⟩ := br_some hf
      refine mu_cV (As := [.int (P (k0 + 1) 0)]) (rest := []) hx hb hml hown hts hE (mX6_passMinutes l E B0 b (by omega) N (P (k0 + 1) 0) z32 hc33) cv_X1_112 (w_recv (k := 0) (ci := 6) hE hN (by decide) rfl rfl) hN hS hAB (fun _ h => h) rfl hl.1 rfl (by decide) (Nat.le_of_ble_eq_true rfl) ⟨Nat.le_refl _, Nat.le_refl _⟩ dX1_succeedsOn_250 (fun H locs hN _ hu hS => ?_)
      have hP := Blk.off hP hu (iv_dis (by omega))
      refine lv_pop hx hb dX1_succeedsOn_253 rfl ?_
      refine lv_goto (tgt := 262) hx hb dX1_succeedsOn_254 (by decide) ?_
      refine lv_iconst (v := 1) hx hb dX1_succeedsOn_262 (by decide) ?_
      have hre := Option.some.inj hf
      subst hre
      exact mu_z (v := 1) hx hb hrt rfl hlocks ⟨hP, hN⟩ hS dX1_succeedsOn_263
    rw [if_neg c31] at hf
    refine lv_tableOut (tgt := 257) hx hb dX1_succeedsOn_24 (by have q0 := i32ne (k := 1) c7 (by decide); have q1 := i32ne (k := 2) c10 (by decide); have q2 := i32ne (k := 3) c13 (by decide); have q3 := i32ne (k := 4) c16 (by decide); have q4 := i32ne (k := 5) c19 (by decide); have q5 := i32ne (k := 6) c22 (by decide); have q6 := i32ne (k := 7) c25 (by decide); have q7 := i32ne (k := 8) c28 (by decide); have q8 := i32ne (k := 9) c31 (by decide); omega) (by decide) ?_
    refine lv_aload_n hx hb dX1_succeedsOn_257 rfl (lv_at hl 1 rfl) ?_
    obtain ⟨z34, hc35, hf⟩ := br_some hf
    refine mu_cV (As := []) (rest := []) hx hb hml hown hts hE (mX6_passMinute l E B0 b (by omega) N z34 hc35) cv_X1_115 (w_recv (k := 0) (ci := 6) hE hN (by decide) rfl rfl) hN hS hAB (fun _ h => h) rfl hl.1 rfl (by decide) (Nat.le_of_ble_eq_true rfl) ⟨Nat.le_refl _, Nat.le_refl _⟩ dX1_succeedsOn_258 (fun H locs hN _ hu hS => ?_)
    have hP := Blk.off hP hu (iv_dis (by omega))
    refine lv_pop hx hb dX1_succeedsOn_261 rfl ?_
    refine lv_iconst (v := 1) hx hb dX1_succeedsOn_262 (by decide) ?_
    have hre := Option.some.inj hf
    subst hre
    exact mu_z (v := 1) hx hb hrt rfl hlocks ⟨hP, hN⟩ hS dX1_succeedsOn_263
  · rw [if_neg c4] at hf
    refine lv_iconst (v := 0) hx hb dX1_succeedsOn_11 (by decide) ?_
    have hre := Option.some.inj hf
    subst hre
    exact mu_z (v := 0) hx hb hrt rfl hlocks ⟨hP, hN⟩ hS dX1_succeedsOn_12
def fX7_append (P : Mem) (a1 : Int32) : Option (Mem) := (if (60 : Int32) ≤ (P 0 1) then some P else gd (inb (P 0 1) 60) (some (up2 (up2 P 1 ((P 0 1).toNatClampNeg) (vp_nar .char a1)) 0 1 (((up2 P 1 ((P 0 1).toNatClampNeg) (vp_nar .char a1)) 0 1) + 1))))
set_option maxHeartbeats 4000000 in
set_option maxRecDepth 100000 in
theorem mX7_append (l : Launch) (E : EP) (B0 : Nat) (bp : Nat) (hb0 : B0 ≤ bp) (P : Mem) (a1 : Int32) (r : Mem) (hf : fX7_append P a1 = some r) : MU l E B0 yX7_append cX7_append 2 none 0 0 0 [.ref (bp + 0), .int a1] (Blk E bp progSh 29 P) none (Blk E bp progSh 29 r) (iv bp 29) := by
  refine mu_of (by decide +kernel) (Nat.le_of_ble_eq_true rfl) ?_
  intro p e s m args below meth c hx hb hml hown hts hrt hlocks hE H hP hS ls hl
  have hown : s.vm.findClass RX7 = some m.cls := hown
  have hl : lv_has ls 2 [(0, .ref (bp + 0)), (1, .int a1)] := hl
  have hw : ∀ w ∈ WA, w.before args s = true := fun w h => hts w (List.mem_cons_of_mem _ h)
  have hAB : ∀ q, (iv bp 29) q → B0 ≤ q := (iv_ge (by omega))
  unfold fX7_append at hf
  refine lv_aload_n hx hb dX7_append_0 rfl (lv_at hl 0 rfl) ?_
  refine w_get (k := 0) (v := .int (P 0 1)) hx hb hw hown hE fl_X7_15 hP (by decide) rfl rfl rfl dX7_append_1 ?_
  refine lv_bipush (v := 60) hx hb dX7_append_4 (by decide) ?_
  refine lv_icmp_ge (tgt := 29) hx hb dX7_append_6 (by decide) (fun c1 => ?_) (fun c1 => ?_)
  · rw [if_pos c1] at hf
    have hre := Option.some.inj hf
    subst hre
    exact mu_v hx hb hrt hlocks hP hS dX7_append_29
  · rw [if_neg c1] at hf
    refine lv_aload_n hx hb dX7_append_9 rfl (lv_at hl 0 rfl) ?_
    refine w_get (k := 0) (v := .ref (bp + 1)) hx hb hw hown hE fl_X7_9 hP (by decide) rfl rfl rfl dX7_append_10 ?_
    refine lv_aload_n hx hb dX7_append_13 rfl (lv_at hl 0 rfl) ?_
    refine w_get (k := 0) (v := .int (P 0 1)) hx hb hw hown hE fl_X7_15 hP (by decide) rfl rfl rfl dX7_append_14 ?_
    refine lv_iload_n hx hb dX7_append_17 rfl (lv_at hl 1 rfl) ?_
    obtain ⟨h2, hf⟩ := gd_some hf
    refine w_cast (k := 1) (x9 := (P 0 1).toNatClampNeg) (x := a1) hx hb hE hP (by decide) rfl rfl h2 hS (iv_mem (by decide)) dX7_append_18 (fun H locs hP _ hu hS => ?_)
    refine lv_aload_n hx hb dX7_append_19 rfl (lv_at hl 0 rfl) ?_
    refine lv_dup hx hb dX7_append_20 rfl ?_
    refine w_get (k := 0) (v := .int ((up2 P 1 ((P 0 1).toNatClampNeg) (vp_nar .char a1)) 0 1)) hx hb hw hown hE fl_X7_15 hP (by decide) rfl rfl rfl dX7_append_21 ?_
    refine lv_iconst (v := 1) hx hb dX7_append_24 (by decide) ?_
    refine lv_iadd hx hb dX7_append_25 ?_
    refine w_put (k := 0) (v := .int (((up2 P 1 ((P 0 1).toNatClampNeg) (vp_nar .char a1)) 0 1) + 1)) hx hb hw hown hE fl_X7_15 fw_X7_1 hP (by decide) rfl rfl (((up2 P 1 ((P 0 1).toNatClampNeg) (vp_nar .char a1)) 0 1) + 1) rfl rfl rfl hS (iv_mem (by decide)) dX7_append_26 (fun H locs hP _ hu hS => ?_)
    have hre := Option.some.inj hf
    subst hre
    exact mu_v hx hb hrt hlocks hP hS dX7_append_29
def fX7_empty (P : Mem) : Option (Mem) := some (up2 P 0 1 (0 : Int32))
set_option maxHeartbeats 4000000 in
set_option maxRecDepth 100000 in
theorem mX7_empty (l : Launch) (E : EP) (B0 : Nat) (bp : Nat) (hb0 : B0 ≤ bp) (P : Mem) (r : Mem) (hf : fX7_empty P = some r) : MU l E B0 yX7_empty cX7_empty 1 none 0 0 0 [.ref (bp + 0)] (Blk E bp progSh 29 P) none (Blk E bp progSh 29 r) (iv bp 29) := by
  refine mu_of (by decide +kernel) (Nat.le_of_ble_eq_true rfl) ?_
  intro p e s m args below meth c hx hb hml hown hts hrt hlocks hE H hP hS ls hl
  have hown : s.vm.findClass RX7 = some m.cls := hown
  have hl : lv_has ls 1 [(0, .ref (bp + 0))] := hl
  have hw : ∀ w ∈ WA, w.before args s = true := fun w h => hts w (List.mem_cons_of_mem _ h)
  have hAB : ∀ q, (iv bp 29) q → B0 ≤ q := (iv_ge (by omega))
  unfold fX7_empty at hf
  refine lv_aload_n hx hb dX7_empty_0 rfl (lv_at hl 0 rfl) ?_
  refine lv_iconst (v := 0) hx hb dX7_empty_1 (by decide) ?_
  refine w_put (k := 0) (v := .int 0) hx hb hw hown hE fl_X7_15 fw_X7_1 hP (by decide) rfl rfl (0 : Int32) rfl rfl rfl hS (iv_mem (by decide)) dX7_empty_2 (fun H locs hP _ hu hS => ?_)
  have hre := Option.some.inj hf
  subst hre
  exact mu_v hx hb hrt hlocks hP hS dX7_empty_5
def fX7_isDigitAt (P : Mem) (a1 : Int32) : Option (Int32) := (if (P 0 1) ≤ a1 then some 0 else gd (inb a1 60) ((if (P 1 a1.toNatClampNeg) < (48 : Int32) then some 0 else gd (inb a1 60) ((if (57 : Int32) < (P 1 a1.toNatClampNeg) then some 0 else some 1)))))
set_option maxHeartbeats 4000000 in
set_option maxRecDepth 100000 in
theorem mX7_isDigitAt (l : Launch) (E : EP) (B0 : Nat) (bp : Nat) (hb0 : B0 ≤ bp) (P : Mem) (a1 : Int32) (r : Int32) (hf : fX7_isDigitAt P a1 = some r) : MU l E B0 yX7_isDigitAt cX7_isDigitAt 2 (some .boolean) 0 0 0 [.ref (bp + 0), .int a1] (Blk E bp progSh 29 P) (some (.int r)) (Blk E bp progSh 29 P) nv := by
  refine mu_of (by decide +kernel) (Nat.le_of_ble_eq_true rfl) ?_
  intro p e s m args below meth c hx hb hml hown hts hrt hlocks hE H hP hS ls hl
  have hown : s.vm.findClass RX7 = some m.cls := hown
  have hl : lv_has ls 2 [(0, .ref (bp + 0)), (1, .int a1)] := hl
  have hw : ∀ w ∈ WA, w.before args s = true := fun w h => hts w (List.mem_cons_of_mem _ h)
  have hAB : ∀ q, nv q → B0 ≤ q := fun _ h => h.elim
  unfold fX7_isDigitAt at hf
  refine lv_iload_n hx hb dX7_isDigitAt_0 rfl (lv_at hl 1 rfl) ?_
  refine lv_aload_n hx hb dX7_isDigitAt_1 rfl (lv_at hl 0 rfl) ?_
  refine w_get (k := 0) (v := .int (P 0 1)) hx hb hw hown hE fl_X7_15 hP (by decide) rfl rfl rfl dX7_isDigitAt_2 ?_
  refine lv_icmp_ge (tgt := 34) hx hb dX7_isDigitAt_5 (by decide) (fun c1 => ?_) (fun c1 => ?_)
  · rw [if_pos c1] at hf
    refine lv_iconst (v := 0) hx hb dX7_isDigitAt_34 (by decide) ?_
    have hre := Option.some.inj hf
    subst hre
    exact mu_z (v := 0) hx hb hrt rfl hlocks hP hS dX7_isDigitAt_35
  · rw [if_neg c1] at hf
    refine lv_aload_n hx hb dX7_isDigitAt_8 rfl (lv_at hl 0 rfl) ?_
    refine w_get (k := 0) (v := .ref (bp + 1)) hx hb hw hown hE fl_X7_9 hP (by decide) rfl rfl rfl dX7_isDigitAt_9 ?_
    refine lv_iload_n hx hb dX7_isDigitAt_12 rfl (lv_at hl 1 rfl) ?_
    obtain ⟨h2, hf⟩ := gd_some hf
    refine w_cald (k := 1) (x9 := a1.toNatClampNeg) hx hb hE hP (by decide) rfl rfl h2 dX7_isDigitAt_13 ?_
    refine lv_bipush (v := 48) hx hb dX7_isDigitAt_14 (by decide) ?_
    refine lv_icmp_lt (tgt := 34) hx hb dX7_isDigitAt_16 (by decide) (fun c3 => ?_) (fun c3 => ?_)
    · rw [if_pos c3] at hf
      refine lv_iconst (v := 0) hx hb dX7_isDigitAt_34 (by decide) ?_
      have hre := Option.some.inj hf
      subst hre
      exact mu_z (v := 0) hx hb hrt rfl hlocks hP hS dX7_isDigitAt_35
    · rw [if_neg c3] at hf
      refine lv_aload_n hx hb dX7_isDigitAt_19 rfl (lv_at hl 0 rfl) ?_
      refine w_get (k := 0) (v := .ref (bp + 1)) hx hb hw hown hE fl_X7_9 hP (by decide) rfl rfl rfl dX7_isDigitAt_20 ?_
      refine lv_iload_n hx hb dX7_isDigitAt_23 rfl (lv_at hl 1 rfl) ?_
      obtain ⟨h4, hf⟩ := gd_some hf
      refine w_cald (k := 1) (x9 := a1.toNatClampNeg) hx hb hE hP (by decide) rfl rfl h4 dX7_isDigitAt_24 ?_
      refine lv_bipush (v := 57) hx hb dX7_isDigitAt_25 (by decide) ?_
      refine lv_icmp_gt (tgt := 34) hx hb dX7_isDigitAt_27 (by decide) (fun c5 => ?_) (fun c5 => ?_)
      · rw [if_pos c5] at hf
        refine lv_iconst (v := 0) hx hb dX7_isDigitAt_34 (by decide) ?_
        have hre := Option.some.inj hf
        subst hre
        exact mu_z (v := 0) hx hb hrt rfl hlocks hP hS dX7_isDigitAt_35
      · rw [if_neg c5] at hf
        refine lv_iconst (v := 1) hx hb dX7_isDigitAt_30 (by decide) ?_
        refine lv_goto (tgt := 35) hx hb dX7_isDigitAt_31 (by decide) ?_
        have hre := Option.some.inj hf
        subst hre
        exact mu_z (v := 1) hx hb hrt rfl hlocks hP hS dX7_isDigitAt_35
def fX7_readNumber (P : Mem) (a1 : Int32) (k2 : Nat) : Option (Int32 × Mem) := gd (cmdk k2) ((fX7_isDigitAt P a1).bind fun z1 => (if z1 = 0 then some (0, P) else gd (inb a1 60) ((fX7_isDigitAt P (a1 + 1)).bind fun z5 => (if z5 = 0 then (fX1_take P k2 ((P 1 a1.toNatClampNeg) - 48)).bind fun z11 => some (1, z11) else gd (inb (a1 + 1) 60) ((fX1_take P k2 ((((10 : Int32) * ((P 1 a1.toNatClampNeg) - 48)) + (P 1 ((a1 + 1).toNatClampNeg))) - 48)).bind fun z9 => some (2, z9))))))
set_option maxHeartbeats 4000000 in
set_option maxRecDepth 100000 in
theorem mX7_readNumber (l : Launch) (E : EP) (B0 : Nat) (bp : Nat) (hb0 : B0 ≤ bp) (P : Mem) (a1 : Int32) (k2 : Nat) (r : Int32 × Mem) (hf : fX7_readNumber P a1 k2 = some r) : MU l E B0 yX7_readNumber cX7_readNumber 4 (some .int) 1 0 0 [.ref (bp + 0), .int a1, .ref (bp + k2)] (Blk E bp progSh 29 P) (some (.int r.1)) (Blk E bp progSh 29 r.2) (iv bp 29) := by
  refine mu_of (by decide +kernel) (Nat.le_of_ble_eq_true rfl) ?_
  intro p e s m args below meth c hx hb hml hown hts hrt hlocks hE H hP hS ls hl
  have hown : s.vm.findClass RX7 = some m.cls := hown
  have hl : lv_has ls 4 [(0, .ref (bp + 0)), (1, .int a1), (2, .ref (bp + k2))] := hl
  have hw : ∀ w ∈ WA, w.before args s = true := fun w h => hts w (List.mem_cons_of_mem _ h)
  have hAB : ∀ q, (iv bp 29) q → B0 ≤ q := (iv_ge (by omega))
  unfold fX7_readNumber at hf
  obtain ⟨g2, hf⟩ := gd_some hf
  refine lv_aload_n hx hb dX7_readNumber_0 rfl (lv_at hl 0 rfl) ?_
  refine lv_iload_n hx hb dX7_readNumber_1 rfl (lv_at hl 1 rfl) ?_
  obtain ⟨z1, hc2, hf⟩ := br_some hf
  refine mu_cV (As := [.int a1]) (rest := []) hx hb hml hown hts hE (mX7_isDigitAt l E B0 bp (by omega) P a1 z1 hc2) cv_X7_81 (w_recv (k := 0) (ci := 7) hE hP (by decide) rfl rfl) hP hS hAB (fun _ h => h.elim) rfl hl.1 rfl (by decide) (Nat.le_of_ble_eq_true rfl) ⟨Nat.le_refl _, Nat.le_refl _⟩ dX7_readNumber_2 (fun H locs hP _ hu hS => ?_)
  refine lv_if_ne (tgt := 10) hx hb dX7_readNumber_5 (by decide) (fun c3 => ?_) (fun c3 => ?_)
  · rw [if_neg c3] at hf
    refine lv_aload_n hx hb dX7_readNumber_10 rfl (lv_at hl 0 rfl) ?_
    refine w_get (k := 0) (v := .ref (bp + 1)) hx hb hw hown hE fl_X7_9 hP (by decide) rfl rfl rfl dX7_readNumber_11 ?_
    refine lv_iload_n hx hb dX7_readNumber_14 rfl (lv_at hl 1 rfl) ?_
    obtain ⟨h4, hf⟩ := gd_some hf
    refine w_cald (k := 1) (x9 := a1.toNatClampNeg) hx hb hE hP (by decide) rfl rfl h4 dX7_readNumber_15 ?_
    refine lv_bipush (v := 48) hx hb dX7_readNumber_16 (by decide) ?_
    refine lv_isub hx hb dX7_readNumber_18 ?_
    refine lv_istore_n (lv' := [(3, .int ((P 1 a1.toNatClampNeg) - 48)), (0, .ref (bp + 0)), (1, .int a1), (2, .ref (bp + k2))]) hx hb dX7_readNumber_19 rfl hl (by decide) rfl (fun ls hl => ?_)
    refine lv_aload_n hx hb dX7_readNumber_20 rfl (lv_at hl 1 rfl) ?_
    refine lv_iload_n hx hb dX7_readNumber_21 rfl (lv_at hl 2 rfl) ?_
    refine lv_iconst (v := 1) hx hb dX7_readNumber_22 (by decide) ?_
    refine lv_iadd hx hb dX7_readNumber_23 ?_
    obtain ⟨z5, hc6, hf⟩ := br_some hf
    refine mu_cV (As := [.int (a1 + 1)]) (rest := []) hx hb hml hown hts hE (mX7_isDigitAt l E B0 bp (by omega) P (a1 + 1) z5 hc6) cv_X7_81 (w_recv (k := 0) (ci := 7) hE hP (by decide) rfl rfl) hP hS hAB (fun _ h => h.elim) rfl hl.1 rfl (by decide) (Nat.le_of_ble_eq_true rfl) ⟨Nat.le_refl _, Nat.le_refl _⟩ dX7_readNumber_24 (fun H locs hP _ hu hS => ?_)
    refine lv_if_ne (tgt := 37) hx hb dX7_readNumber_27 (by decide) (fun c7 => ?_) (fun c7 => ?_)
    · rw [if_neg c7] at hf
      refine lv_aload_n hx hb dX7_readNumber_37 rfl (lv_at hl 3 rfl) ?_
      refine lv_bipush (v := 10) hx hb dX7_readNumber_38 (by decide) ?_
      refine lv_iload_n hx hb dX7_readNumber_40 rfl (lv_at hl 0 rfl) ?_
      refine lv_imul hx hb dX7_readNumber_41 ?_
      refine lv_aload_n hx hb dX7_readNumber_42 rfl (lv_at hl 1 rfl) ?_
      refine w_get (k := 0) (v := .ref (bp + 1)) hx hb hw hown hE fl_X7_9 hP (by decide) rfl rfl rfl dX7_readNumber_43 ?_
      refine lv_iload_n hx hb dX7_readNumber_46 rfl (lv_at hl 2 rfl) ?_
      refine lv_iconst (v := 1) hx hb dX7_readNumber_47 (by decide) ?_
      refine lv_iadd hx hb dX7_readNumber_48 ?_
      obtain ⟨h8, hf⟩ := gd_some hf
      refine w_cald (k := 1) (x9 := (a1 + 1).toNatClampNeg) hx hb hE hP (by decide) rfl rfl h8 dX7_readNumber_49 ?_
      refine lv_iadd hx hb dX7_readNumber_50 ?_
      refine lv_bipush (v := 48) hx hb dX7_readNumber_51 (by decide) ?_
      refine lv_isub hx hb dX7_readNumber_53 ?_
      obtain ⟨z9, hc10, hf⟩ := br_some hf
      refine mu_cV (As := [.int ((((10 : Int32) * ((P 1 a1.toNatClampNeg) - 48)) + (P 1 ((a1 + 1).toNatClampNeg))) - 48)]) (rest := []) hx hb hml hown hts hE (mX1_take l E B0 bp (by omega) P k2 ((((10 : Int32) * ((P 1 a1.toNatClampNeg) - 48)) + (P 1 ((a1 + 1).toNatClampNeg))) - 48) z9 hc10) cv_X7_73 (w_recv (k := k2) (ci := 4) hE hP (cmd_lt g2) (cmd_sh g2) rfl) hP hS hAB (fun _ h => h) rfl hl.1 rfl (by decide) (Nat.le_of_ble_eq_true rfl) ⟨Nat.le_refl _, Nat.le_refl _⟩ dX7_readNumber_54 (fun H locs hP _ hu hS => ?_)
      refine lv_iconst (v := 2) hx hb dX7_readNumber_57 (by decide) ?_
      have hre := Option.some.inj hf
      subst hre
      exact mu_i (v := 2) hx hb hrt hlocks hP hS dX7_readNumber_58
    · rw [if_pos c7] at hf
      refine lv_aload_n hx hb dX7_readNumber_30 rfl (lv_at hl 3 rfl) ?_
      refine lv_iload_n hx hb dX7_readNumber_31 rfl (lv_at hl 0 rfl) ?_
      obtain ⟨z11, hc12, hf⟩ := br_some hf
      refine mu_cV (As := [.int ((P 1 a1.toNatClampNeg) - 48)]) (rest := []) hx hb hml hown hts hE (mX1_take l E B0 bp (by omega) P k2 ((P 1 a1.toNatClampNeg) - 48) z11 hc12) cv_X7_73 (w_recv (k := k2) (ci := 4) hE hP (cmd_lt g2) (cmd_sh g2) rfl) hP hS hAB (fun _ h => h) rfl hl.1 rfl (by decide) (Nat.le_of_ble_eq_true rfl) ⟨Nat.le_refl _, Nat.le_refl _⟩ dX7_readNumber_32 (fun H locs hP _ hu hS => ?_)
      refine lv_iconst (v := 1) hx hb dX7_readNumber_35 (by decide) ?_
      have hre := Option.some.inj hf
      subst hre
      exact mu_i (v := 1) hx hb hrt hlocks hP hS dX7_readNumber_36
  · rw [if_pos c3] at hf
    refine lv_iconst (v := 0) hx hb dX7_readNumber_8 (by decide) ?_
    have hre := Option.some.inj hf
    subst hre
    exact mu_i (v := 0) hx hb hrt hlocks hP hS dX7_readNumber_9
def fX7_readPart (P : Mem) (a1 : Int32) (a2 : Int32) (k3 : Nat) : Option (Int32 × Mem) := gd (cmdk k3) ((if a2 < (P 0 1) then gd (inb a2 60) ((if a1 = 68 then (fX1_take P k3 ((P 1 a2.toNatClampNeg) - 48)).bind fun z4 => (fX7_isDigitAt z4 a2).bind fun z6 => (if z6 = 0 then some (0, z4) else some (1, z4)) else (if a1 = 76 then (fX1_take P k3 (P 1 a2.toNatClampNeg)).bind fun z10 => (fX11_isLetter (P 1 a2.toNatClampNeg)).bind fun z12 => (if z12 = 0 then some (0, z10) else some (1, z10)) else (if a1 = 78 then (fX7_readNumber P a2 k3).bind fun z16 => some (z16.1, z16.2) else (if (P 1 a2.toNatClampNeg) = a1 then some (1, P) else some (0, P)))))) else some (0, P)))
set_option maxHeartbeats 4000000 in
set_option maxRecDepth 100000 in
theorem mX7_readPart (l : Launch) (E : EP) (B0 : Nat) (bp : Nat) (hb0 : B0 ≤ bp) (P : Mem) (a1 : Int32) (a2 : Int32) (k3 : Nat) (r : Int32 × Mem) (hf : fX7_readPart P a1 a2 k3 = some r) : MU l E B0 yX7_readPart cX7_readPart 5 (some .int) 2 0 0 [.ref (bp + 0), .int a1, .int a2, .ref (bp + k3)] (Blk E bp progSh 29 P) (some (.int r.1)) (Blk E bp progSh 29 r.2) (iv bp 29) := by
  refine mu_of (by decide +kernel) (Nat.le_of_ble_eq_true rfl) ?_
  intro p e s m args below meth c hx hb hml hown hts hrt hlocks hE H hP hS ls hl
  have hown : s.vm.findClass RX7 = some m.cls := hown
  have hl : lv_has ls 5 [(0, .ref (bp + 0)), (1, .int a1), (2, .int a2), (3, .ref (bp + k3))] := hl
  have hw : ∀ w ∈ WA, w.before args s = true := fun w h => hts w (List.mem_cons_of_mem _ h)
  have hAB : ∀ q, (iv bp 29) q → B0 ≤ q := (iv_ge (by omega))
  unfold fX7_readPart at hf
  obtain ⟨g3, hf⟩ := gd_some hf
  refine lv_iload_n hx hb dX7_readPart_0 rfl (lv_at hl 2 rfl) ?_
  refine lv_aload_n hx hb dX7_readPart_1 rfl (lv_at hl 0 rfl) ?_
  refine w_get (k := 0) (v := .int (P 0 1)) hx hb hw hown hE fl_X7_15 hP (by decide) rfl rfl rfl dX7_readPart_2 ?_
  refine lv_icmp_lt (tgt := 10) hx hb dX7_readPart_5 (by decide) (fun c1 => ?_) (fun c1 => ?_)
  · rw [if_pos c1] at hf
    refine lv_aload_n hx hb dX7_readPart_10 rfl (lv_at hl 0 rfl) ?_
    refine w_get (k := 0) (v := .ref (bp + 1)) hx hb hw hown hE fl_X7_9 hP (by decide) rfl rfl rfl dX7_readPart_11 ?_
    refine lv_iload_n hx hb dX7_readPart_14 rfl (lv_at hl 2 rfl) ?_
    obtain ⟨h2, hf⟩ := gd_some hf
    refine w_cald (k := 1) (x9 := a2.toNatClampNeg) hx hb hE hP (by decide) rfl rfl h2 dX7_readPart_15 ?_
    refine lv_istore (lv' := [(4, .int (P 1 a2.toNatClampNeg)), (0, .ref (bp + 0)), (1, .int a1), (2, .int a2), (3, .ref (bp + k3))]) hx hb dX7_readPart_16 hl (by decide) rfl (fun ls hl => ?_)
    refine lv_iload_n hx hb dX7_readPart_18 rfl (lv_at hl 2 rfl) ?_
    by_cases c3 : a1 = 68
    · rw [if_pos c3] at hf
      refine lv_lookup (off := 53) (tgt := 72) hx hb dX7_readPart_19 (by decide) (by rw [c3]; decide) (by decide) ?_
      refine lv_aload_n hx hb dX7_readPart_72 rfl (lv_at hl 4 rfl) ?_
      refine lv_iload hx hb dX7_readPart_73 (lv_at hl 0 rfl) ?_
      refine lv_bipush (v := 48) hx hb dX7_readPart_75 (by decide) ?_
      refine lv_isub hx hb dX7_readPart_77 ?_
      obtain ⟨z4, hc5, hf⟩ := br_some hf
      refine mu_cV (As := [.int ((P 1 a2.toNatClampNeg) - 48)]) (rest := []) hx hb hml hown hts hE (mX1_take l E B0 bp (by omega) P k3 ((P 1 a2.toNatClampNeg) - 48) z4 hc5) cv_X7_73 (w_recv (k := k3) (ci := 4) hE hP (cmd_lt g3) (cmd_sh g3) rfl) hP hS hAB (fun _ h => h) rfl hl.1 rfl (by decide) (Nat.le_of_ble_eq_true rfl) ⟨Nat.le_refl _, Nat.le_refl _⟩ dX7_readPart_78 (fun H locs hP _ hu hS => ?_)
      refine lv_aload_n hx hb dX7_readPart_81 rfl (lv_at hl 1 rfl) ?_
      refine lv_iload_n hx hb dX7_readPart_82 rfl (lv_at hl 3 rfl) ?_
      obtain ⟨z6, hc7, hf⟩ := br_some hf
      refine mu_cV (As := [.int a2]) (rest := []) hx hb hml hown hts hE (mX7_isDigitAt l E B0 bp (by omega) z4 a2 z6 hc7) cv_X7_81 (w_recv (k := 0) (ci := 7) hE hP (by decide) rfl rfl) hP hS hAB (fun _ h => h.elim) rfl hl.1 rfl (by decide) (Nat.le_of_ble_eq_true rfl) ⟨Nat.le_refl _, Nat.le_refl _⟩ dX7_readPart_83 (fun H locs hP _ hu hS => ?_)
      refine lv_if_eq (tgt := 93) hx hb dX7_readPart_86 (by decide) (fun c8 => ?_) (fun c8 => ?_)
      · rw [if_pos c8] at hf
        refine lv_iconst (v := 0) hx hb dX7_readPart_93 (by decide) ?_
        have hre := Option.some.inj hf
        subst hre
        exact mu_i (v := 0) hx hb hrt hlocks hP hS dX7_readPart_94
      · rw [if_neg c8] at hf
        refine lv_iconst (v := 1) hx hb dX7_readPart_89 (by decide) ?_
        refine lv_goto (tgt := 94) hx hb dX7_readPart_90 (by decide) ?_
        have hre := Option.some.inj hf
        subst hre
        exact mu_i (v := 1) hx hb hrt hlocks hP hS dX7_readPart_94
    rw [if_neg c3] at hf
    by_cases c9 : a1 = 76
    · rw [if_pos c9] at hf
      refine lv_lookup (off := 33) (tgt := 52) hx hb dX7_readPart_19 (by decide) (by rw [c9]; decide) (by decide) ?_
      refine lv_aload_n hx hb dX7_readPart_52 rfl (lv_at hl 4 rfl) ?_
      refine lv_iload hx hb dX7_readPart_53 (lv_at hl 0 rfl) ?_
      obtain ⟨z10, hc11, hf⟩ := br_some hf
      refine mu_cV (As := [.int (P 1 a2.toNatClampNeg)]) (rest := []) hx hb hml hown hts hE (mX1_take l E B0 bp (by omega) P k3 (P 1 a2.toNatClampNeg) z10 hc11) cv_X7_73 (w_recv (k := k3) (ci := 4) hE hP (cmd_lt g3) (cmd_sh g3) rfl) hP hS hAB (fun _ h => h) rfl hl.1 rfl (by decide) (Nat.le_of_ble_eq_true rfl) ⟨Nat.le_refl _, Nat.le_refl _⟩ dX7_readPart_55 (fun H locs hP _ hu hS => ?_)
      refine lv_iload hx hb dX7_readPart_58 (lv_at hl 0 rfl) ?_
      obtain ⟨z12, hc13, hf⟩ := br_some hf
      refine mu_cSN (As := [.int (P 1 a2.toNatClampNeg)]) (rest := []) hx hb hml hown hts hE (mX11_isLetter l E B0 (P 1 a2.toNatClampNeg) z12 hc13) cn_X7_77 trivial hS hAB (fun _ h => h.elim) rfl hl.1 rfl (by decide) (Nat.le_of_ble_eq_true rfl) ⟨Nat.le_refl _, Nat.le_refl _⟩ dX7_readPart_60 (fun H locs _ _ hu hS => ?_)
      have hP := Blk.off hP hu (fun _ _ _ h => h)
      refine lv_if_eq (tgt := 70) hx hb dX7_readPart_63 (by decide) (fun c14 => ?_) (fun c14 => ?_)
      · rw [if_pos c14] at hf
        refine lv_iconst (v := 0) hx hb dX7_readPart_70 (by decide) ?_
        have hre := Option.some.inj hf
        subst hre
        exact mu_i (v := 0) hx hb hrt hlocks hP hS dX7_readPart_71
      · rw [if_neg c14] at hf
        refine lv_iconst (v := 1) hx hb dX7_readPart_66 (by decide) ?_
        refine lv_goto (tgt := 71) hx hb dX7_readPart_67 (by decide) ?_
        have hre := Option.some.inj hf
        subst hre
        exact mu_i (v := 1) hx hb hrt hlocks hP hS dX7_readPart_71
    rw [if_neg c9] at hf
    by_cases c15 : a1 = 78
    · rw [if_pos c15] at hf
      refine lv_lookup (off := 76) (tgt := 95) hx hb dX7_readPart_19 (by decide) (by rw [c15]; decide) (by decide) ?_
      refine lv_aload_n hx hb dX7_readPart_95 rfl (lv_at hl 1 rfl) ?_
      refine lv_iload_n hx hb dX7_readPart_96 rfl (lv_at hl 3 rfl) ?_
      refine lv_aload_n hx hb dX7_readPart_97 rfl (lv_at hl 4 rfl) ?_
      obtain ⟨z16, hc17, hf⟩ := br_some hf
      refine mu_cV (As := [.int a2, .ref (bp + k3)]) (rest := []) hx hb hml hown hts hE (mX7_readNumber l E B0 bp (by omega) P a2 k3 z16 hc17) cv_X7_85 (w_recv (k := 0) (ci := 7) hE hP (by decide) rfl rfl) hP hS hAB (fun _ h => h) rfl hl.1 rfl (by decide) (Nat.le_of_ble_eq_true rfl) ⟨Nat.le_refl _, Nat.le_refl _⟩ dX7_readPart_98 (fun H locs hP _ hu hS => ?_)
      have hre := Option.some.inj hf
      subst hre
      exact mu_i (v := z16.1) hx hb hrt hlocks hP hS dX7_readPart_101
    rw [if_neg c15] at hf
    refine lv_lookup (off := 83) (tgt := 102) hx hb dX7_readPart_19 (by decide) (by have q0 := i32ne (k := 68) c3 (by decide); have q1 := i32ne (k := 76) c9 (by decide); have q2 := i32ne (k := 78) c15 (by decide); simp [Op.lookupswitch.offset, q0, Ne.symm q0, q1, Ne.symm q1, q2, Ne.symm q2]) (by decide) ?_
    refine lv_iload hx hb dX7_readPart_102 (lv_at hl 0 rfl) ?_
    refine lv_iload_n hx hb dX7_readPart_104 rfl (lv_at hl 2 rfl) ?_
    refine lv_icmp_ne (tgt := 112) hx hb dX7_readPart_105 (by decide) (fun c18 => ?_) (fun c18 => ?_)
    · rw [if_neg c18] at hf
      refine lv_iconst (v := 0) hx hb dX7_readPart_112 (by decide) ?_
      have hre := Option.some.inj hf
      subst hre
      exact mu_i (v := 0) hx hb hrt hlocks hP hS dX7_readPart_113
    · rw [if_pos c18] at hf
      refine lv_iconst (v := 1) hx hb dX7_readPart_108 (by decide) ?_
      refine lv_goto (tgt := 113) hx hb dX7_readPart_109 (by decide) ?_
      have hre := Option.some.inj hf
      subst hre
      exact mu_i (v := 1) hx hb hrt hlocks hP hS dX7_readPart_113
  · rw [if_neg c1] at hf
    refine lv_iconst (v := 0) hx hb dX7_readPart_8 (by decide) ?_
    have hre := Option.some.inj hf
    subst hre
    exact mu_i (v := 0) hx hb hrt hlocks hP hS dX7_readPart_9
def fX7_readKind_s (a1 : Int32) (a2 : Int32) (k3 : Nat) (z : Int32 × Int32 × Mem) : Option ((Int32 × Int32 × Mem) ⊕ (Int32 × Mem)) := gd (inb a1 10) ((fJ0_length_8abf5 a1).bind fun z2 => (if z2 ≤ z.2.1 then (if ((up2 z.2.2 0 4 (if (z.2.2 0 4) < z.1 then z.1 else (z.2.2 0 4))) 0 1) ≤ z.1 then some (.inr (z.1, (up2 z.2.2 0 4 (if (z.2.2 0 4) < z.1 then z.1 else (z.2.2 0 4))))) else gd (inb z.1 60) ((if ((up2 z.2.2 0 4 (if (z.2.2 0 4) < z.1 then z.1 else (z.2.2 0 4))) 1 z.1.toNatClampNeg) = (59 : Int32) then some (.inr (z.1, (up2 z.2.2 0 4 (if (z.2.2 0 4) < z.1 then z.1 else (z.2.2 0 4))))) else some (.inr (-1, (up2 z.2.2 0 4 (if (z.2.2 0 4) < z.1 then z.1 else (z.2.2 0 4)))))))) else gd (inb a1 10) ((fJ0_charAt_5068e a1 z.2.1).bind fun z9 => (fX7_readPart z.2.2 z9 z.1 k3).bind fun z11 => (if z11.1 = 0 then some (.inr (-1, (up2 z11.2 0 4 (if (z11.2 0 4) < z.1 then z.1 else (z11.2 0 4))))) else some (.inl ((z.1 + z11.1), (z.2.1 + 1), (up2 z11.2 0 4 (if (z11.2 0 4) < z.1 then z.1 else (z11.2 0 4)))))))))
noncomputable def fX7_readKind (P : Mem) (a1 : Int32) (a2 : Int32) (k3 : Nat) : Option (Int32 × Mem) := gd (cmdk k3) ((fX1_begin P k3 a1).bind fun z14 => lp (fX7_readKind_s a1 a2 k3) (a2, 0, z14))
set_option maxHeartbeats 4000000 in
set_option maxRecDepth 100000 in
theorem mX7_readKind (l : Launch) (E : EP) (B0 : Nat) (bp : Nat) (hb0 : B0 ≤ bp) (P : Mem) (a1 : Int32) (a2 : Int32) (k3 : Nat) (r : Int32 × Mem) (hf : fX7_readKind P a1 a2 k3 = some r) : MU l E B0 yX7_readKind cX7_readKind 7 (some .int) 4 0 0 [.ref (bp + 0), .ref (E.2.2 2 a1.toNatClampNeg), .int a2, .ref (bp + k3)] (Blk E bp progSh 29 P) (some (.int r.1)) (Blk E bp progSh 29 r.2) (iv bp 29) := by
  refine mu_of (by decide +kernel) (Nat.le_of_ble_eq_true rfl) ?_
  intro p e s m args below meth c hx hb hml hown hts hrt hlocks hE H hP hS ls hl
  have hown : s.vm.findClass RX7 = some m.cls := hown
  have hl : lv_has ls 7 [(0, .ref (bp + 0)), (1, .ref (E.2.2 2 a1.toNatClampNeg)), (2, .int a2), (3, .ref (bp + k3))] := hl
  have hw : ∀ w ∈ WA, w.before args s = true := fun w h => hts w (List.mem_cons_of_mem _ h)
  have hAB : ∀ q, (iv bp 29) q → B0 ≤ q := (iv_ge (by omega))
  unfold fX7_readKind at hf
  obtain ⟨g3, hf⟩ := gd_some hf
  have loop : ∀ (fu : Nat) (z : Int32 × Int32 × Mem), lpI (fX7_readKind_s a1 a2 k3) fu z = some r → (∀ (H : Heap) (locs : List Loc) (ls : Array Slot), Blk E bp progSh 29 z.2.2 H → va_S (iv bp 29) s.heap H locs → lv_has ls 7 [(0, .ref (bp + 0)), (1, .ref (E.2.2 2 a1.toNatClampNeg)), (2, .int a2), (3, .ref (bp + k3)), (4, .int z.1), (5, .int z.2.1)] → W p l e (rmD 4 0 0) s m args below meth c H locs 0 0 (MQ below (QU (some (.int r.1)) (Blk E bp progSh 29 r.2) (iv bp 29)) args s 0 0 (iv bp 29)) (F0 m 11 ls [])) := by
    intro fu
    induction fu with
    | zero =>
      intro z hn
      exact nomatch hn
    | succ fu ih =>
      intro z hn
      obtain ⟨y, hf, hy⟩ := lpI_succ hn
      intro H locs ls hP hS hl
      unfold fX7_readKind_s at hf
      refine lv_iload hx hb dX7_readKind_11 (lv_at hl 5 rfl) ?_
      refine lv_aload_n hx hb dX7_readKind_13 rfl (lv_at hl 1 rfl) ?_
      obtain ⟨h1, hf⟩ := gd_some hf
      refine w_pat hx hb hw hown hE h1 fp_X7_48 hS hAB dX7_readKind_14 ?_
      obtain ⟨z2, hc3, hf⟩ := br_some hf
      refine mu_cV (As := []) (rest := [.int z.2.1]) hx hb hml hown hts hE (mJ0_length_8abf5 l E B0 a1 z2 hc3) cv_X7_54 (str_recv hE h1 hS hAB) trivial hS hAB (fun _ h => h.elim) rfl hl.1 rfl (by decide) (Nat.le_of_ble_eq_true rfl) ⟨Nat.le_refl _, Nat.le_refl _⟩ dX7_readKind_17 (fun H locs _ _ hu hS => ?_)
      have hP := Blk.off hP hu (fun _ _ _ h => h)
      refine lv_icmp_ge (tgt := 74) hx hb dX7_readKind_20 (by decide) (fun c4 => ?_) (fun c4 => ?_)
      · rw [if_pos c4] at hf
        refine lv_aload_n hx hb dX7_readKind_74 rfl (lv_at hl 0 rfl) ?_
        refine lv_aload_n hx hb dX7_readKind_75 rfl (lv_at hl 0 rfl) ?_
        refine w_get (k := 0) (v := .int (z.2.2 0 4)) hx hb hw hown hE fl_X7_29 hP (by decide) rfl rfl rfl dX7_readKind_76 ?_
        refine lv_iload hx hb dX7_readKind_79 (lv_at hl 4 rfl) ?_
        refine va_mmax hx hb (hml.trans hl.1.symm) hown (hw _ (pm_X7_67 _ (by simp))) (hw _ (pm_X7_67 _ (by simp))) (hw _ (pm_X7_67 _ (by simp))) (hw _ (pm_X7_67 _ (by simp))) (by decide) (Nat.le_of_ble_eq_true rfl) (Nat.zero_le _) (Nat.zero_le _) dX7_readKind_81 ?_
        refine w_put (k := 0) (v := .int (if (z.2.2 0 4) < z.1 then z.1 else (z.2.2 0 4))) hx hb hw hown hE fl_X7_29 fw_X7_4 hP (by decide) rfl rfl (if (z.2.2 0 4) < z.1 then z.1 else (z.2.2 0 4)) rfl rfl rfl hS (iv_mem (by decide)) dX7_readKind_84 (fun H locs hP _ hu hS => ?_)
        refine lv_iload hx hb dX7_readKind_87 (lv_at hl 4 rfl) ?_
        refine lv_aload_n hx hb dX7_readKind_89 rfl (lv_at hl 0 rfl) ?_
        refine w_get (k := 0) (v := .int ((up2 z.2.2 0 4 (if (z.2.2 0 4) < z.1 then z.1 else (z.2.2 0 4))) 0 1)) hx hb hw hown hE fl_X7_15 hP (by decide) rfl rfl rfl dX7_readKind_90 ?_
        refine lv_icmp_ge (tgt := 108) hx hb dX7_readKind_93 (by decide) (fun c5 => ?_) (fun c5 => ?_)
        · rw [if_pos c5] at hf
          refine lv_iload hx hb dX7_readKind_108 (lv_at hl 4 rfl) ?_
          refine lv_goto (tgt := 114) hx hb dX7_readKind_110 (by decide) ?_
          have hre := lp_end hy (Option.some.inj hf).symm
          subst hre
          exact mu_i (v := z.1) hx hb hrt hlocks hP hS dX7_readKind_114
        · rw [if_neg c5] at hf
          refine lv_aload_n hx hb dX7_readKind_96 rfl (lv_at hl 0 rfl) ?_
          refine w_get (k := 0) (v := .ref (bp + 1)) hx hb hw hown hE fl_X7_9 hP (by decide) rfl rfl rfl dX7_readKind_97 ?_
          refine lv_iload hx hb dX7_readKind_100 (lv_at hl 4 rfl) ?_
          obtain ⟨h6, hf⟩ := gd_some hf
          refine w_cald (k := 1) (x9 := z.1.toNatClampNeg) hx hb hE hP (by decide) rfl rfl h6 dX7_readKind_102 ?_
          refine lv_bipush (v := 59) hx hb dX7_readKind_103 (by decide) ?_
          refine lv_icmp_ne (tgt := 113) hx hb dX7_readKind_105 (by decide) (fun c7 => ?_) (fun c7 => ?_)
          · rw [if_neg c7] at hf
            refine lv_iconst (v := -1) hx hb dX7_readKind_113 (by decide) ?_
            have hre := lp_end hy (Option.some.inj hf).symm
            subst hre
            exact mu_i (v := -1) hx hb hrt hlocks hP hS dX7_readKind_114
          · rw [if_pos c7] at hf
            refine lv_iload hx hb dX7_readKind_108 (lv_at hl 4 rfl) ?_
            refine lv_goto (tgt := 114) hx hb dX7_readKind_110 (by decide) ?_
            have hre := lp_end hy (Option.some.inj hf).symm
            subst hre
            exact mu_i (v := z.1) hx hb hrt hlocks hP hS dX7_readKind_114
      · rw [if_neg c4] at hf
        refine lv_aload_n hx hb dX7_readKind_23 rfl (lv_at hl 0 rfl) ?_
        refine lv_aload_n hx hb dX7_readKind_24 rfl (lv_at hl 1 rfl) ?_
        obtain ⟨h8, hf⟩ := gd_some hf
        refine w_pat hx hb hw hown hE h8 fp_X7_48 hS hAB dX7_readKind_25 ?_
        refine lv_iload hx hb dX7_readKind_28 (lv_at hl 5 rfl) ?_
        obtain ⟨z9, hc10, hf⟩ := br_some hf
        refine mu_cV (As := [.int z.2.1]) (rest := [.ref (bp + 0)]) hx hb hml hown hts hE (mJ0_charAt_5068e l E B0 a1 z.2.1 z9 hc10) cv_X7_59 (str_recv hE h8 hS hAB) trivial hS hAB (fun _ h => h.elim) rfl hl.1 rfl (by decide) (Nat.le_of_ble_eq_true rfl) ⟨Nat.le_refl _, Nat.le_refl _⟩ dX7_readKind_30 (fun H locs _ _ hu hS => ?_)
        have hP := Blk.off hP hu (fun _ _ _ h => h)
        refine lv_iload hx hb dX7_readKind_33 (lv_at hl 4 rfl) ?_
        refine lv_aload_n hx hb dX7_readKind_35 rfl (lv_at hl 3 rfl) ?_
        obtain ⟨z11, hc12, hf⟩ := br_some hf
        refine mu_cV (As := [.int z9, .int z.1, .ref (bp + k3)]) (rest := []) hx hb hml hown hts hE (mX7_readPart l E B0 bp (by omega) z.2.2 z9 z.1 k3 z11 hc12) cv_X7_63 (w_recv (k := 0) (ci := 7) hE hP (by decide) rfl rfl) hP hS hAB (fun _ h => h) rfl hl.1 rfl (by decide) (Nat.le_of_ble_eq_true rfl) ⟨Nat.le_refl _, Nat.le_refl _⟩ dX7_readKind_36 (fun H locs hP _ hu hS => ?_)
        refine lv_istore (lv' := [(6, .int z11.1), (0, .ref (bp + 0)), (1, .ref (E.2.2 2 a1.toNatClampNeg)), (2, .int a2), (3, .ref (bp + k3)), (4, .int z.1), (5, .int z.2.1)]) hx hb dX7_readKind_39 hl (by decide) rfl (fun ls hl => ?_)
        refine lv_aload_n hx hb dX7_readKind_41 rfl (lv_at hl 1 rfl) ?_
        refine lv_aload_n hx hb dX7_readKind_42 rfl (lv_at hl 1 rfl) ?_
        refine w_get (k := 0) (v := .int (z11.2 0 4)) hx hb hw hown hE fl_X7_29 hP (by decide) rfl rfl rfl dX7_readKind_43 ?_
        refine lv_iload hx hb dX7_readKind_46 (lv_at hl 5 rfl) ?_
        refine va_mmax hx hb (hml.trans hl.1.symm) hown (hw _ (pm_X7_67 _ (by simp))) (hw _ (pm_X7_67 _ (by simp))) (hw _ (pm_X7_67 _ (by simp))) (hw _ (pm_X7_67 _ (by simp))) (by decide) (Nat.le_of_ble_eq_true rfl) (Nat.zero_le _) (Nat.zero_le _) dX7_readKind_48 ?_
        refine w_put (k := 0) (v := .int (if (z11.2 0 4) < z.1 then z.1 else (z11.2 0 4))) hx hb hw hown hE fl_X7_29 fw_X7_4 hP (by decide) rfl rfl (if (z11.2 0 4) < z.1 then z.1 else (z11.2 0 4)) rfl rfl rfl hS (iv_mem (by decide)) dX7_readKind_51 (fun H locs hP _ hu hS => ?_)
        refine lv_iload hx hb dX7_readKind_54 (lv_at hl 0 rfl) ?_
        refine lv_if_ne (tgt := 61) hx hb dX7_readKind_56 (by decide) (fun c13 => ?_) (fun c13 => ?_)
        · rw [if_neg c13] at hf
          refine lv_iload hx hb dX7_readKind_61 (lv_at hl 5 rfl) ?_
          refine lv_iload hx hb dX7_readKind_63 (lv_at hl 0 rfl) ?_
          refine lv_iadd hx hb dX7_readKind_65 ?_
          refine lv_istore (lv' := [(4, .int (z.1 + z11.1)), (6, .int z11.1), (0, .ref (bp + 0)), (1, .ref (E.2.2 2 a1.toNatClampNeg)), (2, .int a2), (3, .ref (bp + k3)), (5, .int z.2.1)]) hx hb dX7_readKind_66 hl (by decide) rfl (fun ls hl => ?_)
          refine lv_iinc (v := (z.2.1 + 1)) (lv' := [(5, .int (z.2.1 + 1)), (4, .int (z.1 + z11.1)), (6, .int z11.1), (0, .ref (bp + 0)), (1, .ref (E.2.2 2 a1.toNatClampNeg)), (2, .int a2), (3, .ref (bp + k3))]) hx hb dX7_readKind_68 hl (k := 6) rfl rfl (by decide) rfl (fun ls hl => ?_)
          refine lv_goto (tgt := 11) hx hb dX7_readKind_71 (by decide) ?_
          exact ih ((z.1 + z11.1), (z.2.1 + 1), (up2 z11.2 0 4 (if (z11.2 0 4) < z.1 then z.1 else (z11.2 0 4)))) (lp_back hy (Option.some.inj hf).symm) _ _ _ hP hS (lv_sub hl [3, 4, 5, 6, 1, 0] rfl)
        · rw [if_pos c13] at hf
          refine lv_iconst (v := -1) hx hb dX7_readKind_59 (by decide) ?_
          have hre := lp_end hy (Option.some.inj hf).symm
          subst hre
          exact mu_i (v := -1) hx hb hrt hlocks hP hS dX7_readKind_60
  refine lv_aload_n hx hb dX7_readKind_0 rfl (lv_at hl 3 rfl) ?_
  refine lv_aload_n hx hb dX7_readKind_1 rfl (lv_at hl 1 rfl) ?_
  obtain ⟨z14, hc15, hf⟩ := br_some hf
  refine mu_cV (As := [.ref (E.2.2 2 a1.toNatClampNeg)]) (rest := []) hx hb hml hown hts hE (mX1_begin l E B0 bp (by omega) P k3 a1 z14 hc15) cv_X7_44 (w_recv (k := k3) (ci := 4) hE hP (cmd_lt g3) (cmd_sh g3) rfl) hP hS hAB (fun _ h => h) rfl hl.1 rfl (by decide) (Nat.le_of_ble_eq_true rfl) ⟨Nat.le_refl _, Nat.le_refl _⟩ dX7_readKind_2 (fun H locs hP _ hu hS => ?_)
  refine lv_iload_n hx hb dX7_readKind_5 rfl (lv_at hl 2 rfl) ?_
  refine lv_istore (lv' := [(4, .int a2), (0, .ref (bp + 0)), (1, .ref (E.2.2 2 a1.toNatClampNeg)), (2, .int a2), (3, .ref (bp + k3))]) hx hb dX7_readKind_6 hl (by decide) rfl (fun ls hl => ?_)
  refine lv_iconst (v := 0) hx hb dX7_readKind_8 (by decide) ?_
  refine lv_istore (lv' := [(5, .int 0), (4, .int a2), (0, .ref (bp + 0)), (1, .ref (E.2.2 2 a1.toNatClampNeg)), (2, .int a2), (3, .ref (bp + k3))]) hx hb dX7_readKind_9 hl (by decide) rfl (fun ls hl => ?_)
  obtain ⟨fu, hfu⟩ := lp_some hf
  exact (loop fu (a2, 0, z14) hfu) _ _ _ hP hS (lv_sub hl [2, 3, 4, 5, 1, 0] rfl)
noncomputable def fX7_readCommand_s (a1 : Int32) (k2 : Nat) (z : Int32 × Mem) : Option ((Int32 × Mem) ⊕ (Int32 × Mem)) := (if (10 : Int32) ≤ z.1 then some (.inr (-1, z.2)) else gd (inb z.1 10) ((fX7_readKind z.2 z.1 a1 k2).bind fun z3 => (if z3.1 < 0 then some (.inl ((z.1 + 1), z3.2)) else some (.inr (z3.1, z3.2)))))
noncomputable def fX7_readCommand (P : Mem) (a1 : Int32) (k2 : Nat) : Option (Int32 × Mem) := gd (cmdk k2) (lp (fX7_readCommand_s a1 k2) (0, (up2 P 0 4 a1)))
set_option maxHeartbeats 4000000 in
set_option maxRecDepth 100000 in
theorem mX7_readCommand (l : Launch) (E : EP) (B0 : Nat) (bp : Nat) (hb0 : B0 ≤ bp) (P : Mem) (a1 : Int32) (k2 : Nat) (r : Int32 × Mem) (hf : fX7_readCommand P a1 k2 = some r) : MU l E B0 yX7_readCommand cX7_readCommand 5 (some .int) 5 0 0 [.ref (bp + 0), .int a1, .ref (bp + k2)] (Blk E bp progSh 29 P) (some (.int r.1)) (Blk E bp progSh 29 r.2) (iv bp 29) := by
  refine mu_of (by decide +kernel) (Nat.le_of_ble_eq_true rfl) ?_
  intro p e s m args below meth c hx hb hml hown hts hrt hlocks hE H hP hS ls hl
  have hown : s.vm.findClass RX7 = some m.cls := hown
  have hl : lv_has ls 5 [(0, .ref (bp + 0)), (1, .int a1), (2, .ref (bp + k2))] := hl
  have hw : ∀ w ∈ WA, w.before args s = true := fun w h => hts w (List.mem_cons_of_mem _ h)
  have hAB : ∀ q, (iv bp 29) q → B0 ≤ q := (iv_ge (by omega))
  unfold fX7_readCommand at hf
  obtain ⟨g2, hf⟩ := gd_some hf
  have loop : ∀ (fu : Nat) (z : Int32 × Mem), lpI (fX7_readCommand_s a1 k2) fu z = some r → (∀ (H : Heap) (locs : List Loc) (ls : Array Slot), Blk E bp progSh 29 z.2 H → va_S (iv bp 29) s.heap H locs → lv_has ls 5 [(0, .ref (bp + 0)), (1, .int a1), (2, .ref (bp + k2)), (3, .int z.1)] → W p l e (rmD 5 0 0) s m args below meth c H locs 0 0 (MQ below (QU (some (.int r.1)) (Blk E bp progSh 29 r.2) (iv bp 29)) args s 0 0 (iv bp 29)) (F0 m 7 ls [])) := by
    intro fu
    induction fu with
    | zero =>
      intro z hn
      exact nomatch hn
    | succ fu ih =>
      intro z hn
      obtain ⟨y, hf, hy⟩ := lpI_succ hn
      intro H locs ls hP hS hl
      unfold fX7_readCommand_s at hf
      refine lv_iload_n hx hb dX7_readCommand_7 rfl (lv_at hl 3 rfl) ?_
      refine w_kinds hx hb hown hE gk_X7_36 hS hAB dX7_readCommand_8 ?_
      refine w_klen hx hb hE hS hAB dX7_readCommand_11 ?_
      refine lv_icmp_ge (tgt := 42) hx hb dX7_readCommand_12 (by decide) (fun c1 => ?_) (fun c1 => ?_)
      · rw [if_pos c1] at hf
        refine lv_iconst (v := -1) hx hb dX7_readCommand_42 (by decide) ?_
        have hre := lp_end hy (Option.some.inj hf).symm
        subst hre
        exact mu_i (v := -1) hx hb hrt hlocks hP hS dX7_readCommand_43
      · rw [if_neg c1] at hf
        refine lv_aload_n hx hb dX7_readCommand_15 rfl (lv_at hl 0 rfl) ?_
        refine w_kinds hx hb hown hE gk_X7_36 hS hAB dX7_readCommand_16 ?_
        refine lv_iload_n hx hb dX7_readCommand_19 rfl (lv_at hl 3 rfl) ?_
        obtain ⟨h2, hf⟩ := gd_some hf
        refine w_kald hx hb hE hS hAB h2 dX7_readCommand_20 ?_
        refine lv_iload_n hx hb dX7_readCommand_21 rfl (lv_at hl 1 rfl) ?_
        refine lv_aload_n hx hb dX7_readCommand_22 rfl (lv_at hl 2 rfl) ?_
        obtain ⟨z3, hc4, hf⟩ := br_some hf
        refine mu_cV (As := [.ref (E.2.2 2 z.1.toNatClampNeg), .int a1, .ref (bp + k2)]) (rest := []) hx hb hml hown hts hE (mX7_readKind l E B0 bp (by omega) z.2 z.1 a1 k2 z3 hc4) cv_X7_40 (w_recv (k := 0) (ci := 7) hE hP (by decide) rfl rfl) hP hS hAB (fun _ h => h) rfl hl.1 rfl (by decide) (Nat.le_of_ble_eq_true rfl) ⟨Nat.le_refl _, Nat.le_refl _⟩ dX7_readCommand_23 (fun H locs hP _ hu hS => ?_)
        refine lv_istore (lv' := [(4, .int z3.1), (0, .ref (bp + 0)), (1, .int a1), (2, .ref (bp + k2)), (3, .int z.1)]) hx hb dX7_readCommand_26 hl (by decide) rfl (fun ls hl => ?_)
        refine lv_iload hx hb dX7_readCommand_28 (lv_at hl 0 rfl) ?_
        refine lv_if_lt (tgt := 36) hx hb dX7_readCommand_30 (by decide) (fun c5 => ?_) (fun c5 => ?_)
        · rw [if_pos c5] at hf
          refine lv_iinc (v := (z.1 + 1)) (lv' := [(3, .int (z.1 + 1)), (4, .int z3.1), (0, .ref (bp + 0)), (1, .int a1), (2, .ref (bp + k2))]) hx hb dX7_readCommand_36 hl (k := 4) rfl rfl (by decide) rfl (fun ls hl => ?_)
          refine lv_goto (tgt := 7) hx hb dX7_readCommand_39 (by decide) ?_
          exact ih ((z.1 + 1), z3.2) (lp_back hy (Option.some.inj hf).symm) _ _ _ hP hS (lv_sub hl [2, 3, 4, 0] rfl)
        · rw [if_neg c5] at hf
          refine lv_iload hx hb dX7_readCommand_33 (lv_at hl 0 rfl) ?_
          have hre := lp_end hy (Option.some.inj hf).symm
          subst hre
          exact mu_i (v := z3.1) hx hb hrt hlocks hP hS dX7_readCommand_35
  refine lv_aload_n hx hb dX7_readCommand_0 rfl (lv_at hl 0 rfl) ?_
  refine lv_iload_n hx hb dX7_readCommand_1 rfl (lv_at hl 1 rfl) ?_
  refine w_put (k := 0) (v := .int a1) hx hb hw hown hE fl_X7_29 fw_X7_4 hP (by decide) rfl rfl a1 rfl rfl rfl hS (iv_mem (by decide)) dX7_readCommand_2 (fun H locs hP _ hu hS => ?_)
  refine lv_iconst (v := 0) hx hb dX7_readCommand_5 (by decide) ?_
  refine lv_istore_n (lv' := [(3, .int 0), (0, .ref (bp + 0)), (1, .int a1), (2, .ref (bp + k2))]) hx hb dX7_readCommand_6 rfl hl (by decide) rfl (fun ls hl => ?_)
  obtain ⟨fu, hfu⟩ := lp_some hf
  exact (loop fu (0, (up2 P 0 4 a1)) hfu) _ _ _ hP hS (lv_sub hl [1, 2, 3, 0] rfl)
noncomputable def fX7_parse_s  (z : Int32 × Mem) : Option ((Int32 × Mem) ⊕ (Int32 × Mem)) := (if (13 : Int32) ≤ (z.2 0 3) then some (.inr ((z.2 0 1), z.2)) else gd (inb (z.2 0 3) 13) ((fX7_readCommand z.2 z.1 (3 + 2 * (z.2 0 3).toNatClampNeg)).bind fun z3 => (if 0 ≤ z3.1 then (if z3.1 < ((up2 z3.2 0 3 ((z3.2 0 3) + 1)) 0 1) then some (.inl ((z3.1 + 1), (up2 z3.2 0 3 ((z3.2 0 3) + 1)))) else some (.inr (-1, (up2 z3.2 0 3 ((z3.2 0 3) + 1))))) else some (.inr ((z3.2 0 4), z3.2)))))
noncomputable def fX7_parse (P : Mem) : Option (Int32 × Mem) := lp (fX7_parse_s) (0, (up2 P 0 3 (0 : Int32)))
set_option maxHeartbeats 4000000 in
set_option maxRecDepth 100000 in
theorem mX7_parse (l : Launch) (E : EP) (B0 : Nat) (bp : Nat) (hb0 : B0 ≤ bp) (P : Mem) (r : Int32 × Mem) (hf : fX7_parse P = some r) : MU l E B0 yX7_parse cX7_parse 3 (some .int) 6 0 0 [.ref (bp + 0)] (Blk E bp progSh 29 P) (some (.int r.1)) (Blk E bp progSh 29 r.2) (iv bp 29) := by
  refine mu_of (by decide +kernel) (Nat.le_of_ble_eq_true rfl) ?_
  intro p e s m args below meth c hx hb hml hown hts hrt hlocks hE H hP hS ls hl
  have hown : s.vm.findClass RX7 = some m.cls := hown
  have hl : lv_has ls 3 [(0, .ref (bp + 0))] := hl
  have hw : ∀ w ∈ WA, w.before args s = true := fun w h => hts w (List.mem_cons_of_mem _ h)
  have hAB : ∀ q, (iv bp 29) q → B0 ≤ q := (iv_ge (by omega))
  unfold fX7_parse at hf
  have loop : ∀ (fu : Nat) (z : Int32 × Mem), lpI (fX7_parse_s) fu z = some r → (∀ (H : Heap) (locs : List Loc) (ls : Array Slot), Blk E bp progSh 29 z.2 H → va_S (iv bp 29) s.heap H locs → lv_has ls 3 [(0, .ref (bp + 0)), (1, .int z.1)] → W p l e (rmD 6 0 0) s m args below meth c H locs 0 0 (MQ below (QU (some (.int r.1)) (Blk E bp progSh 29 r.2) (iv bp 29)) args s 0 0 (iv bp 29)) (F0 m 7 ls [])) := by
    intro fu
    induction fu with
    | zero =>
      intro z hn
      exact nomatch hn
    | succ fu ih =>
      intro z hn
      obtain ⟨y, hf, hy⟩ := lpI_succ hn
      intro H locs ls hP hS hl
      unfold fX7_parse_s at hf
      refine lv_aload_n hx hb dX7_parse_7 rfl (lv_at hl 0 rfl) ?_
      refine w_get (k := 0) (v := .int (z.2 0 3)) hx hb hw hown hE fl_X7_26 hP (by decide) rfl rfl rfl dX7_parse_8 ?_
      refine lv_bipush (v := 13) hx hb dX7_parse_11 (by decide) ?_
      refine lv_icmp_ge (tgt := 67) hx hb dX7_parse_13 (by decide) (fun c1 => ?_) (fun c1 => ?_)
      · rw [if_pos c1] at hf
        refine lv_aload_n hx hb dX7_parse_67 rfl (lv_at hl 0 rfl) ?_
        refine w_get (k := 0) (v := .int (z.2 0 1)) hx hb hw hown hE fl_X7_15 hP (by decide) rfl rfl rfl dX7_parse_68 ?_
        have hre := lp_end hy (Option.some.inj hf).symm
        subst hre
        exact mu_i (v := (z.2 0 1)) hx hb hrt hlocks hP hS dX7_parse_71
      · rw [if_neg c1] at hf
        refine lv_aload_n hx hb dX7_parse_16 rfl (lv_at hl 0 rfl) ?_
        refine lv_iload_n hx hb dX7_parse_17 rfl (lv_at hl 1 rfl) ?_
        refine lv_aload_n hx hb dX7_parse_18 rfl (lv_at hl 0 rfl) ?_
        refine w_get (k := 0) (v := .ref (bp + 2)) hx hb hw hown hE fl_X7_21 hP (by decide) rfl rfl rfl dX7_parse_19 ?_
        refine lv_aload_n hx hb dX7_parse_22 rfl (lv_at hl 0 rfl) ?_
        refine w_get (k := 0) (v := .int (z.2 0 3)) hx hb hw hown hE fl_X7_26 hP (by decide) rfl rfl rfl dX7_parse_23 ?_
        obtain ⟨h2, hf⟩ := gd_some hf
        refine w_aald (k := 2) (j := 2) (x9 := (z.2 0 3).toNatClampNeg) hx hb hE hP (by decide) rfl rfl rfl h2 dX7_parse_26 ?_
        obtain ⟨z3, hc4, hf⟩ := br_some hf
        refine mu_cV (As := [.int z.1, .ref (bp + (3 + 2 * (z.2 0 3).toNatClampNeg))]) (rest := []) hx hb hml hown hts hE (mX7_readCommand l E B0 bp (by omega) z.2 z.1 (3 + 2 * (z.2 0 3).toNatClampNeg) z3 hc4) cv_X7_32 (w_recv (k := 0) (ci := 7) hE hP (by decide) rfl rfl) hP hS hAB (fun _ h => h) rfl hl.1 rfl (by decide) (Nat.le_of_ble_eq_true rfl) ⟨Nat.le_refl _, Nat.le_refl _⟩ dX7_parse_27 (fun H locs hP _ hu hS => ?_)
        refine lv_istore_n (lv' := [(2, .int z3.1), (0, .ref (bp + 0)), (1, .int z.1)]) hx hb dX7_parse_30 rfl hl (by decide) rfl (fun ls hl => ?_)
        refine lv_iload_n hx hb dX7_parse_31 rfl (lv_at hl 0 rfl) ?_
        refine lv_if_ge (tgt := 40) hx hb dX7_parse_32 (by decide) (fun c5 => ?_) (fun c5 => ?_)
        · rw [if_pos c5] at hf
          refine lv_aload_n hx hb dX7_parse_40 rfl (lv_at hl 1 rfl) ?_
          refine lv_dup hx hb dX7_parse_41 rfl ?_
          refine w_get (k := 0) (v := .int (z3.2 0 3)) hx hb hw hown hE fl_X7_26 hP (by decide) rfl rfl rfl dX7_parse_42 ?_
          refine lv_iconst (v := 1) hx hb dX7_parse_45 (by decide) ?_
          refine lv_iadd hx hb dX7_parse_46 ?_
          refine w_put (k := 0) (v := .int ((z3.2 0 3) + 1)) hx hb hw hown hE fl_X7_26 fw_X7_3 hP (by decide) rfl rfl ((z3.2 0 3) + 1) rfl rfl rfl hS (iv_mem (by decide)) dX7_parse_47 (fun H locs hP _ hu hS => ?_)
          refine lv_iload_n hx hb dX7_parse_50 rfl (lv_at hl 0 rfl) ?_
          refine lv_aload_n hx hb dX7_parse_51 rfl (lv_at hl 1 rfl) ?_
          refine w_get (k := 0) (v := .int ((up2 z3.2 0 3 ((z3.2 0 3) + 1)) 0 1)) hx hb hw hown hE fl_X7_15 hP (by decide) rfl rfl rfl dX7_parse_52 ?_
          refine lv_icmp_lt (tgt := 60) hx hb dX7_parse_55 (by decide) (fun c6 => ?_) (fun c6 => ?_)
          · rw [if_pos c6] at hf
            refine lv_iload_n hx hb dX7_parse_60 rfl (lv_at hl 0 rfl) ?_
            refine lv_iconst (v := 1) hx hb dX7_parse_61 (by decide) ?_
            refine lv_iadd hx hb dX7_parse_62 ?_
            refine lv_istore_n (lv' := [(1, .int (z3.1 + 1)), (2, .int z3.1), (0, .ref (bp + 0))]) hx hb dX7_parse_63 rfl hl (by decide) rfl (fun ls hl => ?_)
            refine lv_goto (tgt := 7) hx hb dX7_parse_64 (by decide) ?_
            exact ih ((z3.1 + 1), (up2 z3.2 0 3 ((z3.2 0 3) + 1))) (lp_back hy (Option.some.inj hf).symm) _ _ _ hP hS (lv_sub hl [2, 0] rfl)
          · rw [if_neg c6] at hf
            refine lv_iconst (v := -1) hx hb dX7_parse_58 (by decide) ?_
            have hre := lp_end hy (Option.some.inj hf).symm
            subst hre
            exact mu_i (v := -1) hx hb hrt hlocks hP hS dX7_parse_59
        · rw [if_neg c5] at hf
          refine lv_aload_n hx hb dX7_parse_35 rfl (lv_at hl 1 rfl) ?_
          refine w_get (k := 0) (v := .int (z3.2 0 4)) hx hb hw hown hE fl_X7_29 hP (by decide) rfl rfl rfl dX7_parse_36 ?_
          have hre := lp_end hy (Option.some.inj hf).symm
          subst hre
          exact mu_i (v := (z3.2 0 4)) hx hb hrt hlocks hP hS dX7_parse_39
  refine lv_iconst (v := 0) hx hb dX7_parse_0 (by decide) ?_
  refine lv_istore_n (lv' := [(1, .int 0), (0, .ref (bp + 0))]) hx hb dX7_parse_1 rfl hl (by decide) rfl (fun ls hl => ?_)
  refine lv_aload_n hx hb dX7_parse_2 rfl (lv_at hl 1 rfl) ?_
  refine lv_iconst (v := 0) hx hb dX7_parse_3 (by decide) ?_
  refine w_put (k := 0) (v := .int 0) hx hb hw hown hE fl_X7_26 fw_X7_3 hP (by decide) rfl rfl (0 : Int32) rfl rfl rfl hS (iv_mem (by decide)) dX7_parse_4 (fun H locs hP _ hu hS => ?_)
  obtain ⟨fu, hfu⟩ := lp_some hf
  exact (loop fu (0, (up2 P 0 3 (0 : Int32))) hfu) _ _ _ hP hS (lv_sub hl [1, 0] rfl)
