/-! ===== laid by program: quotients ===== -/
noncomputable def fX11_meanPower (G : Mem) (N : Mem) : Option ((Nat ⊕ UInt64)) := (if (N 0 1) = 0 then some (.inl 4) else (fX6_sumOfPowers N).bind fun z2 => gd (nz (N 0 1)) (some (.inr (FP.ddiv (FP.i2d z2) (FP.i2d (N 0 1))))))
set_option maxHeartbeats 4000000 in
set_option maxRecDepth 100000 in
theorem mX11_meanPower (l : Launch) (E : EP) (B0 : Nat) (htr : l.stackTraces = false) (B : Nat) (L0 : Nat) (hb0 : B0 ≤ B) (hb1 : B + 202 ≤ L0) (G : Mem) (N : Mem) (r : (Nat ⊕ UInt64)) (hf : fX11_meanPower G N = some r) : MX l E B0 yX11_meanPower cX11_meanPower 1 (some .double) 8 1 6 [.ref (B + 0)] (fun H => Blk E B rnSh 1 G H ∧ Blk E (B + 1) netSh 15 N H) r (fun v => (some (.double v))) (fun H => Blk E B rnSh 1 G H ∧ Blk E (B + 1) netSh 15 N H) nv := by
  refine mx_of (by decide +kernel) (Nat.le_of_ble_eq_true rfl) ?_
  intro p e s m args below meth c hx hb hml hown hts hrt hlocks htab hE H hP9 hS ls hl
  obtain ⟨hG, hN⟩ := hP9
  have hown : s.vm.findClass RX11 = some m.cls := hown
  have hl : lv_has ls 1 [(0, .ref (B + 0))] := hl
  have hw : ∀ w ∈ WA, w.before args s = true := fun w h => hts w (List.mem_cons_of_mem _ h)
  have hAB : ∀ q, nv q → B0 ≤ q := fun _ h => h.elim
  unfold fX11_meanPower at hf
  refine lv_aload_n hx hb dX11_meanPower_0 rfl (lv_at hl 0 rfl) ?_
  refine w_get (k := 0) (v := .ref ((B + 1) + 0)) hx hb hw hown hE fl_X11_12 hG (by decide) rfl rfl rfl dX11_meanPower_1 ?_
  refine w_get (k := 0) (v := .int (N 0 1)) hx hb hw hown hE fl_X11_135 hN (by decide) rfl rfl rfl dX11_meanPower_4 ?_
  refine lv_if_ne (tgt := 21) hx hb dX11_meanPower_7 (by decide) (fun c1 => ?_) (fun c1 => ?_)
  · rw [if_neg c1] at hf
    refine lv_aload_n hx hb dX11_meanPower_21 rfl (lv_at hl 0 rfl) ?_
    refine w_get (k := 0) (v := .ref ((B + 1) + 0)) hx hb hw hown hE fl_X11_12 hG (by decide) rfl rfl rfl dX11_meanPower_22 ?_
    obtain ⟨z2, hc3, hf⟩ := br_some hf
    refine mu_cV (As := []) (rest := []) hx hb hml hown hts hE (mX6_sumOfPowers l E B0 (B + 1) (by omega) N z2 hc3) cv_X11_267 (w_recv (k := 0) (ci := 6) hE hN (by decide) rfl rfl) hN hS hAB (fun _ h => h.elim) rfl hl.1 rfl (by decide) (Nat.le_of_ble_eq_true rfl) ⟨by decide, by decide⟩ dX11_meanPower_25 (fun H locs hN _ hu hS => ?_)
    have hG := Blk.off hG hu (fun _ _ _ h => h)
    refine lv_i2d hx hb dX11_meanPower_28 ?_
    refine lv_aload_n hx hb dX11_meanPower_29 rfl (lv_at hl 0 rfl) ?_
    refine w_get (k := 0) (v := .ref ((B + 1) + 0)) hx hb hw hown hE fl_X11_12 hG (by decide) rfl rfl rfl dX11_meanPower_30 ?_
    refine w_get (k := 0) (v := .int (N 0 1)) hx hb hw hown hE fl_X11_135 hN (by decide) rfl rfl rfl dX11_meanPower_33 ?_
    refine lv_i2d hx hb dX11_meanPower_36 ?_
    obtain ⟨h4, hf⟩ := gd_some hf
    refine lv_ddiv hx hb dX11_meanPower_37 (fp_ddiv z2 (N 0 1) (nz_ne h4)) ?_
    have hre := Option.some.inj hf
    subst hre
    refine W.widen (k := 1) (n := 6) (by decide) (by decide) ?_
    refine mx_up (v := (FP.ddiv (FP.i2d z2) (FP.i2d (N 0 1)))) rfl ?_
    exact mu_d (v := (FP.ddiv (FP.i2d z2) (FP.i2d (N 0 1)))) hx hb hrt hlocks ⟨hG, hN⟩ hS dX11_meanPower_38
  · rw [if_pos c1] at hf
    have hre := Option.some.inj hf
    subst hre
    exact mx_thrW (e9 := 4) hx hb htr htab hlocks hown hw hE th_X11_262_264_266 hS hAB (hl.1.trans hml.symm) dX11_meanPower_10 dX11_meanPower_13 dX11_meanPower_14 dX11_meanPower_17 dX11_meanPower_20 (by decide) (Nat.le_of_ble_eq_true rfl) ⟨by decide, by decide⟩ ⟨by decide, by decide⟩ rfl rfl (fun H1 hq => ⟨Blk.ext hG hq, Blk.ext hN hq⟩)
noncomputable def fX11_airtime (G : Mem) (N : Mem) : Option ((Nat ⊕ UInt32)) := (if (N 0 5) = 0 then some (.inl 4) else (fX6_sumOfSpoken N).bind fun z2 => gd (nz (N 0 5)) (some (.inr (FP.fdiv (FP.i2f z2) (FP.i2f (N 0 5))))))
set_option maxHeartbeats 4000000 in
set_option maxRecDepth 100000 in
theorem mX11_airtime (l : Launch) (E : EP) (B0 : Nat) (htr : l.stackTraces = false) (B : Nat) (L0 : Nat) (hb0 : B0 ≤ B) (hb1 : B + 202 ≤ L0) (G : Mem) (N : Mem) (r : (Nat ⊕ UInt32)) (hf : fX11_airtime G N = some r) : MX l E B0 yX11_airtime cX11_airtime 1 (some .float) 8 1 6 [.ref (B + 0)] (fun H => Blk E B rnSh 1 G H ∧ Blk E (B + 1) netSh 15 N H) r (fun v => (some (.float v))) (fun H => Blk E B rnSh 1 G H ∧ Blk E (B + 1) netSh 15 N H) nv := by
  refine mx_of (by decide +kernel) (Nat.le_of_ble_eq_true rfl) ?_
  intro p e s m args below meth c hx hb hml hown hts hrt hlocks htab hE H hP9 hS ls hl
  obtain ⟨hG, hN⟩ := hP9
  have hown : s.vm.findClass RX11 = some m.cls := hown
  have hl : lv_has ls 1 [(0, .ref (B + 0))] := hl
  have hw : ∀ w ∈ WA, w.before args s = true := fun w h => hts w (List.mem_cons_of_mem _ h)
  have hAB : ∀ q, nv q → B0 ≤ q := fun _ h => h.elim
  unfold fX11_airtime at hf
  refine lv_aload_n hx hb dX11_airtime_0 rfl (lv_at hl 0 rfl) ?_
  refine w_get (k := 0) (v := .ref ((B + 1) + 0)) hx hb hw hown hE fl_X11_12 hG (by decide) rfl rfl rfl dX11_airtime_1 ?_
  refine w_get (k := 0) (v := .int (N 0 5)) hx hb hw hown hE fl_X11_256 hN (by decide) rfl rfl rfl dX11_airtime_4 ?_
  refine lv_if_ne (tgt := 21) hx hb dX11_airtime_7 (by decide) (fun c1 => ?_) (fun c1 => ?_)
  · rw [if_neg c1] at hf
    refine lv_aload_n hx hb dX11_airtime_21 rfl (lv_at hl 0 rfl) ?_
    refine w_get (k := 0) (v := .ref ((B + 1) + 0)) hx hb hw hown hE fl_X11_12 hG (by decide) rfl rfl rfl dX11_airtime_22 ?_
    obtain ⟨z2, hc3, hf⟩ := br_some hf
    refine mu_cV (As := []) (rest := []) hx hb hml hown hts hE (mX6_sumOfSpoken l E B0 (B + 1) (by omega) N z2 hc3) cv_X11_272 (w_recv (k := 0) (ci := 6) hE hN (by decide) rfl rfl) hN hS hAB (fun _ h => h.elim) rfl hl.1 rfl (by decide) (Nat.le_of_ble_eq_true rfl) ⟨by decide, by decide⟩ dX11_airtime_25 (fun H locs hN _ hu hS => ?_)
    have hG := Blk.off hG hu (fun _ _ _ h => h)
    refine lv_i2f hx hb dX11_airtime_28 ?_
    refine lv_aload_n hx hb dX11_airtime_29 rfl (lv_at hl 0 rfl) ?_
    refine w_get (k := 0) (v := .ref ((B + 1) + 0)) hx hb hw hown hE fl_X11_12 hG (by decide) rfl rfl rfl dX11_airtime_30 ?_
    refine w_get (k := 0) (v := .int (N 0 5)) hx hb hw hown hE fl_X11_256 hN (by decide) rfl rfl rfl dX11_airtime_33 ?_
    refine lv_i2f hx hb dX11_airtime_36 ?_
    obtain ⟨h4, hf⟩ := gd_some hf
    refine lv_fdiv hx hb dX11_airtime_37 (fp_fdiv z2 (N 0 5) (nz_ne h4)) ?_
    have hre := Option.some.inj hf
    subst hre
    refine W.widen (k := 1) (n := 6) (by decide) (by decide) ?_
    refine mx_up (v := (FP.fdiv (FP.i2f z2) (FP.i2f (N 0 5)))) rfl ?_
    exact mu_f (v := (FP.fdiv (FP.i2f z2) (FP.i2f (N 0 5)))) hx hb hrt hlocks ⟨hG, hN⟩ hS dX11_airtime_38
  · rw [if_pos c1] at hf
    have hre := Option.some.inj hf
    subst hre
    exact mx_thrW (e9 := 4) hx hb htr htab hlocks hown hw hE th_X11_262_270_266 hS hAB (hl.1.trans hml.symm) dX11_airtime_10 dX11_airtime_13 dX11_airtime_14 dX11_airtime_17 dX11_airtime_20 (by decide) (Nat.le_of_ble_eq_true rfl) ⟨by decide, by decide⟩ ⟨by decide, by decide⟩ rfl rfl (fun H1 hq => ⟨Blk.ext hG hq, Blk.ext hN hq⟩)
noncomputable def fX12_meanPower (M : Mem) : Option (UInt64 × Mem) := (if (M 1 0) = 0 then (if ((up2 M 0 4 (1 : Int32)) 0 4) ≤ 0 then (fX12_sum (up2 M 0 4 (1 : Int32)) (4 : Int32)).bind fun z7 => gd (nz ((up2 M 0 4 (1 : Int32)) 1 0)) (some ((FP.ddiv (FP.i2d z7) (FP.i2d ((up2 M 0 4 (1 : Int32)) 1 0))), (up2 M 0 4 (1 : Int32)))) else some (FP.dconst0, (up2 M 0 4 (1 : Int32)))) else (if ((up2 M 0 4 (0 : Int32)) 0 4) ≤ 0 then (fX12_sum (up2 M 0 4 (0 : Int32)) (4 : Int32)).bind fun z3 => gd (nz ((up2 M 0 4 (0 : Int32)) 1 0)) (some ((FP.ddiv (FP.i2d z3) (FP.i2d ((up2 M 0 4 (0 : Int32)) 1 0))), (up2 M 0 4 (0 : Int32)))) else some (FP.dconst0, (up2 M 0 4 (0 : Int32)))))
set_option maxHeartbeats 4000000 in
set_option maxRecDepth 100000 in
theorem mX12_meanPower (l : Launch) (E : EP) (B0 : Nat) (b : Nat) (hb0 : B0 ≤ b) (M : Mem) (r : UInt64 × Mem) (hf : fX12_meanPower M = some r) : MU l E B0 yX12_meanPower cX12_meanPower 1 (some .double) 2 0 0 [.ref (b + 0)] (Blk E b modSh 10 M) (some (.double r.1)) (Blk E b modSh 10 r.2) (iv b 10) := by
  refine mu_of (by decide +kernel) (Nat.le_of_ble_eq_true rfl) ?_
  intro p e s m args below meth c hx hb hml hown hts hrt hlocks hE H hM hS ls hl
  have hown : s.vm.findClass RX12 = some m.cls := hown
  have hl : lv_has ls 1 [(0, .ref (b + 0))] := hl
  have hw : ∀ w ∈ WA, w.before args s = true := fun w h => hts w (List.mem_cons_of_mem _ h)
  have hAB : ∀ q, (iv b 10) q → B0 ≤ q := (iv_ge (by omega))
  unfold fX12_meanPower at hf
  refine lv_aload_n hx hb dX12_meanPower_0 rfl (lv_at hl 0 rfl) ?_
  refine lv_aload_n hx hb dX12_meanPower_1 rfl (lv_at hl 0 rfl) ?_
  refine w_get (k := 0) (v := .ref (b + 1)) hx hb hw hown hE fl_X12_7 hM (by decide) rfl rfl rfl dX12_meanPower_2 ?_
  refine lv_iconst (v := 0) hx hb dX12_meanPower_5 (by decide) ?_
  refine w_iald (k := 1) (x9 := 0) hx hb hE hM (by decide) rfl (by decide) (by decide) dX12_meanPower_6 ?_
  refine lv_if_ne (tgt := 14) hx hb dX12_meanPower_7 (by decide) (fun c1 => ?_) (fun c1 => ?_)
  · rw [if_neg c1] at hf
    refine lv_iconst (v := 0) hx hb dX12_meanPower_14 (by decide) ?_
    refine w_put (k := 0) (v := .int 0) hx hb hw hown hE fl_X12_22 fw_X12_4 hM (by decide) rfl rfl (0 : Int32) rfl rfl rfl hS (iv_mem (by decide)) dX12_meanPower_15 (fun H locs hM _ hu hS => ?_)
    refine lv_aload_n hx hb dX12_meanPower_18 rfl (lv_at hl 0 rfl) ?_
    refine w_get (k := 0) (v := .int ((up2 M 0 4 (0 : Int32)) 0 4)) hx hb hw hown hE fl_X12_22 hM (by decide) rfl rfl rfl dX12_meanPower_19 ?_
    refine lv_if_le (tgt := 29) hx hb dX12_meanPower_22 (by decide) (fun c2 => ?_) (fun c2 => ?_)
    · rw [if_pos c2] at hf
      refine lv_aload_n hx hb dX12_meanPower_29 rfl (lv_at hl 0 rfl) ?_
      refine lv_iconst (v := 4) hx hb dX12_meanPower_30 (by decide) ?_
      obtain ⟨z3, hc4, hf⟩ := br_some hf
      refine mu_cV (As := [.int 4]) (rest := []) hx hb hml hown hts hE (mX12_sum l E B0 b (by omega) (up2 M 0 4 (0 : Int32)) (4 : Int32) z3 hc4) cv_X12_221 (w_recv (k := 0) (ci := 12) hE hM (by decide) rfl rfl) hM hS hAB (fun _ h => h.elim) rfl hl.1 rfl (by decide) (Nat.le_of_ble_eq_true rfl) ⟨Nat.le_refl _, Nat.le_refl _⟩ dX12_meanPower_31 (fun H locs hM _ hu hS => ?_)
      refine lv_i2d hx hb dX12_meanPower_34 ?_
      refine lv_aload_n hx hb dX12_meanPower_35 rfl (lv_at hl 0 rfl) ?_
      refine w_get (k := 0) (v := .ref (b + 1)) hx hb hw hown hE fl_X12_7 hM (by decide) rfl rfl rfl dX12_meanPower_36 ?_
      refine lv_iconst (v := 0) hx hb dX12_meanPower_39 (by decide) ?_
      refine w_iald (k := 1) (x9 := 0) hx hb hE hM (by decide) rfl (by decide) (by decide) dX12_meanPower_40 ?_
      refine lv_i2d hx hb dX12_meanPower_41 ?_
      obtain ⟨h5, hf⟩ := gd_some hf
      refine lv_ddiv hx hb dX12_meanPower_42 (fp_ddiv z3 ((up2 M 0 4 (0 : Int32)) 1 0) (nz_ne h5)) ?_
      have hre := Option.some.inj hf
      subst hre
      exact mu_d (v := (FP.ddiv (FP.i2d z3) (FP.i2d ((up2 M 0 4 (0 : Int32)) 1 0)))) hx hb hrt hlocks hM hS dX12_meanPower_43
    · rw [if_neg c2] at hf
      refine lv_dconst0 hx hb dX12_meanPower_25 ?_
      refine lv_goto (tgt := 43) hx hb dX12_meanPower_26 (by decide) ?_
      have hre := Option.some.inj hf
      subst hre
      exact mu_d (v := FP.dconst0) hx hb hrt hlocks hM hS dX12_meanPower_43
  · rw [if_pos c1] at hf
    refine lv_iconst (v := 1) hx hb dX12_meanPower_10 (by decide) ?_
    refine lv_goto (tgt := 15) hx hb dX12_meanPower_11 (by decide) ?_
    refine w_put (k := 0) (v := .int 1) hx hb hw hown hE fl_X12_22 fw_X12_4 hM (by decide) rfl rfl (1 : Int32) rfl rfl rfl hS (iv_mem (by decide)) dX12_meanPower_15 (fun H locs hM _ hu hS => ?_)
    refine lv_aload_n hx hb dX12_meanPower_18 rfl (lv_at hl 0 rfl) ?_
    refine w_get (k := 0) (v := .int ((up2 M 0 4 (1 : Int32)) 0 4)) hx hb hw hown hE fl_X12_22 hM (by decide) rfl rfl rfl dX12_meanPower_19 ?_
    refine lv_if_le (tgt := 29) hx hb dX12_meanPower_22 (by decide) (fun c6 => ?_) (fun c6 => ?_)
    · rw [if_pos c6] at hf
      refine lv_aload_n hx hb dX12_meanPower_29 rfl (lv_at hl 0 rfl) ?_
      refine lv_iconst (v := 4) hx hb dX12_meanPower_30 (by decide) ?_
      obtain ⟨z7, hc8, hf⟩ := br_some hf
      refine mu_cV (As := [.int 4]) (rest := []) hx hb hml hown hts hE (mX12_sum l E B0 b (by omega) (up2 M 0 4 (1 : Int32)) (4 : Int32) z7 hc8) cv_X12_221 (w_recv (k := 0) (ci := 12) hE hM (by decide) rfl rfl) hM hS hAB (fun _ h => h.elim) rfl hl.1 rfl (by decide) (Nat.le_of_ble_eq_true rfl) ⟨Nat.le_refl _, Nat.le_refl _⟩ dX12_meanPower_31 (fun H locs hM _ hu hS => ?_)
      refine lv_i2d hx hb dX12_meanPower_34 ?_
      refine lv_aload_n hx hb dX12_meanPower_35 rfl (lv_at hl 0 rfl) ?_
      refine w_get (k := 0) (v := .ref (b + 1)) hx hb hw hown hE fl_X12_7 hM (by decide) rfl rfl rfl dX12_meanPower_36 ?_
      refine lv_iconst (v := 0) hx hb dX12_meanPower_39 (by decide) ?_
      refine w_iald (k := 1) (x9 := 0) hx hb hE hM (by decide) rfl (by decide) (by decide) dX12_meanPower_40 ?_
      refine lv_i2d hx hb dX12_meanPower_41 ?_
      obtain ⟨h9, hf⟩ := gd_some hf
      refine lv_ddiv hx hb dX12_meanPower_42 (fp_ddiv z7 ((up2 M 0 4 (1 : Int32)) 1 0) (nz_ne h9)) ?_
      have hre := Option.some.inj hf
      subst hre
      exact mu_d (v := (FP.ddiv (FP.i2d z7) (FP.i2d ((up2 M 0 4 (1 : Int32)) 1 0)))) hx hb hrt hlocks hM hS dX12_meanPower_43
    · rw [if_neg c6] at hf
      refine lv_dconst0 hx hb dX12_meanPower_25 ?_
      refine lv_goto (tgt := 43) hx hb dX12_meanPower_26 (by decide) ?_
      have hre := Option.some.inj hf
      subst hre
      exact mu_d (v := FP.dconst0) hx hb hrt hlocks hM hS dX12_meanPower_43
noncomputable def fX12_airtime (M : Mem) : Option (UInt32 × Mem) := (if (M 1 1) = 0 then (if ((up2 M 0 4 (1 : Int32)) 0 4) ≤ 0 then (fX12_sum (up2 M 0 4 (1 : Int32)) (9 : Int32)).bind fun z7 => gd (nz ((up2 M 0 4 (1 : Int32)) 1 1)) (some ((FP.fdiv (FP.i2f z7) (FP.i2f ((up2 M 0 4 (1 : Int32)) 1 1))), (up2 M 0 4 (1 : Int32)))) else some (FP.fconst0, (up2 M 0 4 (1 : Int32)))) else (if ((up2 M 0 4 (0 : Int32)) 0 4) ≤ 0 then (fX12_sum (up2 M 0 4 (0 : Int32)) (9 : Int32)).bind fun z3 => gd (nz ((up2 M 0 4 (0 : Int32)) 1 1)) (some ((FP.fdiv (FP.i2f z3) (FP.i2f ((up2 M 0 4 (0 : Int32)) 1 1))), (up2 M 0 4 (0 : Int32)))) else some (FP.fconst0, (up2 M 0 4 (0 : Int32)))))
set_option maxHeartbeats 4000000 in
set_option maxRecDepth 100000 in
theorem mX12_airtime (l : Launch) (E : EP) (B0 : Nat) (b : Nat) (hb0 : B0 ≤ b) (M : Mem) (r : UInt32 × Mem) (hf : fX12_airtime M = some r) : MU l E B0 yX12_airtime cX12_airtime 1 (some .float) 2 0 0 [.ref (b + 0)] (Blk E b modSh 10 M) (some (.float r.1)) (Blk E b modSh 10 r.2) (iv b 10) := by
  refine mu_of (by decide +kernel) (Nat.le_of_ble_eq_true rfl) ?_
  intro p e s m args below meth c hx hb hml hown hts hrt hlocks hE H hM hS ls hl
  have hown : s.vm.findClass RX12 = some m.cls := hown
  have hl : lv_has ls 1 [(0, .ref (b + 0))] := hl
  have hw : ∀ w ∈ WA, w.before args s = true := fun w h => hts w (List.mem_cons_of_mem _ h)
  have hAB : ∀ q, (iv b 10) q → B0 ≤ q := (iv_ge (by omega))
  unfold fX12_airtime at hf
  refine lv_aload_n hx hb dX12_airtime_0 rfl (lv_at hl 0 rfl) ?_
  refine lv_aload_n hx hb dX12_airtime_1 rfl (lv_at hl 0 rfl) ?_
  refine w_get (k := 0) (v := .ref (b + 1)) hx hb hw hown hE fl_X12_7 hM (by decide) rfl rfl rfl dX12_airtime_2 ?_
  refine lv_iconst (v := 1) hx hb dX12_airtime_5 (by decide) ?_
  refine w_iald (k := 1) (x9 := 1) hx hb hE hM (by decide) rfl (by decide) (by decide) dX12_airtime_6 ?_
  refine lv_if_ne (tgt := 14) hx hb dX12_airtime_7 (by decide) (fun c1 => ?_) (fun c1 => ?_)
  · rw [if_neg c1] at hf
    refine lv_iconst (v := 0) hx hb dX12_airtime_14 (by decide) ?_
    refine w_put (k := 0) (v := .int 0) hx hb hw hown hE fl_X12_22 fw_X12_4 hM (by decide) rfl rfl (0 : Int32) rfl rfl rfl hS (iv_mem (by decide)) dX12_airtime_15 (fun H locs hM _ hu hS => ?_)
    refine lv_aload_n hx hb dX12_airtime_18 rfl (lv_at hl 0 rfl) ?_
    refine w_get (k := 0) (v := .int ((up2 M 0 4 (0 : Int32)) 0 4)) hx hb hw hown hE fl_X12_22 hM (by decide) rfl rfl rfl dX12_airtime_19 ?_
    refine lv_if_le (tgt := 29) hx hb dX12_airtime_22 (by decide) (fun c2 => ?_) (fun c2 => ?_)
    · rw [if_pos c2] at hf
      refine lv_aload_n hx hb dX12_airtime_29 rfl (lv_at hl 0 rfl) ?_
      refine lv_bipush (v := 9) hx hb dX12_airtime_30 (by decide) ?_
      obtain ⟨z3, hc4, hf⟩ := br_some hf
      refine mu_cV (As := [.int 9]) (rest := []) hx hb hml hown hts hE (mX12_sum l E B0 b (by omega) (up2 M 0 4 (0 : Int32)) (9 : Int32) z3 hc4) cv_X12_221 (w_recv (k := 0) (ci := 12) hE hM (by decide) rfl rfl) hM hS hAB (fun _ h => h.elim) rfl hl.1 rfl (by decide) (Nat.le_of_ble_eq_true rfl) ⟨Nat.le_refl _, Nat.le_refl _⟩ dX12_airtime_32 (fun H locs hM _ hu hS => ?_)
      refine lv_i2f hx hb dX12_airtime_35 ?_
      refine lv_aload_n hx hb dX12_airtime_36 rfl (lv_at hl 0 rfl) ?_
      refine w_get (k := 0) (v := .ref (b + 1)) hx hb hw hown hE fl_X12_7 hM (by decide) rfl rfl rfl dX12_airtime_37 ?_
      refine lv_iconst (v := 1) hx hb dX12_airtime_40 (by decide) ?_
      refine w_iald (k := 1) (x9 := 1) hx hb hE hM (by decide) rfl (by decide) (by decide) dX12_airtime_41 ?_
      refine lv_i2f hx hb dX12_airtime_42 ?_
      obtain ⟨h5, hf⟩ := gd_some hf
      refine lv_fdiv hx hb dX12_airtime_43 (fp_fdiv z3 ((up2 M 0 4 (0 : Int32)) 1 1) (nz_ne h5)) ?_
      have hre := Option.some.inj hf
      subst hre
      exact mu_f (v := (FP.fdiv (FP.i2f z3) (FP.i2f ((up2 M 0 4 (0 : Int32)) 1 1)))) hx hb hrt hlocks hM hS dX12_airtime_44
    · rw [if_neg c2] at hf
      refine lv_fconst0 hx hb dX12_airtime_25 ?_
      refine lv_goto (tgt := 44) hx hb dX12_airtime_26 (by decide) ?_
      have hre := Option.some.inj hf
      subst hre
      exact mu_f (v := FP.fconst0) hx hb hrt hlocks hM hS dX12_airtime_44
  · rw [if_pos c1] at hf
    refine lv_iconst (v := 1) hx hb dX12_airtime_10 (by decide) ?_
    refine lv_goto (tgt := 15) hx hb dX12_airtime_11 (by decide) ?_
    refine w_put (k := 0) (v := .int 1) hx hb hw hown hE fl_X12_22 fw_X12_4 hM (by decide) rfl rfl (1 : Int32) rfl rfl rfl hS (iv_mem (by decide)) dX12_airtime_15 (fun H locs hM _ hu hS => ?_)
    refine lv_aload_n hx hb dX12_airtime_18 rfl (lv_at hl 0 rfl) ?_
    refine w_get (k := 0) (v := .int ((up2 M 0 4 (1 : Int32)) 0 4)) hx hb hw hown hE fl_X12_22 hM (by decide) rfl rfl rfl dX12_airtime_19 ?_
    refine lv_if_le (tgt := 29) hx hb dX12_airtime_22 (by decide) (fun c6 => ?_) (fun c6 => ?_)
    · rw [if_pos c6] at hf
      refine lv_aload_n hx hb dX12_airtime_29 rfl (lv_at hl 0 rfl) ?_
      refine lv_bipush (v := 9) hx hb dX12_airtime_30 (by decide) ?_
      obtain ⟨z7, hc8, hf⟩ := br_some hf
      refine mu_cV (As := [.int 9]) (rest := []) hx hb hml hown hts hE (mX12_sum l E B0 b (by omega) (up2 M 0 4 (1 : Int32)) (9 : Int32) z7 hc8) cv_X12_221 (w_recv (k := 0) (ci := 12) hE hM (by decide) rfl rfl) hM hS hAB (fun _ h => h.elim) rfl hl.1 rfl (by decide) (Nat.le_of_ble_eq_true rfl) ⟨Nat.le_refl _, Nat.le_refl _⟩ dX12_airtime_32 (fun H locs hM _ hu hS => ?_)
      refine lv_i2f hx hb dX12_airtime_35 ?_
      refine lv_aload_n hx hb dX12_airtime_36 rfl (lv_at hl 0 rfl) ?_
      refine w_get (k := 0) (v := .ref (b + 1)) hx hb hw hown hE fl_X12_7 hM (by decide) rfl rfl rfl dX12_airtime_37 ?_
      refine lv_iconst (v := 1) hx hb dX12_airtime_40 (by decide) ?_
      refine w_iald (k := 1) (x9 := 1) hx hb hE hM (by decide) rfl (by decide) (by decide) dX12_airtime_41 ?_
      refine lv_i2f hx hb dX12_airtime_42 ?_
      obtain ⟨h9, hf⟩ := gd_some hf
      refine lv_fdiv hx hb dX12_airtime_43 (fp_fdiv z7 ((up2 M 0 4 (1 : Int32)) 1 1) (nz_ne h9)) ?_
      have hre := Option.some.inj hf
      subst hre
      exact mu_f (v := (FP.fdiv (FP.i2f z7) (FP.i2f ((up2 M 0 4 (1 : Int32)) 1 1)))) hx hb hrt hlocks hM hS dX12_airtime_44
    · rw [if_neg c6] at hf
      refine lv_fconst0 hx hb dX12_airtime_25 ?_
      refine lv_goto (tgt := 44) hx hb dX12_airtime_26 (by decide) ?_
      have hre := Option.some.inj hf
      subst hre
      exact mu_f (v := FP.fconst0) hx hb hrt hlocks hM hS dX12_airtime_44
