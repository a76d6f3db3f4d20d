/-! ===== laid by program: small ones ===== -/
def fX3_clear (Hs : Mem) : Option (Mem) := some (up2 Hs 0 2 (0 : Int32))
set_option maxHeartbeats 4000000 in
set_option maxRecDepth 100000 in
theorem mX3_clear (l : Launch) (E : EP) (B0 : Nat) (bh : Nat) (b : Nat) (hb0 : B0 ≤ bh) (hb1 : B0 ≤ b) (hb2 : bh + 122 ≤ b ∨ b + 15 ≤ bh) (Hs : Mem) (r : Mem) (hf : fX3_clear Hs = some r) : MU l E B0 yX3_clear cX3_clear 1 none 0 0 0 [.ref (bh + 0)] (Blk E bh histSh 2 Hs) none (Blk E bh histSh 2 r) (iv bh 2) := by
  refine mu_of (by decide +kernel) (Nat.le_of_ble_eq_true rfl) ?_
  intro p e s m args below meth c hx hb hml hown hts hrt hlocks hE H hHs hS ls hl
  have hown : s.vm.findClass RX3 = some m.cls := hown
  have hl : lv_has ls 1 [(0, .ref (bh + 0))] := hl
  have hw : ∀ w ∈ WA, w.before args s = true := fun w h => hts w (List.mem_cons_of_mem _ h)
  have hAB : ∀ q, (iv bh 2) q → B0 ≤ q := (iv_ge (by omega))
  unfold fX3_clear at hf
  refine lv_aload_n hx hb dX3_clear_0 rfl (lv_at hl 0 rfl) ?_
  refine lv_iconst (v := 0) hx hb dX3_clear_1 (by decide) ?_
  refine w_put (k := 0) (v := .int 0) hx hb hw hown hE fl_X3_22 fw_X3_2 hHs (by decide) rfl rfl (0 : Int32) rfl rfl rfl hS (iv_mem (by decide)) dX3_clear_2 (fun H locs hHs _ hu hS => ?_)
  have hre := Option.some.inj hf
  subst hre
  exact mu_v hx hb hrt hlocks hHs hS dX3_clear_5
noncomputable def fX11_appendSign (G : Mem) (N : Mem) (Sb : TX) (k1 : Nat) : Option (TX) := gd (stn k1) ((fJ4_append_cf468 Sb (N k1 0)).bind fun z1 => (fJ4_append_bf812 z1 (N k1 1)).bind fun z3 => some z3)
set_option maxHeartbeats 4000000 in
set_option maxRecDepth 100000 in
theorem mX11_appendSign (l : Launch) (E : EP) (B0 : Nat) (B : Nat) (L0 : Nat) (hb0 : B0 ≤ B) (hb1 : B + 202 ≤ L0) (G : Mem) (N : Mem) (Sb : TX) (k1 : Nat) (r : TX) (hf : fX11_appendSign G N Sb k1 = some r) : MU l E B0 yX11_appendSign cX11_appendSign 2 none 7 2 68 [.ref (B + 0), .ref ((B + 1) + k1)] (fun H => Blk E B rnSh 1 G H ∧ Blk E (B + 1) netSh 15 N H ∧ SBt E (B + 200) L0 Sb H) none (fun H => Blk E B rnSh 1 G H ∧ Blk E (B + 1) netSh 15 N H ∧ SBt E (B + 200) L0 r H) (sbA (B + 200) L0) := by
  refine mu_of (by decide +kernel) (Nat.le_of_ble_eq_true rfl) ?_
  intro p e s m args below meth c hx hb hml hown hts hrt hlocks hE H hP9 hS ls hl
  obtain ⟨hG, hN, hSb⟩ := hP9
  have hown : s.vm.findClass RX11 = some m.cls := hown
  have hl : lv_has ls 2 [(0, .ref (B + 0)), (1, .ref ((B + 1) + k1))] := hl
  have hw : ∀ w ∈ WA, w.before args s = true := fun w h => hts w (List.mem_cons_of_mem _ h)
  have hAB : ∀ q, (sbA (B + 200) L0) q → B0 ≤ q := (sb_ge (by omega) (by omega))
  unfold fX11_appendSign at hf
  obtain ⟨g1, hf⟩ := gd_some hf
  refine lv_aload_n hx hb dX11_appendSign_0 rfl (lv_at hl 0 rfl) ?_
  refine w_get (k := 0) (v := .ref ((B + 200) + 0)) hx hb hw hown hE fl_X11_50 hG (by decide) rfl rfl rfl dX11_appendSign_1 ?_
  refine lv_aload_n hx hb dX11_appendSign_4 rfl (lv_at hl 1 rfl) ?_
  refine w_get (k := k1) (v := .int (N k1 0)) hx hb hw hown hE fl_X11_153 hN (stn_lt g1) (stn_sh g1) rfl rfl dX11_appendSign_5 ?_
  obtain ⟨z1, hc2, hf⟩ := br_some hf
  refine mu_cV (As := [.int (N k1 0)]) (rest := []) hx hb hml hown hts hE (mJ4_append_cf468 l E B0 (B + 200) L0 (by omega) (by omega) Sb (N k1 0) z1 hc2) cv_X11_292 (SBt.recv hE hSb) hSb hS hAB (fun _ h => h) rfl hl.1 rfl (by decide) (Nat.le_of_ble_eq_true rfl) ⟨by decide, by decide⟩ dX11_appendSign_8 (fun H locs hSb hz hu hS => ?_)
  have hG := Blk.off hG hu (iv_sb_dis (by omega) (by omega))
  have hN := Blk.off hN hu (iv_sb_dis (by omega) (by omega))
  refine lv_aload_n hx hb dX11_appendSign_11 rfl (lv_at hl 1 rfl) ?_
  refine w_get (k := k1) (v := .int (N k1 1)) hx hb hw hown hE fl_X11_159 hN (stn_lt g1) (stn_sh g1) rfl rfl dX11_appendSign_12 ?_
  obtain ⟨z3, hc4, hf⟩ := br_some hf
  refine mu_cV (As := [.int (N k1 1)]) (rest := []) hx hb hml hown hts hE (mJ4_append_bf812 l E B0 (B + 200) L0 (by omega) (by omega) z1 (N k1 1) z3 hc4) cv_X11_299 (SBt.recv hE hSb) hSb hS hAB (fun _ h => h) rfl hl.1 rfl (by decide) (Nat.le_of_ble_eq_true rfl) ⟨by decide, by decide⟩ dX11_appendSign_15 (fun H locs hSb hz hu hS => ?_)
  have hG := Blk.off hG hu (iv_sb_dis (by omega) (by omega))
  have hN := Blk.off hN hu (iv_sb_dis (by omega) (by omega))
  refine lv_pop hx hb dX11_appendSign_18 rfl ?_
  have hre := Option.some.inj hf
  subst hre
  refine W.widen (k := 2) (n := 68) (by decide) (by decide) ?_
  exact mu_v hx hb hrt hlocks ⟨hG, hN, hSb⟩ hS dX11_appendSign_19
