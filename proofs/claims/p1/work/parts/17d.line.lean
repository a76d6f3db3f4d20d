/-! ===== appendLine: its loop makes cells ===== -/
theorem dX11_appendLine_0 : decode cX11_appendLine 0 = .ok (.iconst 0, 1) := by decide +kernel
theorem dX11_appendLine_1 : decode cX11_appendLine 1 = .ok (.istore_n 2, 1) := by decide +kernel
theorem dX11_appendLine_2 : decode cX11_appendLine 2 = .ok (.iload_n 2, 1) := by decide +kernel
theorem dX11_appendLine_3 : decode cX11_appendLine 3 = .ok (.aload_n 0, 1) := by decide +kernel
theorem dX11_appendLine_4 : decode cX11_appendLine 4 = .ok (.getfield 12, 3) := by decide +kernel
theorem dX11_appendLine_7 : decode cX11_appendLine 7 = .ok (.getfield 421, 3) := by decide +kernel
theorem dX11_appendLine_10 : decode cX11_appendLine 10 = .ok (.if_icmp .ge 50, 3) := by decide +kernel
theorem dX11_appendLine_13 : decode cX11_appendLine 13 = .ok (.aload_n 0, 1) := by decide +kernel
theorem dX11_appendLine_14 : decode cX11_appendLine 14 = .ok (.getfield 12, 3) := by decide +kernel
theorem dX11_appendLine_17 : decode cX11_appendLine 17 = .ok (.getfield 308, 3) := by decide +kernel
theorem dX11_appendLine_20 : decode cX11_appendLine 20 = .ok (.aload_n 0, 1) := by decide +kernel
theorem dX11_appendLine_21 : decode cX11_appendLine 21 = .ok (.getfield 12, 3) := by decide +kernel
theorem dX11_appendLine_24 : decode cX11_appendLine 24 = .ok (.getfield 424, 3) := by decide +kernel
theorem dX11_appendLine_27 : decode cX11_appendLine 27 = .ok (.iload_n 2, 1) := by decide +kernel
theorem dX11_appendLine_28 : decode cX11_appendLine 28 = .ok (.iaload, 1) := by decide +kernel
theorem dX11_appendLine_29 : decode cX11_appendLine 29 = .ok (.aaload, 1) := by decide +kernel
theorem dX11_appendLine_30 : decode cX11_appendLine 30 = .ok (.astore_n 3, 1) := by decide +kernel
theorem dX11_appendLine_31 : decode cX11_appendLine 31 = .ok (.aload_n 3, 1) := by decide +kernel
theorem dX11_appendLine_32 : decode cX11_appendLine 32 = .ok (.getfield 162, 3) := by decide +kernel
theorem dX11_appendLine_35 : decode cX11_appendLine 35 = .ok (.iload_n 1, 1) := by decide +kernel
theorem dX11_appendLine_36 : decode cX11_appendLine 36 = .ok (.if_icmp .ne 18, 3) := by decide +kernel
theorem dX11_appendLine_39 : decode cX11_appendLine 39 = .ok (.aload_n 0, 1) := by decide +kernel
theorem dX11_appendLine_40 : decode cX11_appendLine 40 = .ok (.getfield 50, 3) := by decide +kernel
theorem dX11_appendLine_43 : decode cX11_appendLine 43 = .ok (.bipush 60, 2) := by decide +kernel
theorem dX11_appendLine_45 : decode cX11_appendLine 45 = .ok (.invokevirtual 292, 3) := by decide +kernel
theorem dX11_appendLine_48 : decode cX11_appendLine 48 = .ok (.pop, 1) := by decide +kernel
theorem dX11_appendLine_49 : decode cX11_appendLine 49 = .ok (.aload_n 0, 1) := by decide +kernel
theorem dX11_appendLine_50 : decode cX11_appendLine 50 = .ok (.aload_n 3, 1) := by decide +kernel
theorem dX11_appendLine_51 : decode cX11_appendLine 51 = .ok (.invokevirtual 288, 3) := by decide +kernel
theorem dX11_appendLine_54 : decode cX11_appendLine 54 = .ok (.iinc 2 1, 3) := by decide +kernel
theorem dX11_appendLine_57 : decode cX11_appendLine 57 = .ok (.goto (-55), 3) := by decide +kernel
theorem dX11_appendLine_60 : decode cX11_appendLine 60 = .ok (.return_, 1) := by decide +kernel
theorem cv_X11_288 : CV RX11 288 yX11_appendSign cX11_appendSign 2 none 1 := cv_of (WA_list _ [1382, 1384, 7, 67, 1385] (by decide +kernel) (by decide +kernel)) (by decide +kernel) (by decide)
theorem fl_X11_12 : FL RX11 12 11 RX11 TX11 10 0 := ⟨rfl, by decide, WA_of 343 (by decide +kernel) (by decide +kernel), uw_X11⟩
theorem fl_X11_162 : FL RX11 162 9 RX9 TX9 10 5 := ⟨rfl, by decide, WA_of 144 (by decide +kernel) (by decide +kernel), uw_X9⟩
theorem fl_X11_308 : FL RX11 308 6 RX6 TX6 7 0 := ⟨rfl, by decide, WA_of 203 (by decide +kernel) (by decide +kernel), uw_X6⟩
theorem fl_X11_421 : FL RX11 421 6 RX6 TX6 7 3 := ⟨rfl, by decide, WA_of 210 (by decide +kernel) (by decide +kernel), uw_X6⟩
theorem fl_X11_424 : FL RX11 424 6 RX6 TX6 7 2 := ⟨rfl, by decide, WA_of 208 (by decide +kernel) (by decide +kernel), uw_X6⟩
noncomputable def fX11_appendLine_s (G : Mem) (N : Mem) (a1 : Int32) (z : Int32 × TX) : Option ((Int32 × TX) ⊕ (TX)) := (if (N 0 3) ≤ z.1 then some (.inr z.2) else gd (inb z.1 8) (gd (inb (N 10 z.1.toNatClampNeg) 8) ((if (N (2 + 1 * (N 10 z.1.toNatClampNeg).toNatClampNeg) 5) = a1 then (fJ4_append_cf468 z.2 (60 : Int32)).bind fun z5 => (fX11_appendSign G N z5 (2 + 1 * (N 10 z.1.toNatClampNeg).toNatClampNeg)).bind fun z7 => some (.inl ((z.1 + 1), z7)) else some (.inl ((z.1 + 1), z.2))))))
noncomputable def fX11_appendLine (G : Mem) (N : Mem) (Sb : TX) (a1 : Int32) : Option (TX) := lp (fX11_appendLine_s G N a1) (0, Sb)
set_option maxHeartbeats 4000000 in
set_option maxRecDepth 100000 in
theorem mX11_appendLine (l : Launch) (E : EP) (B0 : Nat) (B : Nat) (L0 : Nat) (hb0 : B0 ≤ B) (hb1 : B + 202 ≤ L0) (G : Mem) (N : Mem) (Sb : TX) (a1 : Int32) (r : TX) (hf : fX11_appendLine G N Sb a1 = some r) : MU l E B0 yX11_appendLine cX11_appendLine 4 none 8 24 816 [.ref (B + 0), .int a1] (fun H => Blk E B rnSh 1 G H ∧ Blk E (B + 1) netSh 15 N H ∧ SBt E (B + 200) L0 Sb H) none (fun H => Blk E B rnSh 1 G H ∧ Blk E (B + 1) netSh 15 N H ∧ SBt E (B + 200) L0 r H) (sbA (B + 200) L0) := by
  refine mu_of (by decide +kernel) (Nat.le_of_ble_eq_true rfl) ?_
  intro p e s m args below meth c hx hb hml hown hts hrt hlocks hE H hP9 hS ls hl
  obtain ⟨hG, hN, hSb⟩ := hP9
  have hown : s.vm.findClass RX11 = some m.cls := hown
  have hl : lv_has ls 4 [(0, .ref (B + 0)), (1, .int a1)] := hl
  have hw : ∀ w ∈ WA, w.before args s = true := fun w h => hts w (List.mem_cons_of_mem _ h)
  have hAB : ∀ q, (sbA (B + 200) L0) q → B0 ≤ q := (sb_ge (by omega) (by omega))
  unfold fX11_appendLine at hf
  have loop : ∀ (fu : Nat) (z : Int32 × TX), lpI (fX11_appendLine_s G N a1) fu z = some r → (∀ (k9 : Nat), k9 ≤ 8 → z.1 = nI k9 → ∀ (H : Heap) (locs : List Loc) (ls : Array Slot), Blk E B rnSh 1 G H → Blk E (B + 1) netSh 15 N H → SBt E (B + 200) L0 z.2 H → va_S (sbA (B + 200) L0) s.heap H locs → lv_has ls 4 [(0, .ref (B + 0)), (1, .int a1), (2, .int z.1)] → W p l e (rmD 8 24 816) s m args below meth c H locs (3 * k9) (102 * k9) (MQ below (QU none (fun H => Blk E B rnSh 1 G H ∧ Blk E (B + 1) netSh 15 N H ∧ SBt E (B + 200) L0 r H) (sbA (B + 200) L0)) args s 24 816 (sbA (B + 200) L0)) (F0 m 2 ls [])) := by
    intro fu
    induction fu with
    | zero =>
      intro z hn
      exact nomatch hn
    | succ fu ih =>
      intro z hn
      obtain ⟨y, hf, hy⟩ := lpI_succ hn
      intro k9 hk9 hz9 H locs ls hG hN hSb hS hl
      unfold fX11_appendLine_s at hf
      refine lv_iload_n hx hb dX11_appendLine_2 rfl (lv_at hl 2 rfl) ?_
      refine lv_aload_n hx hb dX11_appendLine_3 rfl (lv_at hl 0 rfl) ?_
      refine w_get (k := 0) (v := .ref ((B + 1) + 0)) hx hb hw hown hE fl_X11_12 hG (by decide) rfl rfl rfl dX11_appendLine_4 ?_
      refine w_get (k := 0) (v := .int (N 0 3)) hx hb hw hown hE fl_X11_421 hN (by decide) rfl rfl rfl dX11_appendLine_7 ?_
      refine lv_icmp_ge (tgt := 60) hx hb dX11_appendLine_10 (by decide) (fun c1 => ?_) (fun c1 => ?_)
      · rw [if_pos c1] at hf
        have hre := lp_end hy (Option.some.inj hf).symm
        subst hre
        refine W.widen (k := 24) (n := 816) (by omega) (by omega) ?_
        exact mu_v hx hb hrt hlocks ⟨hG, hN, hSb⟩ hS dX11_appendLine_60
      · rw [if_neg c1] at hf
        refine lv_aload_n hx hb dX11_appendLine_13 rfl (lv_at hl 0 rfl) ?_
        refine w_get (k := 0) (v := .ref ((B + 1) + 0)) hx hb hw hown hE fl_X11_12 hG (by decide) rfl rfl rfl dX11_appendLine_14 ?_
        refine w_get (k := 0) (v := .ref ((B + 1) + 1)) hx hb hw hown hE fl_X11_308 hN (by decide) rfl rfl rfl dX11_appendLine_17 ?_
        refine lv_aload_n hx hb dX11_appendLine_20 rfl (lv_at hl 0 rfl) ?_
        refine w_get (k := 0) (v := .ref ((B + 1) + 0)) hx hb hw hown hE fl_X11_12 hG (by decide) rfl rfl rfl dX11_appendLine_21 ?_
        refine w_get (k := 0) (v := .ref ((B + 1) + 10)) hx hb hw hown hE fl_X11_424 hN (by decide) rfl rfl rfl dX11_appendLine_24 ?_
        refine lv_iload_n hx hb dX11_appendLine_27 rfl (lv_at hl 2 rfl) ?_
        obtain ⟨h2, hf⟩ := gd_some hf
        have hk8 : k9 < 8 := by
          have h9 := inb_lt h2
          rw [hz9, nI_clamp (by omega)] at h9
          exact h9
        have hz8 : z.1 + 1 = nI (k9 + 1) := by rw [hz9]; exact nI_add k9 1
        refine w_iald (k := 10) (x9 := z.1.toNatClampNeg) hx hb hE hN (by decide) rfl rfl h2 dX11_appendLine_28 ?_
        obtain ⟨h3, hf⟩ := gd_some hf
        refine w_aald (k := 1) (j := 0) (x9 := (N 10 z.1.toNatClampNeg).toNatClampNeg) hx hb hE hN (by decide) rfl rfl rfl h3 dX11_appendLine_29 ?_
        refine lv_astore_n (lv' := [(3, .ref ((B + 1) + (2 + 1 * (N 10 z.1.toNatClampNeg).toNatClampNeg))), (0, .ref (B + 0)), (1, .int a1), (2, .int z.1)]) hx hb dX11_appendLine_30 rfl hl (by decide) rfl (fun ls hl => ?_)
        refine lv_aload_n hx hb dX11_appendLine_31 rfl (lv_at hl 0 rfl) ?_
        refine w_get (k := (2 + 1 * (N 10 z.1.toNatClampNeg).toNatClampNeg)) (v := .int (N (2 + 1 * (N 10 z.1.toNatClampNeg).toNatClampNeg) 5)) hx hb hw hown hE fl_X11_162 hN (stn_lt (stn_ld h3)) (stn_sh (stn_ld h3)) rfl rfl dX11_appendLine_32 ?_
        refine lv_iload_n hx hb dX11_appendLine_35 rfl (lv_at hl 2 rfl) ?_
        refine lv_icmp_ne (tgt := 54) hx hb dX11_appendLine_36 (by decide) (fun c4 => ?_) (fun c4 => ?_)
        · rw [if_neg c4] at hf
          refine lv_iinc (v := (z.1 + 1)) (lv' := [(2, .int (z.1 + 1)), (3, .ref ((B + 1) + (2 + 1 * (N 10 z.1.toNatClampNeg).toNatClampNeg))), (0, .ref (B + 0)), (1, .int a1)]) hx hb dX11_appendLine_54 hl (k := 3) rfl rfl (by decide) rfl (fun ls hl => ?_)
          refine lv_goto (tgt := 2) hx hb dX11_appendLine_57 (by decide) ?_
          refine W.widen (k := 3 * (k9 + 1)) (n := 102 * (k9 + 1)) (by omega) (by omega) ?_
          exact ih ((z.1 + 1), z.2) (lp_back hy (Option.some.inj hf).symm) (k9 + 1) hk8 hz8 _ _ _ hG hN hSb hS (lv_sub hl [2, 3, 0] rfl)
        · rw [if_pos c4] at hf
          refine lv_aload_n hx hb dX11_appendLine_39 rfl (lv_at hl 1 rfl) ?_
          refine w_get (k := 0) (v := .ref ((B + 200) + 0)) hx hb hw hown hE fl_X11_50 hG (by decide) rfl rfl rfl dX11_appendLine_40 ?_
          refine lv_bipush (v := 60) hx hb dX11_appendLine_43 (by decide) ?_
          obtain ⟨z5, hc6, hf⟩ := br_some hf
          refine mu_cV (As := [.int 60]) (rest := []) hx hb hml hown hts hE (mJ4_append_cf468 l E B0 (B + 200) L0 (by omega) (by omega) z.2 (60 : Int32) z5 hc6) cv_X11_292 (SBt.recv hE hSb) hSb hS hAB (fun _ h => h) rfl hl.1 rfl (by decide) (Nat.le_of_ble_eq_true rfl) ⟨by omega, by omega⟩ dX11_appendLine_45 (fun H locs hSb hz hu hS => ?_)
          have hG := Blk.off hG hu (iv_sb_dis (by omega) (by omega))
          have hN := Blk.off hN hu (iv_sb_dis (by omega) (by omega))
          refine lv_pop hx hb dX11_appendLine_48 rfl ?_
          refine lv_aload_n hx hb dX11_appendLine_49 rfl (lv_at hl 1 rfl) ?_
          refine lv_aload_n hx hb dX11_appendLine_50 rfl (lv_at hl 0 rfl) ?_
          obtain ⟨z7, hc8, hf⟩ := br_some hf
          refine mu_cV (As := [.ref ((B + 1) + (2 + 1 * (N 10 z.1.toNatClampNeg).toNatClampNeg))]) (rest := []) hx hb hml hown hts hE (mX11_appendSign l E B0 B L0 (by omega) (by omega) G N z5 (2 + 1 * (N 10 z.1.toNatClampNeg).toNatClampNeg) z7 hc8) cv_X11_288 (w_recv (k := 0) (ci := 11) hE hG (by decide) rfl rfl) ⟨hG, hN, hSb⟩ hS hAB (fun _ h => h) rfl hl.1 rfl (by decide) (Nat.le_of_ble_eq_true rfl) ⟨by omega, by omega⟩ dX11_appendLine_51 (fun H locs hP9 hz hu hS => ?_)
          obtain ⟨hG, hN, hSb⟩ := hP9
          refine lv_iinc (v := (z.1 + 1)) (lv' := [(2, .int (z.1 + 1)), (3, .ref ((B + 1) + (2 + 1 * (N 10 z.1.toNatClampNeg).toNatClampNeg))), (0, .ref (B + 0)), (1, .int a1)]) hx hb dX11_appendLine_54 hl (k := 3) rfl rfl (by decide) rfl (fun ls hl => ?_)
          refine lv_goto (tgt := 2) hx hb dX11_appendLine_57 (by decide) ?_
          refine W.widen (k := 3 * (k9 + 1)) (n := 102 * (k9 + 1)) (by omega) (by omega) ?_
          exact ih ((z.1 + 1), z7) (lp_back hy (Option.some.inj hf).symm) (k9 + 1) hk8 hz8 _ _ _ hG hN hSb hS (lv_sub hl [2, 3, 0] rfl)
  refine lv_iconst (v := 0) hx hb dX11_appendLine_0 (by decide) ?_
  refine lv_istore_n (lv' := [(2, .int 0), (0, .ref (B + 0)), (1, .int a1)]) hx hb dX11_appendLine_1 rfl hl (by decide) rfl (fun ls hl => ?_)
  obtain ⟨fu, hfu⟩ := lp_some hf
  exact (loop fu (0, Sb) hfu) 0 (by omega) rfl _ _ _ hG hN hSb hS (lv_sub hl [1, 2, 0] rfl)
