/-! ===== the reference, laid by program ===== -/
def fX12_thrown (N : Mem) : Option (Int32) := some (N 0 4)
set_option maxHeartbeats 4000000 in
set_option maxRecDepth 100000 in
theorem mX12_thrown (l : Launch) (E : EP) (B0 : Nat) (b : Nat) (hb0 : B0 ≤ b) (N : Mem) (r : Int32) (hf : fX12_thrown N = some r) : MU l E B0 yX12_thrown cX12_thrown 1 (some .int) 0 0 0 [.ref (b + 0)] (Blk E b modSh 10 N) (some (.int r)) (Blk E b modSh 10 N) nv := by
  refine mu_of (by decide +kernel) (Nat.le_of_ble_eq_true rfl) ?_
  intro p e s m args below meth c hx hb hml hown hts hrt hlocks hE H hN hS ls hl
  have hown : s.vm.findClass RX12 = some m.cls := hown
  have hl : lv_has ls 1 [(0, .ref (b + 0))] := hl
  have hw : ∀ w ∈ WA, w.before args s = true := fun w h => hts w (List.mem_cons_of_mem _ h)
  have hAB : ∀ q, nv q → B0 ≤ q := fun _ h => h.elim
  unfold fX12_thrown at hf
  refine lv_aload_n hx hb dX12_thrown_0 rfl (lv_at hl 0 rfl) ?_
  refine w_get (k := 0) (v := .int (N 0 4)) hx hb hw hown hE fl_X12_22 hN (by decide) rfl rfl rfl dX12_thrown_1 ?_
  have hre := Option.some.inj hf
  subst hre
  exact mu_i hx hb hrt hlocks hN hS dX12_thrown_4
def fX12_in (a1 : Int32) (a2 : Int32) (a3 : Int32) : Option (Int32) := (if a1 < a2 then some 0 else (if a3 < a1 then some 0 else some 1))
set_option maxHeartbeats 4000000 in
set_option maxRecDepth 100000 in
theorem mX12_in (l : Launch) (E : EP) (B0 : Nat) (a1 : Int32) (a2 : Int32) (a3 : Int32) (r : Int32) (hf : fX12_in a1 a2 a3 = some r) : MU l E B0 yX12_in cX12_in 3 (some .boolean) 0 0 0 [.int a1, .int a2, .int a3] (fun _ => True) (some (.int r)) (fun _ => True) nv := by
  refine mu_of (by decide +kernel) (Nat.le_of_ble_eq_true rfl) ?_
  intro p e s m args below meth c hx hb hml hown hts hrt hlocks hE H _ hS ls hl
  have hown : s.vm.findClass RX12 = some m.cls := hown
  have hl : lv_has ls 3 [(0, .int a1), (1, .int a2), (2, .int a3)] := hl
  have hw : ∀ w ∈ WA, w.before args s = true := fun w h => hts w (List.mem_cons_of_mem _ h)
  have hAB : ∀ q, nv q → B0 ≤ q := fun _ h => h.elim
  unfold fX12_in at hf
  refine lv_iload_n hx hb dX12_in_0 rfl (lv_at hl 0 rfl) ?_
  refine lv_iload_n hx hb dX12_in_1 rfl (lv_at hl 1 rfl) ?_
  refine lv_icmp_lt (tgt := 14) hx hb dX12_in_2 (by decide) (fun c1 => ?_) (fun c1 => ?_)
  · rw [if_pos c1] at hf
    refine lv_iconst (v := 0) hx hb dX12_in_14 (by decide) ?_
    have hre := Option.some.inj hf
    subst hre
    exact mu_z hx hb hrt rfl hlocks trivial hS dX12_in_15
  · rw [if_neg c1] at hf
    refine lv_iload_n hx hb dX12_in_5 rfl (lv_at hl 0 rfl) ?_
    refine lv_iload_n hx hb dX12_in_6 rfl (lv_at hl 2 rfl) ?_
    refine lv_icmp_gt (tgt := 14) hx hb dX12_in_7 (by decide) (fun c2 => ?_) (fun c2 => ?_)
    · rw [if_pos c2] at hf
      refine lv_iconst (v := 0) hx hb dX12_in_14 (by decide) ?_
      have hre := Option.some.inj hf
      subst hre
      exact mu_z hx hb hrt rfl hlocks trivial hS dX12_in_15
    · rw [if_neg c2] at hf
      refine lv_iconst (v := 1) hx hb dX12_in_10 (by decide) ?_
      refine lv_goto (tgt := 15) hx hb dX12_in_11 (by decide) ?_
      have hre := Option.some.inj hf
      subst hre
      exact mu_z hx hb hrt rfl hlocks trivial hS dX12_in_15
def fX12_copy_s (k1 n1 : Nat) (a2 : Int32) (k3 n3 : Nat) (a4 : Int32) (z : Int32 × Mem) : Option ((Int32 × Mem) ⊕ (Mem)) := (if (160 : Int32) ≤ z.1 then some (.inr z.2) else gd (inb (a2 + z.1) n1) (gd (inb (a4 + z.1) n3) (some (.inl ((z.1 + 1), (up2 z.2 k3 ((a4 + z.1).toNatClampNeg) (z.2 k1 ((a2 + z.1).toNatClampNeg))))))))
noncomputable def fX12_copy (N : Mem) (k1 n1 : Nat) (a2 : Int32) (k3 n3 : Nat) (a4 : Int32) : Option (Mem) := gd (arrok k1 n1) (gd (arrok k3 n3) (lp (fX12_copy_s k1 n1 a2 k3 n3 a4) (0, N)))
set_option maxHeartbeats 4000000 in
set_option maxRecDepth 100000 in
theorem mX12_copy (l : Launch) (E : EP) (B0 : Nat) (b : Nat) (hb0 : B0 ≤ b) (N : Mem) (k1 n1 : Nat) (a2 : Int32) (k3 n3 : Nat) (a4 : Int32) (r : Mem) (hf : fX12_copy N k1 n1 a2 k3 n3 a4 = some r) : MU l E B0 yX12_copy cX12_copy 5 none 0 0 0 [.ref (b + k1), .int a2, .ref (b + k3), .int a4] (Blk E b modSh 10 N) none (Blk E b modSh 10 r) (iv b 10) := by
  refine mu_of (by decide +kernel) (Nat.le_of_ble_eq_true rfl) ?_
  intro p e s m args below meth c hx hb hml hown hts hrt hlocks hE H hN hS ls hl
  have hown : s.vm.findClass RX12 = some m.cls := hown
  have hl : lv_has ls 5 [(0, .ref (b + k1)), (1, .int a2), (2, .ref (b + k3)), (3, .int a4)] := hl
  have hw : ∀ w ∈ WA, w.before args s = true := fun w h => hts w (List.mem_cons_of_mem _ h)
  have hAB : ∀ q, (iv b 10) q → B0 ≤ q := fun q h => Nat.le_trans hb0 h.1
  unfold fX12_copy at hf
  obtain ⟨g1, hf⟩ := gd_some hf
  obtain ⟨g3, hf⟩ := gd_some hf
  have loop : ∀ (fu : Nat) (z : Int32 × Mem), lpI (fX12_copy_s k1 n1 a2 k3 n3 a4) fu z = some r → (∀ (H : Heap) (locs : List Loc) (ls : Array Slot), Blk E b modSh 10 z.2 H → va_S (iv b 10) s.heap H locs → lv_has ls 5 [(0, .ref (b + k1)), (1, .int a2), (2, .ref (b + k3)), (3, .int a4), (4, .int z.1)] → W p l e (rmD 0 0 0) s m args below meth c H locs 0 0 (MQ below (QU none (Blk E b modSh 10 r) (iv b 10)) args s 0 0 (iv b 10)) (F0 m 3 ls [])) := by
    intro fu
    induction fu with
    | zero =>
      intro z hn
      exact nomatch hn
    | succ fu ih =>
      intro z hn
      obtain ⟨y, hf, hy⟩ := lpI_succ hn
      intro H locs ls hN hS hl
      unfold fX12_copy_s at hf
      refine lv_iload hx hb dX12_copy_3 (lv_at hl 4 rfl) ?_
      refine lv_sipush (v := 160) hx hb dX12_copy_5 (by decide) ?_
      refine lv_icmp_ge (tgt := 29) hx hb dX12_copy_8 (by decide) (fun c1 => ?_) (fun c1 => ?_)
      · rw [if_pos c1] at hf
        have hre := lp_end hy (Option.some.inj hf).symm
        subst hre
        exact mu_v hx hb hrt hlocks hN hS dX12_copy_29
      · rw [if_neg c1] at hf
        refine lv_aload_n hx hb dX12_copy_11 rfl (lv_at hl 2 rfl) ?_
        refine lv_iload_n hx hb dX12_copy_12 rfl (lv_at hl 3 rfl) ?_
        refine lv_iload hx hb dX12_copy_13 (lv_at hl 4 rfl) ?_
        refine lv_iadd hx hb dX12_copy_15 ?_
        refine lv_aload_n hx hb dX12_copy_16 rfl (lv_at hl 0 rfl) ?_
        refine lv_iload_n hx hb dX12_copy_17 rfl (lv_at hl 1 rfl) ?_
        refine lv_iload hx hb dX12_copy_18 (lv_at hl 4 rfl) ?_
        refine lv_iadd hx hb dX12_copy_20 ?_
        obtain ⟨h2, hf⟩ := gd_some hf
        refine w_iald (k := k1) (x9 := (a2 + z.1).toNatClampNeg) hx hb hE hN (arrok_lt g1) (arrok_sh g1) rfl h2 dX12_copy_21 ?_
        obtain ⟨h3, hf⟩ := gd_some hf
        refine w_iast (k := k3) (x9 := (a4 + z.1).toNatClampNeg) (x := (z.2 k1 ((a2 + z.1).toNatClampNeg))) hx hb hE hN (arrok_lt g3) (arrok_sh g3) rfl h3 hS (iv_mem (arrok_lt g3)) dX12_copy_22 (fun H locs hN _ _ hS => ?_)
        refine lv_iinc (v := (z.1 + 1)) (lv' := [(4, .int (z.1 + 1)), (0, .ref (b + k1)), (1, .int a2), (2, .ref (b + k3)), (3, .int a4)]) hx hb dX12_copy_23 hl (k := 4) rfl rfl (by decide) rfl (fun ls hl => ?_)
        refine lv_goto (tgt := 3) hx hb dX12_copy_26 (by decide) ?_
        exact ih ((z.1 + 1), (up2 z.2 k3 ((a4 + z.1).toNatClampNeg) (z.2 k1 ((a2 + z.1).toNatClampNeg)))) (lp_back hy (Option.some.inj hf).symm) _ _ _ hN hS (lv_sub hl [1, 2, 3, 4, 0] rfl)
  refine lv_iconst (v := 0) hx hb dX12_copy_0 (by decide) ?_
  refine lv_istore (lv' := [(4, .int 0), (0, .ref (b + k1)), (1, .int a2), (2, .ref (b + k3)), (3, .int a4)]) hx hb dX12_copy_1 hl (by decide) rfl (fun ls hl => ?_)
  obtain ⟨fu, hfu⟩ := lp_some hf
  exact (loop fu (0, N) hfu) _ _ _ hN hS (lv_sub hl [1, 2, 3, 4, 0] rfl)
def fX12_fail (N : Mem) (a1 : Int32) : Option (Int32 × Mem) := some (0, (up2 N 0 4 a1))
set_option maxHeartbeats 4000000 in
set_option maxRecDepth 100000 in
theorem mX12_fail (l : Launch) (E : EP) (B0 : Nat) (b : Nat) (hb0 : B0 ≤ b) (N : Mem) (a1 : Int32) (r : Int32 × Mem) (hf : fX12_fail N a1 = some r) : MU l E B0 yX12_fail cX12_fail 2 (some .int) 0 0 0 [.ref (b + 0), .int a1] (Blk E b modSh 10 N) (some (.int r.1)) (Blk E b modSh 10 r.2) (iv b 10) := by
  refine mu_of (by decide +kernel) (Nat.le_of_ble_eq_true rfl) ?_
  intro p e s m args below meth c hx hb hml hown hts hrt hlocks hE H hN hS ls hl
  have hown : s.vm.findClass RX12 = some m.cls := hown
  have hl : lv_has ls 2 [(0, .ref (b + 0)), (1, .int a1)] := hl
  have hw : ∀ w ∈ WA, w.before args s = true := fun w h => hts w (List.mem_cons_of_mem _ h)
  have hAB : ∀ q, (iv b 10) q → B0 ≤ q := fun q h => Nat.le_trans hb0 h.1
  unfold fX12_fail at hf
  refine lv_aload_n hx hb dX12_fail_0 rfl (lv_at hl 0 rfl) ?_
  refine lv_iload_n hx hb dX12_fail_1 rfl (lv_at hl 1 rfl) ?_
  refine w_put (k := 0) (v := .int a1) hx hb hw hown hE fl_X12_22 fw_X12_4 hN (by decide) rfl rfl a1 rfl rfl rfl hS (iv_mem (by decide)) dX12_fail_2 (fun H locs hN _ _ hS => ?_)
  refine lv_iconst (v := 0) hx hb dX12_fail_5 (by decide) ?_
  have hre := Option.some.inj hf
  subst hre
  exact mu_i hx hb hrt hlocks hN hS dX12_fail_6
noncomputable def fX12_begin (N : Mem) : Option (Mem) := (fX12_copy (up2 N 0 4 (0 : Int32)) 1 160 (0 : Int32) 2 160 (0 : Int32)).bind fun z1 => some z1
set_option maxHeartbeats 4000000 in
set_option maxRecDepth 100000 in
theorem mX12_begin (l : Launch) (E : EP) (B0 : Nat) (b : Nat) (hb0 : B0 ≤ b) (N : Mem) (r : Mem) (hf : fX12_begin N = some r) : MU l E B0 yX12_begin cX12_begin 1 none 1 0 0 [.ref (b + 0)] (Blk E b modSh 10 N) none (Blk E b modSh 10 r) (iv b 10) := by
  refine mu_of (by decide +kernel) (Nat.le_of_ble_eq_true rfl) ?_
  intro p e s m args below meth c hx hb hml hown hts hrt hlocks hE H hN hS ls hl
  have hown : s.vm.findClass RX12 = some m.cls := hown
  have hl : lv_has ls 1 [(0, .ref (b + 0))] := hl
  have hw : ∀ w ∈ WA, w.before args s = true := fun w h => hts w (List.mem_cons_of_mem _ h)
  have hAB : ∀ q, (iv b 10) q → B0 ≤ q := fun q h => Nat.le_trans hb0 h.1
  unfold fX12_begin at hf
  refine lv_aload_n hx hb dX12_begin_0 rfl (lv_at hl 0 rfl) ?_
  refine lv_iconst (v := 0) hx hb dX12_begin_1 (by decide) ?_
  refine w_put (k := 0) (v := .int 0) hx hb hw hown hE fl_X12_22 fw_X12_4 hN (by decide) rfl rfl (0 : Int32) rfl rfl rfl hS (iv_mem (by decide)) dX12_begin_2 (fun H locs hN _ _ hS => ?_)
  refine lv_aload_n hx hb dX12_begin_5 rfl (lv_at hl 0 rfl) ?_
  refine w_get (k := 0) (v := .ref (b + 1)) hx hb hw hown hE fl_X12_7 hN (by decide) rfl rfl rfl dX12_begin_6 ?_
  refine lv_iconst (v := 0) hx hb dX12_begin_9 (by decide) ?_
  refine lv_aload_n hx hb dX12_begin_10 rfl (lv_at hl 0 rfl) ?_
  refine w_get (k := 0) (v := .ref (b + 2)) hx hb hw hown hE fl_X12_13 hN (by decide) rfl rfl rfl dX12_begin_11 ?_
  refine lv_iconst (v := 0) hx hb dX12_begin_14 (by decide) ?_
  obtain ⟨z1, hc2, hf⟩ := br_some hf
  refine mu_cS (As := [.ref (b + 1), .int 0, .ref (b + 2), .int 0]) (rest := []) hx hb hml hown hts hE (mX12_copy l E B0 b hb0 (up2 N 0 4 (0 : Int32)) 1 160 (0 : Int32) 2 160 (0 : Int32) z1 hc2) cs_X12_72 rfl hN hS hAB (fun _ h => h) rfl hl.1 rfl (by decide) (Nat.le_of_ble_eq_true rfl) ⟨Nat.le_refl _, Nat.le_refl _⟩ dX12_begin_15 (fun H locs hN _ _ hS => ?_)
  have hre := Option.some.inj hf
  subst hre
  exact mu_v hx hb hrt hlocks hN hS dX12_begin_18
noncomputable def fX12_commit_s (a1 : Int32) (z : Int32 × Mem) : Option ((Int32 × Mem) ⊕ (Int32 × Mem)) := (if (8 : Int32) ≤ z.1 then (fX12_copy (up2 z.2 0 5 ((z.2 0 5) - 1)) 2 160 (0 : Int32) 4 1280 ((160 : Int32) * ((up2 z.2 0 5 ((z.2 0 5) - 1)) 0 5))).bind fun z2 => some (.inr (a1, (up2 z2 0 5 ((z2 0 5) + 1)))) else (fX12_copy z.2 4 1280 ((160 : Int32) * z.1) 4 1280 ((160 : Int32) * (z.1 - 1))).bind fun z4 => some (.inl ((z.1 + 1), z4)))
noncomputable def fX12_commit (N : Mem) (a1 : Int32) : Option (Int32 × Mem) := (if (N 0 5) = (8 : Int32) then lp (fX12_commit_s a1) (1, N) else (fX12_copy N 2 160 (0 : Int32) 4 1280 ((160 : Int32) * (N 0 5))).bind fun z7 => some (a1, (up2 z7 0 5 ((z7 0 5) + 1))))
set_option maxHeartbeats 4000000 in
set_option maxRecDepth 100000 in
theorem mX12_commit (l : Launch) (E : EP) (B0 : Nat) (b : Nat) (hb0 : B0 ≤ b) (N : Mem) (a1 : Int32) (r : Int32 × Mem) (hf : fX12_commit N a1 = some r) : MU l E B0 yX12_commit cX12_commit 3 (some .int) 1 0 0 [.ref (b + 0), .int a1] (Blk E b modSh 10 N) (some (.int r.1)) (Blk E b modSh 10 r.2) (iv b 10) := by
  refine mu_of (by decide +kernel) (Nat.le_of_ble_eq_true rfl) ?_
  intro p e s m args below meth c hx hb hml hown hts hrt hlocks hE H hN hS ls hl
  have hown : s.vm.findClass RX12 = some m.cls := hown
  have hl : lv_has ls 3 [(0, .ref (b + 0)), (1, .int a1)] := hl
  have hw : ∀ w ∈ WA, w.before args s = true := fun w h => hts w (List.mem_cons_of_mem _ h)
  have hAB : ∀ q, (iv b 10) q → B0 ≤ q := fun q h => Nat.le_trans hb0 h.1
  unfold fX12_commit at hf
  have loop : ∀ (fu : Nat) (z : Int32 × Mem), lpI (fX12_commit_s a1) fu z = some r → (∀ (H : Heap) (locs : List Loc) (ls : Array Slot), Blk E b modSh 10 z.2 H → va_S (iv b 10) s.heap H locs → lv_has ls 3 [(0, .ref (b + 0)), (1, .int a1), (2, .int z.1)] → W p l e (rmD 1 0 0) s m args below meth c H locs 0 0 (MQ below (QU (some (.int r.1)) (Blk E b modSh 10 r.2) (iv b 10)) args s 0 0 (iv b 10)) (F0 m 11 ls [])) := by
    intro fu
    induction fu with
    | zero =>
      intro z hn
      exact nomatch hn
    | succ fu ih =>
      intro z hn
      obtain ⟨y, hf, hy⟩ := lpI_succ hn
      intro H locs ls hN hS hl
      unfold fX12_commit_s at hf
      refine lv_iload_n hx hb dX12_commit_11 rfl (lv_at hl 2 rfl) ?_
      refine lv_bipush (v := 8) hx hb dX12_commit_12 (by decide) ?_
      refine lv_icmp_ge (tgt := 46) hx hb dX12_commit_14 (by decide) (fun c1 => ?_) (fun c1 => ?_)
      · rw [if_pos c1] at hf
        refine lv_aload_n hx hb dX12_commit_46 rfl (lv_at hl 0 rfl) ?_
        refine lv_dup hx hb dX12_commit_47 rfl ?_
        refine w_get (k := 0) (v := .int (z.2 0 5)) hx hb hw hown hE fl_X12_26 hN (by decide) rfl rfl rfl dX12_commit_48 ?_
        refine lv_iconst (v := 1) hx hb dX12_commit_51 (by decide) ?_
        refine lv_isub hx hb dX12_commit_52 ?_
        refine w_put (k := 0) (v := .int ((z.2 0 5) - 1)) hx hb hw hown hE fl_X12_26 fw_X12_5 hN (by decide) rfl rfl ((z.2 0 5) - 1) rfl rfl rfl hS (iv_mem (by decide)) dX12_commit_53 (fun H locs hN _ _ hS => ?_)
        refine lv_aload_n hx hb dX12_commit_56 rfl (lv_at hl 0 rfl) ?_
        refine w_get (k := 0) (v := .ref (b + 2)) hx hb hw hown hE fl_X12_13 hN (by decide) rfl rfl rfl dX12_commit_57 ?_
        refine lv_iconst (v := 0) hx hb dX12_commit_60 (by decide) ?_
        refine lv_aload_n hx hb dX12_commit_61 rfl (lv_at hl 0 rfl) ?_
        refine w_get (k := 0) (v := .ref (b + 4)) hx hb hw hown hE fl_X12_19 hN (by decide) rfl rfl rfl dX12_commit_62 ?_
        refine lv_sipush (v := 160) hx hb dX12_commit_65 (by decide) ?_
        refine lv_aload_n hx hb dX12_commit_68 rfl (lv_at hl 0 rfl) ?_
        refine w_get (k := 0) (v := .int ((up2 z.2 0 5 ((z.2 0 5) - 1)) 0 5)) hx hb hw hown hE fl_X12_26 hN (by decide) rfl rfl rfl dX12_commit_69 ?_
        refine lv_imul hx hb dX12_commit_72 ?_
        obtain ⟨z2, hc3, hf⟩ := br_some hf
        refine mu_cS (As := [.ref (b + 2), .int 0, .ref (b + 4), .int ((160 : Int32) * ((up2 z.2 0 5 ((z.2 0 5) - 1)) 0 5))]) (rest := []) hx hb hml hown hts hE (mX12_copy l E B0 b hb0 (up2 z.2 0 5 ((z.2 0 5) - 1)) 2 160 (0 : Int32) 4 1280 ((160 : Int32) * ((up2 z.2 0 5 ((z.2 0 5) - 1)) 0 5)) z2 hc3) cs_X12_72 rfl hN hS hAB (fun _ h => h) rfl hl.1 rfl (by decide) (Nat.le_of_ble_eq_true rfl) ⟨Nat.le_refl _, Nat.le_refl _⟩ dX12_commit_73 (fun H locs hN _ _ hS => ?_)
        refine lv_aload_n hx hb dX12_commit_76 rfl (lv_at hl 0 rfl) ?_
        refine lv_dup hx hb dX12_commit_77 rfl ?_
        refine w_get (k := 0) (v := .int (z2 0 5)) hx hb hw hown hE fl_X12_26 hN (by decide) rfl rfl rfl dX12_commit_78 ?_
        refine lv_iconst (v := 1) hx hb dX12_commit_81 (by decide) ?_
        refine lv_iadd hx hb dX12_commit_82 ?_
        refine w_put (k := 0) (v := .int ((z2 0 5) + 1)) hx hb hw hown hE fl_X12_26 fw_X12_5 hN (by decide) rfl rfl ((z2 0 5) + 1) rfl rfl rfl hS (iv_mem (by decide)) dX12_commit_83 (fun H locs hN _ _ hS => ?_)
        refine lv_iload_n hx hb dX12_commit_86 rfl (lv_at hl 1 rfl) ?_
        have hre := lp_end hy (Option.some.inj hf).symm
        subst hre
        exact mu_i hx hb hrt hlocks hN hS dX12_commit_87
      · rw [if_neg c1] at hf
        refine lv_aload_n hx hb dX12_commit_17 rfl (lv_at hl 0 rfl) ?_
        refine w_get (k := 0) (v := .ref (b + 4)) hx hb hw hown hE fl_X12_19 hN (by decide) rfl rfl rfl dX12_commit_18 ?_
        refine lv_sipush (v := 160) hx hb dX12_commit_21 (by decide) ?_
        refine lv_iload_n hx hb dX12_commit_24 rfl (lv_at hl 2 rfl) ?_
        refine lv_imul hx hb dX12_commit_25 ?_
        refine lv_aload_n hx hb dX12_commit_26 rfl (lv_at hl 0 rfl) ?_
        refine w_get (k := 0) (v := .ref (b + 4)) hx hb hw hown hE fl_X12_19 hN (by decide) rfl rfl rfl dX12_commit_27 ?_
        refine lv_sipush (v := 160) hx hb dX12_commit_30 (by decide) ?_
        refine lv_iload_n hx hb dX12_commit_33 rfl (lv_at hl 2 rfl) ?_
        refine lv_iconst (v := 1) hx hb dX12_commit_34 (by decide) ?_
        refine lv_isub hx hb dX12_commit_35 ?_
        refine lv_imul hx hb dX12_commit_36 ?_
        obtain ⟨z4, hc5, hf⟩ := br_some hf
        refine mu_cS (As := [.ref (b + 4), .int ((160 : Int32) * z.1), .ref (b + 4), .int ((160 : Int32) * (z.1 - 1))]) (rest := []) hx hb hml hown hts hE (mX12_copy l E B0 b hb0 z.2 4 1280 ((160 : Int32) * z.1) 4 1280 ((160 : Int32) * (z.1 - 1)) z4 hc5) cs_X12_72 rfl hN hS hAB (fun _ h => h) rfl hl.1 rfl (by decide) (Nat.le_of_ble_eq_true rfl) ⟨Nat.le_refl _, Nat.le_refl _⟩ dX12_commit_37 (fun H locs hN _ _ hS => ?_)
        refine lv_iinc (v := (z.1 + 1)) (lv' := [(2, .int (z.1 + 1)), (0, .ref (b + 0)), (1, .int a1)]) hx hb dX12_commit_40 hl (k := 2) rfl rfl (by decide) rfl (fun ls hl => ?_)
        refine lv_goto (tgt := 11) hx hb dX12_commit_43 (by decide) ?_
        exact ih ((z.1 + 1), z4) (lp_back hy (Option.some.inj hf).symm) _ _ _ hN hS (lv_sub hl [1, 2, 0] rfl)
  refine lv_aload_n hx hb dX12_commit_0 rfl (lv_at hl 0 rfl) ?_
  refine w_get (k := 0) (v := .int (N 0 5)) hx hb hw hown hE fl_X12_26 hN (by decide) rfl rfl rfl dX12_commit_1 ?_
  refine lv_bipush (v := 8) hx hb dX12_commit_4 (by decide) ?_
  refine lv_icmp_ne (tgt := 56) hx hb dX12_commit_6 (by decide) (fun c6 => ?_) (fun c6 => ?_)
  · rw [if_neg c6] at hf
    refine lv_aload_n hx hb dX12_commit_56 rfl (lv_at hl 0 rfl) ?_
    refine w_get (k := 0) (v := .ref (b + 2)) hx hb hw hown hE fl_X12_13 hN (by decide) rfl rfl rfl dX12_commit_57 ?_
    refine lv_iconst (v := 0) hx hb dX12_commit_60 (by decide) ?_
    refine lv_aload_n hx hb dX12_commit_61 rfl (lv_at hl 0 rfl) ?_
    refine w_get (k := 0) (v := .ref (b + 4)) hx hb hw hown hE fl_X12_19 hN (by decide) rfl rfl rfl dX12_commit_62 ?_
    refine lv_sipush (v := 160) hx hb dX12_commit_65 (by decide) ?_
    refine lv_aload_n hx hb dX12_commit_68 rfl (lv_at hl 0 rfl) ?_
    refine w_get (k := 0) (v := .int (N 0 5)) hx hb hw hown hE fl_X12_26 hN (by decide) rfl rfl rfl dX12_commit_69 ?_
    refine lv_imul hx hb dX12_commit_72 ?_
    obtain ⟨z7, hc8, hf⟩ := br_some hf
    refine mu_cS (As := [.ref (b + 2), .int 0, .ref (b + 4), .int ((160 : Int32) * (N 0 5))]) (rest := []) hx hb hml hown hts hE (mX12_copy l E B0 b hb0 N 2 160 (0 : Int32) 4 1280 ((160 : Int32) * (N 0 5)) z7 hc8) cs_X12_72 rfl hN hS hAB (fun _ h => h) rfl hl.1 rfl (by decide) (Nat.le_of_ble_eq_true rfl) ⟨Nat.le_refl _, Nat.le_refl _⟩ dX12_commit_73 (fun H locs hN _ _ hS => ?_)
    refine lv_aload_n hx hb dX12_commit_76 rfl (lv_at hl 0 rfl) ?_
    refine lv_dup hx hb dX12_commit_77 rfl ?_
    refine w_get (k := 0) (v := .int (z7 0 5)) hx hb hw hown hE fl_X12_26 hN (by decide) rfl rfl rfl dX12_commit_78 ?_
    refine lv_iconst (v := 1) hx hb dX12_commit_81 (by decide) ?_
    refine lv_iadd hx hb dX12_commit_82 ?_
    refine w_put (k := 0) (v := .int ((z7 0 5) + 1)) hx hb hw hown hE fl_X12_26 fw_X12_5 hN (by decide) rfl rfl ((z7 0 5) + 1) rfl rfl rfl hS (iv_mem (by decide)) dX12_commit_83 (fun H locs hN _ _ hS => ?_)
    refine lv_iload_n hx hb dX12_commit_86 rfl (lv_at hl 1 rfl) ?_
    have hre := Option.some.inj hf
    subst hre
    exact mu_i hx hb hrt hlocks hN hS dX12_commit_87
  · rw [if_pos c6] at hf
    refine lv_iconst (v := 1) hx hb dX12_commit_9 (by decide) ?_
    refine lv_istore_n (lv' := [(2, .int 1), (0, .ref (b + 0)), (1, .int a1)]) hx hb dX12_commit_10 rfl hl (by decide) rfl (fun ls hl => ?_)
    obtain ⟨fu, hfu⟩ := lp_some hf
    exact (loop fu (1, N) hfu) _ _ _ hN hS (lv_sub hl [1, 2, 0] rfl)
def fX12_t (N : Mem) (a1 : Int32) (a2 : Int32) : Option (Int32) := gd (inb (((8 : Int32) + ((12 : Int32) * a1)) + a2) 160) (some (N 1 ((((8 : Int32) + ((12 : Int32) * a1)) + a2).toNatClampNeg)))
set_option maxHeartbeats 4000000 in
set_option maxRecDepth 100000 in
theorem mX12_t (l : Launch) (E : EP) (B0 : Nat) (b : Nat) (hb0 : B0 ≤ b) (N : Mem) (a1 : Int32) (a2 : Int32) (r : Int32) (hf : fX12_t N a1 a2 = some r) : MU l E B0 yX12_t cX12_t 3 (some .int) 0 0 0 [.ref (b + 0), .int a1, .int a2] (Blk E b modSh 10 N) (some (.int r)) (Blk E b modSh 10 N) nv := by
  refine mu_of (by decide +kernel) (Nat.le_of_ble_eq_true rfl) ?_
  intro p e s m args below meth c hx hb hml hown hts hrt hlocks hE H hN hS ls hl
  have hown : s.vm.findClass RX12 = some m.cls := hown
  have hl : lv_has ls 3 [(0, .ref (b + 0)), (1, .int a1), (2, .int a2)] := hl
  have hw : ∀ w ∈ WA, w.before args s = true := fun w h => hts w (List.mem_cons_of_mem _ h)
  have hAB : ∀ q, nv q → B0 ≤ q := fun _ h => h.elim
  unfold fX12_t at hf
  refine lv_aload_n hx hb dX12_t_0 rfl (lv_at hl 0 rfl) ?_
  refine w_get (k := 0) (v := .ref (b + 1)) hx hb hw hown hE fl_X12_7 hN (by decide) rfl rfl rfl dX12_t_1 ?_
  refine lv_bipush (v := 8) hx hb dX12_t_4 (by decide) ?_
  refine lv_bipush (v := 12) hx hb dX12_t_6 (by decide) ?_
  refine lv_iload_n hx hb dX12_t_8 rfl (lv_at hl 1 rfl) ?_
  refine lv_imul hx hb dX12_t_9 ?_
  refine lv_iadd hx hb dX12_t_10 ?_
  refine lv_iload_n hx hb dX12_t_11 rfl (lv_at hl 2 rfl) ?_
  refine lv_iadd hx hb dX12_t_12 ?_
  obtain ⟨h1, hf⟩ := gd_some hf
  refine w_iald (k := 1) (x9 := (((8 : Int32) + ((12 : Int32) * a1)) + a2).toNatClampNeg) hx hb hE hN (by decide) rfl rfl h1 dX12_t_13 ?_
  have hre := Option.some.inj hf
  subst hre
  exact mu_i hx hb hrt hlocks hN hS dX12_t_14
def fX12_set (N : Mem) (a1 : Int32) (a2 : Int32) (a3 : Int32) : Option (Mem) := gd (inb (((8 : Int32) + ((12 : Int32) * a1)) + a2) 160) (some (up2 N 1 ((((8 : Int32) + ((12 : Int32) * a1)) + a2).toNatClampNeg) a3))
set_option maxHeartbeats 4000000 in
set_option maxRecDepth 100000 in
theorem mX12_set (l : Launch) (E : EP) (B0 : Nat) (b : Nat) (hb0 : B0 ≤ b) (N : Mem) (a1 : Int32) (a2 : Int32) (a3 : Int32) (r : Mem) (hf : fX12_set N a1 a2 a3 = some r) : MU l E B0 yX12_set cX12_set 4 none 0 0 0 [.ref (b + 0), .int a1, .int a2, .int a3] (Blk E b modSh 10 N) none (Blk E b modSh 10 r) (iv b 10) := by
  refine mu_of (by decide +kernel) (Nat.le_of_ble_eq_true rfl) ?_
  intro p e s m args below meth c hx hb hml hown hts hrt hlocks hE H hN hS ls hl
  have hown : s.vm.findClass RX12 = some m.cls := hown
  have hl : lv_has ls 4 [(0, .ref (b + 0)), (1, .int a1), (2, .int a2), (3, .int a3)] := hl
  have hw : ∀ w ∈ WA, w.before args s = true := fun w h => hts w (List.mem_cons_of_mem _ h)
  have hAB : ∀ q, (iv b 10) q → B0 ≤ q := fun q h => Nat.le_trans hb0 h.1
  unfold fX12_set at hf
  refine lv_aload_n hx hb dX12_set_0 rfl (lv_at hl 0 rfl) ?_
  refine w_get (k := 0) (v := .ref (b + 1)) hx hb hw hown hE fl_X12_7 hN (by decide) rfl rfl rfl dX12_set_1 ?_
  refine lv_bipush (v := 8) hx hb dX12_set_4 (by decide) ?_
  refine lv_bipush (v := 12) hx hb dX12_set_6 (by decide) ?_
  refine lv_iload_n hx hb dX12_set_8 rfl (lv_at hl 1 rfl) ?_
  refine lv_imul hx hb dX12_set_9 ?_
  refine lv_iadd hx hb dX12_set_10 ?_
  refine lv_iload_n hx hb dX12_set_11 rfl (lv_at hl 2 rfl) ?_
  refine lv_iadd hx hb dX12_set_12 ?_
  refine lv_iload_n hx hb dX12_set_13 rfl (lv_at hl 3 rfl) ?_
  obtain ⟨h1, hf⟩ := gd_some hf
  refine w_iast (k := 1) (x9 := (((8 : Int32) + ((12 : Int32) * a1)) + a2).toNatClampNeg) (x := a3) hx hb hE hN (by decide) rfl rfl h1 hS (iv_mem (by decide)) dX12_set_14 (fun H locs hN _ _ hS => ?_)
  have hre := Option.some.inj hf
  subst hre
  exact mu_v hx hb hrt hlocks hN hS dX12_set_15
def fX12_isStation (N : Mem) (a1 : Int32) : Option (Int32) := (fX12_in a1 (0 : Int32) ((N 1 0) - 1)).bind fun z1 => gd (isZ z1) (some z1)
set_option maxHeartbeats 4000000 in
set_option maxRecDepth 100000 in
theorem mX12_isStation (l : Launch) (E : EP) (B0 : Nat) (b : Nat) (hb0 : B0 ≤ b) (N : Mem) (a1 : Int32) (r : Int32) (hf : fX12_isStation N a1 = some r) : MU l E B0 yX12_isStation cX12_isStation 2 (some .boolean) 1 0 0 [.ref (b + 0), .int a1] (Blk E b modSh 10 N) (some (.int r)) (Blk E b modSh 10 N) nv := by
  refine mu_of (by decide +kernel) (Nat.le_of_ble_eq_true rfl) ?_
  intro p e s m args below meth c hx hb hml hown hts hrt hlocks hE H hN hS ls hl
  have hown : s.vm.findClass RX12 = some m.cls := hown
  have hl : lv_has ls 2 [(0, .ref (b + 0)), (1, .int a1)] := hl
  have hw : ∀ w ∈ WA, w.before args s = true := fun w h => hts w (List.mem_cons_of_mem _ h)
  have hAB : ∀ q, nv q → B0 ≤ q := fun _ h => h.elim
  unfold fX12_isStation at hf
  refine lv_iload_n hx hb dX12_isStation_0 rfl (lv_at hl 1 rfl) ?_
  refine lv_iconst (v := 0) hx hb dX12_isStation_1 (by decide) ?_
  refine lv_aload_n hx hb dX12_isStation_2 rfl (lv_at hl 0 rfl) ?_
  refine w_get (k := 0) (v := .ref (b + 1)) hx hb hw hown hE fl_X12_7 hN (by decide) rfl rfl rfl dX12_isStation_3 ?_
  refine lv_iconst (v := 0) hx hb dX12_isStation_6 (by decide) ?_
  refine w_iald (k := 1) (x9 := 0) hx hb hE hN (by decide) rfl (by decide) (by decide) dX12_isStation_7 ?_
  refine lv_iconst (v := 1) hx hb dX12_isStation_8 (by decide) ?_
  refine lv_isub hx hb dX12_isStation_9 ?_
  obtain ⟨z1, hc2, hf⟩ := br_some hf
  refine mu_cS (As := [.int a1, .int 0, .int ((N 1 0) - 1)]) (rest := []) hx hb hml hown hts hE (mX12_in l E B0 a1 (0 : Int32) ((N 1 0) - 1) z1 hc2) cs_X12_76 rfl trivial hS hAB (fun _ h => h.elim) rfl hl.1 rfl (by decide) (Nat.le_of_ble_eq_true rfl) ⟨Nat.le_refl _, Nat.le_refl _⟩ dX12_isStation_10 (fun H locs _ _ hu hS => ?_)
  have hN := Blk.still hN hu
  obtain ⟨h3, hf⟩ := gd_some hf
  have hre := Option.some.inj hf
  subst hre
  exact mu_z hx hb hrt (isZ_n h3) hlocks hN hS dX12_isStation_13
def fX12_isChannel (a1 : Int32) : Option (Int32) := (fX12_in a1 (0 : Int32) (9 : Int32)).bind fun z1 => gd (isZ z1) (some z1)
set_option maxHeartbeats 4000000 in
set_option maxRecDepth 100000 in
theorem mX12_isChannel (l : Launch) (E : EP) (B0 : Nat) (a1 : Int32) (r : Int32) (hf : fX12_isChannel a1 = some r) : MU l E B0 yX12_isChannel cX12_isChannel 1 (some .boolean) 1 0 0 [.int a1] (fun _ => True) (some (.int r)) (fun _ => True) nv := by
  refine mu_of (by decide +kernel) (Nat.le_of_ble_eq_true rfl) ?_
  intro p e s m args below meth c hx hb hml hown hts hrt hlocks hE H _ hS ls hl
  have hown : s.vm.findClass RX12 = some m.cls := hown
  have hl : lv_has ls 1 [(0, .int a1)] := hl
  have hw : ∀ w ∈ WA, w.before args s = true := fun w h => hts w (List.mem_cons_of_mem _ h)
  have hAB : ∀ q, nv q → B0 ≤ q := fun _ h => h.elim
  unfold fX12_isChannel at hf
  refine lv_iload_n hx hb dX12_isChannel_0 rfl (lv_at hl 0 rfl) ?_
  refine lv_iconst (v := 0) hx hb dX12_isChannel_1 (by decide) ?_
  refine lv_bipush (v := 9) hx hb dX12_isChannel_2 (by decide) ?_
  obtain ⟨z1, hc2, hf⟩ := br_some hf
  refine mu_cS (As := [.int a1, .int 0, .int 9]) (rest := []) hx hb hml hown hts hE (mX12_in l E B0 a1 (0 : Int32) (9 : Int32) z1 hc2) cs_X12_76 rfl trivial hS hAB (fun _ h => h.elim) rfl hl.1 rfl (by decide) (Nat.le_of_ble_eq_true rfl) ⟨Nat.le_refl _, Nat.le_refl _⟩ dX12_isChannel_4 (fun H locs _ _ hu hS => ?_)
  obtain ⟨h3, hf⟩ := gd_some hf
  have hre := Option.some.inj hf
  subst hre
  exact mu_z hx hb hrt (isZ_n h3) hlocks trivial hS dX12_isChannel_7
def fX12_isPlace (a1 : Int32) (a2 : Int32) : Option (Int32) := (fX12_in a1 (0 : Int32) (99 : Int32)).bind fun z1 => (if z1 = 0 then some 0 else (fX12_in a2 (0 : Int32) (99 : Int32)).bind fun z4 => (if z4 = 0 then some 0 else some 1))
set_option maxHeartbeats 4000000 in
set_option maxRecDepth 100000 in
theorem mX12_isPlace (l : Launch) (E : EP) (B0 : Nat) (a1 : Int32) (a2 : Int32) (r : Int32) (hf : fX12_isPlace a1 a2 = some r) : MU l E B0 yX12_isPlace cX12_isPlace 2 (some .boolean) 1 0 0 [.int a1, .int a2] (fun _ => True) (some (.int r)) (fun _ => True) nv := by
  refine mu_of (by decide +kernel) (Nat.le_of_ble_eq_true rfl) ?_
  intro p e s m args below meth c hx hb hml hown hts hrt hlocks hE H _ hS ls hl
  have hown : s.vm.findClass RX12 = some m.cls := hown
  have hl : lv_has ls 2 [(0, .int a1), (1, .int a2)] := hl
  have hw : ∀ w ∈ WA, w.before args s = true := fun w h => hts w (List.mem_cons_of_mem _ h)
  have hAB : ∀ q, nv q → B0 ≤ q := fun _ h => h.elim
  unfold fX12_isPlace at hf
  refine lv_iload_n hx hb dX12_isPlace_0 rfl (lv_at hl 0 rfl) ?_
  refine lv_iconst (v := 0) hx hb dX12_isPlace_1 (by decide) ?_
  refine lv_bipush (v := 99) hx hb dX12_isPlace_2 (by decide) ?_
  obtain ⟨z1, hc2, hf⟩ := br_some hf
  refine mu_cS (As := [.int a1, .int 0, .int 99]) (rest := []) hx hb hml hown hts hE (mX12_in l E B0 a1 (0 : Int32) (99 : Int32) z1 hc2) cs_X12_76 rfl trivial hS hAB (fun _ h => h.elim) rfl hl.1 rfl (by decide) (Nat.le_of_ble_eq_true rfl) ⟨Nat.le_refl _, Nat.le_refl _⟩ dX12_isPlace_4 (fun H locs _ _ hu hS => ?_)
  refine lv_if_eq (tgt := 24) hx hb dX12_isPlace_7 (by decide) (fun c3 => ?_) (fun c3 => ?_)
  · rw [if_pos c3] at hf
    refine lv_iconst (v := 0) hx hb dX12_isPlace_24 (by decide) ?_
    have hre := Option.some.inj hf
    subst hre
    exact mu_z hx hb hrt rfl hlocks trivial hS dX12_isPlace_25
  · rw [if_neg c3] at hf
    refine lv_iload_n hx hb dX12_isPlace_10 rfl (lv_at hl 1 rfl) ?_
    refine lv_iconst (v := 0) hx hb dX12_isPlace_11 (by decide) ?_
    refine lv_bipush (v := 99) hx hb dX12_isPlace_12 (by decide) ?_
    obtain ⟨z4, hc5, hf⟩ := br_some hf
    refine mu_cS (As := [.int a2, .int 0, .int 99]) (rest := []) hx hb hml hown hts hE (mX12_in l E B0 a2 (0 : Int32) (99 : Int32) z4 hc5) cs_X12_76 rfl trivial hS hAB (fun _ h => h.elim) rfl hl.1 rfl (by decide) (Nat.le_of_ble_eq_true rfl) ⟨Nat.le_refl _, Nat.le_refl _⟩ dX12_isPlace_14 (fun H locs _ _ hu hS => ?_)
    refine lv_if_eq (tgt := 24) hx hb dX12_isPlace_17 (by decide) (fun c6 => ?_) (fun c6 => ?_)
    · rw [if_pos c6] at hf
      refine lv_iconst (v := 0) hx hb dX12_isPlace_24 (by decide) ?_
      have hre := Option.some.inj hf
      subst hre
      exact mu_z hx hb hrt rfl hlocks trivial hS dX12_isPlace_25
    · rw [if_neg c6] at hf
      refine lv_iconst (v := 1) hx hb dX12_isPlace_20 (by decide) ?_
      refine lv_goto (tgt := 25) hx hb dX12_isPlace_21 (by decide) ?_
      have hre := Option.some.inj hf
      subst hre
      exact mu_z hx hb hrt rfl hlocks trivial hS dX12_isPlace_25
def fX12_signed_s (N : Mem) (a1 : Int32) (a2 : Int32) (z : Int32) : Option ((Int32) ⊕ (Int32)) := (if (N 1 0) ≤ z then some (.inr (-1)) else (fX12_t N z (0 : Int32)).bind fun z2 => (if z2 = a1 then (fX12_t N z (1 : Int32)).bind fun z5 => (if z5 = a2 then some (.inr z) else some (.inl (z + 1))) else some (.inl (z + 1))))
noncomputable def fX12_signed (N : Mem) (a1 : Int32) (a2 : Int32) : Option (Int32) := lp (fX12_signed_s N a1 a2) 0
set_option maxHeartbeats 4000000 in
set_option maxRecDepth 100000 in
theorem mX12_signed (l : Launch) (E : EP) (B0 : Nat) (b : Nat) (hb0 : B0 ≤ b) (N : Mem) (a1 : Int32) (a2 : Int32) (r : Int32) (hf : fX12_signed N a1 a2 = some r) : MU l E B0 yX12_signed cX12_signed 4 (some .int) 1 0 0 [.ref (b + 0), .int a1, .int a2] (Blk E b modSh 10 N) (some (.int r)) (Blk E b modSh 10 N) nv := by
  refine mu_of (by decide +kernel) (Nat.le_of_ble_eq_true rfl) ?_
  intro p e s m args below meth c hx hb hml hown hts hrt hlocks hE H hN hS ls hl
  have hown : s.vm.findClass RX12 = some m.cls := hown
  have hl : lv_has ls 4 [(0, .ref (b + 0)), (1, .int a1), (2, .int a2)] := hl
  have hw : ∀ w ∈ WA, w.before args s = true := fun w h => hts w (List.mem_cons_of_mem _ h)
  have hAB : ∀ q, nv q → B0 ≤ q := fun _ h => h.elim
  unfold fX12_signed at hf
  have loop : ∀ (fu : Nat) (z : Int32), lpI (fX12_signed_s N a1 a2) fu z = some r → (∀ (H : Heap) (locs : List Loc) (ls : Array Slot), Blk E b modSh 10 N H → va_S nv s.heap H locs → lv_has ls 4 [(0, .ref (b + 0)), (1, .int a1), (2, .int a2), (3, .int z)] → W p l e (rmD 1 0 0) s m args below meth c H locs 0 0 (MQ below (QU (some (.int r)) (Blk E b modSh 10 N) nv) args s 0 0 nv) (F0 m 2 ls [])) := by
    intro fu
    induction fu with
    | zero =>
      intro z hn
      exact nomatch hn
    | succ fu ih =>
      intro z hn
      obtain ⟨y, hf, hy⟩ := lpI_succ hn
      intro H locs ls hN hS hl
      unfold fX12_signed_s at hf
      refine lv_iload_n hx hb dX12_signed_2 rfl (lv_at hl 3 rfl) ?_
      refine lv_aload_n hx hb dX12_signed_3 rfl (lv_at hl 0 rfl) ?_
      refine w_get (k := 0) (v := .ref (b + 1)) hx hb hw hown hE fl_X12_7 hN (by decide) rfl rfl rfl dX12_signed_4 ?_
      refine lv_iconst (v := 0) hx hb dX12_signed_7 (by decide) ?_
      refine w_iald (k := 1) (x9 := 0) hx hb hE hN (by decide) rfl (by decide) (by decide) dX12_signed_8 ?_
      refine lv_icmp_ge (tgt := 40) hx hb dX12_signed_9 (by decide) (fun c1 => ?_) (fun c1 => ?_)
      · rw [if_pos c1] at hf
        refine lv_iconst (v := -1) hx hb dX12_signed_40 (by decide) ?_
        have hre := lp_end hy (Option.some.inj hf).symm
        subst hre
        exact mu_i hx hb hrt hlocks hN hS dX12_signed_41
      · rw [if_neg c1] at hf
        refine lv_aload_n hx hb dX12_signed_12 rfl (lv_at hl 0 rfl) ?_
        refine lv_iload_n hx hb dX12_signed_13 rfl (lv_at hl 3 rfl) ?_
        refine lv_iconst (v := 0) hx hb dX12_signed_14 (by decide) ?_
        obtain ⟨z2, hc3, hf⟩ := br_some hf
        refine mu_cV (As := [.int z, .int 0]) (rest := []) hx hb hml hown hts hE (mX12_t l E B0 b hb0 N z (0 : Int32) z2 hc3) cv_X12_80 (w_recv (k := 0) (ci := 12) hE hN (by decide) rfl rfl) hN hS hAB (fun _ h => h.elim) rfl hl.1 rfl (by decide) (Nat.le_of_ble_eq_true rfl) ⟨Nat.le_refl _, Nat.le_refl _⟩ dX12_signed_15 (fun H locs hN _ _ hS => ?_)
        refine lv_iload_n hx hb dX12_signed_18 rfl (lv_at hl 1 rfl) ?_
        refine lv_icmp_ne (tgt := 34) hx hb dX12_signed_19 (by decide) (fun c4 => ?_) (fun c4 => ?_)
        · rw [if_neg c4] at hf
          refine lv_iinc (v := (z + 1)) (lv' := [(3, .int (z + 1)), (0, .ref (b + 0)), (1, .int a1), (2, .int a2)]) hx hb dX12_signed_34 hl (k := 3) rfl rfl (by decide) rfl (fun ls hl => ?_)
          refine lv_goto (tgt := 2) hx hb dX12_signed_37 (by decide) ?_
          exact ih (z + 1) (lp_back hy (Option.some.inj hf).symm) _ _ _ hN hS (lv_sub hl [1, 2, 3, 0] rfl)
        · rw [if_pos c4] at hf
          refine lv_aload_n hx hb dX12_signed_22 rfl (lv_at hl 0 rfl) ?_
          refine lv_iload_n hx hb dX12_signed_23 rfl (lv_at hl 3 rfl) ?_
          refine lv_iconst (v := 1) hx hb dX12_signed_24 (by decide) ?_
          obtain ⟨z5, hc6, hf⟩ := br_some hf
          refine mu_cV (As := [.int z, .int 1]) (rest := []) hx hb hml hown hts hE (mX12_t l E B0 b hb0 N z (1 : Int32) z5 hc6) cv_X12_80 (w_recv (k := 0) (ci := 12) hE hN (by decide) rfl rfl) hN hS hAB (fun _ h => h.elim) rfl hl.1 rfl (by decide) (Nat.le_of_ble_eq_true rfl) ⟨Nat.le_refl _, Nat.le_refl _⟩ dX12_signed_25 (fun H locs hN _ _ hS => ?_)
          refine lv_iload_n hx hb dX12_signed_28 rfl (lv_at hl 2 rfl) ?_
          refine lv_icmp_ne (tgt := 34) hx hb dX12_signed_29 (by decide) (fun c7 => ?_) (fun c7 => ?_)
          · rw [if_neg c7] at hf
            refine lv_iinc (v := (z + 1)) (lv' := [(3, .int (z + 1)), (0, .ref (b + 0)), (1, .int a1), (2, .int a2)]) hx hb dX12_signed_34 hl (k := 3) rfl rfl (by decide) rfl (fun ls hl => ?_)
            refine lv_goto (tgt := 2) hx hb dX12_signed_37 (by decide) ?_
            exact ih (z + 1) (lp_back hy (Option.some.inj hf).symm) _ _ _ hN hS (lv_sub hl [1, 2, 3, 0] rfl)
          · rw [if_pos c7] at hf
            refine lv_iload_n hx hb dX12_signed_32 rfl (lv_at hl 3 rfl) ?_
            have hre := lp_end hy (Option.some.inj hf).symm
            subst hre
            exact mu_i hx hb hrt hlocks hN hS dX12_signed_33
  refine lv_iconst (v := 0) hx hb dX12_signed_0 (by decide) ?_
  refine lv_istore_n (lv' := [(3, .int 0), (0, .ref (b + 0)), (1, .int a1), (2, .int a2)]) hx hb dX12_signed_1 rfl hl (by decide) rfl (fun ls hl => ?_)
  obtain ⟨fu, hfu⟩ := lp_some hf
  exact (loop fu 0 hfu) _ _ _ hN hS (lv_sub hl [1, 2, 3, 0] rfl)
def fX12_squared (N : Mem) (a1 : Int32) (a2 : Int32) : Option (Int32) := (fX12_t N a1 (2 : Int32)).bind fun z1 => (fX12_t N a2 (2 : Int32)).bind fun z3 => (fX12_t N a1 (3 : Int32)).bind fun z5 => (fX12_t N a2 (3 : Int32)).bind fun z7 => some (((z1 - z3) * (z1 - z3)) + ((z5 - z7) * (z5 - z7)))
set_option maxHeartbeats 4000000 in
set_option maxRecDepth 100000 in
theorem mX12_squared (l : Launch) (E : EP) (B0 : Nat) (b : Nat) (hb0 : B0 ≤ b) (N : Mem) (a1 : Int32) (a2 : Int32) (r : Int32) (hf : fX12_squared N a1 a2 = some r) : MU l E B0 yX12_squared cX12_squared 5 (some .int) 1 0 0 [.ref (b + 0), .int a1, .int a2] (Blk E b modSh 10 N) (some (.int r)) (Blk E b modSh 10 N) nv := by
  refine mu_of (by decide +kernel) (Nat.le_of_ble_eq_true rfl) ?_
  intro p e s m args below meth c hx hb hml hown hts hrt hlocks hE H hN hS ls hl
  have hown : s.vm.findClass RX12 = some m.cls := hown
  have hl : lv_has ls 5 [(0, .ref (b + 0)), (1, .int a1), (2, .int a2)] := hl
  have hw : ∀ w ∈ WA, w.before args s = true := fun w h => hts w (List.mem_cons_of_mem _ h)
  have hAB : ∀ q, nv q → B0 ≤ q := fun _ h => h.elim
  unfold fX12_squared at hf
  refine lv_aload_n hx hb dX12_squared_0 rfl (lv_at hl 0 rfl) ?_
  refine lv_iload_n hx hb dX12_squared_1 rfl (lv_at hl 1 rfl) ?_
  refine lv_iconst (v := 2) hx hb dX12_squared_2 (by decide) ?_
  obtain ⟨z1, hc2, hf⟩ := br_some hf
  refine mu_cV (As := [.int a1, .int 2]) (rest := []) hx hb hml hown hts hE (mX12_t l E B0 b hb0 N a1 (2 : Int32) z1 hc2) cv_X12_80 (w_recv (k := 0) (ci := 12) hE hN (by decide) rfl rfl) hN hS hAB (fun _ h => h.elim) rfl hl.1 rfl (by decide) (Nat.le_of_ble_eq_true rfl) ⟨Nat.le_refl _, Nat.le_refl _⟩ dX12_squared_3 (fun H locs hN _ _ hS => ?_)
  refine lv_aload_n hx hb dX12_squared_6 rfl (lv_at hl 0 rfl) ?_
  refine lv_iload_n hx hb dX12_squared_7 rfl (lv_at hl 2 rfl) ?_
  refine lv_iconst (v := 2) hx hb dX12_squared_8 (by decide) ?_
  obtain ⟨z3, hc4, hf⟩ := br_some hf
  refine mu_cV (As := [.int a2, .int 2]) (rest := [.int z1]) hx hb hml hown hts hE (mX12_t l E B0 b hb0 N a2 (2 : Int32) z3 hc4) cv_X12_80 (w_recv (k := 0) (ci := 12) hE hN (by decide) rfl rfl) hN hS hAB (fun _ h => h.elim) rfl hl.1 rfl (by decide) (Nat.le_of_ble_eq_true rfl) ⟨Nat.le_refl _, Nat.le_refl _⟩ dX12_squared_9 (fun H locs hN _ _ hS => ?_)
  refine lv_isub hx hb dX12_squared_12 ?_
  refine lv_istore_n (lv' := [(3, .int (z1 - z3)), (0, .ref (b + 0)), (1, .int a1), (2, .int a2)]) hx hb dX12_squared_13 rfl hl (by decide) rfl (fun ls hl => ?_)
  refine lv_aload_n hx hb dX12_squared_14 rfl (lv_at hl 1 rfl) ?_
  refine lv_iload_n hx hb dX12_squared_15 rfl (lv_at hl 2 rfl) ?_
  refine lv_iconst (v := 3) hx hb dX12_squared_16 (by decide) ?_
  obtain ⟨z5, hc6, hf⟩ := br_some hf
  refine mu_cV (As := [.int a1, .int 3]) (rest := []) hx hb hml hown hts hE (mX12_t l E B0 b hb0 N a1 (3 : Int32) z5 hc6) cv_X12_80 (w_recv (k := 0) (ci := 12) hE hN (by decide) rfl rfl) hN hS hAB (fun _ h => h.elim) rfl hl.1 rfl (by decide) (Nat.le_of_ble_eq_true rfl) ⟨Nat.le_refl _, Nat.le_refl _⟩ dX12_squared_17 (fun H locs hN _ _ hS => ?_)
  refine lv_aload_n hx hb dX12_squared_20 rfl (lv_at hl 1 rfl) ?_
  refine lv_iload_n hx hb dX12_squared_21 rfl (lv_at hl 3 rfl) ?_
  refine lv_iconst (v := 3) hx hb dX12_squared_22 (by decide) ?_
  obtain ⟨z7, hc8, hf⟩ := br_some hf
  refine mu_cV (As := [.int a2, .int 3]) (rest := [.int z5]) hx hb hml hown hts hE (mX12_t l E B0 b hb0 N a2 (3 : Int32) z7 hc8) cv_X12_80 (w_recv (k := 0) (ci := 12) hE hN (by decide) rfl rfl) hN hS hAB (fun _ h => h.elim) rfl hl.1 rfl (by decide) (Nat.le_of_ble_eq_true rfl) ⟨Nat.le_refl _, Nat.le_refl _⟩ dX12_squared_23 (fun H locs hN _ _ hS => ?_)
  refine lv_isub hx hb dX12_squared_26 ?_
  refine lv_istore (lv' := [(4, .int (z5 - z7)), (3, .int (z1 - z3)), (0, .ref (b + 0)), (1, .int a1), (2, .int a2)]) hx hb dX12_squared_27 hl (by decide) rfl (fun ls hl => ?_)
  refine lv_iload_n hx hb dX12_squared_29 rfl (lv_at hl 1 rfl) ?_
  refine lv_iload_n hx hb dX12_squared_30 rfl (lv_at hl 1 rfl) ?_
  refine lv_imul hx hb dX12_squared_31 ?_
  refine lv_iload hx hb dX12_squared_32 (lv_at hl 0 rfl) ?_
  refine lv_iload hx hb dX12_squared_34 (lv_at hl 0 rfl) ?_
  refine lv_imul hx hb dX12_squared_36 ?_
  refine lv_iadd hx hb dX12_squared_37 ?_
  have hre := Option.some.inj hf
  subst hre
  exact mu_i hx hb hrt hlocks hN hS dX12_squared_38