/-! ===== laid by program: the reference ===== -/
def fX12_thrown (M : Mem) : Option (Int32) := some (M 0 4)
set_option maxHeartbeats 4000000 in
set_option maxRecDepth 100000 in
theorem mX12_thrown (l : Launch) (E : EP) (B0 : Nat) (b : Nat) (hb0 : B0 ≤ b) (M : Mem) (r : Int32) (hf : fX12_thrown M = some r) : MU l E B0 yX12_thrown cX12_thrown 1 (some .int) 0 0 0 [.ref (b + 0)] (Blk E b modSh 10 M) (some (.int r)) (Blk E b modSh 10 M) nv := by
  refine mu_of (by decide +kernel) (Nat.le_of_ble_eq_true rfl) ?_
  intro p e s m args below meth c hx hb hml hown hts hrt hlocks hE H hM hS ls hl
  have hown : s.vm.findClass RX12 = some m.cls := hown
  have hl : lv_has ls 1 [(0, .ref (b + 0))] := hl
  have hw : ∀ w ∈ WA, w.before args s = true := fun w h => hts w (List.mem_cons_of_mem _ h)
  have hAB : ∀ q, nv q → B0 ≤ q := fun _ h => h.elim
  unfold fX12_thrown at hf
  refine lv_aload_n hx hb dX12_thrown_0 rfl (lv_at hl 0 rfl) ?_
  refine w_get (k := 0) (v := .int (M 0 4)) hx hb hw hown hE fl_X12_22 hM (by decide) rfl rfl rfl dX12_thrown_1 ?_
  have hre := Option.some.inj hf
  subst hre
  exact mu_i (v := (M 0 4)) hx hb hrt hlocks hM hS dX12_thrown_4
def fX12_in (a1 : Int32) (a2 : Int32) (a3 : Int32) : Option (Int32) := (if a1 < a2 then some 0 else (if a3 < a1 then some 0 else some 1))
set_option maxHeartbeats 4000000 in
set_option maxRecDepth 100000 in
theorem mX12_in (l : Launch) (E : EP) (B0 : Nat) (a1 : Int32) (a2 : Int32) (a3 : Int32) (r : Int32) (hf : fX12_in a1 a2 a3 = some r) : MU l E B0 yX12_in cX12_in 3 (some .boolean) 0 0 0 [.int a1, .int a2, .int a3] (fun _ => True) (some (.int r)) (fun _ => True) nv := by
  refine mu_of (by decide +kernel) (Nat.le_of_ble_eq_true rfl) ?_
  intro p e s m args below meth c hx hb hml hown hts hrt hlocks hE H _ hS ls hl
  have hown : s.vm.findClass RX12 = some m.cls := hown
  have hl : lv_has ls 3 [(0, .int a1), (1, .int a2), (2, .int a3)] := hl
  have hw : ∀ w ∈ WA, w.before args s = true := fun w h => hts w (List.mem_cons_of_mem _ h)
  have hAB : ∀ q, nv q → B0 ≤ q := fun _ h => h.elim
  unfold fX12_in at hf
  refine lv_iload_n hx hb dX12_in_0 rfl (lv_at hl 0 rfl) ?_
  refine lv_iload_n hx hb dX12_in_1 rfl (lv_at hl 1 rfl) ?_
  refine lv_icmp_lt (tgt := 14) hx hb dX12_in_2 (by decide) (fun c1 => ?_) (fun c1 => ?_)
  · rw [if_pos c1] at hf
    refine lv_iconst (v := 0) hx hb dX12_in_14 (by decide) ?_
    have hre := Option.some.inj hf
    subst hre
    exact mu_z (v := 0) hx hb hrt rfl hlocks trivial hS dX12_in_15
  · rw [if_neg c1] at hf
    refine lv_iload_n hx hb dX12_in_5 rfl (lv_at hl 0 rfl) ?_
    refine lv_iload_n hx hb dX12_in_6 rfl (lv_at hl 2 rfl) ?_
    refine lv_icmp_gt (tgt := 14) hx hb dX12_in_7 (by decide) (fun c2 => ?_) (fun c2 => ?_)
    · rw [if_pos c2] at hf
      refine lv_iconst (v := 0) hx hb dX12_in_14 (by decide) ?_
      have hre := Option.some.inj hf
      subst hre
      exact mu_z (v := 0) hx hb hrt rfl hlocks trivial hS dX12_in_15
    · rw [if_neg c2] at hf
      refine lv_iconst (v := 1) hx hb dX12_in_10 (by decide) ?_
      refine lv_goto (tgt := 15) hx hb dX12_in_11 (by decide) ?_
      have hre := Option.some.inj hf
      subst hre
      exact mu_z (v := 1) hx hb hrt rfl hlocks trivial hS dX12_in_15
def fX12_copy_s (k1 n1 : Nat) (a2 : Int32) (k3 n3 : Nat) (a4 : Int32) (z : Int32 × Mem) : Option ((Int32 × Mem) ⊕ (Mem)) := (if (160 : Int32) ≤ z.1 then some (.inr z.2) else gd (inb (a2 + z.1) n1) (gd (inb (a4 + z.1) n3) (some (.inl ((z.1 + 1), (up2 z.2 k3 ((a4 + z.1).toNatClampNeg) (z.2 k1 ((a2 + z.1).toNatClampNeg))))))))
noncomputable def fX12_copy (M : Mem) (k1 n1 : Nat) (a2 : Int32) (k3 n3 : Nat) (a4 : Int32) : Option (Mem) := gd (arrok k1 n1) (gd (arrok k3 n3) (lp (fX12_copy_s k1 n1 a2 k3 n3 a4) (0, M)))
set_option maxHeartbeats 4000000 in
set_option maxRecDepth 100000 in
theorem mX12_copy (l : Launch) (E : EP) (B0 : Nat) (b : Nat) (hb0 : B0 ≤ b) (M : Mem) (k1 n1 : Nat) (a2 : Int32) (k3 n3 : Nat) (a4 : Int32) (r : Mem) (hf : fX12_copy M k1 n1 a2 k3 n3 a4 = some r) : MU l E B0 yX12_copy cX12_copy 5 none 0 0 0 [.ref (b + k1), .int a2, .ref (b + k3), .int a4] (Blk E b modSh 10 M) none (Blk E b modSh 10 r) (iv b 10) := by
  refine mu_of (by decide +kernel) (Nat.le_of_ble_eq_true rfl) ?_
  intro p e s m args below meth c hx hb hml hown hts hrt hlocks hE H hM hS ls hl
  have hown : s.vm.findClass RX12 = some m.cls := hown
  have hl : lv_has ls 5 [(0, .ref (b + k1)), (1, .int a2), (2, .ref (b + k3)), (3, .int a4)] := hl
  have hw : ∀ w ∈ WA, w.before args s = true := fun w h => hts w (List.mem_cons_of_mem _ h)
  have hAB : ∀ q, (iv b 10) q → B0 ≤ q := (iv_ge (by omega))
  unfold fX12_copy at hf
  obtain ⟨g1, hf⟩ := gd_some hf
  obtain ⟨g3, hf⟩ := gd_some hf
  have loop : ∀ (fu : Nat) (z : Int32 × Mem), lpI (fX12_copy_s k1 n1 a2 k3 n3 a4) fu z = some r → (∀ (H : Heap) (locs : List Loc) (ls : Array Slot), Blk E b modSh 10 z.2 H → va_S (iv b 10) s.heap H locs → lv_has ls 5 [(0, .ref (b + k1)), (1, .int a2), (2, .ref (b + k3)), (3, .int a4), (4, .int z.1)] → W p l e (rmD 0 0 0) s m args below meth c H locs 0 0 (MQ below (QU none (Blk E b modSh 10 r) (iv b 10)) args s 0 0 (iv b 10)) (F0 m 3 ls [])) := by
    intro fu
    induction fu with
    | zero =>
      intro z hn
      exact nomatch hn
    | succ fu ih =>
      intro z hn
      obtain ⟨y, hf, hy⟩ := lpI_succ hn
      intro H locs ls hM hS hl
      unfold fX12_copy_s at hf
      refine lv_iload hx hb dX12_copy_3 (lv_at hl 4 rfl) ?_
      refine lv_sipush (v := 160) hx hb dX12_copy_5 (by decide) ?_
      refine lv_icmp_ge (tgt := 29) hx hb dX12_copy_8 (by decide) (fun c1 => ?_) (fun c1 => ?_)
      · rw [if_pos c1] at hf
        have hre := lp_end hy (Option.some.inj hf).symm
        subst hre
        exact mu_v hx hb hrt hlocks hM hS dX12_copy_29
      · rw [if_neg c1] at hf
        refine lv_aload_n hx hb dX12_copy_11 rfl (lv_at hl 2 rfl) ?_
        refine lv_iload_n hx hb dX12_copy_12 rfl (lv_at hl 3 rfl) ?_
        refine lv_iload hx hb dX12_copy_13 (lv_at hl 4 rfl) ?_
        refine lv_iadd hx hb dX12_copy_15 ?_
        refine lv_aload_n hx hb dX12_copy_16 rfl (lv_at hl 0 rfl) ?_
        refine lv_iload_n hx hb dX12_copy_17 rfl (lv_at hl 1 rfl) ?_
        refine lv_iload hx hb dX12_copy_18 (lv_at hl 4 rfl) ?_
        refine lv_iadd hx hb dX12_copy_20 ?_
        obtain ⟨h2, hf⟩ := gd_some hf
        refine w_iald (k := k1) (x9 := (a2 + z.1).toNatClampNeg) hx hb hE hM (arrok_lt g1) (arrok_sh g1) rfl h2 dX12_copy_21 ?_
        obtain ⟨h3, hf⟩ := gd_some hf
        refine w_iast (k := k3) (x9 := (a4 + z.1).toNatClampNeg) (x := (z.2 k1 ((a2 + z.1).toNatClampNeg))) hx hb hE hM (arrok_lt g3) (arrok_sh g3) rfl h3 hS (iv_mem (arrok_lt g3)) dX12_copy_22 (fun H locs hM _ hu hS => ?_)
        refine lv_iinc (v := (z.1 + 1)) (lv' := [(4, .int (z.1 + 1)), (0, .ref (b + k1)), (1, .int a2), (2, .ref (b + k3)), (3, .int a4)]) hx hb dX12_copy_23 hl (k := 4) rfl rfl (by decide) rfl (fun ls hl => ?_)
        refine lv_goto (tgt := 3) hx hb dX12_copy_26 (by decide) ?_
        exact ih ((z.1 + 1), (up2 z.2 k3 ((a4 + z.1).toNatClampNeg) (z.2 k1 ((a2 + z.1).toNatClampNeg)))) (lp_back hy (Option.some.inj hf).symm) _ _ _ hM hS (lv_sub hl [1, 2, 3, 4, 0] rfl)
  refine lv_iconst (v := 0) hx hb dX12_copy_0 (by decide) ?_
  refine lv_istore (lv' := [(4, .int 0), (0, .ref (b + k1)), (1, .int a2), (2, .ref (b + k3)), (3, .int a4)]) hx hb dX12_copy_1 hl (by decide) rfl (fun ls hl => ?_)
  obtain ⟨fu, hfu⟩ := lp_some hf
  exact (loop fu (0, M) hfu) _ _ _ hM hS (lv_sub hl [1, 2, 3, 4, 0] rfl)
def fX12_fail (M : Mem) (a1 : Int32) : Option (Int32 × Mem) := some (0, (up2 M 0 4 a1))
set_option maxHeartbeats 4000000 in
set_option maxRecDepth 100000 in
theorem mX12_fail (l : Launch) (E : EP) (B0 : Nat) (b : Nat) (hb0 : B0 ≤ b) (M : Mem) (a1 : Int32) (r : Int32 × Mem) (hf : fX12_fail M a1 = some r) : MU l E B0 yX12_fail cX12_fail 2 (some .int) 0 0 0 [.ref (b + 0), .int a1] (Blk E b modSh 10 M) (some (.int r.1)) (Blk E b modSh 10 r.2) (iv b 10) := by
  refine mu_of (by decide +kernel) (Nat.le_of_ble_eq_true rfl) ?_
  intro p e s m args below meth c hx hb hml hown hts hrt hlocks hE H hM hS ls hl
  have hown : s.vm.findClass RX12 = some m.cls := hown
  have hl : lv_has ls 2 [(0, .ref (b + 0)), (1, .int a1)] := hl
  have hw : ∀ w ∈ WA, w.before args s = true := fun w h => hts w (List.mem_cons_of_mem _ h)
  have hAB : ∀ q, (iv b 10) q → B0 ≤ q := (iv_ge (by omega))
  unfold fX12_fail at hf
  refine lv_aload_n hx hb dX12_fail_0 rfl (lv_at hl 0 rfl) ?_
  refine lv_iload_n hx hb dX12_fail_1 rfl (lv_at hl 1 rfl) ?_
  refine w_put (k := 0) (v := .int a1) hx hb hw hown hE fl_X12_22 fw_X12_4 hM (by decide) rfl rfl a1 rfl rfl rfl hS (iv_mem (by decide)) dX12_fail_2 (fun H locs hM _ hu hS => ?_)
  refine lv_iconst (v := 0) hx hb dX12_fail_5 (by decide) ?_
  have hre := Option.some.inj hf
  subst hre
  exact mu_i (v := 0) hx hb hrt hlocks hM hS dX12_fail_6
noncomputable def fX12_begin (M : Mem) : Option (Mem) := (fX12_copy (up2 M 0 4 (0 : Int32)) 1 160 (0 : Int32) 2 160 (0 : Int32)).bind fun z1 => some z1
set_option maxHeartbeats 4000000 in
set_option maxRecDepth 100000 in
theorem mX12_begin (l : Launch) (E : EP) (B0 : Nat) (b : Nat) (hb0 : B0 ≤ b) (M : Mem) (r : Mem) (hf : fX12_begin M = some r) : MU l E B0 yX12_begin cX12_begin 1 none 1 0 0 [.ref (b + 0)] (Blk E b modSh 10 M) none (Blk E b modSh 10 r) (iv b 10) := by
  refine mu_of (by decide +kernel) (Nat.le_of_ble_eq_true rfl) ?_
  intro p e s m args below meth c hx hb hml hown hts hrt hlocks hE H hM hS ls hl
  have hown : s.vm.findClass RX12 = some m.cls := hown
  have hl : lv_has ls 1 [(0, .ref (b + 0))] := hl
  have hw : ∀ w ∈ WA, w.before args s = true := fun w h => hts w (List.mem_cons_of_mem _ h)
  have hAB : ∀ q, (iv b 10) q → B0 ≤ q := (iv_ge (by omega))
  unfold fX12_begin at hf
  refine lv_aload_n hx hb dX12_begin_0 rfl (lv_at hl 0 rfl) ?_
  refine lv_iconst (v := 0) hx hb dX12_begin_1 (by decide) ?_
  refine w_put (k := 0) (v := .int 0) hx hb hw hown hE fl_X12_22 fw_X12_4 hM (by decide) rfl rfl (0 : Int32) rfl rfl rfl hS (iv_mem (by decide)) dX12_begin_2 (fun H locs hM _ hu hS => ?_)
  refine lv_aload_n hx hb dX12_begin_5 rfl (lv_at hl 0 rfl) ?_
  refine w_get (k := 0) (v := .ref (b + 1)) hx hb hw hown hE fl_X12_7 hM (by decide) rfl rfl rfl dX12_begin_6 ?_
  refine lv_iconst (v := 0) hx hb dX12_begin_9 (by decide) ?_
  refine lv_aload_n hx hb dX12_begin_10 rfl (lv_at hl 0 rfl) ?_
  refine w_get (k := 0) (v := .ref (b + 2)) hx hb hw hown hE fl_X12_13 hM (by decide) rfl rfl rfl dX12_begin_11 ?_
  refine lv_iconst (v := 0) hx hb dX12_begin_14 (by decide) ?_
  obtain ⟨z1, hc2, hf⟩ := br_some hf
  refine mu_cS (As := [.ref (b + 1), .int 0, .ref (b + 2), .int 0]) (rest := []) hx hb hml hown hts hE (mX12_copy l E B0 b (by omega) (up2 M 0 4 (0 : Int32)) 1 160 (0 : Int32) 2 160 (0 : Int32) z1 hc2) cs_X12_72 hM hS hAB (fun _ h => h) rfl hl.1 rfl (by decide) (Nat.le_of_ble_eq_true rfl) ⟨Nat.le_refl _, Nat.le_refl _⟩ dX12_begin_15 (fun H locs hM _ hu hS => ?_)
  have hre := Option.some.inj hf
  subst hre
  exact mu_v hx hb hrt hlocks hM hS dX12_begin_18
noncomputable def fX12_commit_s (a1 : Int32) (z : Int32 × Mem) : Option ((Int32 × Mem) ⊕ (Int32 × Mem)) := (if (8 : Int32) ≤ z.1 then (fX12_copy (up2 z.2 0 5 ((z.2 0 5) - 1)) 2 160 (0 : Int32) 4 1280 ((160 : Int32) * ((up2 z.2 0 5 ((z.2 0 5) - 1)) 0 5))).bind fun z2 => some (.inr (a1, (up2 z2 0 5 ((z2 0 5) + 1)))) else (fX12_copy z.2 4 1280 ((160 : Int32) * z.1) 4 1280 ((160 : Int32) * (z.1 - 1))).bind fun z4 => some (.inl ((z.1 + 1), z4)))
noncomputable def fX12_commit (M : Mem) (a1 : Int32) : Option (Int32 × Mem) := (if (M 0 5) = (8 : Int32) then lp (fX12_commit_s a1) (1, M) else (fX12_copy M 2 160 (0 : Int32) 4 1280 ((160 : Int32) * (M 0 5))).bind fun z7 => some (a1, (up2 z7 0 5 ((z7 0 5) + 1))))
set_option maxHeartbeats 4000000 in
set_option maxRecDepth 100000 in
theorem mX12_commit (l : Launch) (E : EP) (B0 : Nat) (b : Nat) (hb0 : B0 ≤ b) (M : Mem) (a1 : Int32) (r : Int32 × Mem) (hf : fX12_commit M a1 = some r) : MU l E B0 yX12_commit cX12_commit 3 (some .int) 1 0 0 [.ref (b + 0), .int a1] (Blk E b modSh 10 M) (some (.int r.1)) (Blk E b modSh 10 r.2) (iv b 10) := by
  refine mu_of (by decide +kernel) (Nat.le_of_ble_eq_true rfl) ?_
  intro p e s m args below meth c hx hb hml hown hts hrt hlocks hE H hM hS ls hl
  have hown : s.vm.findClass RX12 = some m.cls := hown
  have hl : lv_has ls 3 [(0, .ref (b + 0)), (1, .int a1)] := hl
  have hw : ∀ w ∈ WA, w.before args s = true := fun w h => hts w (List.mem_cons_of_mem _ h)
  have hAB : ∀ q, (iv b 10) q → B0 ≤ q := (iv_ge (by omega))
  unfold fX12_commit at hf
  have loop : ∀ (fu : Nat) (z : Int32 × Mem), lpI (fX12_commit_s a1) fu z = some r → (∀ (H : Heap) (locs : List Loc) (ls : Array Slot), Blk E b modSh 10 z.2 H → va_S (iv b 10) s.heap H locs → lv_has ls 3 [(0, .ref (b + 0)), (1, .int a1), (2, .int z.1)] → W p l e (rmD 1 0 0) s m args below meth c H locs 0 0 (MQ below (QU (some (.int r.1)) (Blk E b modSh 10 r.2) (iv b 10)) args s 0 0 (iv b 10)) (F0 m 11 ls [])) := by
    intro fu
    induction fu with
    | zero =>
      intro z hn
      exact nomatch hn
    | succ fu ih =>
      intro z hn
      obtain ⟨y, hf, hy⟩ := lpI_succ hn
      intro H locs ls hM hS hl
      unfold fX12_commit_s at hf
      refine lv_iload_n hx hb dX12_commit_11 rfl (lv_at hl 2 rfl) ?_
      refine lv_bipush (v := 8) hx hb dX12_commit_12 (by decide) ?_
      refine lv_icmp_ge (tgt := 46) hx hb dX12_commit_14 (by decide) (fun c1 => ?_) (fun c1 => ?_)
      · rw [if_pos c1] at hf
        refine lv_aload_n hx hb dX12_commit_46 rfl (lv_at hl 0 rfl) ?_
        refine lv_dup hx hb dX12_commit_47 rfl ?_
        refine w_get (k := 0) (v := .int (z.2 0 5)) hx hb hw hown hE fl_X12_26 hM (by decide) rfl rfl rfl dX12_commit_48 ?_
        refine lv_iconst (v := 1) hx hb dX12_commit_51 (by decide) ?_
        refine lv_isub hx hb dX12_commit_52 ?_
        refine w_put (k := 0) (v := .int ((z.2 0 5) - 1)) hx hb hw hown hE fl_X12_26 fw_X12_5 hM (by decide) rfl rfl ((z.2 0 5) - 1) rfl rfl rfl hS (iv_mem (by decide)) dX12_commit_53 (fun H locs hM _ hu hS => ?_)
        refine lv_aload_n hx hb dX12_commit_56 rfl (lv_at hl 0 rfl) ?_
        refine w_get (k := 0) (v := .ref (b + 2)) hx hb hw hown hE fl_X12_13 hM (by decide) rfl rfl rfl dX12_commit_57 ?_
        refine lv_iconst (v := 0) hx hb dX12_commit_60 (by decide) ?_
        refine lv_aload_n hx hb dX12_commit_61 rfl (lv_at hl 0 rfl) ?_
        refine w_get (k := 0) (v := .ref (b + 4)) hx hb hw hown hE fl_X12_19 hM (by decide) rfl rfl rfl dX12_commit_62 ?_
        refine lv_sipush (v := 160) hx hb dX12_commit_65 (by decide) ?_
        refine lv_aload_n hx hb dX12_commit_68 rfl (lv_at hl 0 rfl) ?_
        refine w_get (k := 0) (v := .int ((up2 z.2 0 5 ((z.2 0 5) - 1)) 0 5)) hx hb hw hown hE fl_X12_26 hM (by decide) rfl rfl rfl dX12_commit_69 ?_
        refine lv_imul hx hb dX12_commit_72 ?_
        obtain ⟨z2, hc3, hf⟩ := br_some hf
        refine mu_cS (As := [.ref (b + 2), .int 0, .ref (b + 4), .int ((160 : Int32) * ((up2 z.2 0 5 ((z.2 0 5) - 1)) 0 5))]) (rest := []) hx hb hml hown hts hE (mX12_copy l E B0 b (by omega) (up2 z.2 0 5 ((z.2 0 5) - 1)) 2 160 (0 : Int32) 4 1280 ((160 : Int32) * ((up2 z.2 0 5 ((z.2 0 5) - 1)) 0 5)) z2 hc3) cs_X12_72 hM hS hAB (fun _ h => h) rfl hl.1 rfl (by decide) (Nat.le_of_ble_eq_true rfl) ⟨Nat.le_refl _, Nat.le_refl _⟩ dX12_commit_73 (fun H locs hM _ hu hS => ?_)
        refine lv_aload_n hx hb dX12_commit_76 rfl (lv_at hl 0 rfl) ?_
        refine lv_dup hx hb dX12_commit_77 rfl ?_
        refine w_get (k := 0) (v := .int (z2 0 5)) hx hb hw hown hE fl_X12_26 hM (by decide) rfl rfl rfl dX12_commit_78 ?_
        refine lv_iconst (v := 1) hx hb dX12_commit_81 (by decide) ?_
        refine lv_iadd hx hb dX12_commit_82 ?_
        refine w_put (k := 0) (v := .int ((z2 0 5) + 1)) hx hb hw hown hE fl_X12_26 fw_X12_5 hM (by decide) rfl rfl ((z2 0 5) + 1) rfl rfl rfl hS (iv_mem (by decide)) dX12_commit_83 (fun H locs hM _ hu hS => ?_)
        refine lv_iload_n hx hb dX12_commit_86 rfl (lv_at hl 1 rfl) ?_
        have hre := lp_end hy (Option.some.inj hf).symm
        subst hre
        exact mu_i (v := a1) hx hb hrt hlocks hM hS dX12_commit_87
      · rw [if_neg c1] at hf
        refine lv_aload_n hx hb dX12_commit_17 rfl (lv_at hl 0 rfl) ?_
        refine w_get (k := 0) (v := .ref (b + 4)) hx hb hw hown hE fl_X12_19 hM (by decide) rfl rfl rfl dX12_commit_18 ?_
        refine lv_sipush (v := 160) hx hb dX12_commit_21 (by decide) ?_
        refine lv_iload_n hx hb dX12_commit_24 rfl (lv_at hl 2 rfl) ?_
        refine lv_imul hx hb dX12_commit_25 ?_
        refine lv_aload_n hx hb dX12_commit_26 rfl (lv_at hl 0 rfl) ?_
        refine w_get (k := 0) (v := .ref (b + 4)) hx hb hw hown hE fl_X12_19 hM (by decide) rfl rfl rfl dX12_commit_27 ?_
        refine lv_sipush (v := 160) hx hb dX12_commit_30 (by decide) ?_
        refine lv_iload_n hx hb dX12_commit_33 rfl (lv_at hl 2 rfl) ?_
        refine lv_iconst (v := 1) hx hb dX12_commit_34 (by decide) ?_
        refine lv_isub hx hb dX12_commit_35 ?_
        refine lv_imul hx hb dX12_commit_36 ?_
        obtain ⟨z4, hc5, hf⟩ := br_some hf
        refine mu_cS (As := [.ref (b + 4), .int ((160 : Int32) * z.1), .ref (b + 4), .int ((160 : Int32) * (z.1 - 1))]) (rest := []) hx hb hml hown hts hE (mX12_copy l E B0 b (by omega) z.2 4 1280 ((160 : Int32) * z.1) 4 1280 ((160 : Int32) * (z.1 - 1)) z4 hc5) cs_X12_72 hM hS hAB (fun _ h => h) rfl hl.1 rfl (by decide) (Nat.le_of_ble_eq_true rfl) ⟨Nat.le_refl _, Nat.le_refl _⟩ dX12_commit_37 (fun H locs hM _ hu hS => ?_)
        refine lv_iinc (v := (z.1 + 1)) (lv' := [(2, .int (z.1 + 1)), (0, .ref (b + 0)), (1, .int a1)]) hx hb dX12_commit_40 hl (k := 2) rfl rfl (by decide) rfl (fun ls hl => ?_)
        refine lv_goto (tgt := 11) hx hb dX12_commit_43 (by decide) ?_
        exact ih ((z.1 + 1), z4) (lp_back hy (Option.some.inj hf).symm) _ _ _ hM hS (lv_sub hl [1, 2, 0] rfl)
  refine lv_aload_n hx hb dX12_commit_0 rfl (lv_at hl 0 rfl) ?_
  refine w_get (k := 0) (v := .int (M 0 5)) hx hb hw hown hE fl_X12_26 hM (by decide) rfl rfl rfl dX12_commit_1 ?_
  refine lv_bipush (v := 8) hx hb dX12_commit_4 (by decide) ?_
  refine lv_icmp_ne (tgt := 56) hx hb dX12_commit_6 (by decide) (fun c6 => ?_) (fun c6 => ?_)
  · rw [if_neg c6] at hf
    refine lv_aload_n hx hb dX12_commit_56 rfl (lv_at hl 0 rfl) ?_
    refine w_get (k := 0) (v := .ref (b + 2)) hx hb hw hown hE fl_X12_13 hM (by decide) rfl rfl rfl dX12_commit_57 ?_
    refine lv_iconst (v := 0) hx hb dX12_commit_60 (by decide) ?_
    refine lv_aload_n hx hb dX12_commit_61 rfl (lv_at hl 0 rfl) ?_
    refine w_get (k := 0) (v := .ref (b + 4)) hx hb hw hown hE fl_X12_19 hM (by decide) rfl rfl rfl dX12_commit_62 ?_
    refine lv_sipush (v := 160) hx hb dX12_commit_65 (by decide) ?_
    refine lv_aload_n hx hb dX12_commit_68 rfl (lv_at hl 0 rfl) ?_
    refine w_get (k := 0) (v := .int (M 0 5)) hx hb hw hown hE fl_X12_26 hM (by decide) rfl rfl rfl dX12_commit_69 ?_
    refine lv_imul hx hb dX12_commit_72 ?_
    obtain ⟨z7, hc8, hf⟩ := br_some hf
    refine mu_cS (As := [.ref (b + 2), .int 0, .ref (b + 4), .int ((160 : Int32) * (M 0 5))]) (rest := []) hx hb hml hown hts hE (mX12_copy l E B0 b (by omega) M 2 160 (0 : Int32) 4 1280 ((160 : Int32) * (M 0 5)) z7 hc8) cs_X12_72 hM hS hAB (fun _ h => h) rfl hl.1 rfl (by decide) (Nat.le_of_ble_eq_true rfl) ⟨Nat.le_refl _, Nat.le_refl _⟩ dX12_commit_73 (fun H locs hM _ hu hS => ?_)
    refine lv_aload_n hx hb dX12_commit_76 rfl (lv_at hl 0 rfl) ?_
    refine lv_dup hx hb dX12_commit_77 rfl ?_
    refine w_get (k := 0) (v := .int (z7 0 5)) hx hb hw hown hE fl_X12_26 hM (by decide) rfl rfl rfl dX12_commit_78 ?_
    refine lv_iconst (v := 1) hx hb dX12_commit_81 (by decide) ?_
    refine lv_iadd hx hb dX12_commit_82 ?_
    refine w_put (k := 0) (v := .int ((z7 0 5) + 1)) hx hb hw hown hE fl_X12_26 fw_X12_5 hM (by decide) rfl rfl ((z7 0 5) + 1) rfl rfl rfl hS (iv_mem (by decide)) dX12_commit_83 (fun H locs hM _ hu hS => ?_)
    refine lv_iload_n hx hb dX12_commit_86 rfl (lv_at hl 1 rfl) ?_
    have hre := Option.some.inj hf
    subst hre
    exact mu_i (v := a1) hx hb hrt hlocks hM hS dX12_commit_87
  · rw [if_pos c6] at hf
    refine lv_iconst (v := 1) hx hb dX12_commit_9 (by decide) ?_
    refine lv_istore_n (lv' := [(2, .int 1), (0, .ref (b + 0)), (1, .int a1)]) hx hb dX12_commit_10 rfl hl (by decide) rfl (fun ls hl => ?_)
    obtain ⟨fu, hfu⟩ := lp_some hf
    exact (loop fu (1, M) hfu) _ _ _ hM hS (lv_sub hl [1, 2, 0] rfl)
def fX12_t (M : Mem) (a1 : Int32) (a2 : Int32) : Option (Int32) := gd (inb (((8 : Int32) + ((12 : Int32) * a1)) + a2) 160) (some (M 1 ((((8 : Int32) + ((12 : Int32) * a1)) + a2).toNatClampNeg)))
set_option maxHeartbeats 4000000 in
set_option maxRecDepth 100000 in
theorem mX12_t (l : Launch) (E : EP) (B0 : Nat) (b : Nat) (hb0 : B0 ≤ b) (M : Mem) (a1 : Int32) (a2 : Int32) (r : Int32) (hf : fX12_t M a1 a2 = some r) : MU l E B0 yX12_t cX12_t 3 (some .int) 0 0 0 [.ref (b + 0), .int a1, .int a2] (Blk E b modSh 10 M) (some (.int r)) (Blk E b modSh 10 M) nv := by
  refine mu_of (by decide +kernel) (Nat.le_of_ble_eq_true rfl) ?_
  intro p e s m args below meth c hx hb hml hown hts hrt hlocks hE H hM hS ls hl
  have hown : s.vm.findClass RX12 = some m.cls := hown
  have hl : lv_has ls 3 [(0, .ref (b + 0)), (1, .int a1), (2, .int a2)] := hl
  have hw : ∀ w ∈ WA, w.before args s = true := fun w h => hts w (List.mem_cons_of_mem _ h)
  have hAB : ∀ q, nv q → B0 ≤ q := fun _ h => h.elim
  unfold fX12_t at hf
  refine lv_aload_n hx hb dX12_t_0 rfl (lv_at hl 0 rfl) ?_
  refine w_get (k := 0) (v := .ref (b + 1)) hx hb hw hown hE fl_X12_7 hM (by decide) rfl rfl rfl dX12_t_1 ?_
  refine lv_bipush (v := 8) hx hb dX12_t_4 (by decide) ?_
  refine lv_bipush (v := 12) hx hb dX12_t_6 (by decide) ?_
  refine lv_iload_n hx hb dX12_t_8 rfl (lv_at hl 1 rfl) ?_
  refine lv_imul hx hb dX12_t_9 ?_
  refine lv_iadd hx hb dX12_t_10 ?_
  refine lv_iload_n hx hb dX12_t_11 rfl (lv_at hl 2 rfl) ?_
  refine lv_iadd hx hb dX12_t_12 ?_
  obtain ⟨h1, hf⟩ := gd_some hf
  refine w_iald (k := 1) (x9 := (((8 : Int32) + ((12 : Int32) * a1)) + a2).toNatClampNeg) hx hb hE hM (by decide) rfl rfl h1 dX12_t_13 ?_
  have hre := Option.some.inj hf
  subst hre
  exact mu_i (v := (M 1 ((((8 : Int32) + ((12 : Int32) * a1)) + a2).toNatClampNeg))) hx hb hrt hlocks hM hS dX12_t_14
def fX12_set (M : Mem) (a1 : Int32) (a2 : Int32) (a3 : Int32) : Option (Mem) := gd (inb (((8 : Int32) + ((12 : Int32) * a1)) + a2) 160) (some (up2 M 1 ((((8 : Int32) + ((12 : Int32) * a1)) + a2).toNatClampNeg) a3))
set_option maxHeartbeats 4000000 in
set_option maxRecDepth 100000 in
theorem mX12_set (l : Launch) (E : EP) (B0 : Nat) (b : Nat) (hb0 : B0 ≤ b) (M : Mem) (a1 : Int32) (a2 : Int32) (a3 : Int32) (r : Mem) (hf : fX12_set M a1 a2 a3 = some r) : MU l E B0 yX12_set cX12_set 4 none 0 0 0 [.ref (b + 0), .int a1, .int a2, .int a3] (Blk E b modSh 10 M) none (Blk E b modSh 10 r) (iv b 10) := by
  refine mu_of (by decide +kernel) (Nat.le_of_ble_eq_true rfl) ?_
  intro p e s m args below meth c hx hb hml hown hts hrt hlocks hE H hM hS ls hl
  have hown : s.vm.findClass RX12 = some m.cls := hown
  have hl : lv_has ls 4 [(0, .ref (b + 0)), (1, .int a1), (2, .int a2), (3, .int a3)] := hl
  have hw : ∀ w ∈ WA, w.before args s = true := fun w h => hts w (List.mem_cons_of_mem _ h)
  have hAB : ∀ q, (iv b 10) q → B0 ≤ q := (iv_ge (by omega))
  unfold fX12_set at hf
  refine lv_aload_n hx hb dX12_set_0 rfl (lv_at hl 0 rfl) ?_
  refine w_get (k := 0) (v := .ref (b + 1)) hx hb hw hown hE fl_X12_7 hM (by decide) rfl rfl rfl dX12_set_1 ?_
  refine lv_bipush (v := 8) hx hb dX12_set_4 (by decide) ?_
  refine lv_bipush (v := 12) hx hb dX12_set_6 (by decide) ?_
  refine lv_iload_n hx hb dX12_set_8 rfl (lv_at hl 1 rfl) ?_
  refine lv_imul hx hb dX12_set_9 ?_
  refine lv_iadd hx hb dX12_set_10 ?_
  refine lv_iload_n hx hb dX12_set_11 rfl (lv_at hl 2 rfl) ?_
  refine lv_iadd hx hb dX12_set_12 ?_
  refine lv_iload_n hx hb dX12_set_13 rfl (lv_at hl 3 rfl) ?_
  obtain ⟨h1, hf⟩ := gd_some hf
  refine w_iast (k := 1) (x9 := (((8 : Int32) + ((12 : Int32) * a1)) + a2).toNatClampNeg) (x := a3) hx hb hE hM (by decide) rfl rfl h1 hS (iv_mem (by decide)) dX12_set_14 (fun H locs hM _ hu hS => ?_)
  have hre := Option.some.inj hf
  subst hre
  exact mu_v hx hb hrt hlocks hM hS dX12_set_15
def fX12_isStation (M : Mem) (a1 : Int32) : Option (Int32) := (fX12_in a1 (0 : Int32) ((M 1 0) - 1)).bind fun z1 => gd (isZ z1) (some z1)
set_option maxHeartbeats 4000000 in
set_option maxRecDepth 100000 in
theorem mX12_isStation (l : Launch) (E : EP) (B0 : Nat) (b : Nat) (hb0 : B0 ≤ b) (M : Mem) (a1 : Int32) (r : Int32) (hf : fX12_isStation M a1 = some r) : MU l E B0 yX12_isStation cX12_isStation 2 (some .boolean) 1 0 0 [.ref (b + 0), .int a1] (Blk E b modSh 10 M) (some (.int r)) (Blk E b modSh 10 M) nv := by
  refine mu_of (by decide +kernel) (Nat.le_of_ble_eq_true rfl) ?_
  intro p e s m args below meth c hx hb hml hown hts hrt hlocks hE H hM hS ls hl
  have hown : s.vm.findClass RX12 = some m.cls := hown
  have hl : lv_has ls 2 [(0, .ref (b + 0)), (1, .int a1)] := hl
  have hw : ∀ w ∈ WA, w.before args s = true := fun w h => hts w (List.mem_cons_of_mem _ h)
  have hAB : ∀ q, nv q → B0 ≤ q := fun _ h => h.elim
  unfold fX12_isStation at hf
  refine lv_iload_n hx hb dX12_isStation_0 rfl (lv_at hl 1 rfl) ?_
  refine lv_iconst (v := 0) hx hb dX12_isStation_1 (by decide) ?_
  refine lv_aload_n hx hb dX12_isStation_2 rfl (lv_at hl 0 rfl) ?_
  refine w_get (k := 0) (v := .ref (b + 1)) hx hb hw hown hE fl_X12_7 hM (by decide) rfl rfl rfl dX12_isStation_3 ?_
  refine lv_iconst (v := 0) hx hb dX12_isStation_6 (by decide) ?_
  refine w_iald (k := 1) (x9 := 0) hx hb hE hM (by decide) rfl (by decide) (by decide) dX12_isStation_7 ?_
  refine lv_iconst (v := 1) hx hb dX12_isStation_8 (by decide) ?_
  refine lv_isub hx hb dX12_isStation_9 ?_
  obtain ⟨z1, hc2, hf⟩ := br_some hf
  refine mu_cS (As := [.int a1, .int 0, .int ((M 1 0) - 1)]) (rest := []) hx hb hml hown hts hE (mX12_in l E B0 a1 (0 : Int32) ((M 1 0) - 1) z1 hc2) cs_X12_76 trivial hS hAB (fun _ h => h.elim) rfl hl.1 rfl (by decide) (Nat.le_of_ble_eq_true rfl) ⟨Nat.le_refl _, Nat.le_refl _⟩ dX12_isStation_10 (fun H locs _ _ hu hS => ?_)
  have hM := Blk.off hM hu (fun _ _ _ h => h)
  obtain ⟨h3, hf⟩ := gd_some hf
  have hre := Option.some.inj hf
  subst hre
  exact mu_z (v := z1) hx hb hrt (isZ_n h3) hlocks hM hS dX12_isStation_13
def fX12_isChannel (a1 : Int32) : Option (Int32) := (fX12_in a1 (0 : Int32) (9 : Int32)).bind fun z1 => gd (isZ z1) (some z1)
set_option maxHeartbeats 4000000 in
set_option maxRecDepth 100000 in
theorem mX12_isChannel (l : Launch) (E : EP) (B0 : Nat) (a1 : Int32) (r : Int32) (hf : fX12_isChannel a1 = some r) : MU l E B0 yX12_isChannel cX12_isChannel 1 (some .boolean) 1 0 0 [.int a1] (fun _ => True) (some (.int r)) (fun _ => True) nv := by
  refine mu_of (by decide +kernel) (Nat.le_of_ble_eq_true rfl) ?_
  intro p e s m args below meth c hx hb hml hown hts hrt hlocks hE H _ hS ls hl
  have hown : s.vm.findClass RX12 = some m.cls := hown
  have hl : lv_has ls 1 [(0, .int a1)] := hl
  have hw : ∀ w ∈ WA, w.before args s = true := fun w h => hts w (List.mem_cons_of_mem _ h)
  have hAB : ∀ q, nv q → B0 ≤ q := fun _ h => h.elim
  unfold fX12_isChannel at hf
  refine lv_iload_n hx hb dX12_isChannel_0 rfl (lv_at hl 0 rfl) ?_
  refine lv_iconst (v := 0) hx hb dX12_isChannel_1 (by decide) ?_
  refine lv_bipush (v := 9) hx hb dX12_isChannel_2 (by decide) ?_
  obtain ⟨z1, hc2, hf⟩ := br_some hf
  refine mu_cS (As := [.int a1, .int 0, .int 9]) (rest := []) hx hb hml hown hts hE (mX12_in l E B0 a1 (0 : Int32) (9 : Int32) z1 hc2) cs_X12_76 trivial hS hAB (fun _ h => h.elim) rfl hl.1 rfl (by decide) (Nat.le_of_ble_eq_true rfl) ⟨Nat.le_refl _, Nat.le_refl _⟩ dX12_isChannel_4 (fun H locs _ _ hu hS => ?_)
  obtain ⟨h3, hf⟩ := gd_some hf
  have hre := Option.some.inj hf
  subst hre
  exact mu_z (v := z1) hx hb hrt (isZ_n h3) hlocks trivial hS dX12_isChannel_7
def fX12_isPlace (a1 : Int32) (a2 : Int32) : Option (Int32) := (fX12_in a1 (0 : Int32) (99 : Int32)).bind fun z1 => (if z1 = 0 then some 0 else (fX12_in a2 (0 : Int32) (99 : Int32)).bind fun z4 => (if z4 = 0 then some 0 else some 1))
set_option maxHeartbeats 4000000 in
set_option maxRecDepth 100000 in
theorem mX12_isPlace (l : Launch) (E : EP) (B0 : Nat) (a1 : Int32) (a2 : Int32) (r : Int32) (hf : fX12_isPlace a1 a2 = some r) : MU l E B0 yX12_isPlace cX12_isPlace 2 (some .boolean) 1 0 0 [.int a1, .int a2] (fun _ => True) (some (.int r)) (fun _ => True) nv := by
  refine mu_of (by decide +kernel) (Nat.le_of_ble_eq_true rfl) ?_
  intro p e s m args below meth c hx hb hml hown hts hrt hlocks hE H _ hS ls hl
  have hown : s.vm.findClass RX12 = some m.cls := hown
  have hl : lv_has ls 2 [(0, .int a1), (1, .int a2)] := hl
  have hw : ∀ w ∈ WA, w.before args s = true := fun w h => hts w (List.mem_cons_of_mem _ h)
  have hAB : ∀ q, nv q → B0 ≤ q := fun _ h => h.elim
  unfold fX12_isPlace at hf
  refine lv_iload_n hx hb dX12_isPlace_0 rfl (lv_at hl 0 rfl) ?_
  refine lv_iconst (v := 0) hx hb dX12_isPlace_1 (by decide) ?_
  refine lv_bipush (v := 99) hx hb dX12_isPlace_2 (by decide) ?_
  obtain ⟨z1, hc2, hf⟩ := br_some hf
  refine mu_cS (As := [.int a1, .int 0, .int 99]) (rest := []) hx hb hml hown hts hE (mX12_in l E B0 a1 (0 : Int32) (99 : Int32) z1 hc2) cs_X12_76 trivial hS hAB (fun _ h => h.elim) rfl hl.1 rfl (by decide) (Nat.le_of_ble_eq_true rfl) ⟨Nat.le_refl _, Nat.le_refl _⟩ dX12_isPlace_4 (fun H locs _ _ hu hS => ?_)
  refine lv_if_eq (tgt := 24) hx hb dX12_isPlace_7 (by decide) (fun c3 => ?_) (fun c3 => ?_)
  · rw [if_pos c3] at hf
    refine lv_iconst (v := 0) hx hb dX12_isPlace_24 (by decide) ?_
    have hre := Option.some.inj hf
    subst hre
    exact mu_z (v := 0) hx hb hrt rfl hlocks trivial hS dX12_isPlace_25
  · rw [if_neg c3] at hf
    refine lv_iload_n hx hb dX12_isPlace_10 rfl (lv_at hl 1 rfl) ?_
    refine lv_iconst (v := 0) hx hb dX12_isPlace_11 (by decide) ?_
    refine lv_bipush (v := 99) hx hb dX12_isPlace_12 (by decide) ?_
    obtain ⟨z4, hc5, hf⟩ := br_some hf
    refine mu_cS (As := [.int a2, .int 0, .int 99]) (rest := []) hx hb hml hown hts hE (mX12_in l E B0 a2 (0 : Int32) (99 : Int32) z4 hc5) cs_X12_76 trivial hS hAB (fun _ h => h.elim) rfl hl.1 rfl (by decide) (Nat.le_of_ble_eq_true rfl) ⟨Nat.le_refl _, Nat.le_refl _⟩ dX12_isPlace_14 (fun H locs _ _ hu hS => ?_)
    refine lv_if_eq (tgt := 24) hx hb dX12_isPlace_17 (by decide) (fun c6 => ?_) (fun c6 => ?_)
    · rw [if_pos c6] at hf
      refine lv_iconst (v := 0) hx hb dX12_isPlace_24 (by decide) ?_
      have hre := Option.some.inj hf
      subst hre
      exact mu_z (v := 0) hx hb hrt rfl hlocks trivial hS dX12_isPlace_25
    · rw [if_neg c6] at hf
      refine lv_iconst (v := 1) hx hb dX12_isPlace_20 (by decide) ?_
      refine lv_goto (tgt := 25) hx hb dX12_isPlace_21 (by decide) ?_
      have hre := Option.some.inj hf
      subst hre
      exact mu_z (v := 1) hx hb hrt rfl hlocks trivial hS dX12_isPlace_25
def fX12_signed_s (M : Mem) (a1 : Int32) (a2 : Int32) (z : Int32) : Option ((Int32) ⊕ (Int32)) := (if (M 1 0) ≤ z then some (.inr (-1)) else (fX12_t M z (0 : Int32)).bind fun z2 => (if z2 = a1 then (fX12_t M z (1 : Int32)).bind fun z5 => (if z5 = a2 then some (.inr z) else some (.inl (z + 1))) else some (.inl (z + 1))))
noncomputable def fX12_signed (M : Mem) (a1 : Int32) (a2 : Int32) : Option (Int32) := lp (fX12_signed_s M a1 a2) 0
set_option maxHeartbeats 4000000 in
set_option maxRecDepth 100000 in
theorem mX12_signed (l : Launch) (E : EP) (B0 : Nat) (b : Nat) (hb0 : B0 ≤ b) (M : Mem) (a1 : Int32) (a2 : Int32) (r : Int32) (hf : fX12_signed M a1 a2 = some r) : MU l E B0 yX12_signed cX12_signed 4 (some .int) 1 0 0 [.ref (b + 0), .int a1, .int a2] (Blk E b modSh 10 M) (some (.int r)) (Blk E b modSh 10 M) nv := by
  refine mu_of (by decide +kernel) (Nat.le_of_ble_eq_true rfl) ?_
  intro p e s m args below meth c hx hb hml hown hts hrt hlocks hE H hM hS ls hl
  have hown : s.vm.findClass RX12 = some m.cls := hown
  have hl : lv_has ls 4 [(0, .ref (b + 0)), (1, .int a1), (2, .int a2)] := hl
  have hw : ∀ w ∈ WA, w.before args s = true := fun w h => hts w (List.mem_cons_of_mem _ h)
  have hAB : ∀ q, nv q → B0 ≤ q := fun _ h => h.elim
  unfold fX12_signed at hf
  have loop : ∀ (fu : Nat) (z : Int32), lpI (fX12_signed_s M a1 a2) fu z = some r → (∀ (H : Heap) (locs : List Loc) (ls : Array Slot), Blk E b modSh 10 M H → va_S nv s.heap H locs → lv_has ls 4 [(0, .ref (b + 0)), (1, .int a1), (2, .int a2), (3, .int z)] → W p l e (rmD 1 0 0) s m args below meth c H locs 0 0 (MQ below (QU (some (.int r)) (Blk E b modSh 10 M) nv) args s 0 0 nv) (F0 m 2 ls [])) := by
    intro fu
    induction fu with
    | zero =>
      intro z hn
      exact nomatch hn
    | succ fu ih =>
      intro z hn
      obtain ⟨y, hf, hy⟩ := lpI_succ hn
      intro H locs ls hM hS hl
      unfold fX12_signed_s at hf
      refine lv_iload_n hx hb dX12_signed_2 rfl (lv_at hl 3 rfl) ?_
      refine lv_aload_n hx hb dX12_signed_3 rfl (lv_at hl 0 rfl) ?_
      refine w_get (k := 0) (v := .ref (b + 1)) hx hb hw hown hE fl_X12_7 hM (by decide) rfl rfl rfl dX12_signed_4 ?_
      refine lv_iconst (v := 0) hx hb dX12_signed_7 (by decide) ?_
      refine w_iald (k := 1) (x9 := 0) hx hb hE hM (by decide) rfl (by decide) (by decide) dX12_signed_8 ?_
      refine lv_icmp_ge (tgt := 40) hx hb dX12_signed_9 (by decide) (fun c1 => ?_) (fun c1 => ?_)
      · rw [if_pos c1] at hf
        refine lv_iconst (v := -1) hx hb dX12_signed_40 (by decide) ?_
        have hre := lp_end hy (Option.some.inj hf).symm
        subst hre
        exact mu_i (v := -1) hx hb hrt hlocks hM hS dX12_signed_41
      · rw [if_neg c1] at hf
        refine lv_aload_n hx hb dX12_signed_12 rfl (lv_at hl 0 rfl) ?_
        refine lv_iload_n hx hb dX12_signed_13 rfl (lv_at hl 3 rfl) ?_
        refine lv_iconst (v := 0) hx hb dX12_signed_14 (by decide) ?_
        obtain ⟨z2, hc3, hf⟩ := br_some hf
        refine mu_cV (As := [.int z, .int 0]) (rest := []) hx hb hml hown hts hE (mX12_t l E B0 b (by omega) M z (0 : Int32) z2 hc3) cv_X12_80 (w_recv (k := 0) (ci := 12) hE hM (by decide) rfl rfl) hM hS hAB (fun _ h => h.elim) rfl hl.1 rfl (by decide) (Nat.le_of_ble_eq_true rfl) ⟨Nat.le_refl _, Nat.le_refl _⟩ dX12_signed_15 (fun H locs hM _ hu hS => ?_)
        refine lv_iload_n hx hb dX12_signed_18 rfl (lv_at hl 1 rfl) ?_
        refine lv_icmp_ne (tgt := 34) hx hb dX12_signed_19 (by decide) (fun c4 => ?_) (fun c4 => ?_)
        · rw [if_neg c4] at hf
          refine lv_iinc (v := (z + 1)) (lv' := [(3, .int (z + 1)), (0, .ref (b + 0)), (1, .int a1), (2, .int a2)]) hx hb dX12_signed_34 hl (k := 3) rfl rfl (by decide) rfl (fun ls hl => ?_)
          refine lv_goto (tgt := 2) hx hb dX12_signed_37 (by decide) ?_
          exact ih (z + 1) (lp_back hy (Option.some.inj hf).symm) _ _ _ hM hS (lv_sub hl [1, 2, 3, 0] rfl)
        · rw [if_pos c4] at hf
          refine lv_aload_n hx hb dX12_signed_22 rfl (lv_at hl 0 rfl) ?_
          refine lv_iload_n hx hb dX12_signed_23 rfl (lv_at hl 3 rfl) ?_
          refine lv_iconst (v := 1) hx hb dX12_signed_24 (by decide) ?_
          obtain ⟨z5, hc6, hf⟩ := br_some hf
          refine mu_cV (As := [.int z, .int 1]) (rest := []) hx hb hml hown hts hE (mX12_t l E B0 b (by omega) M z (1 : Int32) z5 hc6) cv_X12_80 (w_recv (k := 0) (ci := 12) hE hM (by decide) rfl rfl) hM hS hAB (fun _ h => h.elim) rfl hl.1 rfl (by decide) (Nat.le_of_ble_eq_true rfl) ⟨Nat.le_refl _, Nat.le_refl _⟩ dX12_signed_25 (fun H locs hM _ hu hS => ?_)
          refine lv_iload_n hx hb dX12_signed_28 rfl (lv_at hl 2 rfl) ?_
          refine lv_icmp_ne (tgt := 34) hx hb dX12_signed_29 (by decide) (fun c7 => ?_) (fun c7 => ?_)
          · rw [if_neg c7] at hf
            refine lv_iinc (v := (z + 1)) (lv' := [(3, .int (z + 1)), (0, .ref (b + 0)), (1, .int a1), (2, .int a2)]) hx hb dX12_signed_34 hl (k := 3) rfl rfl (by decide) rfl (fun ls hl => ?_)
            refine lv_goto (tgt := 2) hx hb dX12_signed_37 (by decide) ?_
            exact ih (z + 1) (lp_back hy (Option.some.inj hf).symm) _ _ _ hM hS (lv_sub hl [1, 2, 3, 0] rfl)
          · rw [if_pos c7] at hf
            refine lv_iload_n hx hb dX12_signed_32 rfl (lv_at hl 3 rfl) ?_
            have hre := lp_end hy (Option.some.inj hf).symm
            subst hre
            exact mu_i (v := z) hx hb hrt hlocks hM hS dX12_signed_33
  refine lv_iconst (v := 0) hx hb dX12_signed_0 (by decide) ?_
  refine lv_istore_n (lv' := [(3, .int 0), (0, .ref (b + 0)), (1, .int a1), (2, .int a2)]) hx hb dX12_signed_1 rfl hl (by decide) rfl (fun ls hl => ?_)
  obtain ⟨fu, hfu⟩ := lp_some hf
  exact (loop fu 0 hfu) _ _ _ hM hS (lv_sub hl [1, 2, 3, 0] rfl)
def fX12_squared (M : Mem) (a1 : Int32) (a2 : Int32) : Option (Int32) := (fX12_t M a1 (2 : Int32)).bind fun z1 => (fX12_t M a2 (2 : Int32)).bind fun z3 => (fX12_t M a1 (3 : Int32)).bind fun z5 => (fX12_t M a2 (3 : Int32)).bind fun z7 => some (((z1 - z3) * (z1 - z3)) + ((z5 - z7) * (z5 - z7)))
set_option maxHeartbeats 4000000 in
set_option maxRecDepth 100000 in
theorem mX12_squared (l : Launch) (E : EP) (B0 : Nat) (b : Nat) (hb0 : B0 ≤ b) (M : Mem) (a1 : Int32) (a2 : Int32) (r : Int32) (hf : fX12_squared M a1 a2 = some r) : MU l E B0 yX12_squared cX12_squared 5 (some .int) 1 0 0 [.ref (b + 0), .int a1, .int a2] (Blk E b modSh 10 M) (some (.int r)) (Blk E b modSh 10 M) nv := by
  refine mu_of (by decide +kernel) (Nat.le_of_ble_eq_true rfl) ?_
  intro p e s m args below meth c hx hb hml hown hts hrt hlocks hE H hM hS ls hl
  have hown : s.vm.findClass RX12 = some m.cls := hown
  have hl : lv_has ls 5 [(0, .ref (b + 0)), (1, .int a1), (2, .int a2)] := hl
  have hw : ∀ w ∈ WA, w.before args s = true := fun w h => hts w (List.mem_cons_of_mem _ h)
  have hAB : ∀ q, nv q → B0 ≤ q := fun _ h => h.elim
  unfold fX12_squared at hf
  refine lv_aload_n hx hb dX12_squared_0 rfl (lv_at hl 0 rfl) ?_
  refine lv_iload_n hx hb dX12_squared_1 rfl (lv_at hl 1 rfl) ?_
  refine lv_iconst (v := 2) hx hb dX12_squared_2 (by decide) ?_
  obtain ⟨z1, hc2, hf⟩ := br_some hf
  refine mu_cV (As := [.int a1, .int 2]) (rest := []) hx hb hml hown hts hE (mX12_t l E B0 b (by omega) M a1 (2 : Int32) z1 hc2) cv_X12_80 (w_recv (k := 0) (ci := 12) hE hM (by decide) rfl rfl) hM hS hAB (fun _ h => h.elim) rfl hl.1 rfl (by decide) (Nat.le_of_ble_eq_true rfl) ⟨Nat.le_refl _, Nat.le_refl _⟩ dX12_squared_3 (fun H locs hM _ hu hS => ?_)
  refine lv_aload_n hx hb dX12_squared_6 rfl (lv_at hl 0 rfl) ?_
  refine lv_iload_n hx hb dX12_squared_7 rfl (lv_at hl 2 rfl) ?_
  refine lv_iconst (v := 2) hx hb dX12_squared_8 (by decide) ?_
  obtain ⟨z3, hc4, hf⟩ := br_some hf
  refine mu_cV (As := [.int a2, .int 2]) (rest := [.int z1]) hx hb hml hown hts hE (mX12_t l E B0 b (by omega) M a2 (2 : Int32) z3 hc4) cv_X12_80 (w_recv (k := 0) (ci := 12) hE hM (by decide) rfl rfl) hM hS hAB (fun _ h => h.elim) rfl hl.1 rfl (by decide) (Nat.le_of_ble_eq_true rfl) ⟨Nat.le_refl _, Nat.le_refl _⟩ dX12_squared_9 (fun H locs hM _ hu hS => ?_)
  refine lv_isub hx hb dX12_squared_12 ?_
  refine lv_istore_n (lv' := [(3, .int (z1 - z3)), (0, .ref (b + 0)), (1, .int a1), (2, .int a2)]) hx hb dX12_squared_13 rfl hl (by decide) rfl (fun ls hl => ?_)
  refine lv_aload_n hx hb dX12_squared_14 rfl (lv_at hl 1 rfl) ?_
  refine lv_iload_n hx hb dX12_squared_15 rfl (lv_at hl 2 rfl) ?_
  refine lv_iconst (v := 3) hx hb dX12_squared_16 (by decide) ?_
  obtain ⟨z5, hc6, hf⟩ := br_some hf
  refine mu_cV (As := [.int a1, .int 3]) (rest := []) hx hb hml hown hts hE (mX12_t l E B0 b (by omega) M a1 (3 : Int32) z5 hc6) cv_X12_80 (w_recv (k := 0) (ci := 12) hE hM (by decide) rfl rfl) hM hS hAB (fun _ h => h.elim) rfl hl.1 rfl (by decide) (Nat.le_of_ble_eq_true rfl) ⟨Nat.le_refl _, Nat.le_refl _⟩ dX12_squared_17 (fun H locs hM _ hu hS => ?_)
  refine lv_aload_n hx hb dX12_squared_20 rfl (lv_at hl 1 rfl) ?_
  refine lv_iload_n hx hb dX12_squared_21 rfl (lv_at hl 3 rfl) ?_
  refine lv_iconst (v := 3) hx hb dX12_squared_22 (by decide) ?_
  obtain ⟨z7, hc8, hf⟩ := br_some hf
  refine mu_cV (As := [.int a2, .int 3]) (rest := [.int z5]) hx hb hml hown hts hE (mX12_t l E B0 b (by omega) M a2 (3 : Int32) z7 hc8) cv_X12_80 (w_recv (k := 0) (ci := 12) hE hM (by decide) rfl rfl) hM hS hAB (fun _ h => h.elim) rfl hl.1 rfl (by decide) (Nat.le_of_ble_eq_true rfl) ⟨Nat.le_refl _, Nat.le_refl _⟩ dX12_squared_23 (fun H locs hM _ hu hS => ?_)
  refine lv_isub hx hb dX12_squared_26 ?_
  refine lv_istore (lv' := [(4, .int (z5 - z7)), (3, .int (z1 - z3)), (0, .ref (b + 0)), (1, .int a1), (2, .int a2)]) hx hb dX12_squared_27 hl (by decide) rfl (fun ls hl => ?_)
  refine lv_iload_n hx hb dX12_squared_29 rfl (lv_at hl 1 rfl) ?_
  refine lv_iload_n hx hb dX12_squared_30 rfl (lv_at hl 1 rfl) ?_
  refine lv_imul hx hb dX12_squared_31 ?_
  refine lv_iload hx hb dX12_squared_32 (lv_at hl 0 rfl) ?_
  refine lv_iload hx hb dX12_squared_34 (lv_at hl 0 rfl) ?_
  refine lv_imul hx hb dX12_squared_36 ?_
  refine lv_iadd hx hb dX12_squared_37 ?_
  have hre := Option.some.inj hf
  subst hre
  exact mu_i (v := (((z1 - z3) * (z1 - z3)) + ((z5 - z7) * (z5 - z7)))) hx hb hrt hlocks hM hS dX12_squared_38
def fX12_hears (M : Mem) (a1 : Int32) (a2 : Int32) : Option (Int32) := (if a1 = a2 then some 0 else (fX12_t M a1 (5 : Int32)).bind fun z2 => (fX12_t M a2 (5 : Int32)).bind fun z4 => (if z2 = z4 then (fX12_squared M a1 a2).bind fun z7 => (fX12_t M a2 (4 : Int32)).bind fun z9 => (fX12_t M a2 (4 : Int32)).bind fun z11 => (if (z9 * z11) < z7 then some 0 else some 1) else some 0))
set_option maxHeartbeats 4000000 in
set_option maxRecDepth 100000 in
theorem mX12_hears (l : Launch) (E : EP) (B0 : Nat) (b : Nat) (hb0 : B0 ≤ b) (M : Mem) (a1 : Int32) (a2 : Int32) (r : Int32) (hf : fX12_hears M a1 a2 = some r) : MU l E B0 yX12_hears cX12_hears 3 (some .boolean) 2 0 0 [.ref (b + 0), .int a1, .int a2] (Blk E b modSh 10 M) (some (.int r)) (Blk E b modSh 10 M) nv := by
  refine mu_of (by decide +kernel) (Nat.le_of_ble_eq_true rfl) ?_
  intro p e s m args below meth c hx hb hml hown hts hrt hlocks hE H hM hS ls hl
  have hown : s.vm.findClass RX12 = some m.cls := hown
  have hl : lv_has ls 3 [(0, .ref (b + 0)), (1, .int a1), (2, .int a2)] := hl
  have hw : ∀ w ∈ WA, w.before args s = true := fun w h => hts w (List.mem_cons_of_mem _ h)
  have hAB : ∀ q, nv q → B0 ≤ q := fun _ h => h.elim
  unfold fX12_hears at hf
  refine lv_iload_n hx hb dX12_hears_0 rfl (lv_at hl 1 rfl) ?_
  refine lv_iload_n hx hb dX12_hears_1 rfl (lv_at hl 2 rfl) ?_
  refine lv_icmp_eq (tgt := 46) hx hb dX12_hears_2 (by decide) (fun c1 => ?_) (fun c1 => ?_)
  · rw [if_pos c1] at hf
    refine lv_iconst (v := 0) hx hb dX12_hears_46 (by decide) ?_
    have hre := Option.some.inj hf
    subst hre
    exact mu_z (v := 0) hx hb hrt rfl hlocks hM hS dX12_hears_47
  · rw [if_neg c1] at hf
    refine lv_aload_n hx hb dX12_hears_5 rfl (lv_at hl 0 rfl) ?_
    refine lv_iload_n hx hb dX12_hears_6 rfl (lv_at hl 1 rfl) ?_
    refine lv_iconst (v := 5) hx hb dX12_hears_7 (by decide) ?_
    obtain ⟨z2, hc3, hf⟩ := br_some hf
    refine mu_cV (As := [.int a1, .int 5]) (rest := []) hx hb hml hown hts hE (mX12_t l E B0 b (by omega) M a1 (5 : Int32) z2 hc3) cv_X12_80 (w_recv (k := 0) (ci := 12) hE hM (by decide) rfl rfl) hM hS hAB (fun _ h => h.elim) rfl hl.1 rfl (by decide) (Nat.le_of_ble_eq_true rfl) ⟨Nat.le_refl _, Nat.le_refl _⟩ dX12_hears_8 (fun H locs hM _ hu hS => ?_)
    refine lv_aload_n hx hb dX12_hears_11 rfl (lv_at hl 0 rfl) ?_
    refine lv_iload_n hx hb dX12_hears_12 rfl (lv_at hl 2 rfl) ?_
    refine lv_iconst (v := 5) hx hb dX12_hears_13 (by decide) ?_
    obtain ⟨z4, hc5, hf⟩ := br_some hf
    refine mu_cV (As := [.int a2, .int 5]) (rest := [.int z2]) hx hb hml hown hts hE (mX12_t l E B0 b (by omega) M a2 (5 : Int32) z4 hc5) cv_X12_80 (w_recv (k := 0) (ci := 12) hE hM (by decide) rfl rfl) hM hS hAB (fun _ h => h.elim) rfl hl.1 rfl (by decide) (Nat.le_of_ble_eq_true rfl) ⟨Nat.le_refl _, Nat.le_refl _⟩ dX12_hears_14 (fun H locs hM _ hu hS => ?_)
    refine lv_icmp_ne (tgt := 46) hx hb dX12_hears_17 (by decide) (fun c6 => ?_) (fun c6 => ?_)
    · rw [if_neg c6] at hf
      refine lv_iconst (v := 0) hx hb dX12_hears_46 (by decide) ?_
      have hre := Option.some.inj hf
      subst hre
      exact mu_z (v := 0) hx hb hrt rfl hlocks hM hS dX12_hears_47
    · rw [if_pos c6] at hf
      refine lv_aload_n hx hb dX12_hears_20 rfl (lv_at hl 0 rfl) ?_
      refine lv_iload_n hx hb dX12_hears_21 rfl (lv_at hl 1 rfl) ?_
      refine lv_iload_n hx hb dX12_hears_22 rfl (lv_at hl 2 rfl) ?_
      obtain ⟨z7, hc8, hf⟩ := br_some hf
      refine mu_cV (As := [.int a1, .int a2]) (rest := []) hx hb hml hown hts hE (mX12_squared l E B0 b (by omega) M a1 a2 z7 hc8) cv_X12_84 (w_recv (k := 0) (ci := 12) hE hM (by decide) rfl rfl) hM hS hAB (fun _ h => h.elim) rfl hl.1 rfl (by decide) (Nat.le_of_ble_eq_true rfl) ⟨Nat.le_refl _, Nat.le_refl _⟩ dX12_hears_23 (fun H locs hM _ hu hS => ?_)
      refine lv_aload_n hx hb dX12_hears_26 rfl (lv_at hl 0 rfl) ?_
      refine lv_iload_n hx hb dX12_hears_27 rfl (lv_at hl 2 rfl) ?_
      refine lv_iconst (v := 4) hx hb dX12_hears_28 (by decide) ?_
      obtain ⟨z9, hc10, hf⟩ := br_some hf
      refine mu_cV (As := [.int a2, .int 4]) (rest := [.int z7]) hx hb hml hown hts hE (mX12_t l E B0 b (by omega) M a2 (4 : Int32) z9 hc10) cv_X12_80 (w_recv (k := 0) (ci := 12) hE hM (by decide) rfl rfl) hM hS hAB (fun _ h => h.elim) rfl hl.1 rfl (by decide) (Nat.le_of_ble_eq_true rfl) ⟨Nat.le_refl _, Nat.le_refl _⟩ dX12_hears_29 (fun H locs hM _ hu hS => ?_)
      refine lv_aload_n hx hb dX12_hears_32 rfl (lv_at hl 0 rfl) ?_
      refine lv_iload_n hx hb dX12_hears_33 rfl (lv_at hl 2 rfl) ?_
      refine lv_iconst (v := 4) hx hb dX12_hears_34 (by decide) ?_
      obtain ⟨z11, hc12, hf⟩ := br_some hf
      refine mu_cV (As := [.int a2, .int 4]) (rest := [.int z9, .int z7]) hx hb hml hown hts hE (mX12_t l E B0 b (by omega) M a2 (4 : Int32) z11 hc12) cv_X12_80 (w_recv (k := 0) (ci := 12) hE hM (by decide) rfl rfl) hM hS hAB (fun _ h => h.elim) rfl hl.1 rfl (by decide) (Nat.le_of_ble_eq_true rfl) ⟨Nat.le_refl _, Nat.le_refl _⟩ dX12_hears_35 (fun H locs hM _ hu hS => ?_)
      refine lv_imul hx hb dX12_hears_38 ?_
      refine lv_icmp_gt (tgt := 46) hx hb dX12_hears_39 (by decide) (fun c13 => ?_) (fun c13 => ?_)
      · rw [if_pos c13] at hf
        refine lv_iconst (v := 0) hx hb dX12_hears_46 (by decide) ?_
        have hre := Option.some.inj hf
        subst hre
        exact mu_z (v := 0) hx hb hrt rfl hlocks hM hS dX12_hears_47
      · rw [if_neg c13] at hf
        refine lv_iconst (v := 1) hx hb dX12_hears_42 (by decide) ?_
        refine lv_goto (tgt := 47) hx hb dX12_hears_43 (by decide) ?_
        have hre := Option.some.inj hf
        subst hre
        exact mu_z (v := 1) hx hb hrt rfl hlocks hM hS dX12_hears_47
def fX12_disturbs (M : Mem) (a1 : Int32) (a2 : Int32) : Option (Int32) := (fX12_t M a1 (5 : Int32)).bind fun z1 => (fX12_t M a2 (5 : Int32)).bind fun z3 => (fX12_t M a1 (6 : Int32)).bind fun z5 => (if z5 = (1 : Int32) then (if (z1 - z3) = (1 : Int32) then (fX12_squared M a1 a2).bind fun z9 => (fX12_t M a1 (4 : Int32)).bind fun z11 => (fX12_t M a1 (4 : Int32)).bind fun z13 => (if (z11 * z13) < ((4 : Int32) * z9) then some 0 else some 1) else (if (z1 - z3) = (-1 : Int32) then (fX12_squared M a1 a2).bind fun z17 => (fX12_t M a1 (4 : Int32)).bind fun z19 => (fX12_t M a1 (4 : Int32)).bind fun z21 => (if (z19 * z21) < ((4 : Int32) * z17) then some 0 else some 1) else some 0)) else some 0)
set_option maxHeartbeats 4000000 in
set_option maxRecDepth 100000 in
theorem mX12_disturbs (l : Launch) (E : EP) (B0 : Nat) (b : Nat) (hb0 : B0 ≤ b) (M : Mem) (a1 : Int32) (a2 : Int32) (r : Int32) (hf : fX12_disturbs M a1 a2 = some r) : MU l E B0 yX12_disturbs cX12_disturbs 4 (some .boolean) 2 0 0 [.ref (b + 0), .int a1, .int a2] (Blk E b modSh 10 M) (some (.int r)) (Blk E b modSh 10 M) nv := by
  refine mu_of (by decide +kernel) (Nat.le_of_ble_eq_true rfl) ?_
  intro p e s m args below meth c hx hb hml hown hts hrt hlocks hE H hM hS ls hl
  have hown : s.vm.findClass RX12 = some m.cls := hown
  have hl : lv_has ls 4 [(0, .ref (b + 0)), (1, .int a1), (2, .int a2)] := hl
  have hw : ∀ w ∈ WA, w.before args s = true := fun w h => hts w (List.mem_cons_of_mem _ h)
  have hAB : ∀ q, nv q → B0 ≤ q := fun _ h => h.elim
  unfold fX12_disturbs at hf
  refine lv_aload_n hx hb dX12_disturbs_0 rfl (lv_at hl 0 rfl) ?_
  refine lv_iload_n hx hb dX12_disturbs_1 rfl (lv_at hl 1 rfl) ?_
  refine lv_iconst (v := 5) hx hb dX12_disturbs_2 (by decide) ?_
  obtain ⟨z1, hc2, hf⟩ := br_some hf
  refine mu_cV (As := [.int a1, .int 5]) (rest := []) hx hb hml hown hts hE (mX12_t l E B0 b (by omega) M a1 (5 : Int32) z1 hc2) cv_X12_80 (w_recv (k := 0) (ci := 12) hE hM (by decide) rfl rfl) hM hS hAB (fun _ h => h.elim) rfl hl.1 rfl (by decide) (Nat.le_of_ble_eq_true rfl) ⟨Nat.le_refl _, Nat.le_refl _⟩ dX12_disturbs_3 (fun H locs hM _ hu hS => ?_)
  refine lv_aload_n hx hb dX12_disturbs_6 rfl (lv_at hl 0 rfl) ?_
  refine lv_iload_n hx hb dX12_disturbs_7 rfl (lv_at hl 2 rfl) ?_
  refine lv_iconst (v := 5) hx hb dX12_disturbs_8 (by decide) ?_
  obtain ⟨z3, hc4, hf⟩ := br_some hf
  refine mu_cV (As := [.int a2, .int 5]) (rest := [.int z1]) hx hb hml hown hts hE (mX12_t l E B0 b (by omega) M a2 (5 : Int32) z3 hc4) cv_X12_80 (w_recv (k := 0) (ci := 12) hE hM (by decide) rfl rfl) hM hS hAB (fun _ h => h.elim) rfl hl.1 rfl (by decide) (Nat.le_of_ble_eq_true rfl) ⟨Nat.le_refl _, Nat.le_refl _⟩ dX12_disturbs_9 (fun H locs hM _ hu hS => ?_)
  refine lv_isub hx hb dX12_disturbs_12 ?_
  refine lv_istore_n (lv' := [(3, .int (z1 - z3)), (0, .ref (b + 0)), (1, .int a1), (2, .int a2)]) hx hb dX12_disturbs_13 rfl hl (by decide) rfl (fun ls hl => ?_)
  refine lv_aload_n hx hb dX12_disturbs_14 rfl (lv_at hl 1 rfl) ?_
  refine lv_iload_n hx hb dX12_disturbs_15 rfl (lv_at hl 2 rfl) ?_
  refine lv_bipush (v := 6) hx hb dX12_disturbs_16 (by decide) ?_
  obtain ⟨z5, hc6, hf⟩ := br_some hf
  refine mu_cV (As := [.int a1, .int 6]) (rest := []) hx hb hml hown hts hE (mX12_t l E B0 b (by omega) M a1 (6 : Int32) z5 hc6) cv_X12_80 (w_recv (k := 0) (ci := 12) hE hM (by decide) rfl rfl) hM hS hAB (fun _ h => h.elim) rfl hl.1 rfl (by decide) (Nat.le_of_ble_eq_true rfl) ⟨Nat.le_refl _, Nat.le_refl _⟩ dX12_disturbs_18 (fun H locs hM _ hu hS => ?_)
  refine lv_iconst (v := 1) hx hb dX12_disturbs_21 (by decide) ?_
  refine lv_icmp_ne (tgt := 63) hx hb dX12_disturbs_22 (by decide) (fun c7 => ?_) (fun c7 => ?_)
  · rw [if_neg c7] at hf
    refine lv_iconst (v := 0) hx hb dX12_disturbs_63 (by decide) ?_
    have hre := Option.some.inj hf
    subst hre
    exact mu_z (v := 0) hx hb hrt rfl hlocks hM hS dX12_disturbs_64
  · rw [if_pos c7] at hf
    refine lv_iload_n hx hb dX12_disturbs_25 rfl (lv_at hl 0 rfl) ?_
    refine lv_iconst (v := 1) hx hb dX12_disturbs_26 (by decide) ?_
    refine lv_icmp_eq (tgt := 35) hx hb dX12_disturbs_27 (by decide) (fun c8 => ?_) (fun c8 => ?_)
    · rw [if_pos c8] at hf
      refine lv_iconst (v := 4) hx hb dX12_disturbs_35 (by decide) ?_
      refine lv_aload_n hx hb dX12_disturbs_36 rfl (lv_at hl 1 rfl) ?_
      refine lv_iload_n hx hb dX12_disturbs_37 rfl (lv_at hl 2 rfl) ?_
      refine lv_iload_n hx hb dX12_disturbs_38 rfl (lv_at hl 3 rfl) ?_
      obtain ⟨z9, hc10, hf⟩ := br_some hf
      refine mu_cV (As := [.int a1, .int a2]) (rest := [.int 4]) hx hb hml hown hts hE (mX12_squared l E B0 b (by omega) M a1 a2 z9 hc10) cv_X12_84 (w_recv (k := 0) (ci := 12) hE hM (by decide) rfl rfl) hM hS hAB (fun _ h => h.elim) rfl hl.1 rfl (by decide) (Nat.le_of_ble_eq_true rfl) ⟨Nat.le_refl _, Nat.le_refl _⟩ dX12_disturbs_39 (fun H locs hM _ hu hS => ?_)
      refine lv_imul hx hb dX12_disturbs_42 ?_
      refine lv_aload_n hx hb dX12_disturbs_43 rfl (lv_at hl 1 rfl) ?_
      refine lv_iload_n hx hb dX12_disturbs_44 rfl (lv_at hl 2 rfl) ?_
      refine lv_iconst (v := 4) hx hb dX12_disturbs_45 (by decide) ?_
      obtain ⟨z11, hc12, hf⟩ := br_some hf
      refine mu_cV (As := [.int a1, .int 4]) (rest := [.int ((4 : Int32) * z9)]) hx hb hml hown hts hE (mX12_t l E B0 b (by omega) M a1 (4 : Int32) z11 hc12) cv_X12_80 (w_recv (k := 0) (ci := 12) hE hM (by decide) rfl rfl) hM hS hAB (fun _ h => h.elim) rfl hl.1 rfl (by decide) (Nat.le_of_ble_eq_true rfl) ⟨Nat.le_refl _, Nat.le_refl _⟩ dX12_disturbs_46 (fun H locs hM _ hu hS => ?_)
      refine lv_aload_n hx hb dX12_disturbs_49 rfl (lv_at hl 1 rfl) ?_
      refine lv_iload_n hx hb dX12_disturbs_50 rfl (lv_at hl 2 rfl) ?_
      refine lv_iconst (v := 4) hx hb dX12_disturbs_51 (by decide) ?_
      obtain ⟨z13, hc14, hf⟩ := br_some hf
      refine mu_cV (As := [.int a1, .int 4]) (rest := [.int z11, .int ((4 : Int32) * z9)]) hx hb hml hown hts hE (mX12_t l E B0 b (by omega) M a1 (4 : Int32) z13 hc14) cv_X12_80 (w_recv (k := 0) (ci := 12) hE hM (by decide) rfl rfl) hM hS hAB (fun _ h => h.elim) rfl hl.1 rfl (by decide) (Nat.le_of_ble_eq_true rfl) ⟨Nat.le_refl _, Nat.le_refl _⟩ dX12_disturbs_52 (fun H locs hM _ hu hS => ?_)
      refine lv_imul hx hb dX12_disturbs_55 ?_
      refine lv_icmp_gt (tgt := 63) hx hb dX12_disturbs_56 (by decide) (fun c15 => ?_) (fun c15 => ?_)
      · rw [if_pos c15] at hf
        refine lv_iconst (v := 0) hx hb dX12_disturbs_63 (by decide) ?_
        have hre := Option.some.inj hf
        subst hre
        exact mu_z (v := 0) hx hb hrt rfl hlocks hM hS dX12_disturbs_64
      · rw [if_neg c15] at hf
        refine lv_iconst (v := 1) hx hb dX12_disturbs_59 (by decide) ?_
        refine lv_goto (tgt := 64) hx hb dX12_disturbs_60 (by decide) ?_
        have hre := Option.some.inj hf
        subst hre
        exact mu_z (v := 1) hx hb hrt rfl hlocks hM hS dX12_disturbs_64
    · rw [if_neg c8] at hf
      refine lv_iload_n hx hb dX12_disturbs_30 rfl (lv_at hl 0 rfl) ?_
      refine lv_iconst (v := -1) hx hb dX12_disturbs_31 (by decide) ?_
      refine lv_icmp_ne (tgt := 63) hx hb dX12_disturbs_32 (by decide) (fun c16 => ?_) (fun c16 => ?_)
      · rw [if_neg c16] at hf
        refine lv_iconst (v := 0) hx hb dX12_disturbs_63 (by decide) ?_
        have hre := Option.some.inj hf
        subst hre
        exact mu_z (v := 0) hx hb hrt rfl hlocks hM hS dX12_disturbs_64
      · rw [if_pos c16] at hf
        refine lv_iconst (v := 4) hx hb dX12_disturbs_35 (by decide) ?_
        refine lv_aload_n hx hb dX12_disturbs_36 rfl (lv_at hl 1 rfl) ?_
        refine lv_iload_n hx hb dX12_disturbs_37 rfl (lv_at hl 2 rfl) ?_
        refine lv_iload_n hx hb dX12_disturbs_38 rfl (lv_at hl 3 rfl) ?_
        obtain ⟨z17, hc18, hf⟩ := br_some hf
        refine mu_cV (As := [.int a1, .int a2]) (rest := [.int 4]) hx hb hml hown hts hE (mX12_squared l E B0 b (by omega) M a1 a2 z17 hc18) cv_X12_84 (w_recv (k := 0) (ci := 12) hE hM (by decide) rfl rfl) hM hS hAB (fun _ h => h.elim) rfl hl.1 rfl (by decide) (Nat.le_of_ble_eq_true rfl) ⟨Nat.le_refl _, Nat.le_refl _⟩ dX12_disturbs_39 (fun H locs hM _ hu hS => ?_)
        refine lv_imul hx hb dX12_disturbs_42 ?_
        refine lv_aload_n hx hb dX12_disturbs_43 rfl (lv_at hl 1 rfl) ?_
        refine lv_iload_n hx hb dX12_disturbs_44 rfl (lv_at hl 2 rfl) ?_
        refine lv_iconst (v := 4) hx hb dX12_disturbs_45 (by decide) ?_
        obtain ⟨z19, hc20, hf⟩ := br_some hf
        refine mu_cV (As := [.int a1, .int 4]) (rest := [.int ((4 : Int32) * z17)]) hx hb hml hown hts hE (mX12_t l E B0 b (by omega) M a1 (4 : Int32) z19 hc20) cv_X12_80 (w_recv (k := 0) (ci := 12) hE hM (by decide) rfl rfl) hM hS hAB (fun _ h => h.elim) rfl hl.1 rfl (by decide) (Nat.le_of_ble_eq_true rfl) ⟨Nat.le_refl _, Nat.le_refl _⟩ dX12_disturbs_46 (fun H locs hM _ hu hS => ?_)
        refine lv_aload_n hx hb dX12_disturbs_49 rfl (lv_at hl 1 rfl) ?_
        refine lv_iload_n hx hb dX12_disturbs_50 rfl (lv_at hl 2 rfl) ?_
        refine lv_iconst (v := 4) hx hb dX12_disturbs_51 (by decide) ?_
        obtain ⟨z21, hc22, hf⟩ := br_some hf
        refine mu_cV (As := [.int a1, .int 4]) (rest := [.int z19, .int ((4 : Int32) * z17)]) hx hb hml hown hts hE (mX12_t l E B0 b (by omega) M a1 (4 : Int32) z21 hc22) cv_X12_80 (w_recv (k := 0) (ci := 12) hE hM (by decide) rfl rfl) hM hS hAB (fun _ h => h.elim) rfl hl.1 rfl (by decide) (Nat.le_of_ble_eq_true rfl) ⟨Nat.le_refl _, Nat.le_refl _⟩ dX12_disturbs_52 (fun H locs hM _ hu hS => ?_)
        refine lv_imul hx hb dX12_disturbs_55 ?_
        refine lv_icmp_gt (tgt := 63) hx hb dX12_disturbs_56 (by decide) (fun c23 => ?_) (fun c23 => ?_)
        · rw [if_pos c23] at hf
          refine lv_iconst (v := 0) hx hb dX12_disturbs_63 (by decide) ?_
          have hre := Option.some.inj hf
          subst hre
          exact mu_z (v := 0) hx hb hrt rfl hlocks hM hS dX12_disturbs_64
        · rw [if_neg c23] at hf
          refine lv_iconst (v := 1) hx hb dX12_disturbs_59 (by decide) ?_
          refine lv_goto (tgt := 64) hx hb dX12_disturbs_60 (by decide) ?_
          have hre := Option.some.inj hf
          subst hre
          exact mu_z (v := 1) hx hb hrt rfl hlocks hM hS dX12_disturbs_64
def fX12_isDisturbed_s (M : Mem) (a1 : Int32) (z : Int32) : Option ((Int32) ⊕ (Int32)) := (if (M 1 0) ≤ z then some (.inr 0) else (fX12_disturbs M z a1).bind fun z2 => (if z2 = 0 then some (.inl (z + 1)) else some (.inr 1)))
noncomputable def fX12_isDisturbed (M : Mem) (a1 : Int32) : Option (Int32) := lp (fX12_isDisturbed_s M a1) 0
set_option maxHeartbeats 4000000 in
set_option maxRecDepth 100000 in
theorem mX12_isDisturbed (l : Launch) (E : EP) (B0 : Nat) (b : Nat) (hb0 : B0 ≤ b) (M : Mem) (a1 : Int32) (r : Int32) (hf : fX12_isDisturbed M a1 = some r) : MU l E B0 yX12_isDisturbed cX12_isDisturbed 3 (some .boolean) 3 0 0 [.ref (b + 0), .int a1] (Blk E b modSh 10 M) (some (.int r)) (Blk E b modSh 10 M) nv := by
  refine mu_of (by decide +kernel) (Nat.le_of_ble_eq_true rfl) ?_
  intro p e s m args below meth c hx hb hml hown hts hrt hlocks hE H hM hS ls hl
  have hown : s.vm.findClass RX12 = some m.cls := hown
  have hl : lv_has ls 3 [(0, .ref (b + 0)), (1, .int a1)] := hl
  have hw : ∀ w ∈ WA, w.before args s = true := fun w h => hts w (List.mem_cons_of_mem _ h)
  have hAB : ∀ q, nv q → B0 ≤ q := fun _ h => h.elim
  unfold fX12_isDisturbed at hf
  have loop : ∀ (fu : Nat) (z : Int32), lpI (fX12_isDisturbed_s M a1) fu z = some r → (∀ (H : Heap) (locs : List Loc) (ls : Array Slot), Blk E b modSh 10 M H → va_S nv s.heap H locs → lv_has ls 3 [(0, .ref (b + 0)), (1, .int a1), (2, .int z)] → W p l e (rmD 3 0 0) s m args below meth c H locs 0 0 (MQ below (QU (some (.int r)) (Blk E b modSh 10 M) nv) args s 0 0 nv) (F0 m 2 ls [])) := by
    intro fu
    induction fu with
    | zero =>
      intro z hn
      exact nomatch hn
    | succ fu ih =>
      intro z hn
      obtain ⟨y, hf, hy⟩ := lpI_succ hn
      intro H locs ls hM hS hl
      unfold fX12_isDisturbed_s at hf
      refine lv_iload_n hx hb dX12_isDisturbed_2 rfl (lv_at hl 2 rfl) ?_
      refine lv_aload_n hx hb dX12_isDisturbed_3 rfl (lv_at hl 0 rfl) ?_
      refine w_get (k := 0) (v := .ref (b + 1)) hx hb hw hown hE fl_X12_7 hM (by decide) rfl rfl rfl dX12_isDisturbed_4 ?_
      refine lv_iconst (v := 0) hx hb dX12_isDisturbed_7 (by decide) ?_
      refine w_iald (k := 1) (x9 := 0) hx hb hE hM (by decide) rfl (by decide) (by decide) dX12_isDisturbed_8 ?_
      refine lv_icmp_ge (tgt := 29) hx hb dX12_isDisturbed_9 (by decide) (fun c1 => ?_) (fun c1 => ?_)
      · rw [if_pos c1] at hf
        refine lv_iconst (v := 0) hx hb dX12_isDisturbed_29 (by decide) ?_
        have hre := lp_end hy (Option.some.inj hf).symm
        subst hre
        exact mu_z (v := 0) hx hb hrt rfl hlocks hM hS dX12_isDisturbed_30
      · rw [if_neg c1] at hf
        refine lv_aload_n hx hb dX12_isDisturbed_12 rfl (lv_at hl 0 rfl) ?_
        refine lv_iload_n hx hb dX12_isDisturbed_13 rfl (lv_at hl 2 rfl) ?_
        refine lv_iload_n hx hb dX12_isDisturbed_14 rfl (lv_at hl 1 rfl) ?_
        obtain ⟨z2, hc3, hf⟩ := br_some hf
        refine mu_cV (As := [.int z, .int a1]) (rest := []) hx hb hml hown hts hE (mX12_disturbs l E B0 b (by omega) M z a1 z2 hc3) cv_X12_87 (w_recv (k := 0) (ci := 12) hE hM (by decide) rfl rfl) hM hS hAB (fun _ h => h.elim) rfl hl.1 rfl (by decide) (Nat.le_of_ble_eq_true rfl) ⟨Nat.le_refl _, Nat.le_refl _⟩ dX12_isDisturbed_15 (fun H locs hM _ hu hS => ?_)
        refine lv_if_eq (tgt := 23) hx hb dX12_isDisturbed_18 (by decide) (fun c4 => ?_) (fun c4 => ?_)
        · rw [if_pos c4] at hf
          refine lv_iinc (v := (z + 1)) (lv' := [(2, .int (z + 1)), (0, .ref (b + 0)), (1, .int a1)]) hx hb dX12_isDisturbed_23 hl (k := 2) rfl rfl (by decide) rfl (fun ls hl => ?_)
          refine lv_goto (tgt := 2) hx hb dX12_isDisturbed_26 (by decide) ?_
          exact ih (z + 1) (lp_back hy (Option.some.inj hf).symm) _ _ _ hM hS (lv_sub hl [1, 2, 0] rfl)
        · rw [if_neg c4] at hf
          refine lv_iconst (v := 1) hx hb dX12_isDisturbed_21 (by decide) ?_
          have hre := lp_end hy (Option.some.inj hf).symm
          subst hre
          exact mu_z (v := 1) hx hb hrt rfl hlocks hM hS dX12_isDisturbed_22
  refine lv_iconst (v := 0) hx hb dX12_isDisturbed_0 (by decide) ?_
  refine lv_istore_n (lv' := [(2, .int 0), (0, .ref (b + 0)), (1, .int a1)]) hx hb dX12_isDisturbed_1 rfl hl (by decide) rfl (fun ls hl => ?_)
  obtain ⟨fu, hfu⟩ := lp_some hf
  exact (loop fu 0 hfu) _ _ _ hM hS (lv_sub hl [1, 2, 0] rfl)
def fX12_speakerOn_s (M : Mem) (a1 : Int32) (z : Int32) : Option ((Int32) ⊕ (Int32)) := (if (M 1 0) ≤ z then some (.inr (-1)) else (fX12_t M z (6 : Int32)).bind fun z2 => (if z2 = (1 : Int32) then (fX12_t M z (5 : Int32)).bind fun z5 => (if z5 = a1 then some (.inr z) else some (.inl (z + 1))) else some (.inl (z + 1))))
noncomputable def fX12_speakerOn (M : Mem) (a1 : Int32) : Option (Int32) := lp (fX12_speakerOn_s M a1) 0
set_option maxHeartbeats 4000000 in
set_option maxRecDepth 100000 in
theorem mX12_speakerOn (l : Launch) (E : EP) (B0 : Nat) (b : Nat) (hb0 : B0 ≤ b) (M : Mem) (a1 : Int32) (r : Int32) (hf : fX12_speakerOn M a1 = some r) : MU l E B0 yX12_speakerOn cX12_speakerOn 3 (some .int) 1 0 0 [.ref (b + 0), .int a1] (Blk E b modSh 10 M) (some (.int r)) (Blk E b modSh 10 M) nv := by
  refine mu_of (by decide +kernel) (Nat.le_of_ble_eq_true rfl) ?_
  intro p e s m args below meth c hx hb hml hown hts hrt hlocks hE H hM hS ls hl
  have hown : s.vm.findClass RX12 = some m.cls := hown
  have hl : lv_has ls 3 [(0, .ref (b + 0)), (1, .int a1)] := hl
  have hw : ∀ w ∈ WA, w.before args s = true := fun w h => hts w (List.mem_cons_of_mem _ h)
  have hAB : ∀ q, nv q → B0 ≤ q := fun _ h => h.elim
  unfold fX12_speakerOn at hf
  have loop : ∀ (fu : Nat) (z : Int32), lpI (fX12_speakerOn_s M a1) fu z = some r → (∀ (H : Heap) (locs : List Loc) (ls : Array Slot), Blk E b modSh 10 M H → va_S nv s.heap H locs → lv_has ls 3 [(0, .ref (b + 0)), (1, .int a1), (2, .int z)] → W p l e (rmD 1 0 0) s m args below meth c H locs 0 0 (MQ below (QU (some (.int r)) (Blk E b modSh 10 M) nv) args s 0 0 nv) (F0 m 2 ls [])) := by
    intro fu
    induction fu with
    | zero =>
      intro z hn
      exact nomatch hn
    | succ fu ih =>
      intro z hn
      obtain ⟨y, hf, hy⟩ := lpI_succ hn
      intro H locs ls hM hS hl
      unfold fX12_speakerOn_s at hf
      refine lv_iload_n hx hb dX12_speakerOn_2 rfl (lv_at hl 2 rfl) ?_
      refine lv_aload_n hx hb dX12_speakerOn_3 rfl (lv_at hl 0 rfl) ?_
      refine w_get (k := 0) (v := .ref (b + 1)) hx hb hw hown hE fl_X12_7 hM (by decide) rfl rfl rfl dX12_speakerOn_4 ?_
      refine lv_iconst (v := 0) hx hb dX12_speakerOn_7 (by decide) ?_
      refine w_iald (k := 1) (x9 := 0) hx hb hE hM (by decide) rfl (by decide) (by decide) dX12_speakerOn_8 ?_
      refine lv_icmp_ge (tgt := 41) hx hb dX12_speakerOn_9 (by decide) (fun c1 => ?_) (fun c1 => ?_)
      · rw [if_pos c1] at hf
        refine lv_iconst (v := -1) hx hb dX12_speakerOn_41 (by decide) ?_
        have hre := lp_end hy (Option.some.inj hf).symm
        subst hre
        exact mu_i (v := -1) hx hb hrt hlocks hM hS dX12_speakerOn_42
      · rw [if_neg c1] at hf
        refine lv_aload_n hx hb dX12_speakerOn_12 rfl (lv_at hl 0 rfl) ?_
        refine lv_iload_n hx hb dX12_speakerOn_13 rfl (lv_at hl 2 rfl) ?_
        refine lv_bipush (v := 6) hx hb dX12_speakerOn_14 (by decide) ?_
        obtain ⟨z2, hc3, hf⟩ := br_some hf
        refine mu_cV (As := [.int z, .int 6]) (rest := []) hx hb hml hown hts hE (mX12_t l E B0 b (by omega) M z (6 : Int32) z2 hc3) cv_X12_80 (w_recv (k := 0) (ci := 12) hE hM (by decide) rfl rfl) hM hS hAB (fun _ h => h.elim) rfl hl.1 rfl (by decide) (Nat.le_of_ble_eq_true rfl) ⟨Nat.le_refl _, Nat.le_refl _⟩ dX12_speakerOn_16 (fun H locs hM _ hu hS => ?_)
        refine lv_iconst (v := 1) hx hb dX12_speakerOn_19 (by decide) ?_
        refine lv_icmp_ne (tgt := 35) hx hb dX12_speakerOn_20 (by decide) (fun c4 => ?_) (fun c4 => ?_)
        · rw [if_neg c4] at hf
          refine lv_iinc (v := (z + 1)) (lv' := [(2, .int (z + 1)), (0, .ref (b + 0)), (1, .int a1)]) hx hb dX12_speakerOn_35 hl (k := 2) rfl rfl (by decide) rfl (fun ls hl => ?_)
          refine lv_goto (tgt := 2) hx hb dX12_speakerOn_38 (by decide) ?_
          exact ih (z + 1) (lp_back hy (Option.some.inj hf).symm) _ _ _ hM hS (lv_sub hl [1, 2, 0] rfl)
        · rw [if_pos c4] at hf
          refine lv_aload_n hx hb dX12_speakerOn_23 rfl (lv_at hl 0 rfl) ?_
          refine lv_iload_n hx hb dX12_speakerOn_24 rfl (lv_at hl 2 rfl) ?_
          refine lv_iconst (v := 5) hx hb dX12_speakerOn_25 (by decide) ?_
          obtain ⟨z5, hc6, hf⟩ := br_some hf
          refine mu_cV (As := [.int z, .int 5]) (rest := []) hx hb hml hown hts hE (mX12_t l E B0 b (by omega) M z (5 : Int32) z5 hc6) cv_X12_80 (w_recv (k := 0) (ci := 12) hE hM (by decide) rfl rfl) hM hS hAB (fun _ h => h.elim) rfl hl.1 rfl (by decide) (Nat.le_of_ble_eq_true rfl) ⟨Nat.le_refl _, Nat.le_refl _⟩ dX12_speakerOn_26 (fun H locs hM _ hu hS => ?_)
          refine lv_iload_n hx hb dX12_speakerOn_29 rfl (lv_at hl 1 rfl) ?_
          refine lv_icmp_ne (tgt := 35) hx hb dX12_speakerOn_30 (by decide) (fun c7 => ?_) (fun c7 => ?_)
          · rw [if_neg c7] at hf
            refine lv_iinc (v := (z + 1)) (lv' := [(2, .int (z + 1)), (0, .ref (b + 0)), (1, .int a1)]) hx hb dX12_speakerOn_35 hl (k := 2) rfl rfl (by decide) rfl (fun ls hl => ?_)
            refine lv_goto (tgt := 2) hx hb dX12_speakerOn_38 (by decide) ?_
            exact ih (z + 1) (lp_back hy (Option.some.inj hf).symm) _ _ _ hM hS (lv_sub hl [1, 2, 0] rfl)
          · rw [if_pos c7] at hf
            refine lv_iload_n hx hb dX12_speakerOn_33 rfl (lv_at hl 2 rfl) ?_
            have hre := lp_end hy (Option.some.inj hf).symm
            subst hre
            exact mu_i (v := z) hx hb hrt hlocks hM hS dX12_speakerOn_34
  refine lv_iconst (v := 0) hx hb dX12_speakerOn_0 (by decide) ?_
  refine lv_istore_n (lv' := [(2, .int 0), (0, .ref (b + 0)), (1, .int a1)]) hx hb dX12_speakerOn_1 rfl hl (by decide) rfl (fun ls hl => ?_)
  obtain ⟨fu, hfu⟩ := lp_some hf
  exact (loop fu 0 hfu) _ _ _ hM hS (lv_sub hl [1, 2, 0] rfl)
def fX12_waitsOn (M : Mem) (a1 : Int32) (a2 : Int32) : Option (Int32) := (fX12_t M a1 (6 : Int32)).bind fun z1 => (if z1 = (2 : Int32) then (fX12_t M a1 (5 : Int32)).bind fun z4 => (if z4 = a2 then some 1 else some 0) else some 0)
set_option maxHeartbeats 4000000 in
set_option maxRecDepth 100000 in
theorem mX12_waitsOn (l : Launch) (E : EP) (B0 : Nat) (b : Nat) (hb0 : B0 ≤ b) (M : Mem) (a1 : Int32) (a2 : Int32) (r : Int32) (hf : fX12_waitsOn M a1 a2 = some r) : MU l E B0 yX12_waitsOn cX12_waitsOn 3 (some .boolean) 1 0 0 [.ref (b + 0), .int a1, .int a2] (Blk E b modSh 10 M) (some (.int r)) (Blk E b modSh 10 M) nv := by
  refine mu_of (by decide +kernel) (Nat.le_of_ble_eq_true rfl) ?_
  intro p e s m args below meth c hx hb hml hown hts hrt hlocks hE H hM hS ls hl
  have hown : s.vm.findClass RX12 = some m.cls := hown
  have hl : lv_has ls 3 [(0, .ref (b + 0)), (1, .int a1), (2, .int a2)] := hl
  have hw : ∀ w ∈ WA, w.before args s = true := fun w h => hts w (List.mem_cons_of_mem _ h)
  have hAB : ∀ q, nv q → B0 ≤ q := fun _ h => h.elim
  unfold fX12_waitsOn at hf
  refine lv_aload_n hx hb dX12_waitsOn_0 rfl (lv_at hl 0 rfl) ?_
  refine lv_iload_n hx hb dX12_waitsOn_1 rfl (lv_at hl 1 rfl) ?_
  refine lv_bipush (v := 6) hx hb dX12_waitsOn_2 (by decide) ?_
  obtain ⟨z1, hc2, hf⟩ := br_some hf
  refine mu_cV (As := [.int a1, .int 6]) (rest := []) hx hb hml hown hts hE (mX12_t l E B0 b (by omega) M a1 (6 : Int32) z1 hc2) cv_X12_80 (w_recv (k := 0) (ci := 12) hE hM (by decide) rfl rfl) hM hS hAB (fun _ h => h.elim) rfl hl.1 rfl (by decide) (Nat.le_of_ble_eq_true rfl) ⟨Nat.le_refl _, Nat.le_refl _⟩ dX12_waitsOn_4 (fun H locs hM _ hu hS => ?_)
  refine lv_iconst (v := 2) hx hb dX12_waitsOn_7 (by decide) ?_
  refine lv_icmp_ne (tgt := 25) hx hb dX12_waitsOn_8 (by decide) (fun c3 => ?_) (fun c3 => ?_)
  · rw [if_neg c3] at hf
    refine lv_iconst (v := 0) hx hb dX12_waitsOn_25 (by decide) ?_
    have hre := Option.some.inj hf
    subst hre
    exact mu_z (v := 0) hx hb hrt rfl hlocks hM hS dX12_waitsOn_26
  · rw [if_pos c3] at hf
    refine lv_aload_n hx hb dX12_waitsOn_11 rfl (lv_at hl 0 rfl) ?_
    refine lv_iload_n hx hb dX12_waitsOn_12 rfl (lv_at hl 1 rfl) ?_
    refine lv_iconst (v := 5) hx hb dX12_waitsOn_13 (by decide) ?_
    obtain ⟨z4, hc5, hf⟩ := br_some hf
    refine mu_cV (As := [.int a1, .int 5]) (rest := []) hx hb hml hown hts hE (mX12_t l E B0 b (by omega) M a1 (5 : Int32) z4 hc5) cv_X12_80 (w_recv (k := 0) (ci := 12) hE hM (by decide) rfl rfl) hM hS hAB (fun _ h => h.elim) rfl hl.1 rfl (by decide) (Nat.le_of_ble_eq_true rfl) ⟨Nat.le_refl _, Nat.le_refl _⟩ dX12_waitsOn_14 (fun H locs hM _ hu hS => ?_)
    refine lv_iload_n hx hb dX12_waitsOn_17 rfl (lv_at hl 2 rfl) ?_
    refine lv_icmp_ne (tgt := 25) hx hb dX12_waitsOn_18 (by decide) (fun c6 => ?_) (fun c6 => ?_)
    · rw [if_neg c6] at hf
      refine lv_iconst (v := 0) hx hb dX12_waitsOn_25 (by decide) ?_
      have hre := Option.some.inj hf
      subst hre
      exact mu_z (v := 0) hx hb hrt rfl hlocks hM hS dX12_waitsOn_26
    · rw [if_pos c6] at hf
      refine lv_iconst (v := 1) hx hb dX12_waitsOn_21 (by decide) ?_
      refine lv_goto (tgt := 26) hx hb dX12_waitsOn_22 (by decide) ?_
      have hre := Option.some.inj hf
      subst hre
      exact mu_z (v := 1) hx hb hrt rfl hlocks hM hS dX12_waitsOn_26
def fX12_lineOf_s (M : Mem) (a1 : Int32) (z : Int32 × Int32) : Option ((Int32 × Int32) ⊕ (Int32)) := (if (M 1 0) ≤ z.2 then some (.inr z.1) else (fX12_waitsOn M z.2 a1).bind fun z2 => (if z2 = 0 then some (.inl ((z.1 + 0), (z.2 + 1))) else some (.inl ((z.1 + 1), (z.2 + 1)))))
noncomputable def fX12_lineOf (M : Mem) (a1 : Int32) : Option (Int32) := lp (fX12_lineOf_s M a1) (0, 0)
set_option maxHeartbeats 4000000 in
set_option maxRecDepth 100000 in
theorem mX12_lineOf (l : Launch) (E : EP) (B0 : Nat) (b : Nat) (hb0 : B0 ≤ b) (M : Mem) (a1 : Int32) (r : Int32) (hf : fX12_lineOf M a1 = some r) : MU l E B0 yX12_lineOf cX12_lineOf 4 (some .int) 2 0 0 [.ref (b + 0), .int a1] (Blk E b modSh 10 M) (some (.int r)) (Blk E b modSh 10 M) nv := by
  refine mu_of (by decide +kernel) (Nat.le_of_ble_eq_true rfl) ?_
  intro p e s m args below meth c hx hb hml hown hts hrt hlocks hE H hM hS ls hl
  have hown : s.vm.findClass RX12 = some m.cls := hown
  have hl : lv_has ls 4 [(0, .ref (b + 0)), (1, .int a1)] := hl
  have hw : ∀ w ∈ WA, w.before args s = true := fun w h => hts w (List.mem_cons_of_mem _ h)
  have hAB : ∀ q, nv q → B0 ≤ q := fun _ h => h.elim
  unfold fX12_lineOf at hf
  have loop : ∀ (fu : Nat) (z : Int32 × Int32), lpI (fX12_lineOf_s M a1) fu z = some r → (∀ (H : Heap) (locs : List Loc) (ls : Array Slot), Blk E b modSh 10 M H → va_S nv s.heap H locs → lv_has ls 4 [(0, .ref (b + 0)), (1, .int a1), (2, .int z.1), (3, .int z.2)] → W p l e (rmD 2 0 0) s m args below meth c H locs 0 0 (MQ below (QU (some (.int r)) (Blk E b modSh 10 M) nv) args s 0 0 nv) (F0 m 4 ls [])) := by
    intro fu
    induction fu with
    | zero =>
      intro z hn
      exact nomatch hn
    | succ fu ih =>
      intro z hn
      obtain ⟨y, hf, hy⟩ := lpI_succ hn
      intro H locs ls hM hS hl
      unfold fX12_lineOf_s at hf
      refine lv_iload_n hx hb dX12_lineOf_4 rfl (lv_at hl 3 rfl) ?_
      refine lv_aload_n hx hb dX12_lineOf_5 rfl (lv_at hl 0 rfl) ?_
      refine w_get (k := 0) (v := .ref (b + 1)) hx hb hw hown hE fl_X12_7 hM (by decide) rfl rfl rfl dX12_lineOf_6 ?_
      refine lv_iconst (v := 0) hx hb dX12_lineOf_9 (by decide) ?_
      refine w_iald (k := 1) (x9 := 0) hx hb hE hM (by decide) rfl (by decide) (by decide) dX12_lineOf_10 ?_
      refine lv_icmp_ge (tgt := 37) hx hb dX12_lineOf_11 (by decide) (fun c1 => ?_) (fun c1 => ?_)
      · rw [if_pos c1] at hf
        refine lv_iload_n hx hb dX12_lineOf_37 rfl (lv_at hl 2 rfl) ?_
        have hre := lp_end hy (Option.some.inj hf).symm
        subst hre
        exact mu_i (v := z.1) hx hb hrt hlocks hM hS dX12_lineOf_38
      · rw [if_neg c1] at hf
        refine lv_iload_n hx hb dX12_lineOf_14 rfl (lv_at hl 2 rfl) ?_
        refine lv_aload_n hx hb dX12_lineOf_15 rfl (lv_at hl 0 rfl) ?_
        refine lv_iload_n hx hb dX12_lineOf_16 rfl (lv_at hl 3 rfl) ?_
        refine lv_iload_n hx hb dX12_lineOf_17 rfl (lv_at hl 1 rfl) ?_
        obtain ⟨z2, hc3, hf⟩ := br_some hf
        refine mu_cV (As := [.int z.2, .int a1]) (rest := [.int z.1]) hx hb hml hown hts hE (mX12_waitsOn l E B0 b (by omega) M z.2 a1 z2 hc3) cv_X12_91 (w_recv (k := 0) (ci := 12) hE hM (by decide) rfl rfl) hM hS hAB (fun _ h => h.elim) rfl hl.1 rfl (by decide) (Nat.le_of_ble_eq_true rfl) ⟨Nat.le_refl _, Nat.le_refl _⟩ dX12_lineOf_18 (fun H locs hM _ hu hS => ?_)
        refine lv_if_eq (tgt := 28) hx hb dX12_lineOf_21 (by decide) (fun c4 => ?_) (fun c4 => ?_)
        · rw [if_pos c4] at hf
          refine lv_iconst (v := 0) hx hb dX12_lineOf_28 (by decide) ?_
          refine lv_iadd hx hb dX12_lineOf_29 ?_
          refine lv_istore_n (lv' := [(2, .int (z.1 + 0)), (0, .ref (b + 0)), (1, .int a1), (3, .int z.2)]) hx hb dX12_lineOf_30 rfl hl (by decide) rfl (fun ls hl => ?_)
          refine lv_iinc (v := (z.2 + 1)) (lv' := [(3, .int (z.2 + 1)), (2, .int (z.1 + 0)), (0, .ref (b + 0)), (1, .int a1)]) hx hb dX12_lineOf_31 hl (k := 3) rfl rfl (by decide) rfl (fun ls hl => ?_)
          refine lv_goto (tgt := 4) hx hb dX12_lineOf_34 (by decide) ?_
          exact ih ((z.1 + 0), (z.2 + 1)) (lp_back hy (Option.some.inj hf).symm) _ _ _ hM hS (lv_sub hl [2, 3, 1, 0] rfl)
        · rw [if_neg c4] at hf
          refine lv_iconst (v := 1) hx hb dX12_lineOf_24 (by decide) ?_
          refine lv_goto (tgt := 29) hx hb dX12_lineOf_25 (by decide) ?_
          refine lv_iadd hx hb dX12_lineOf_29 ?_
          refine lv_istore_n (lv' := [(2, .int (z.1 + 1)), (0, .ref (b + 0)), (1, .int a1), (3, .int z.2)]) hx hb dX12_lineOf_30 rfl hl (by decide) rfl (fun ls hl => ?_)
          refine lv_iinc (v := (z.2 + 1)) (lv' := [(3, .int (z.2 + 1)), (2, .int (z.1 + 1)), (0, .ref (b + 0)), (1, .int a1)]) hx hb dX12_lineOf_31 hl (k := 3) rfl rfl (by decide) rfl (fun ls hl => ?_)
          refine lv_goto (tgt := 4) hx hb dX12_lineOf_34 (by decide) ?_
          exact ih ((z.1 + 1), (z.2 + 1)) (lp_back hy (Option.some.inj hf).symm) _ _ _ hM hS (lv_sub hl [2, 3, 1, 0] rfl)
  refine lv_iconst (v := 0) hx hb dX12_lineOf_0 (by decide) ?_
  refine lv_istore_n (lv' := [(2, .int 0), (0, .ref (b + 0)), (1, .int a1)]) hx hb dX12_lineOf_1 rfl hl (by decide) rfl (fun ls hl => ?_)
  refine lv_iconst (v := 0) hx hb dX12_lineOf_2 (by decide) ?_
  refine lv_istore_n (lv' := [(3, .int 0), (2, .int 0), (0, .ref (b + 0)), (1, .int a1)]) hx hb dX12_lineOf_3 rfl hl (by decide) rfl (fun ls hl => ?_)
  obtain ⟨fu, hfu⟩ := lp_some hf
  exact (loop fu (0, 0) hfu) _ _ _ hM hS (lv_sub hl [2, 3, 1, 0] rfl)
def fX12_positionOf_s (M : Mem) (a1 : Int32) (z : Int32 × Int32) : Option ((Int32 × Int32) ⊕ (Int32)) := (if (M 1 0) ≤ z.2 then some (.inr z.1) else (fX12_t M a1 (5 : Int32)).bind fun z2 => (fX12_waitsOn M z.2 z2).bind fun z4 => (if z4 = 0 then some (.inl ((z.1 + 0), (z.2 + 1))) else (fX12_t M z.2 (11 : Int32)).bind fun z7 => (fX12_t M a1 (11 : Int32)).bind fun z9 => (if z9 ≤ z7 then some (.inl ((z.1 + 0), (z.2 + 1))) else some (.inl ((z.1 + 1), (z.2 + 1))))))
noncomputable def fX12_positionOf (M : Mem) (a1 : Int32) : Option (Int32) := lp (fX12_positionOf_s M a1) (1, 0)
set_option maxHeartbeats 4000000 in
set_option maxRecDepth 100000 in
theorem mX12_positionOf (l : Launch) (E : EP) (B0 : Nat) (b : Nat) (hb0 : B0 ≤ b) (M : Mem) (a1 : Int32) (r : Int32) (hf : fX12_positionOf M a1 = some r) : MU l E B0 yX12_positionOf cX12_positionOf 4 (some .int) 2 0 0 [.ref (b + 0), .int a1] (Blk E b modSh 10 M) (some (.int r)) (Blk E b modSh 10 M) nv := by
  refine mu_of (by decide +kernel) (Nat.le_of_ble_eq_true rfl) ?_
  intro p e s m args below meth c hx hb hml hown hts hrt hlocks hE H hM hS ls hl
  have hown : s.vm.findClass RX12 = some m.cls := hown
  have hl : lv_has ls 4 [(0, .ref (b + 0)), (1, .int a1)] := hl
  have hw : ∀ w ∈ WA, w.before args s = true := fun w h => hts w (List.mem_cons_of_mem _ h)
  have hAB : ∀ q, nv q → B0 ≤ q := fun _ h => h.elim
  unfold fX12_positionOf at hf
  have loop : ∀ (fu : Nat) (z : Int32 × Int32), lpI (fX12_positionOf_s M a1) fu z = some r → (∀ (H : Heap) (locs : List Loc) (ls : Array Slot), Blk E b modSh 10 M H → va_S nv s.heap H locs → lv_has ls 4 [(0, .ref (b + 0)), (1, .int a1), (2, .int z.1), (3, .int z.2)] → W p l e (rmD 2 0 0) s m args below meth c H locs 0 0 (MQ below (QU (some (.int r)) (Blk E b modSh 10 M) nv) args s 0 0 nv) (F0 m 4 ls [])) := by
    intro fu
    induction fu with
    | zero =>
      intro z hn
      exact nomatch hn
    | succ fu ih =>
      intro z hn
      obtain ⟨y, hf, hy⟩ := lpI_succ hn
      intro H locs ls hM hS hl
      unfold fX12_positionOf_s at hf
      refine lv_iload_n hx hb dX12_positionOf_4 rfl (lv_at hl 3 rfl) ?_
      refine lv_aload_n hx hb dX12_positionOf_5 rfl (lv_at hl 0 rfl) ?_
      refine w_get (k := 0) (v := .ref (b + 1)) hx hb hw hown hE fl_X12_7 hM (by decide) rfl rfl rfl dX12_positionOf_6 ?_
      refine lv_iconst (v := 0) hx hb dX12_positionOf_9 (by decide) ?_
      refine w_iald (k := 1) (x9 := 0) hx hb hE hM (by decide) rfl (by decide) (by decide) dX12_positionOf_10 ?_
      refine lv_icmp_ge (tgt := 59) hx hb dX12_positionOf_11 (by decide) (fun c1 => ?_) (fun c1 => ?_)
      · rw [if_pos c1] at hf
        refine lv_iload_n hx hb dX12_positionOf_59 rfl (lv_at hl 2 rfl) ?_
        have hre := lp_end hy (Option.some.inj hf).symm
        subst hre
        exact mu_i (v := z.1) hx hb hrt hlocks hM hS dX12_positionOf_60
      · rw [if_neg c1] at hf
        refine lv_iload_n hx hb dX12_positionOf_14 rfl (lv_at hl 2 rfl) ?_
        refine lv_aload_n hx hb dX12_positionOf_15 rfl (lv_at hl 0 rfl) ?_
        refine lv_iload_n hx hb dX12_positionOf_16 rfl (lv_at hl 3 rfl) ?_
        refine lv_aload_n hx hb dX12_positionOf_17 rfl (lv_at hl 0 rfl) ?_
        refine lv_iload_n hx hb dX12_positionOf_18 rfl (lv_at hl 1 rfl) ?_
        refine lv_iconst (v := 5) hx hb dX12_positionOf_19 (by decide) ?_
        obtain ⟨z2, hc3, hf⟩ := br_some hf
        refine mu_cV (As := [.int a1, .int 5]) (rest := [.int z.2, .ref (b + 0), .int z.1]) hx hb hml hown hts hE (mX12_t l E B0 b (by omega) M a1 (5 : Int32) z2 hc3) cv_X12_80 (w_recv (k := 0) (ci := 12) hE hM (by decide) rfl rfl) hM hS hAB (fun _ h => h.elim) rfl hl.1 rfl (by decide) (Nat.le_of_ble_eq_true rfl) ⟨Nat.le_refl _, Nat.le_refl _⟩ dX12_positionOf_20 (fun H locs hM _ hu hS => ?_)
        obtain ⟨z4, hc5, hf⟩ := br_some hf
        refine mu_cV (As := [.int z.2, .int z2]) (rest := [.int z.1]) hx hb hml hown hts hE (mX12_waitsOn l E B0 b (by omega) M z.2 z2 z4 hc5) cv_X12_91 (w_recv (k := 0) (ci := 12) hE hM (by decide) rfl rfl) hM hS hAB (fun _ h => h.elim) rfl hl.1 rfl (by decide) (Nat.le_of_ble_eq_true rfl) ⟨Nat.le_refl _, Nat.le_refl _⟩ dX12_positionOf_23 (fun H locs hM _ hu hS => ?_)
        refine lv_if_eq (tgt := 50) hx hb dX12_positionOf_26 (by decide) (fun c6 => ?_) (fun c6 => ?_)
        · rw [if_pos c6] at hf
          refine lv_iconst (v := 0) hx hb dX12_positionOf_50 (by decide) ?_
          refine lv_iadd hx hb dX12_positionOf_51 ?_
          refine lv_istore_n (lv' := [(2, .int (z.1 + 0)), (0, .ref (b + 0)), (1, .int a1), (3, .int z.2)]) hx hb dX12_positionOf_52 rfl hl (by decide) rfl (fun ls hl => ?_)
          refine lv_iinc (v := (z.2 + 1)) (lv' := [(3, .int (z.2 + 1)), (2, .int (z.1 + 0)), (0, .ref (b + 0)), (1, .int a1)]) hx hb dX12_positionOf_53 hl (k := 3) rfl rfl (by decide) rfl (fun ls hl => ?_)
          refine lv_goto (tgt := 4) hx hb dX12_positionOf_56 (by decide) ?_
          exact ih ((z.1 + 0), (z.2 + 1)) (lp_back hy (Option.some.inj hf).symm) _ _ _ hM hS (lv_sub hl [2, 3, 1, 0] rfl)
        · rw [if_neg c6] at hf
          refine lv_aload_n hx hb dX12_positionOf_29 rfl (lv_at hl 0 rfl) ?_
          refine lv_iload_n hx hb dX12_positionOf_30 rfl (lv_at hl 3 rfl) ?_
          refine lv_bipush (v := 11) hx hb dX12_positionOf_31 (by decide) ?_
          obtain ⟨z7, hc8, hf⟩ := br_some hf
          refine mu_cV (As := [.int z.2, .int 11]) (rest := [.int z.1]) hx hb hml hown hts hE (mX12_t l E B0 b (by omega) M z.2 (11 : Int32) z7 hc8) cv_X12_80 (w_recv (k := 0) (ci := 12) hE hM (by decide) rfl rfl) hM hS hAB (fun _ h => h.elim) rfl hl.1 rfl (by decide) (Nat.le_of_ble_eq_true rfl) ⟨Nat.le_refl _, Nat.le_refl _⟩ dX12_positionOf_33 (fun H locs hM _ hu hS => ?_)
          refine lv_aload_n hx hb dX12_positionOf_36 rfl (lv_at hl 0 rfl) ?_
          refine lv_iload_n hx hb dX12_positionOf_37 rfl (lv_at hl 1 rfl) ?_
          refine lv_bipush (v := 11) hx hb dX12_positionOf_38 (by decide) ?_
          obtain ⟨z9, hc10, hf⟩ := br_some hf
          refine mu_cV (As := [.int a1, .int 11]) (rest := [.int z7, .int z.1]) hx hb hml hown hts hE (mX12_t l E B0 b (by omega) M a1 (11 : Int32) z9 hc10) cv_X12_80 (w_recv (k := 0) (ci := 12) hE hM (by decide) rfl rfl) hM hS hAB (fun _ h => h.elim) rfl hl.1 rfl (by decide) (Nat.le_of_ble_eq_true rfl) ⟨Nat.le_refl _, Nat.le_refl _⟩ dX12_positionOf_40 (fun H locs hM _ hu hS => ?_)
          refine lv_icmp_ge (tgt := 50) hx hb dX12_positionOf_43 (by decide) (fun c11 => ?_) (fun c11 => ?_)
          · rw [if_pos c11] at hf
            refine lv_iconst (v := 0) hx hb dX12_positionOf_50 (by decide) ?_
            refine lv_iadd hx hb dX12_positionOf_51 ?_
            refine lv_istore_n (lv' := [(2, .int (z.1 + 0)), (0, .ref (b + 0)), (1, .int a1), (3, .int z.2)]) hx hb dX12_positionOf_52 rfl hl (by decide) rfl (fun ls hl => ?_)
            refine lv_iinc (v := (z.2 + 1)) (lv' := [(3, .int (z.2 + 1)), (2, .int (z.1 + 0)), (0, .ref (b + 0)), (1, .int a1)]) hx hb dX12_positionOf_53 hl (k := 3) rfl rfl (by decide) rfl (fun ls hl => ?_)
            refine lv_goto (tgt := 4) hx hb dX12_positionOf_56 (by decide) ?_
            exact ih ((z.1 + 0), (z.2 + 1)) (lp_back hy (Option.some.inj hf).symm) _ _ _ hM hS (lv_sub hl [2, 3, 1, 0] rfl)
          · rw [if_neg c11] at hf
            refine lv_iconst (v := 1) hx hb dX12_positionOf_46 (by decide) ?_
            refine lv_goto (tgt := 51) hx hb dX12_positionOf_47 (by decide) ?_
            refine lv_iadd hx hb dX12_positionOf_51 ?_
            refine lv_istore_n (lv' := [(2, .int (z.1 + 1)), (0, .ref (b + 0)), (1, .int a1), (3, .int z.2)]) hx hb dX12_positionOf_52 rfl hl (by decide) rfl (fun ls hl => ?_)
            refine lv_iinc (v := (z.2 + 1)) (lv' := [(3, .int (z.2 + 1)), (2, .int (z.1 + 1)), (0, .ref (b + 0)), (1, .int a1)]) hx hb dX12_positionOf_53 hl (k := 3) rfl rfl (by decide) rfl (fun ls hl => ?_)
            refine lv_goto (tgt := 4) hx hb dX12_positionOf_56 (by decide) ?_
            exact ih ((z.1 + 1), (z.2 + 1)) (lp_back hy (Option.some.inj hf).symm) _ _ _ hM hS (lv_sub hl [2, 3, 1, 0] rfl)
  refine lv_iconst (v := 1) hx hb dX12_positionOf_0 (by decide) ?_
  refine lv_istore_n (lv' := [(2, .int 1), (0, .ref (b + 0)), (1, .int a1)]) hx hb dX12_positionOf_1 rfl hl (by decide) rfl (fun ls hl => ?_)
  refine lv_iconst (v := 0) hx hb dX12_positionOf_2 (by decide) ?_
  refine lv_istore_n (lv' := [(3, .int 0), (2, .int 1), (0, .ref (b + 0)), (1, .int a1)]) hx hb dX12_positionOf_3 rfl hl (by decide) rfl (fun ls hl => ?_)
  obtain ⟨fu, hfu⟩ := lp_some hf
  exact (loop fu (1, 0) hfu) _ _ _ hM hS (lv_sub hl [2, 3, 1, 0] rfl)
noncomputable def fX12_inLine_s (M : Mem) (a1 : Int32) (a2 : Int32) (z : Int32) : Option ((Int32) ⊕ (Int32)) := (if (M 1 0) ≤ z then some (.inr (-1)) else (fX12_waitsOn M z a1).bind fun z2 => (if z2 = 0 then some (.inl (z + 1)) else (fX12_positionOf M z).bind fun z5 => (if z5 = a2 then some (.inr z) else some (.inl (z + 1)))))
noncomputable def fX12_inLine (M : Mem) (a1 : Int32) (a2 : Int32) : Option (Int32) := lp (fX12_inLine_s M a1 a2) 0
set_option maxHeartbeats 4000000 in
set_option maxRecDepth 100000 in
theorem mX12_inLine (l : Launch) (E : EP) (B0 : Nat) (b : Nat) (hb0 : B0 ≤ b) (M : Mem) (a1 : Int32) (a2 : Int32) (r : Int32) (hf : fX12_inLine M a1 a2 = some r) : MU l E B0 yX12_inLine cX12_inLine 4 (some .int) 3 0 0 [.ref (b + 0), .int a1, .int a2] (Blk E b modSh 10 M) (some (.int r)) (Blk E b modSh 10 M) nv := by
  refine mu_of (by decide +kernel) (Nat.le_of_ble_eq_true rfl) ?_
  intro p e s m args below meth c hx hb hml hown hts hrt hlocks hE H hM hS ls hl
  have hown : s.vm.findClass RX12 = some m.cls := hown
  have hl : lv_has ls 4 [(0, .ref (b + 0)), (1, .int a1), (2, .int a2)] := hl
  have hw : ∀ w ∈ WA, w.before args s = true := fun w h => hts w (List.mem_cons_of_mem _ h)
  have hAB : ∀ q, nv q → B0 ≤ q := fun _ h => h.elim
  unfold fX12_inLine at hf
  have loop : ∀ (fu : Nat) (z : Int32), lpI (fX12_inLine_s M a1 a2) fu z = some r → (∀ (H : Heap) (locs : List Loc) (ls : Array Slot), Blk E b modSh 10 M H → va_S nv s.heap H locs → lv_has ls 4 [(0, .ref (b + 0)), (1, .int a1), (2, .int a2), (3, .int z)] → W p l e (rmD 3 0 0) s m args below meth c H locs 0 0 (MQ below (QU (some (.int r)) (Blk E b modSh 10 M) nv) args s 0 0 nv) (F0 m 2 ls [])) := by
    intro fu
    induction fu with
    | zero =>
      intro z hn
      exact nomatch hn
    | succ fu ih =>
      intro z hn
      obtain ⟨y, hf, hy⟩ := lpI_succ hn
      intro H locs ls hM hS hl
      unfold fX12_inLine_s at hf
      refine lv_iload_n hx hb dX12_inLine_2 rfl (lv_at hl 3 rfl) ?_
      refine lv_aload_n hx hb dX12_inLine_3 rfl (lv_at hl 0 rfl) ?_
      refine w_get (k := 0) (v := .ref (b + 1)) hx hb hw hown hE fl_X12_7 hM (by decide) rfl rfl rfl dX12_inLine_4 ?_
      refine lv_iconst (v := 0) hx hb dX12_inLine_7 (by decide) ?_
      refine w_iald (k := 1) (x9 := 0) hx hb hE hM (by decide) rfl (by decide) (by decide) dX12_inLine_8 ?_
      refine lv_icmp_ge (tgt := 38) hx hb dX12_inLine_9 (by decide) (fun c1 => ?_) (fun c1 => ?_)
      · rw [if_pos c1] at hf
        refine lv_iconst (v := -1) hx hb dX12_inLine_38 (by decide) ?_
        have hre := lp_end hy (Option.some.inj hf).symm
        subst hre
        exact mu_i (v := -1) hx hb hrt hlocks hM hS dX12_inLine_39
      · rw [if_neg c1] at hf
        refine lv_aload_n hx hb dX12_inLine_12 rfl (lv_at hl 0 rfl) ?_
        refine lv_iload_n hx hb dX12_inLine_13 rfl (lv_at hl 3 rfl) ?_
        refine lv_iload_n hx hb dX12_inLine_14 rfl (lv_at hl 1 rfl) ?_
        obtain ⟨z2, hc3, hf⟩ := br_some hf
        refine mu_cV (As := [.int z, .int a1]) (rest := []) hx hb hml hown hts hE (mX12_waitsOn l E B0 b (by omega) M z a1 z2 hc3) cv_X12_91 (w_recv (k := 0) (ci := 12) hE hM (by decide) rfl rfl) hM hS hAB (fun _ h => h.elim) rfl hl.1 rfl (by decide) (Nat.le_of_ble_eq_true rfl) ⟨Nat.le_refl _, Nat.le_refl _⟩ dX12_inLine_15 (fun H locs hM _ hu hS => ?_)
        refine lv_if_eq (tgt := 32) hx hb dX12_inLine_18 (by decide) (fun c4 => ?_) (fun c4 => ?_)
        · rw [if_pos c4] at hf
          refine lv_iinc (v := (z + 1)) (lv' := [(3, .int (z + 1)), (0, .ref (b + 0)), (1, .int a1), (2, .int a2)]) hx hb dX12_inLine_32 hl (k := 3) rfl rfl (by decide) rfl (fun ls hl => ?_)
          refine lv_goto (tgt := 2) hx hb dX12_inLine_35 (by decide) ?_
          exact ih (z + 1) (lp_back hy (Option.some.inj hf).symm) _ _ _ hM hS (lv_sub hl [1, 2, 3, 0] rfl)
        · rw [if_neg c4] at hf
          refine lv_aload_n hx hb dX12_inLine_21 rfl (lv_at hl 0 rfl) ?_
          refine lv_iload_n hx hb dX12_inLine_22 rfl (lv_at hl 3 rfl) ?_
          obtain ⟨z5, hc6, hf⟩ := br_some hf
          refine mu_cV (As := [.int z]) (rest := []) hx hb hml hown hts hE (mX12_positionOf l E B0 b (by omega) M z z5 hc6) cv_X12_94 (w_recv (k := 0) (ci := 12) hE hM (by decide) rfl rfl) hM hS hAB (fun _ h => h.elim) rfl hl.1 rfl (by decide) (Nat.le_of_ble_eq_true rfl) ⟨Nat.le_refl _, Nat.le_refl _⟩ dX12_inLine_23 (fun H locs hM _ hu hS => ?_)
          refine lv_iload_n hx hb dX12_inLine_26 rfl (lv_at hl 2 rfl) ?_
          refine lv_icmp_ne (tgt := 32) hx hb dX12_inLine_27 (by decide) (fun c7 => ?_) (fun c7 => ?_)
          · rw [if_neg c7] at hf
            refine lv_iinc (v := (z + 1)) (lv' := [(3, .int (z + 1)), (0, .ref (b + 0)), (1, .int a1), (2, .int a2)]) hx hb dX12_inLine_32 hl (k := 3) rfl rfl (by decide) rfl (fun ls hl => ?_)
            refine lv_goto (tgt := 2) hx hb dX12_inLine_35 (by decide) ?_
            exact ih (z + 1) (lp_back hy (Option.some.inj hf).symm) _ _ _ hM hS (lv_sub hl [1, 2, 3, 0] rfl)
          · rw [if_pos c7] at hf
            refine lv_iload_n hx hb dX12_inLine_30 rfl (lv_at hl 3 rfl) ?_
            have hre := lp_end hy (Option.some.inj hf).symm
            subst hre
            exact mu_i (v := z) hx hb hrt hlocks hM hS dX12_inLine_31
  refine lv_iconst (v := 0) hx hb dX12_inLine_0 (by decide) ?_
  refine lv_istore_n (lv' := [(3, .int 0), (0, .ref (b + 0)), (1, .int a1), (2, .int a2)]) hx hb dX12_inLine_1 rfl hl (by decide) rfl (fun ls hl => ?_)
  obtain ⟨fu, hfu⟩ := lp_some hf
  exact (loop fu 0 hfu) _ _ _ hM hS (lv_sub hl [1, 2, 3, 0] rfl)
noncomputable def fX12_cannotAdd (M : Mem) (a1 : Int32) (a2 : Int32) (a3 : Int32) (a4 : Int32) (a5 : Int32) (a6 : Int32) : Option (Int32) := (fX12_in a1 (65 : Int32) (90 : Int32)).bind fun z1 => (if z1 = 0 then some 1 else (fX12_in a2 (0 : Int32) (9 : Int32)).bind fun z4 => (if z4 = 0 then some 1 else (fX12_isPlace a3 a4).bind fun z7 => (if z7 = 0 then some 1 else (fX12_in a5 (1 : Int32) (99 : Int32)).bind fun z10 => (if z10 = 0 then some 1 else (fX12_isChannel a6).bind fun z13 => (if z13 = 0 then some 1 else (fX12_signed M a1 a2).bind fun z16 => (if z16 < 0 then (if (M 1 0) = (8 : Int32) then some 3 else some 0) else some 2))))))
set_option maxHeartbeats 4000000 in
set_option maxRecDepth 100000 in
theorem mX12_cannotAdd (l : Launch) (E : EP) (B0 : Nat) (b : Nat) (hb0 : B0 ≤ b) (M : Mem) (a1 : Int32) (a2 : Int32) (a3 : Int32) (a4 : Int32) (a5 : Int32) (a6 : Int32) (r : Int32) (hf : fX12_cannotAdd M a1 a2 a3 a4 a5 a6 = some r) : MU l E B0 yX12_cannotAdd cX12_cannotAdd 7 (some .int) 2 0 0 [.ref (b + 0), .int a1, .int a2, .int a3, .int a4, .int a5, .int a6] (Blk E b modSh 10 M) (some (.int r)) (Blk E b modSh 10 M) nv := by
  refine mu_of (by decide +kernel) (Nat.le_of_ble_eq_true rfl) ?_
  intro p e s m args below meth c hx hb hml hown hts hrt hlocks hE H hM hS ls hl
  have hown : s.vm.findClass RX12 = some m.cls := hown
  have hl : lv_has ls 7 [(0, .ref (b + 0)), (1, .int a1), (2, .int a2), (3, .int a3), (4, .int a4), (5, .int a5), (6, .int a6)] := hl
  have hw : ∀ w ∈ WA, w.before args s = true := fun w h => hts w (List.mem_cons_of_mem _ h)
  have hAB : ∀ q, nv q → B0 ≤ q := fun _ h => h.elim
  unfold fX12_cannotAdd at hf
  refine lv_iload_n hx hb dX12_cannotAdd_0 rfl (lv_at hl 1 rfl) ?_
  refine lv_bipush (v := 65) hx hb dX12_cannotAdd_1 (by decide) ?_
  refine lv_bipush (v := 90) hx hb dX12_cannotAdd_3 (by decide) ?_
  obtain ⟨z1, hc2, hf⟩ := br_some hf
  refine mu_cS (As := [.int a1, .int 65, .int 90]) (rest := []) hx hb hml hown hts hE (mX12_in l E B0 a1 (65 : Int32) (90 : Int32) z1 hc2) cs_X12_76 trivial hS hAB (fun _ h => h.elim) rfl hl.1 rfl (by decide) (Nat.le_of_ble_eq_true rfl) ⟨Nat.le_refl _, Nat.le_refl _⟩ dX12_cannotAdd_5 (fun H locs _ _ hu hS => ?_)
  have hM := Blk.off hM hu (fun _ _ _ h => h)
  refine lv_if_eq (tgt := 49) hx hb dX12_cannotAdd_8 (by decide) (fun c3 => ?_) (fun c3 => ?_)
  · rw [if_pos c3] at hf
    refine lv_iconst (v := 1) hx hb dX12_cannotAdd_49 (by decide) ?_
    have hre := Option.some.inj hf
    subst hre
    exact mu_i (v := 1) hx hb hrt hlocks hM hS dX12_cannotAdd_50
  · rw [if_neg c3] at hf
    refine lv_iload_n hx hb dX12_cannotAdd_11 rfl (lv_at hl 2 rfl) ?_
    refine lv_iconst (v := 0) hx hb dX12_cannotAdd_12 (by decide) ?_
    refine lv_bipush (v := 9) hx hb dX12_cannotAdd_13 (by decide) ?_
    obtain ⟨z4, hc5, hf⟩ := br_some hf
    refine mu_cS (As := [.int a2, .int 0, .int 9]) (rest := []) hx hb hml hown hts hE (mX12_in l E B0 a2 (0 : Int32) (9 : Int32) z4 hc5) cs_X12_76 trivial hS hAB (fun _ h => h.elim) rfl hl.1 rfl (by decide) (Nat.le_of_ble_eq_true rfl) ⟨Nat.le_refl _, Nat.le_refl _⟩ dX12_cannotAdd_15 (fun H locs _ _ hu hS => ?_)
    have hM := Blk.off hM hu (fun _ _ _ h => h)
    refine lv_if_eq (tgt := 49) hx hb dX12_cannotAdd_18 (by decide) (fun c6 => ?_) (fun c6 => ?_)
    · rw [if_pos c6] at hf
      refine lv_iconst (v := 1) hx hb dX12_cannotAdd_49 (by decide) ?_
      have hre := Option.some.inj hf
      subst hre
      exact mu_i (v := 1) hx hb hrt hlocks hM hS dX12_cannotAdd_50
    · rw [if_neg c6] at hf
      refine lv_iload_n hx hb dX12_cannotAdd_21 rfl (lv_at hl 3 rfl) ?_
      refine lv_iload hx hb dX12_cannotAdd_22 (lv_at hl 4 rfl) ?_
      obtain ⟨z7, hc8, hf⟩ := br_some hf
      refine mu_cS (As := [.int a3, .int a4]) (rest := []) hx hb hml hown hts hE (mX12_isPlace l E B0 a3 a4 z7 hc8) cs_X12_98 trivial hS hAB (fun _ h => h.elim) rfl hl.1 rfl (by decide) (Nat.le_of_ble_eq_true rfl) ⟨Nat.le_refl _, Nat.le_refl _⟩ dX12_cannotAdd_24 (fun H locs _ _ hu hS => ?_)
      have hM := Blk.off hM hu (fun _ _ _ h => h)
      refine lv_if_eq (tgt := 49) hx hb dX12_cannotAdd_27 (by decide) (fun c9 => ?_) (fun c9 => ?_)
      · rw [if_pos c9] at hf
        refine lv_iconst (v := 1) hx hb dX12_cannotAdd_49 (by decide) ?_
        have hre := Option.some.inj hf
        subst hre
        exact mu_i (v := 1) hx hb hrt hlocks hM hS dX12_cannotAdd_50
      · rw [if_neg c9] at hf
        refine lv_iload hx hb dX12_cannotAdd_30 (lv_at hl 5 rfl) ?_
        refine lv_iconst (v := 1) hx hb dX12_cannotAdd_32 (by decide) ?_
        refine lv_bipush (v := 99) hx hb dX12_cannotAdd_33 (by decide) ?_
        obtain ⟨z10, hc11, hf⟩ := br_some hf
        refine mu_cS (As := [.int a5, .int 1, .int 99]) (rest := []) hx hb hml hown hts hE (mX12_in l E B0 a5 (1 : Int32) (99 : Int32) z10 hc11) cs_X12_76 trivial hS hAB (fun _ h => h.elim) rfl hl.1 rfl (by decide) (Nat.le_of_ble_eq_true rfl) ⟨Nat.le_refl _, Nat.le_refl _⟩ dX12_cannotAdd_35 (fun H locs _ _ hu hS => ?_)
        have hM := Blk.off hM hu (fun _ _ _ h => h)
        refine lv_if_eq (tgt := 49) hx hb dX12_cannotAdd_38 (by decide) (fun c12 => ?_) (fun c12 => ?_)
        · rw [if_pos c12] at hf
          refine lv_iconst (v := 1) hx hb dX12_cannotAdd_49 (by decide) ?_
          have hre := Option.some.inj hf
          subst hre
          exact mu_i (v := 1) hx hb hrt hlocks hM hS dX12_cannotAdd_50
        · rw [if_neg c12] at hf
          refine lv_iload hx hb dX12_cannotAdd_41 (lv_at hl 6 rfl) ?_
          obtain ⟨z13, hc14, hf⟩ := br_some hf
          refine mu_cS (As := [.int a6]) (rest := []) hx hb hml hown hts hE (mX12_isChannel l E B0 a6 z13 hc14) cs_X12_101 trivial hS hAB (fun _ h => h.elim) rfl hl.1 rfl (by decide) (Nat.le_of_ble_eq_true rfl) ⟨Nat.le_refl _, Nat.le_refl _⟩ dX12_cannotAdd_43 (fun H locs _ _ hu hS => ?_)
          have hM := Blk.off hM hu (fun _ _ _ h => h)
          refine lv_if_ne (tgt := 51) hx hb dX12_cannotAdd_46 (by decide) (fun c15 => ?_) (fun c15 => ?_)
          · rw [if_neg c15] at hf
            refine lv_aload_n hx hb dX12_cannotAdd_51 rfl (lv_at hl 0 rfl) ?_
            refine lv_iload_n hx hb dX12_cannotAdd_52 rfl (lv_at hl 1 rfl) ?_
            refine lv_iload_n hx hb dX12_cannotAdd_53 rfl (lv_at hl 2 rfl) ?_
            obtain ⟨z16, hc17, hf⟩ := br_some hf
            refine mu_cV (As := [.int a1, .int a2]) (rest := []) hx hb hml hown hts hE (mX12_signed l E B0 b (by omega) M a1 a2 z16 hc17) cv_X12_105 (w_recv (k := 0) (ci := 12) hE hM (by decide) rfl rfl) hM hS hAB (fun _ h => h.elim) rfl hl.1 rfl (by decide) (Nat.le_of_ble_eq_true rfl) ⟨Nat.le_refl _, Nat.le_refl _⟩ dX12_cannotAdd_54 (fun H locs hM _ hu hS => ?_)
            refine lv_if_lt (tgt := 64) hx hb dX12_cannotAdd_57 (by decide) (fun c18 => ?_) (fun c18 => ?_)
            · rw [if_pos c18] at hf
              refine lv_aload_n hx hb dX12_cannotAdd_64 rfl (lv_at hl 0 rfl) ?_
              refine w_get (k := 0) (v := .ref (b + 1)) hx hb hw hown hE fl_X12_7 hM (by decide) rfl rfl rfl dX12_cannotAdd_65 ?_
              refine lv_iconst (v := 0) hx hb dX12_cannotAdd_68 (by decide) ?_
              refine w_iald (k := 1) (x9 := 0) hx hb hE hM (by decide) rfl (by decide) (by decide) dX12_cannotAdd_69 ?_
              refine lv_bipush (v := 8) hx hb dX12_cannotAdd_70 (by decide) ?_
              refine lv_icmp_ne (tgt := 79) hx hb dX12_cannotAdd_72 (by decide) (fun c19 => ?_) (fun c19 => ?_)
              · rw [if_neg c19] at hf
                refine lv_iconst (v := 0) hx hb dX12_cannotAdd_79 (by decide) ?_
                have hre := Option.some.inj hf
                subst hre
                exact mu_i (v := 0) hx hb hrt hlocks hM hS dX12_cannotAdd_80
              · rw [if_pos c19] at hf
                refine lv_iconst (v := 3) hx hb dX12_cannotAdd_75 (by decide) ?_
                refine lv_goto (tgt := 80) hx hb dX12_cannotAdd_76 (by decide) ?_
                have hre := Option.some.inj hf
                subst hre
                exact mu_i (v := 3) hx hb hrt hlocks hM hS dX12_cannotAdd_80
            · rw [if_neg c18] at hf
              refine lv_iconst (v := 2) hx hb dX12_cannotAdd_60 (by decide) ?_
              refine lv_goto (tgt := 80) hx hb dX12_cannotAdd_61 (by decide) ?_
              have hre := Option.some.inj hf
              subst hre
              exact mu_i (v := 2) hx hb hrt hlocks hM hS dX12_cannotAdd_80
          · rw [if_pos c15] at hf
            refine lv_iconst (v := 1) hx hb dX12_cannotAdd_49 (by decide) ?_
            have hre := Option.some.inj hf
            subst hre
            exact mu_i (v := 1) hx hb hrt hlocks hM hS dX12_cannotAdd_50
def fX12_adds_s (a1 : Int32) (a2 : Int32) (a3 : Int32) (a4 : Int32) (a5 : Int32) (a6 : Int32) (z : Int32 × Int32 × Mem) : Option ((Int32 × Int32 × Mem) ⊕ (Int32 × Mem)) := (if (12 : Int32) ≤ z.2.1 then (fX12_set z.2.2 z.1 (0 : Int32) a1).bind fun z2 => (fX12_set z2 z.1 (1 : Int32) a2).bind fun z4 => (fX12_set z4 z.1 (2 : Int32) a3).bind fun z6 => (fX12_set z6 z.1 (3 : Int32) a4).bind fun z8 => (fX12_set z8 z.1 (4 : Int32) a5).bind fun z10 => (fX12_set z10 z.1 (5 : Int32) a6).bind fun z12 => some (.inr (z.1, (up2 z12 1 0 ((z12 1 0) + 1)))) else (fX12_set z.2.2 z.1 z.2.1 (0 : Int32)).bind fun z14 => some (.inl (z.1, (z.2.1 + 1), z14)))
noncomputable def fX12_adds (M : Mem) (a1 : Int32) (a2 : Int32) (a3 : Int32) (a4 : Int32) (a5 : Int32) (a6 : Int32) : Option (Int32 × Mem) := lp (fX12_adds_s a1 a2 a3 a4 a5 a6) ((M 1 0), 0, M)
set_option maxHeartbeats 4000000 in
set_option maxRecDepth 100000 in
theorem mX12_adds (l : Launch) (E : EP) (B0 : Nat) (b : Nat) (hb0 : B0 ≤ b) (M : Mem) (a1 : Int32) (a2 : Int32) (a3 : Int32) (a4 : Int32) (a5 : Int32) (a6 : Int32) (r : Int32 × Mem) (hf : fX12_adds M a1 a2 a3 a4 a5 a6 = some r) : MU l E B0 yX12_adds cX12_adds 9 (some .int) 1 0 0 [.ref (b + 0), .int a1, .int a2, .int a3, .int a4, .int a5, .int a6] (Blk E b modSh 10 M) (some (.int r.1)) (Blk E b modSh 10 r.2) (iv b 10) := by
  refine mu_of (by decide +kernel) (Nat.le_of_ble_eq_true rfl) ?_
  intro p e s m args below meth c hx hb hml hown hts hrt hlocks hE H hM hS ls hl
  have hown : s.vm.findClass RX12 = some m.cls := hown
  have hl : lv_has ls 9 [(0, .ref (b + 0)), (1, .int a1), (2, .int a2), (3, .int a3), (4, .int a4), (5, .int a5), (6, .int a6)] := hl
  have hw : ∀ w ∈ WA, w.before args s = true := fun w h => hts w (List.mem_cons_of_mem _ h)
  have hAB : ∀ q, (iv b 10) q → B0 ≤ q := (iv_ge (by omega))
  unfold fX12_adds at hf
  have loop : ∀ (fu : Nat) (z : Int32 × Int32 × Mem), lpI (fX12_adds_s a1 a2 a3 a4 a5 a6) fu z = some r → (∀ (H : Heap) (locs : List Loc) (ls : Array Slot), Blk E b modSh 10 z.2.2 H → va_S (iv b 10) s.heap H locs → lv_has ls 9 [(0, .ref (b + 0)), (1, .int a1), (2, .int a2), (3, .int a3), (4, .int a4), (5, .int a5), (6, .int a6), (7, .int z.1), (8, .int z.2.1)] → W p l e (rmD 1 0 0) s m args below meth c H locs 0 0 (MQ below (QU (some (.int r.1)) (Blk E b modSh 10 r.2) (iv b 10)) args s 0 0 (iv b 10)) (F0 m 11 ls [])) := by
    intro fu
    induction fu with
    | zero =>
      intro z hn
      exact nomatch hn
    | succ fu ih =>
      intro z hn
      obtain ⟨y, hf, hy⟩ := lpI_succ hn
      intro H locs ls hM hS hl
      unfold fX12_adds_s at hf
      refine lv_iload hx hb dX12_adds_11 (lv_at hl 8 rfl) ?_
      refine lv_bipush (v := 12) hx hb dX12_adds_13 (by decide) ?_
      refine lv_icmp_ge (tgt := 33) hx hb dX12_adds_15 (by decide) (fun c1 => ?_) (fun c1 => ?_)
      · rw [if_pos c1] at hf
        refine lv_aload_n hx hb dX12_adds_33 rfl (lv_at hl 0 rfl) ?_
        refine lv_iload hx hb dX12_adds_34 (lv_at hl 7 rfl) ?_
        refine lv_iconst (v := 0) hx hb dX12_adds_36 (by decide) ?_
        refine lv_iload_n hx hb dX12_adds_37 rfl (lv_at hl 1 rfl) ?_
        obtain ⟨z2, hc3, hf⟩ := br_some hf
        refine mu_cV (As := [.int z.1, .int 0, .int a1]) (rest := []) hx hb hml hown hts hE (mX12_set l E B0 b (by omega) z.2.2 z.1 (0 : Int32) a1 z2 hc3) cv_X12_108 (w_recv (k := 0) (ci := 12) hE hM (by decide) rfl rfl) hM hS hAB (fun _ h => h) rfl hl.1 rfl (by decide) (Nat.le_of_ble_eq_true rfl) ⟨Nat.le_refl _, Nat.le_refl _⟩ dX12_adds_38 (fun H locs hM _ hu hS => ?_)
        refine lv_aload_n hx hb dX12_adds_41 rfl (lv_at hl 0 rfl) ?_
        refine lv_iload hx hb dX12_adds_42 (lv_at hl 7 rfl) ?_
        refine lv_iconst (v := 1) hx hb dX12_adds_44 (by decide) ?_
        refine lv_iload_n hx hb dX12_adds_45 rfl (lv_at hl 2 rfl) ?_
        obtain ⟨z4, hc5, hf⟩ := br_some hf
        refine mu_cV (As := [.int z.1, .int 1, .int a2]) (rest := []) hx hb hml hown hts hE (mX12_set l E B0 b (by omega) z2 z.1 (1 : Int32) a2 z4 hc5) cv_X12_108 (w_recv (k := 0) (ci := 12) hE hM (by decide) rfl rfl) hM hS hAB (fun _ h => h) rfl hl.1 rfl (by decide) (Nat.le_of_ble_eq_true rfl) ⟨Nat.le_refl _, Nat.le_refl _⟩ dX12_adds_46 (fun H locs hM _ hu hS => ?_)
        refine lv_aload_n hx hb dX12_adds_49 rfl (lv_at hl 0 rfl) ?_
        refine lv_iload hx hb dX12_adds_50 (lv_at hl 7 rfl) ?_
        refine lv_iconst (v := 2) hx hb dX12_adds_52 (by decide) ?_
        refine lv_iload_n hx hb dX12_adds_53 rfl (lv_at hl 3 rfl) ?_
        obtain ⟨z6, hc7, hf⟩ := br_some hf
        refine mu_cV (As := [.int z.1, .int 2, .int a3]) (rest := []) hx hb hml hown hts hE (mX12_set l E B0 b (by omega) z4 z.1 (2 : Int32) a3 z6 hc7) cv_X12_108 (w_recv (k := 0) (ci := 12) hE hM (by decide) rfl rfl) hM hS hAB (fun _ h => h) rfl hl.1 rfl (by decide) (Nat.le_of_ble_eq_true rfl) ⟨Nat.le_refl _, Nat.le_refl _⟩ dX12_adds_54 (fun H locs hM _ hu hS => ?_)
        refine lv_aload_n hx hb dX12_adds_57 rfl (lv_at hl 0 rfl) ?_
        refine lv_iload hx hb dX12_adds_58 (lv_at hl 7 rfl) ?_
        refine lv_iconst (v := 3) hx hb dX12_adds_60 (by decide) ?_
        refine lv_iload hx hb dX12_adds_61 (lv_at hl 4 rfl) ?_
        obtain ⟨z8, hc9, hf⟩ := br_some hf
        refine mu_cV (As := [.int z.1, .int 3, .int a4]) (rest := []) hx hb hml hown hts hE (mX12_set l E B0 b (by omega) z6 z.1 (3 : Int32) a4 z8 hc9) cv_X12_108 (w_recv (k := 0) (ci := 12) hE hM (by decide) rfl rfl) hM hS hAB (fun _ h => h) rfl hl.1 rfl (by decide) (Nat.le_of_ble_eq_true rfl) ⟨Nat.le_refl _, Nat.le_refl _⟩ dX12_adds_63 (fun H locs hM _ hu hS => ?_)
        refine lv_aload_n hx hb dX12_adds_66 rfl (lv_at hl 0 rfl) ?_
        refine lv_iload hx hb dX12_adds_67 (lv_at hl 7 rfl) ?_
        refine lv_iconst (v := 4) hx hb dX12_adds_69 (by decide) ?_
        refine lv_iload hx hb dX12_adds_70 (lv_at hl 5 rfl) ?_
        obtain ⟨z10, hc11, hf⟩ := br_some hf
        refine mu_cV (As := [.int z.1, .int 4, .int a5]) (rest := []) hx hb hml hown hts hE (mX12_set l E B0 b (by omega) z8 z.1 (4 : Int32) a5 z10 hc11) cv_X12_108 (w_recv (k := 0) (ci := 12) hE hM (by decide) rfl rfl) hM hS hAB (fun _ h => h) rfl hl.1 rfl (by decide) (Nat.le_of_ble_eq_true rfl) ⟨Nat.le_refl _, Nat.le_refl _⟩ dX12_adds_72 (fun H locs hM _ hu hS => ?_)
        refine lv_aload_n hx hb dX12_adds_75 rfl (lv_at hl 0 rfl) ?_
        refine lv_iload hx hb dX12_adds_76 (lv_at hl 7 rfl) ?_
        refine lv_iconst (v := 5) hx hb dX12_adds_78 (by decide) ?_
        refine lv_iload hx hb dX12_adds_79 (lv_at hl 6 rfl) ?_
        obtain ⟨z12, hc13, hf⟩ := br_some hf
        refine mu_cV (As := [.int z.1, .int 5, .int a6]) (rest := []) hx hb hml hown hts hE (mX12_set l E B0 b (by omega) z10 z.1 (5 : Int32) a6 z12 hc13) cv_X12_108 (w_recv (k := 0) (ci := 12) hE hM (by decide) rfl rfl) hM hS hAB (fun _ h => h) rfl hl.1 rfl (by decide) (Nat.le_of_ble_eq_true rfl) ⟨Nat.le_refl _, Nat.le_refl _⟩ dX12_adds_81 (fun H locs hM _ hu hS => ?_)
        refine lv_aload_n hx hb dX12_adds_84 rfl (lv_at hl 0 rfl) ?_
        refine w_get (k := 0) (v := .ref (b + 1)) hx hb hw hown hE fl_X12_7 hM (by decide) rfl rfl rfl dX12_adds_85 ?_
        refine lv_iconst (v := 0) hx hb dX12_adds_88 (by decide) ?_
        refine lv_dup2_11 hx hb dX12_adds_89 rfl rfl ?_
        refine w_iald (k := 1) (x9 := 0) hx hb hE hM (by decide) rfl (by decide) (by decide) dX12_adds_90 ?_
        refine lv_iconst (v := 1) hx hb dX12_adds_91 (by decide) ?_
        refine lv_iadd hx hb dX12_adds_92 ?_
        refine w_iast (k := 1) (x9 := 0) (x := ((z12 1 0) + 1)) hx hb hE hM (by decide) rfl (by decide) (by decide) hS (iv_mem (by decide)) dX12_adds_93 (fun H locs hM _ hu hS => ?_)
        refine lv_iload hx hb dX12_adds_94 (lv_at hl 7 rfl) ?_
        have hre := lp_end hy (Option.some.inj hf).symm
        subst hre
        exact mu_i (v := z.1) hx hb hrt hlocks hM hS dX12_adds_96
      · rw [if_neg c1] at hf
        refine lv_aload_n hx hb dX12_adds_18 rfl (lv_at hl 0 rfl) ?_
        refine lv_iload hx hb dX12_adds_19 (lv_at hl 7 rfl) ?_
        refine lv_iload hx hb dX12_adds_21 (lv_at hl 8 rfl) ?_
        refine lv_iconst (v := 0) hx hb dX12_adds_23 (by decide) ?_
        obtain ⟨z14, hc15, hf⟩ := br_some hf
        refine mu_cV (As := [.int z.1, .int z.2.1, .int 0]) (rest := []) hx hb hml hown hts hE (mX12_set l E B0 b (by omega) z.2.2 z.1 z.2.1 (0 : Int32) z14 hc15) cv_X12_108 (w_recv (k := 0) (ci := 12) hE hM (by decide) rfl rfl) hM hS hAB (fun _ h => h) rfl hl.1 rfl (by decide) (Nat.le_of_ble_eq_true rfl) ⟨Nat.le_refl _, Nat.le_refl _⟩ dX12_adds_24 (fun H locs hM _ hu hS => ?_)
        refine lv_iinc (v := (z.2.1 + 1)) (lv' := [(8, .int (z.2.1 + 1)), (0, .ref (b + 0)), (1, .int a1), (2, .int a2), (3, .int a3), (4, .int a4), (5, .int a5), (6, .int a6), (7, .int z.1)]) hx hb dX12_adds_27 hl (k := 8) rfl rfl (by decide) rfl (fun ls hl => ?_)
        refine lv_goto (tgt := 11) hx hb dX12_adds_30 (by decide) ?_
        exact ih (z.1, (z.2.1 + 1), z14) (lp_back hy (Option.some.inj hf).symm) _ _ _ hM hS (lv_sub hl [1, 2, 3, 4, 5, 6, 7, 8, 0] rfl)
  refine lv_aload_n hx hb dX12_adds_0 rfl (lv_at hl 0 rfl) ?_
  refine w_get (k := 0) (v := .ref (b + 1)) hx hb hw hown hE fl_X12_7 hM (by decide) rfl rfl rfl dX12_adds_1 ?_
  refine lv_iconst (v := 0) hx hb dX12_adds_4 (by decide) ?_
  refine w_iald (k := 1) (x9 := 0) hx hb hE hM (by decide) rfl (by decide) (by decide) dX12_adds_5 ?_
  refine lv_istore (lv' := [(7, .int (M 1 0)), (0, .ref (b + 0)), (1, .int a1), (2, .int a2), (3, .int a3), (4, .int a4), (5, .int a5), (6, .int a6)]) hx hb dX12_adds_6 hl (by decide) rfl (fun ls hl => ?_)
  refine lv_iconst (v := 0) hx hb dX12_adds_8 (by decide) ?_
  refine lv_istore (lv' := [(8, .int 0), (7, .int (M 1 0)), (0, .ref (b + 0)), (1, .int a1), (2, .int a2), (3, .int a3), (4, .int a4), (5, .int a5), (6, .int a6)]) hx hb dX12_adds_9 hl (by decide) rfl (fun ls hl => ?_)
  obtain ⟨fu, hfu⟩ := lp_some hf
  exact (loop fu ((M 1 0), 0, M) hfu) _ _ _ hM hS (lv_sub hl [2, 3, 4, 5, 6, 7, 8, 1, 0] rfl)
noncomputable def fX12_addStation (M : Mem) (a1 : Int32) (a2 : Int32) (a3 : Int32) (a4 : Int32) (a5 : Int32) (a6 : Int32) : Option (Int32 × Mem) := (fX12_begin M).bind fun z1 => (fX12_cannotAdd z1 a1 a2 a3 a4 a5 a6).bind fun z3 => (if z3 ≤ 0 then (fX12_adds z1 a1 a2 a3 a4 a5 a6).bind fun z6 => (fX12_commit z6.2 z6.1).bind fun z8 => some (z8.1, z8.2) else (fX12_fail z1 z3).bind fun z10 => some (z10.1, z10.2))
set_option maxHeartbeats 4000000 in
set_option maxRecDepth 100000 in
theorem mX12_addStation (l : Launch) (E : EP) (B0 : Nat) (b : Nat) (hb0 : B0 ≤ b) (M : Mem) (a1 : Int32) (a2 : Int32) (a3 : Int32) (a4 : Int32) (a5 : Int32) (a6 : Int32) (r : Int32 × Mem) (hf : fX12_addStation M a1 a2 a3 a4 a5 a6 = some r) : MU l E B0 yX12_addStation cX12_addStation 8 (some .int) 3 0 0 [.ref (b + 0), .int a1, .int a2, .int a3, .int a4, .int a5, .int a6] (Blk E b modSh 10 M) (some (.int r.1)) (Blk E b modSh 10 r.2) (iv b 10) := by
  refine mu_of (by decide +kernel) (Nat.le_of_ble_eq_true rfl) ?_
  intro p e s m args below meth c hx hb hml hown hts hrt hlocks hE H hM hS ls hl
  have hown : s.vm.findClass RX12 = some m.cls := hown
  have hl : lv_has ls 8 [(0, .ref (b + 0)), (1, .int a1), (2, .int a2), (3, .int a3), (4, .int a4), (5, .int a5), (6, .int a6)] := hl
  have hw : ∀ w ∈ WA, w.before args s = true := fun w h => hts w (List.mem_cons_of_mem _ h)
  have hAB : ∀ q, (iv b 10) q → B0 ≤ q := (iv_ge (by omega))
  unfold fX12_addStation at hf
  refine lv_aload_n hx hb dX12_addStation_0 rfl (lv_at hl 0 rfl) ?_
  obtain ⟨z1, hc2, hf⟩ := br_some hf
  refine mu_cV (As := []) (rest := []) hx hb hml hown hts hE (mX12_begin l E B0 b (by omega) M z1 hc2) cv_X12_112 (w_recv (k := 0) (ci := 12) hE hM (by decide) rfl rfl) hM hS hAB (fun _ h => h) rfl hl.1 rfl (by decide) (Nat.le_of_ble_eq_true rfl) ⟨Nat.le_refl _, Nat.le_refl _⟩ dX12_addStation_1 (fun H locs hM _ hu hS => ?_)
  refine lv_aload_n hx hb dX12_addStation_4 rfl (lv_at hl 0 rfl) ?_
  refine lv_iload_n hx hb dX12_addStation_5 rfl (lv_at hl 1 rfl) ?_
  refine lv_iload_n hx hb dX12_addStation_6 rfl (lv_at hl 2 rfl) ?_
  refine lv_iload_n hx hb dX12_addStation_7 rfl (lv_at hl 3 rfl) ?_
  refine lv_iload hx hb dX12_addStation_8 (lv_at hl 4 rfl) ?_
  refine lv_iload hx hb dX12_addStation_10 (lv_at hl 5 rfl) ?_
  refine lv_iload hx hb dX12_addStation_12 (lv_at hl 6 rfl) ?_
  obtain ⟨z3, hc4, hf⟩ := br_some hf
  refine mu_cV (As := [.int a1, .int a2, .int a3, .int a4, .int a5, .int a6]) (rest := []) hx hb hml hown hts hE (mX12_cannotAdd l E B0 b (by omega) z1 a1 a2 a3 a4 a5 a6 z3 hc4) cv_X12_115 (w_recv (k := 0) (ci := 12) hE hM (by decide) rfl rfl) hM hS hAB (fun _ h => h.elim) rfl hl.1 rfl (by decide) (Nat.le_of_ble_eq_true rfl) ⟨Nat.le_refl _, Nat.le_refl _⟩ dX12_addStation_14 (fun H locs hM _ hu hS => ?_)
  refine lv_istore (lv' := [(7, .int z3), (0, .ref (b + 0)), (1, .int a1), (2, .int a2), (3, .int a3), (4, .int a4), (5, .int a5), (6, .int a6)]) hx hb dX12_addStation_17 hl (by decide) rfl (fun ls hl => ?_)
  refine lv_iload hx hb dX12_addStation_19 (lv_at hl 0 rfl) ?_
  refine lv_if_le (tgt := 33) hx hb dX12_addStation_21 (by decide) (fun c5 => ?_) (fun c5 => ?_)
  · rw [if_pos c5] at hf
    refine lv_aload_n hx hb dX12_addStation_33 rfl (lv_at hl 1 rfl) ?_
    refine lv_aload_n hx hb dX12_addStation_34 rfl (lv_at hl 1 rfl) ?_
    refine lv_iload_n hx hb dX12_addStation_35 rfl (lv_at hl 2 rfl) ?_
    refine lv_iload_n hx hb dX12_addStation_36 rfl (lv_at hl 3 rfl) ?_
    refine lv_iload_n hx hb dX12_addStation_37 rfl (lv_at hl 4 rfl) ?_
    refine lv_iload hx hb dX12_addStation_38 (lv_at hl 5 rfl) ?_
    refine lv_iload hx hb dX12_addStation_40 (lv_at hl 6 rfl) ?_
    refine lv_iload hx hb dX12_addStation_42 (lv_at hl 7 rfl) ?_
    obtain ⟨z6, hc7, hf⟩ := br_some hf
    refine mu_cV (As := [.int a1, .int a2, .int a3, .int a4, .int a5, .int a6]) (rest := [.ref (b + 0)]) hx hb hml hown hts hE (mX12_adds l E B0 b (by omega) z1 a1 a2 a3 a4 a5 a6 z6 hc7) cv_X12_122 (w_recv (k := 0) (ci := 12) hE hM (by decide) rfl rfl) hM hS hAB (fun _ h => h) rfl hl.1 rfl (by decide) (Nat.le_of_ble_eq_true rfl) ⟨Nat.le_refl _, Nat.le_refl _⟩ dX12_addStation_44 (fun H locs hM _ hu hS => ?_)
    obtain ⟨z8, hc9, hf⟩ := br_some hf
    refine mu_cV (As := [.int z6.1]) (rest := []) hx hb hml hown hts hE (mX12_commit l E B0 b (by omega) z6.2 z6.1 z8 hc9) cv_X12_125 (w_recv (k := 0) (ci := 12) hE hM (by decide) rfl rfl) hM hS hAB (fun _ h => h) rfl hl.1 rfl (by decide) (Nat.le_of_ble_eq_true rfl) ⟨Nat.le_refl _, Nat.le_refl _⟩ dX12_addStation_47 (fun H locs hM _ hu hS => ?_)
    have hre := Option.some.inj hf
    subst hre
    exact mu_i (v := z8.1) hx hb hrt hlocks hM hS dX12_addStation_50
  · rw [if_neg c5] at hf
    refine lv_aload_n hx hb dX12_addStation_24 rfl (lv_at hl 1 rfl) ?_
    refine lv_iload hx hb dX12_addStation_25 (lv_at hl 0 rfl) ?_
    obtain ⟨z10, hc11, hf⟩ := br_some hf
    refine mu_cV (As := [.int z3]) (rest := []) hx hb hml hown hts hE (mX12_fail l E B0 b (by omega) z1 z3 z10 hc11) cv_X12_119 (w_recv (k := 0) (ci := 12) hE hM (by decide) rfl rfl) hM hS hAB (fun _ h => h) rfl hl.1 rfl (by decide) (Nat.le_of_ble_eq_true rfl) ⟨Nat.le_refl _, Nat.le_refl _⟩ dX12_addStation_27 (fun H locs hM _ hu hS => ?_)
    refine lv_goto (tgt := 50) hx hb dX12_addStation_30 (by decide) ?_
    have hre := Option.some.inj hf
    subst hre
    exact mu_i (v := z10.1) hx hb hrt hlocks hM hS dX12_addStation_50
def fX12_moves_s (a1 : Int32) (a2 : Int32) (a3 : Int32) (z : Int32 × Int32 × Mem) : Option ((Int32 × Int32 × Mem) ⊕ (Int32 × Mem)) := (if (z.2.2 1 0) ≤ z.2.1 then some (.inr (z.1, z.2.2)) else (fX12_hears z.2.2 z.2.1 a1).bind fun z2 => (if z2 = 0 then some (.inl ((z.1 + 0), (z.2.1 + 1), z.2.2)) else some (.inl ((z.1 + 1), (z.2.1 + 1), z.2.2))))
noncomputable def fX12_moves (M : Mem) (a1 : Int32) (a2 : Int32) (a3 : Int32) : Option (Int32 × Mem) := (fX12_set M a1 (2 : Int32) a2).bind fun z5 => (fX12_set z5 a1 (3 : Int32) a3).bind fun z7 => lp (fX12_moves_s a1 a2 a3) (0, 0, z7)
set_option maxHeartbeats 4000000 in
set_option maxRecDepth 100000 in
theorem mX12_moves (l : Launch) (E : EP) (B0 : Nat) (b : Nat) (hb0 : B0 ≤ b) (M : Mem) (a1 : Int32) (a2 : Int32) (a3 : Int32) (r : Int32 × Mem) (hf : fX12_moves M a1 a2 a3 = some r) : MU l E B0 yX12_moves cX12_moves 6 (some .int) 3 0 0 [.ref (b + 0), .int a1, .int a2, .int a3] (Blk E b modSh 10 M) (some (.int r.1)) (Blk E b modSh 10 r.2) (iv b 10) := by
  refine mu_of (by decide +kernel) (Nat.le_of_ble_eq_true rfl) ?_
  intro p e s m args below meth c hx hb hml hown hts hrt hlocks hE H hM hS ls hl
  have hown : s.vm.findClass RX12 = some m.cls := hown
  have hl : lv_has ls 6 [(0, .ref (b + 0)), (1, .int a1), (2, .int a2), (3, .int a3)] := hl
  have hw : ∀ w ∈ WA, w.before args s = true := fun w h => hts w (List.mem_cons_of_mem _ h)
  have hAB : ∀ q, (iv b 10) q → B0 ≤ q := (iv_ge (by omega))
  unfold fX12_moves at hf
  have loop : ∀ (fu : Nat) (z : Int32 × Int32 × Mem), lpI (fX12_moves_s a1 a2 a3) fu z = some r → (∀ (H : Heap) (locs : List Loc) (ls : Array Slot), Blk E b modSh 10 z.2.2 H → va_S (iv b 10) s.heap H locs → lv_has ls 6 [(0, .ref (b + 0)), (1, .int a1), (2, .int a2), (3, .int a3), (4, .int z.1), (5, .int z.2.1)] → W p l e (rmD 3 0 0) s m args below meth c H locs 0 0 (MQ below (QU (some (.int r.1)) (Blk E b modSh 10 r.2) (iv b 10)) args s 0 0 (iv b 10)) (F0 m 20 ls [])) := by
    intro fu
    induction fu with
    | zero =>
      intro z hn
      exact nomatch hn
    | succ fu ih =>
      intro z hn
      obtain ⟨y, hf, hy⟩ := lpI_succ hn
      intro H locs ls hM hS hl
      unfold fX12_moves_s at hf
      refine lv_iload hx hb dX12_moves_20 (lv_at hl 5 rfl) ?_
      refine lv_aload_n hx hb dX12_moves_22 rfl (lv_at hl 0 rfl) ?_
      refine w_get (k := 0) (v := .ref (b + 1)) hx hb hw hown hE fl_X12_7 hM (by decide) rfl rfl rfl dX12_moves_23 ?_
      refine lv_iconst (v := 0) hx hb dX12_moves_26 (by decide) ?_
      refine w_iald (k := 1) (x9 := 0) hx hb hE hM (by decide) rfl (by decide) (by decide) dX12_moves_27 ?_
      refine lv_icmp_ge (tgt := 57) hx hb dX12_moves_28 (by decide) (fun c1 => ?_) (fun c1 => ?_)
      · rw [if_pos c1] at hf
        refine lv_iload hx hb dX12_moves_57 (lv_at hl 4 rfl) ?_
        have hre := lp_end hy (Option.some.inj hf).symm
        subst hre
        exact mu_i (v := z.1) hx hb hrt hlocks hM hS dX12_moves_59
      · rw [if_neg c1] at hf
        refine lv_iload hx hb dX12_moves_31 (lv_at hl 4 rfl) ?_
        refine lv_aload_n hx hb dX12_moves_33 rfl (lv_at hl 0 rfl) ?_
        refine lv_iload hx hb dX12_moves_34 (lv_at hl 5 rfl) ?_
        refine lv_iload_n hx hb dX12_moves_36 rfl (lv_at hl 1 rfl) ?_
        obtain ⟨z2, hc3, hf⟩ := br_some hf
        refine mu_cV (As := [.int z.2.1, .int a1]) (rest := [.int z.1]) hx hb hml hown hts hE (mX12_hears l E B0 b (by omega) z.2.2 z.2.1 a1 z2 hc3) cv_X12_128 (w_recv (k := 0) (ci := 12) hE hM (by decide) rfl rfl) hM hS hAB (fun _ h => h.elim) rfl hl.1 rfl (by decide) (Nat.le_of_ble_eq_true rfl) ⟨Nat.le_refl _, Nat.le_refl _⟩ dX12_moves_37 (fun H locs hM _ hu hS => ?_)
        refine lv_if_eq (tgt := 47) hx hb dX12_moves_40 (by decide) (fun c4 => ?_) (fun c4 => ?_)
        · rw [if_pos c4] at hf
          refine lv_iconst (v := 0) hx hb dX12_moves_47 (by decide) ?_
          refine lv_iadd hx hb dX12_moves_48 ?_
          refine lv_istore (lv' := [(4, .int (z.1 + 0)), (0, .ref (b + 0)), (1, .int a1), (2, .int a2), (3, .int a3), (5, .int z.2.1)]) hx hb dX12_moves_49 hl (by decide) rfl (fun ls hl => ?_)
          refine lv_iinc (v := (z.2.1 + 1)) (lv' := [(5, .int (z.2.1 + 1)), (4, .int (z.1 + 0)), (0, .ref (b + 0)), (1, .int a1), (2, .int a2), (3, .int a3)]) hx hb dX12_moves_51 hl (k := 5) rfl rfl (by decide) rfl (fun ls hl => ?_)
          refine lv_goto (tgt := 20) hx hb dX12_moves_54 (by decide) ?_
          exact ih ((z.1 + 0), (z.2.1 + 1), z.2.2) (lp_back hy (Option.some.inj hf).symm) _ _ _ hM hS (lv_sub hl [2, 3, 4, 5, 1, 0] rfl)
        · rw [if_neg c4] at hf
          refine lv_iconst (v := 1) hx hb dX12_moves_43 (by decide) ?_
          refine lv_goto (tgt := 48) hx hb dX12_moves_44 (by decide) ?_
          refine lv_iadd hx hb dX12_moves_48 ?_
          refine lv_istore (lv' := [(4, .int (z.1 + 1)), (0, .ref (b + 0)), (1, .int a1), (2, .int a2), (3, .int a3), (5, .int z.2.1)]) hx hb dX12_moves_49 hl (by decide) rfl (fun ls hl => ?_)
          refine lv_iinc (v := (z.2.1 + 1)) (lv' := [(5, .int (z.2.1 + 1)), (4, .int (z.1 + 1)), (0, .ref (b + 0)), (1, .int a1), (2, .int a2), (3, .int a3)]) hx hb dX12_moves_51 hl (k := 5) rfl rfl (by decide) rfl (fun ls hl => ?_)
          refine lv_goto (tgt := 20) hx hb dX12_moves_54 (by decide) ?_
          exact ih ((z.1 + 1), (z.2.1 + 1), z.2.2) (lp_back hy (Option.some.inj hf).symm) _ _ _ hM hS (lv_sub hl [2, 3, 4, 5, 1, 0] rfl)
  refine lv_aload_n hx hb dX12_moves_0 rfl (lv_at hl 0 rfl) ?_
  refine lv_iload_n hx hb dX12_moves_1 rfl (lv_at hl 1 rfl) ?_
  refine lv_iconst (v := 2) hx hb dX12_moves_2 (by decide) ?_
  refine lv_iload_n hx hb dX12_moves_3 rfl (lv_at hl 2 rfl) ?_
  obtain ⟨z5, hc6, hf⟩ := br_some hf
  refine mu_cV (As := [.int a1, .int 2, .int a2]) (rest := []) hx hb hml hown hts hE (mX12_set l E B0 b (by omega) M a1 (2 : Int32) a2 z5 hc6) cv_X12_108 (w_recv (k := 0) (ci := 12) hE hM (by decide) rfl rfl) hM hS hAB (fun _ h => h) rfl hl.1 rfl (by decide) (Nat.le_of_ble_eq_true rfl) ⟨Nat.le_refl _, Nat.le_refl _⟩ dX12_moves_4 (fun H locs hM _ hu hS => ?_)
  refine lv_aload_n hx hb dX12_moves_7 rfl (lv_at hl 0 rfl) ?_
  refine lv_iload_n hx hb dX12_moves_8 rfl (lv_at hl 1 rfl) ?_
  refine lv_iconst (v := 3) hx hb dX12_moves_9 (by decide) ?_
  refine lv_iload_n hx hb dX12_moves_10 rfl (lv_at hl 3 rfl) ?_
  obtain ⟨z7, hc8, hf⟩ := br_some hf
  refine mu_cV (As := [.int a1, .int 3, .int a3]) (rest := []) hx hb hml hown hts hE (mX12_set l E B0 b (by omega) z5 a1 (3 : Int32) a3 z7 hc8) cv_X12_108 (w_recv (k := 0) (ci := 12) hE hM (by decide) rfl rfl) hM hS hAB (fun _ h => h) rfl hl.1 rfl (by decide) (Nat.le_of_ble_eq_true rfl) ⟨Nat.le_refl _, Nat.le_refl _⟩ dX12_moves_11 (fun H locs hM _ hu hS => ?_)
  refine lv_iconst (v := 0) hx hb dX12_moves_14 (by decide) ?_
  refine lv_istore (lv' := [(4, .int 0), (0, .ref (b + 0)), (1, .int a1), (2, .int a2), (3, .int a3)]) hx hb dX12_moves_15 hl (by decide) rfl (fun ls hl => ?_)
  refine lv_iconst (v := 0) hx hb dX12_moves_17 (by decide) ?_
  refine lv_istore (lv' := [(5, .int 0), (4, .int 0), (0, .ref (b + 0)), (1, .int a1), (2, .int a2), (3, .int a3)]) hx hb dX12_moves_18 hl (by decide) rfl (fun ls hl => ?_)
  obtain ⟨fu, hfu⟩ := lp_some hf
  exact (loop fu (0, 0, z7) hfu) _ _ _ hM hS (lv_sub hl [2, 3, 4, 5, 1, 0] rfl)
def fX12_cannotMove (M : Mem) (a1 : Int32) (a2 : Int32) (a3 : Int32) : Option (Int32) := (fX12_isStation M a1).bind fun z1 => (if z1 = 0 then some 1 else (fX12_isPlace a2 a3).bind fun z4 => (if z4 = 0 then some 2 else some 0))
set_option maxHeartbeats 4000000 in
set_option maxRecDepth 100000 in
theorem mX12_cannotMove (l : Launch) (E : EP) (B0 : Nat) (b : Nat) (hb0 : B0 ≤ b) (M : Mem) (a1 : Int32) (a2 : Int32) (a3 : Int32) (r : Int32) (hf : fX12_cannotMove M a1 a2 a3 = some r) : MU l E B0 yX12_cannotMove cX12_cannotMove 4 (some .int) 2 0 0 [.ref (b + 0), .int a1, .int a2, .int a3] (Blk E b modSh 10 M) (some (.int r)) (Blk E b modSh 10 M) nv := by
  refine mu_of (by decide +kernel) (Nat.le_of_ble_eq_true rfl) ?_
  intro p e s m args below meth c hx hb hml hown hts hrt hlocks hE H hM hS ls hl
  have hown : s.vm.findClass RX12 = some m.cls := hown
  have hl : lv_has ls 4 [(0, .ref (b + 0)), (1, .int a1), (2, .int a2), (3, .int a3)] := hl
  have hw : ∀ w ∈ WA, w.before args s = true := fun w h => hts w (List.mem_cons_of_mem _ h)
  have hAB : ∀ q, nv q → B0 ≤ q := fun _ h => h.elim
  unfold fX12_cannotMove at hf
  refine lv_aload_n hx hb dX12_cannotMove_0 rfl (lv_at hl 0 rfl) ?_
  refine lv_iload_n hx hb dX12_cannotMove_1 rfl (lv_at hl 1 rfl) ?_
  obtain ⟨z1, hc2, hf⟩ := br_some hf
  refine mu_cV (As := [.int a1]) (rest := []) hx hb hml hown hts hE (mX12_isStation l E B0 b (by omega) M a1 z1 hc2) cv_X12_131 (w_recv (k := 0) (ci := 12) hE hM (by decide) rfl rfl) hM hS hAB (fun _ h => h.elim) rfl hl.1 rfl (by decide) (Nat.le_of_ble_eq_true rfl) ⟨Nat.le_refl _, Nat.le_refl _⟩ dX12_cannotMove_2 (fun H locs hM _ hu hS => ?_)
  refine lv_if_ne (tgt := 12) hx hb dX12_cannotMove_5 (by decide) (fun c3 => ?_) (fun c3 => ?_)
  · rw [if_neg c3] at hf
    refine lv_iload_n hx hb dX12_cannotMove_12 rfl (lv_at hl 2 rfl) ?_
    refine lv_iload_n hx hb dX12_cannotMove_13 rfl (lv_at hl 3 rfl) ?_
    obtain ⟨z4, hc5, hf⟩ := br_some hf
    refine mu_cS (As := [.int a2, .int a3]) (rest := []) hx hb hml hown hts hE (mX12_isPlace l E B0 a2 a3 z4 hc5) cs_X12_98 trivial hS hAB (fun _ h => h.elim) rfl hl.1 rfl (by decide) (Nat.le_of_ble_eq_true rfl) ⟨Nat.le_refl _, Nat.le_refl _⟩ dX12_cannotMove_14 (fun H locs _ _ hu hS => ?_)
    have hM := Blk.off hM hu (fun _ _ _ h => h)
    refine lv_if_eq (tgt := 24) hx hb dX12_cannotMove_17 (by decide) (fun c6 => ?_) (fun c6 => ?_)
    · rw [if_pos c6] at hf
      refine lv_iconst (v := 2) hx hb dX12_cannotMove_24 (by decide) ?_
      have hre := Option.some.inj hf
      subst hre
      exact mu_i (v := 2) hx hb hrt hlocks hM hS dX12_cannotMove_25
    · rw [if_neg c6] at hf
      refine lv_iconst (v := 0) hx hb dX12_cannotMove_20 (by decide) ?_
      refine lv_goto (tgt := 25) hx hb dX12_cannotMove_21 (by decide) ?_
      have hre := Option.some.inj hf
      subst hre
      exact mu_i (v := 0) hx hb hrt hlocks hM hS dX12_cannotMove_25
  · rw [if_pos c3] at hf
    refine lv_iconst (v := 1) hx hb dX12_cannotMove_8 (by decide) ?_
    refine lv_goto (tgt := 25) hx hb dX12_cannotMove_9 (by decide) ?_
    have hre := Option.some.inj hf
    subst hre
    exact mu_i (v := 1) hx hb hrt hlocks hM hS dX12_cannotMove_25
noncomputable def fX12_move (M : Mem) (a1 : Int32) (a2 : Int32) (a3 : Int32) : Option (Int32 × Mem) := (fX12_begin M).bind fun z1 => (fX12_cannotMove z1 a1 a2 a3).bind fun z3 => (if z3 ≤ 0 then (fX12_moves z1 a1 a2 a3).bind fun z6 => (fX12_commit z6.2 z6.1).bind fun z8 => some (z8.1, z8.2) else (fX12_fail z1 z3).bind fun z10 => some (z10.1, z10.2))
set_option maxHeartbeats 4000000 in
set_option maxRecDepth 100000 in
theorem mX12_move (l : Launch) (E : EP) (B0 : Nat) (b : Nat) (hb0 : B0 ≤ b) (M : Mem) (a1 : Int32) (a2 : Int32) (a3 : Int32) (r : Int32 × Mem) (hf : fX12_move M a1 a2 a3 = some r) : MU l E B0 yX12_move cX12_move 5 (some .int) 4 0 0 [.ref (b + 0), .int a1, .int a2, .int a3] (Blk E b modSh 10 M) (some (.int r.1)) (Blk E b modSh 10 r.2) (iv b 10) := by
  refine mu_of (by decide +kernel) (Nat.le_of_ble_eq_true rfl) ?_
  intro p e s m args below meth c hx hb hml hown hts hrt hlocks hE H hM hS ls hl
  have hown : s.vm.findClass RX12 = some m.cls := hown
  have hl : lv_has ls 5 [(0, .ref (b + 0)), (1, .int a1), (2, .int a2), (3, .int a3)] := hl
  have hw : ∀ w ∈ WA, w.before args s = true := fun w h => hts w (List.mem_cons_of_mem _ h)
  have hAB : ∀ q, (iv b 10) q → B0 ≤ q := (iv_ge (by omega))
  unfold fX12_move at hf
  refine lv_aload_n hx hb dX12_move_0 rfl (lv_at hl 0 rfl) ?_
  obtain ⟨z1, hc2, hf⟩ := br_some hf
  refine mu_cV (As := []) (rest := []) hx hb hml hown hts hE (mX12_begin l E B0 b (by omega) M z1 hc2) cv_X12_112 (w_recv (k := 0) (ci := 12) hE hM (by decide) rfl rfl) hM hS hAB (fun _ h => h) rfl hl.1 rfl (by decide) (Nat.le_of_ble_eq_true rfl) ⟨Nat.le_refl _, Nat.le_refl _⟩ dX12_move_1 (fun H locs hM _ hu hS => ?_)
  refine lv_aload_n hx hb dX12_move_4 rfl (lv_at hl 0 rfl) ?_
  refine lv_iload_n hx hb dX12_move_5 rfl (lv_at hl 1 rfl) ?_
  refine lv_iload_n hx hb dX12_move_6 rfl (lv_at hl 2 rfl) ?_
  refine lv_iload_n hx hb dX12_move_7 rfl (lv_at hl 3 rfl) ?_
  obtain ⟨z3, hc4, hf⟩ := br_some hf
  refine mu_cV (As := [.int a1, .int a2, .int a3]) (rest := []) hx hb hml hown hts hE (mX12_cannotMove l E B0 b (by omega) z1 a1 a2 a3 z3 hc4) cv_X12_134 (w_recv (k := 0) (ci := 12) hE hM (by decide) rfl rfl) hM hS hAB (fun _ h => h.elim) rfl hl.1 rfl (by decide) (Nat.le_of_ble_eq_true rfl) ⟨Nat.le_refl _, Nat.le_refl _⟩ dX12_move_8 (fun H locs hM _ hu hS => ?_)
  refine lv_istore (lv' := [(4, .int z3), (0, .ref (b + 0)), (1, .int a1), (2, .int a2), (3, .int a3)]) hx hb dX12_move_11 hl (by decide) rfl (fun ls hl => ?_)
  refine lv_iload hx hb dX12_move_13 (lv_at hl 0 rfl) ?_
  refine lv_if_le (tgt := 27) hx hb dX12_move_15 (by decide) (fun c5 => ?_) (fun c5 => ?_)
  · rw [if_pos c5] at hf
    refine lv_aload_n hx hb dX12_move_27 rfl (lv_at hl 1 rfl) ?_
    refine lv_aload_n hx hb dX12_move_28 rfl (lv_at hl 1 rfl) ?_
    refine lv_iload_n hx hb dX12_move_29 rfl (lv_at hl 2 rfl) ?_
    refine lv_iload_n hx hb dX12_move_30 rfl (lv_at hl 3 rfl) ?_
    refine lv_iload_n hx hb dX12_move_31 rfl (lv_at hl 4 rfl) ?_
    obtain ⟨z6, hc7, hf⟩ := br_some hf
    refine mu_cV (As := [.int a1, .int a2, .int a3]) (rest := [.ref (b + 0)]) hx hb hml hown hts hE (mX12_moves l E B0 b (by omega) z1 a1 a2 a3 z6 hc7) cv_X12_138 (w_recv (k := 0) (ci := 12) hE hM (by decide) rfl rfl) hM hS hAB (fun _ h => h) rfl hl.1 rfl (by decide) (Nat.le_of_ble_eq_true rfl) ⟨Nat.le_refl _, Nat.le_refl _⟩ dX12_move_32 (fun H locs hM _ hu hS => ?_)
    obtain ⟨z8, hc9, hf⟩ := br_some hf
    refine mu_cV (As := [.int z6.1]) (rest := []) hx hb hml hown hts hE (mX12_commit l E B0 b (by omega) z6.2 z6.1 z8 hc9) cv_X12_125 (w_recv (k := 0) (ci := 12) hE hM (by decide) rfl rfl) hM hS hAB (fun _ h => h) rfl hl.1 rfl (by decide) (Nat.le_of_ble_eq_true rfl) ⟨Nat.le_refl _, Nat.le_refl _⟩ dX12_move_35 (fun H locs hM _ hu hS => ?_)
    have hre := Option.some.inj hf
    subst hre
    exact mu_i (v := z8.1) hx hb hrt hlocks hM hS dX12_move_38
  · rw [if_neg c5] at hf
    refine lv_aload_n hx hb dX12_move_18 rfl (lv_at hl 1 rfl) ?_
    refine lv_iload hx hb dX12_move_19 (lv_at hl 0 rfl) ?_
    obtain ⟨z10, hc11, hf⟩ := br_some hf
    refine mu_cV (As := [.int z3]) (rest := []) hx hb hml hown hts hE (mX12_fail l E B0 b (by omega) z1 z3 z10 hc11) cv_X12_119 (w_recv (k := 0) (ci := 12) hE hM (by decide) rfl rfl) hM hS hAB (fun _ h => h) rfl hl.1 rfl (by decide) (Nat.le_of_ble_eq_true rfl) ⟨Nat.le_refl _, Nat.le_refl _⟩ dX12_move_21 (fun H locs hM _ hu hS => ?_)
    refine lv_goto (tgt := 38) hx hb dX12_move_24 (by decide) ?_
    have hre := Option.some.inj hf
    subst hre
    exact mu_i (v := z10.1) hx hb hrt hlocks hM hS dX12_move_38
def fX12_replaces (M : Mem) (a1 : Int32) (a2 : Int32) (a3 : Int32) : Option (Int32 × Mem) := (fX12_t M a1 a2).bind fun z1 => (fX12_set M a1 a2 a3).bind fun z3 => some (z1, z3)
set_option maxHeartbeats 4000000 in
set_option maxRecDepth 100000 in
theorem mX12_replaces (l : Launch) (E : EP) (B0 : Nat) (b : Nat) (hb0 : B0 ≤ b) (M : Mem) (a1 : Int32) (a2 : Int32) (a3 : Int32) (r : Int32 × Mem) (hf : fX12_replaces M a1 a2 a3 = some r) : MU l E B0 yX12_replaces cX12_replaces 5 (some .int) 1 0 0 [.ref (b + 0), .int a1, .int a2, .int a3] (Blk E b modSh 10 M) (some (.int r.1)) (Blk E b modSh 10 r.2) (iv b 10) := by
  refine mu_of (by decide +kernel) (Nat.le_of_ble_eq_true rfl) ?_
  intro p e s m args below meth c hx hb hml hown hts hrt hlocks hE H hM hS ls hl
  have hown : s.vm.findClass RX12 = some m.cls := hown
  have hl : lv_has ls 5 [(0, .ref (b + 0)), (1, .int a1), (2, .int a2), (3, .int a3)] := hl
  have hw : ∀ w ∈ WA, w.before args s = true := fun w h => hts w (List.mem_cons_of_mem _ h)
  have hAB : ∀ q, (iv b 10) q → B0 ≤ q := (iv_ge (by omega))
  unfold fX12_replaces at hf
  refine lv_aload_n hx hb dX12_replaces_0 rfl (lv_at hl 0 rfl) ?_
  refine lv_iload_n hx hb dX12_replaces_1 rfl (lv_at hl 1 rfl) ?_
  refine lv_iload_n hx hb dX12_replaces_2 rfl (lv_at hl 2 rfl) ?_
  obtain ⟨z1, hc2, hf⟩ := br_some hf
  refine mu_cV (As := [.int a1, .int a2]) (rest := []) hx hb hml hown hts hE (mX12_t l E B0 b (by omega) M a1 a2 z1 hc2) cv_X12_80 (w_recv (k := 0) (ci := 12) hE hM (by decide) rfl rfl) hM hS hAB (fun _ h => h.elim) rfl hl.1 rfl (by decide) (Nat.le_of_ble_eq_true rfl) ⟨Nat.le_refl _, Nat.le_refl _⟩ dX12_replaces_3 (fun H locs hM _ hu hS => ?_)
  refine lv_istore (lv' := [(4, .int z1), (0, .ref (b + 0)), (1, .int a1), (2, .int a2), (3, .int a3)]) hx hb dX12_replaces_6 hl (by decide) rfl (fun ls hl => ?_)
  refine lv_aload_n hx hb dX12_replaces_8 rfl (lv_at hl 1 rfl) ?_
  refine lv_iload_n hx hb dX12_replaces_9 rfl (lv_at hl 2 rfl) ?_
  refine lv_iload_n hx hb dX12_replaces_10 rfl (lv_at hl 3 rfl) ?_
  refine lv_iload_n hx hb dX12_replaces_11 rfl (lv_at hl 4 rfl) ?_
  obtain ⟨z3, hc4, hf⟩ := br_some hf
  refine mu_cV (As := [.int a1, .int a2, .int a3]) (rest := []) hx hb hml hown hts hE (mX12_set l E B0 b (by omega) M a1 a2 a3 z3 hc4) cv_X12_108 (w_recv (k := 0) (ci := 12) hE hM (by decide) rfl rfl) hM hS hAB (fun _ h => h) rfl hl.1 rfl (by decide) (Nat.le_of_ble_eq_true rfl) ⟨Nat.le_refl _, Nat.le_refl _⟩ dX12_replaces_12 (fun H locs hM _ hu hS => ?_)
  refine lv_iload hx hb dX12_replaces_15 (lv_at hl 0 rfl) ?_
  have hre := Option.some.inj hf
  subst hre
  exact mu_i (v := z1) hx hb hrt hlocks hM hS dX12_replaces_17
def fX12_cannotPower (M : Mem) (a1 : Int32) (a2 : Int32) : Option (Int32) := (fX12_isStation M a1).bind fun z1 => (if z1 = 0 then some 1 else (fX12_in a2 (1 : Int32) (99 : Int32)).bind fun z4 => (if z4 = 0 then some 2 else some 0))
set_option maxHeartbeats 4000000 in
set_option maxRecDepth 100000 in
theorem mX12_cannotPower (l : Launch) (E : EP) (B0 : Nat) (b : Nat) (hb0 : B0 ≤ b) (M : Mem) (a1 : Int32) (a2 : Int32) (r : Int32) (hf : fX12_cannotPower M a1 a2 = some r) : MU l E B0 yX12_cannotPower cX12_cannotPower 3 (some .int) 2 0 0 [.ref (b + 0), .int a1, .int a2] (Blk E b modSh 10 M) (some (.int r)) (Blk E b modSh 10 M) nv := by
  refine mu_of (by decide +kernel) (Nat.le_of_ble_eq_true rfl) ?_
  intro p e s m args below meth c hx hb hml hown hts hrt hlocks hE H hM hS ls hl
  have hown : s.vm.findClass RX12 = some m.cls := hown
  have hl : lv_has ls 3 [(0, .ref (b + 0)), (1, .int a1), (2, .int a2)] := hl
  have hw : ∀ w ∈ WA, w.before args s = true := fun w h => hts w (List.mem_cons_of_mem _ h)
  have hAB : ∀ q, nv q → B0 ≤ q := fun _ h => h.elim
  unfold fX12_cannotPower at hf
  refine lv_aload_n hx hb dX12_cannotPower_0 rfl (lv_at hl 0 rfl) ?_
  refine lv_iload_n hx hb dX12_cannotPower_1 rfl (lv_at hl 1 rfl) ?_
  obtain ⟨z1, hc2, hf⟩ := br_some hf
  refine mu_cV (As := [.int a1]) (rest := []) hx hb hml hown hts hE (mX12_isStation l E B0 b (by omega) M a1 z1 hc2) cv_X12_131 (w_recv (k := 0) (ci := 12) hE hM (by decide) rfl rfl) hM hS hAB (fun _ h => h.elim) rfl hl.1 rfl (by decide) (Nat.le_of_ble_eq_true rfl) ⟨Nat.le_refl _, Nat.le_refl _⟩ dX12_cannotPower_2 (fun H locs hM _ hu hS => ?_)
  refine lv_if_ne (tgt := 12) hx hb dX12_cannotPower_5 (by decide) (fun c3 => ?_) (fun c3 => ?_)
  · rw [if_neg c3] at hf
    refine lv_iload_n hx hb dX12_cannotPower_12 rfl (lv_at hl 2 rfl) ?_
    refine lv_iconst (v := 1) hx hb dX12_cannotPower_13 (by decide) ?_
    refine lv_bipush (v := 99) hx hb dX12_cannotPower_14 (by decide) ?_
    obtain ⟨z4, hc5, hf⟩ := br_some hf
    refine mu_cS (As := [.int a2, .int 1, .int 99]) (rest := []) hx hb hml hown hts hE (mX12_in l E B0 a2 (1 : Int32) (99 : Int32) z4 hc5) cs_X12_76 trivial hS hAB (fun _ h => h.elim) rfl hl.1 rfl (by decide) (Nat.le_of_ble_eq_true rfl) ⟨Nat.le_refl _, Nat.le_refl _⟩ dX12_cannotPower_16 (fun H locs _ _ hu hS => ?_)
    have hM := Blk.off hM hu (fun _ _ _ h => h)
    refine lv_if_eq (tgt := 26) hx hb dX12_cannotPower_19 (by decide) (fun c6 => ?_) (fun c6 => ?_)
    · rw [if_pos c6] at hf
      refine lv_iconst (v := 2) hx hb dX12_cannotPower_26 (by decide) ?_
      have hre := Option.some.inj hf
      subst hre
      exact mu_i (v := 2) hx hb hrt hlocks hM hS dX12_cannotPower_27
    · rw [if_neg c6] at hf
      refine lv_iconst (v := 0) hx hb dX12_cannotPower_22 (by decide) ?_
      refine lv_goto (tgt := 27) hx hb dX12_cannotPower_23 (by decide) ?_
      have hre := Option.some.inj hf
      subst hre
      exact mu_i (v := 0) hx hb hrt hlocks hM hS dX12_cannotPower_27
  · rw [if_pos c3] at hf
    refine lv_iconst (v := 1) hx hb dX12_cannotPower_8 (by decide) ?_
    refine lv_goto (tgt := 27) hx hb dX12_cannotPower_9 (by decide) ?_
    have hre := Option.some.inj hf
    subst hre
    exact mu_i (v := 1) hx hb hrt hlocks hM hS dX12_cannotPower_27
noncomputable def fX12_setPower (M : Mem) (a1 : Int32) (a2 : Int32) : Option (Int32 × Mem) := (fX12_begin M).bind fun z1 => (fX12_cannotPower z1 a1 a2).bind fun z3 => (if z3 ≤ 0 then (fX12_replaces z1 a1 (4 : Int32) a2).bind fun z6 => (fX12_commit z6.2 z6.1).bind fun z8 => some (z8.1, z8.2) else (fX12_fail z1 z3).bind fun z10 => some (z10.1, z10.2))
set_option maxHeartbeats 4000000 in
set_option maxRecDepth 100000 in
theorem mX12_setPower (l : Launch) (E : EP) (B0 : Nat) (b : Nat) (hb0 : B0 ≤ b) (M : Mem) (a1 : Int32) (a2 : Int32) (r : Int32 × Mem) (hf : fX12_setPower M a1 a2 = some r) : MU l E B0 yX12_setPower cX12_setPower 4 (some .int) 3 0 0 [.ref (b + 0), .int a1, .int a2] (Blk E b modSh 10 M) (some (.int r.1)) (Blk E b modSh 10 r.2) (iv b 10) := by
  refine mu_of (by decide +kernel) (Nat.le_of_ble_eq_true rfl) ?_
  intro p e s m args below meth c hx hb hml hown hts hrt hlocks hE H hM hS ls hl
  have hown : s.vm.findClass RX12 = some m.cls := hown
  have hl : lv_has ls 4 [(0, .ref (b + 0)), (1, .int a1), (2, .int a2)] := hl
  have hw : ∀ w ∈ WA, w.before args s = true := fun w h => hts w (List.mem_cons_of_mem _ h)
  have hAB : ∀ q, (iv b 10) q → B0 ≤ q := (iv_ge (by omega))
  unfold fX12_setPower at hf
  refine lv_aload_n hx hb dX12_setPower_0 rfl (lv_at hl 0 rfl) ?_
  obtain ⟨z1, hc2, hf⟩ := br_some hf
  refine mu_cV (As := []) (rest := []) hx hb hml hown hts hE (mX12_begin l E B0 b (by omega) M z1 hc2) cv_X12_112 (w_recv (k := 0) (ci := 12) hE hM (by decide) rfl rfl) hM hS hAB (fun _ h => h) rfl hl.1 rfl (by decide) (Nat.le_of_ble_eq_true rfl) ⟨Nat.le_refl _, Nat.le_refl _⟩ dX12_setPower_1 (fun H locs hM _ hu hS => ?_)
  refine lv_aload_n hx hb dX12_setPower_4 rfl (lv_at hl 0 rfl) ?_
  refine lv_iload_n hx hb dX12_setPower_5 rfl (lv_at hl 1 rfl) ?_
  refine lv_iload_n hx hb dX12_setPower_6 rfl (lv_at hl 2 rfl) ?_
  obtain ⟨z3, hc4, hf⟩ := br_some hf
  refine mu_cV (As := [.int a1, .int a2]) (rest := []) hx hb hml hown hts hE (mX12_cannotPower l E B0 b (by omega) z1 a1 a2 z3 hc4) cv_X12_141 (w_recv (k := 0) (ci := 12) hE hM (by decide) rfl rfl) hM hS hAB (fun _ h => h.elim) rfl hl.1 rfl (by decide) (Nat.le_of_ble_eq_true rfl) ⟨Nat.le_refl _, Nat.le_refl _⟩ dX12_setPower_7 (fun H locs hM _ hu hS => ?_)
  refine lv_istore_n (lv' := [(3, .int z3), (0, .ref (b + 0)), (1, .int a1), (2, .int a2)]) hx hb dX12_setPower_10 rfl hl (by decide) rfl (fun ls hl => ?_)
  refine lv_iload_n hx hb dX12_setPower_11 rfl (lv_at hl 0 rfl) ?_
  refine lv_if_le (tgt := 23) hx hb dX12_setPower_12 (by decide) (fun c5 => ?_) (fun c5 => ?_)
  · rw [if_pos c5] at hf
    refine lv_aload_n hx hb dX12_setPower_23 rfl (lv_at hl 1 rfl) ?_
    refine lv_aload_n hx hb dX12_setPower_24 rfl (lv_at hl 1 rfl) ?_
    refine lv_iload_n hx hb dX12_setPower_25 rfl (lv_at hl 2 rfl) ?_
    refine lv_iconst (v := 4) hx hb dX12_setPower_26 (by decide) ?_
    refine lv_iload_n hx hb dX12_setPower_27 rfl (lv_at hl 3 rfl) ?_
    obtain ⟨z6, hc7, hf⟩ := br_some hf
    refine mu_cV (As := [.int a1, .int 4, .int a2]) (rest := [.ref (b + 0)]) hx hb hml hown hts hE (mX12_replaces l E B0 b (by omega) z1 a1 (4 : Int32) a2 z6 hc7) cv_X12_144 (w_recv (k := 0) (ci := 12) hE hM (by decide) rfl rfl) hM hS hAB (fun _ h => h) rfl hl.1 rfl (by decide) (Nat.le_of_ble_eq_true rfl) ⟨Nat.le_refl _, Nat.le_refl _⟩ dX12_setPower_28 (fun H locs hM _ hu hS => ?_)
    obtain ⟨z8, hc9, hf⟩ := br_some hf
    refine mu_cV (As := [.int z6.1]) (rest := []) hx hb hml hown hts hE (mX12_commit l E B0 b (by omega) z6.2 z6.1 z8 hc9) cv_X12_125 (w_recv (k := 0) (ci := 12) hE hM (by decide) rfl rfl) hM hS hAB (fun _ h => h) rfl hl.1 rfl (by decide) (Nat.le_of_ble_eq_true rfl) ⟨Nat.le_refl _, Nat.le_refl _⟩ dX12_setPower_31 (fun H locs hM _ hu hS => ?_)
    have hre := Option.some.inj hf
    subst hre
    exact mu_i (v := z8.1) hx hb hrt hlocks hM hS dX12_setPower_34
  · rw [if_neg c5] at hf
    refine lv_aload_n hx hb dX12_setPower_15 rfl (lv_at hl 1 rfl) ?_
    refine lv_iload_n hx hb dX12_setPower_16 rfl (lv_at hl 0 rfl) ?_
    obtain ⟨z10, hc11, hf⟩ := br_some hf
    refine mu_cV (As := [.int z3]) (rest := []) hx hb hml hown hts hE (mX12_fail l E B0 b (by omega) z1 z3 z10 hc11) cv_X12_119 (w_recv (k := 0) (ci := 12) hE hM (by decide) rfl rfl) hM hS hAB (fun _ h => h) rfl hl.1 rfl (by decide) (Nat.le_of_ble_eq_true rfl) ⟨Nat.le_refl _, Nat.le_refl _⟩ dX12_setPower_17 (fun H locs hM _ hu hS => ?_)
    refine lv_goto (tgt := 34) hx hb dX12_setPower_20 (by decide) ?_
    have hre := Option.some.inj hf
    subst hre
    exact mu_i (v := z10.1) hx hb hrt hlocks hM hS dX12_setPower_34
def fX12_cannotTune (M : Mem) (a1 : Int32) (a2 : Int32) : Option (Int32) := (fX12_isStation M a1).bind fun z1 => (if z1 = 0 then some 1 else (fX12_isChannel a2).bind fun z4 => (if z4 = 0 then some 2 else (fX12_t M a1 (6 : Int32)).bind fun z7 => (if z7 = 0 then some 0 else some 3)))
set_option maxHeartbeats 4000000 in
set_option maxRecDepth 100000 in
theorem mX12_cannotTune (l : Launch) (E : EP) (B0 : Nat) (b : Nat) (hb0 : B0 ≤ b) (M : Mem) (a1 : Int32) (a2 : Int32) (r : Int32) (hf : fX12_cannotTune M a1 a2 = some r) : MU l E B0 yX12_cannotTune cX12_cannotTune 3 (some .int) 2 0 0 [.ref (b + 0), .int a1, .int a2] (Blk E b modSh 10 M) (some (.int r)) (Blk E b modSh 10 M) nv := by
  refine mu_of (by decide +kernel) (Nat.le_of_ble_eq_true rfl) ?_
  intro p e s m args below meth c hx hb hml hown hts hrt hlocks hE H hM hS ls hl
  have hown : s.vm.findClass RX12 = some m.cls := hown
  have hl : lv_has ls 3 [(0, .ref (b + 0)), (1, .int a1), (2, .int a2)] := hl
  have hw : ∀ w ∈ WA, w.before args s = true := fun w h => hts w (List.mem_cons_of_mem _ h)
  have hAB : ∀ q, nv q → B0 ≤ q := fun _ h => h.elim
  unfold fX12_cannotTune at hf
  refine lv_aload_n hx hb dX12_cannotTune_0 rfl (lv_at hl 0 rfl) ?_
  refine lv_iload_n hx hb dX12_cannotTune_1 rfl (lv_at hl 1 rfl) ?_
  obtain ⟨z1, hc2, hf⟩ := br_some hf
  refine mu_cV (As := [.int a1]) (rest := []) hx hb hml hown hts hE (mX12_isStation l E B0 b (by omega) M a1 z1 hc2) cv_X12_131 (w_recv (k := 0) (ci := 12) hE hM (by decide) rfl rfl) hM hS hAB (fun _ h => h.elim) rfl hl.1 rfl (by decide) (Nat.le_of_ble_eq_true rfl) ⟨Nat.le_refl _, Nat.le_refl _⟩ dX12_cannotTune_2 (fun H locs hM _ hu hS => ?_)
  refine lv_if_ne (tgt := 12) hx hb dX12_cannotTune_5 (by decide) (fun c3 => ?_) (fun c3 => ?_)
  · rw [if_neg c3] at hf
    refine lv_iload_n hx hb dX12_cannotTune_12 rfl (lv_at hl 2 rfl) ?_
    obtain ⟨z4, hc5, hf⟩ := br_some hf
    refine mu_cS (As := [.int a2]) (rest := []) hx hb hml hown hts hE (mX12_isChannel l E B0 a2 z4 hc5) cs_X12_101 trivial hS hAB (fun _ h => h.elim) rfl hl.1 rfl (by decide) (Nat.le_of_ble_eq_true rfl) ⟨Nat.le_refl _, Nat.le_refl _⟩ dX12_cannotTune_13 (fun H locs _ _ hu hS => ?_)
    have hM := Blk.off hM hu (fun _ _ _ h => h)
    refine lv_if_ne (tgt := 23) hx hb dX12_cannotTune_16 (by decide) (fun c6 => ?_) (fun c6 => ?_)
    · rw [if_neg c6] at hf
      refine lv_aload_n hx hb dX12_cannotTune_23 rfl (lv_at hl 0 rfl) ?_
      refine lv_iload_n hx hb dX12_cannotTune_24 rfl (lv_at hl 1 rfl) ?_
      refine lv_bipush (v := 6) hx hb dX12_cannotTune_25 (by decide) ?_
      obtain ⟨z7, hc8, hf⟩ := br_some hf
      refine mu_cV (As := [.int a1, .int 6]) (rest := []) hx hb hml hown hts hE (mX12_t l E B0 b (by omega) M a1 (6 : Int32) z7 hc8) cv_X12_80 (w_recv (k := 0) (ci := 12) hE hM (by decide) rfl rfl) hM hS hAB (fun _ h => h.elim) rfl hl.1 rfl (by decide) (Nat.le_of_ble_eq_true rfl) ⟨Nat.le_refl _, Nat.le_refl _⟩ dX12_cannotTune_27 (fun H locs hM _ hu hS => ?_)
      refine lv_if_ne (tgt := 37) hx hb dX12_cannotTune_30 (by decide) (fun c9 => ?_) (fun c9 => ?_)
      · rw [if_neg c9] at hf
        refine lv_iconst (v := 3) hx hb dX12_cannotTune_37 (by decide) ?_
        have hre := Option.some.inj hf
        subst hre
        exact mu_i (v := 3) hx hb hrt hlocks hM hS dX12_cannotTune_38
      · rw [if_pos c9] at hf
        refine lv_iconst (v := 0) hx hb dX12_cannotTune_33 (by decide) ?_
        refine lv_goto (tgt := 38) hx hb dX12_cannotTune_34 (by decide) ?_
        have hre := Option.some.inj hf
        subst hre
        exact mu_i (v := 0) hx hb hrt hlocks hM hS dX12_cannotTune_38
    · rw [if_pos c6] at hf
      refine lv_iconst (v := 2) hx hb dX12_cannotTune_19 (by decide) ?_
      refine lv_goto (tgt := 38) hx hb dX12_cannotTune_20 (by decide) ?_
      have hre := Option.some.inj hf
      subst hre
      exact mu_i (v := 2) hx hb hrt hlocks hM hS dX12_cannotTune_38
  · rw [if_pos c3] at hf
    refine lv_iconst (v := 1) hx hb dX12_cannotTune_8 (by decide) ?_
    refine lv_goto (tgt := 38) hx hb dX12_cannotTune_9 (by decide) ?_
    have hre := Option.some.inj hf
    subst hre
    exact mu_i (v := 1) hx hb hrt hlocks hM hS dX12_cannotTune_38
noncomputable def fX12_tune (M : Mem) (a1 : Int32) (a2 : Int32) : Option (Int32 × Mem) := (fX12_begin M).bind fun z1 => (fX12_cannotTune z1 a1 a2).bind fun z3 => (if z3 ≤ 0 then (fX12_replaces z1 a1 (5 : Int32) a2).bind fun z6 => (fX12_commit z6.2 z6.1).bind fun z8 => some (z8.1, z8.2) else (fX12_fail z1 z3).bind fun z10 => some (z10.1, z10.2))
set_option maxHeartbeats 4000000 in
set_option maxRecDepth 100000 in
theorem mX12_tune (l : Launch) (E : EP) (B0 : Nat) (b : Nat) (hb0 : B0 ≤ b) (M : Mem) (a1 : Int32) (a2 : Int32) (r : Int32 × Mem) (hf : fX12_tune M a1 a2 = some r) : MU l E B0 yX12_tune cX12_tune 4 (some .int) 3 0 0 [.ref (b + 0), .int a1, .int a2] (Blk E b modSh 10 M) (some (.int r.1)) (Blk E b modSh 10 r.2) (iv b 10) := by
  refine mu_of (by decide +kernel) (Nat.le_of_ble_eq_true rfl) ?_
  intro p e s m args below meth c hx hb hml hown hts hrt hlocks hE H hM hS ls hl
  have hown : s.vm.findClass RX12 = some m.cls := hown
  have hl : lv_has ls 4 [(0, .ref (b + 0)), (1, .int a1), (2, .int a2)] := hl
  have hw : ∀ w ∈ WA, w.before args s = true := fun w h => hts w (List.mem_cons_of_mem _ h)
  have hAB : ∀ q, (iv b 10) q → B0 ≤ q := (iv_ge (by omega))
  unfold fX12_tune at hf
  refine lv_aload_n hx hb dX12_tune_0 rfl (lv_at hl 0 rfl) ?_
  obtain ⟨z1, hc2, hf⟩ := br_some hf
  refine mu_cV (As := []) (rest := []) hx hb hml hown hts hE (mX12_begin l E B0 b (by omega) M z1 hc2) cv_X12_112 (w_recv (k := 0) (ci := 12) hE hM (by decide) rfl rfl) hM hS hAB (fun _ h => h) rfl hl.1 rfl (by decide) (Nat.le_of_ble_eq_true rfl) ⟨Nat.le_refl _, Nat.le_refl _⟩ dX12_tune_1 (fun H locs hM _ hu hS => ?_)
  refine lv_aload_n hx hb dX12_tune_4 rfl (lv_at hl 0 rfl) ?_
  refine lv_iload_n hx hb dX12_tune_5 rfl (lv_at hl 1 rfl) ?_
  refine lv_iload_n hx hb dX12_tune_6 rfl (lv_at hl 2 rfl) ?_
  obtain ⟨z3, hc4, hf⟩ := br_some hf
  refine mu_cV (As := [.int a1, .int a2]) (rest := []) hx hb hml hown hts hE (mX12_cannotTune l E B0 b (by omega) z1 a1 a2 z3 hc4) cv_X12_147 (w_recv (k := 0) (ci := 12) hE hM (by decide) rfl rfl) hM hS hAB (fun _ h => h.elim) rfl hl.1 rfl (by decide) (Nat.le_of_ble_eq_true rfl) ⟨Nat.le_refl _, Nat.le_refl _⟩ dX12_tune_7 (fun H locs hM _ hu hS => ?_)
  refine lv_istore_n (lv' := [(3, .int z3), (0, .ref (b + 0)), (1, .int a1), (2, .int a2)]) hx hb dX12_tune_10 rfl hl (by decide) rfl (fun ls hl => ?_)
  refine lv_iload_n hx hb dX12_tune_11 rfl (lv_at hl 0 rfl) ?_
  refine lv_if_le (tgt := 23) hx hb dX12_tune_12 (by decide) (fun c5 => ?_) (fun c5 => ?_)
  · rw [if_pos c5] at hf
    refine lv_aload_n hx hb dX12_tune_23 rfl (lv_at hl 1 rfl) ?_
    refine lv_aload_n hx hb dX12_tune_24 rfl (lv_at hl 1 rfl) ?_
    refine lv_iload_n hx hb dX12_tune_25 rfl (lv_at hl 2 rfl) ?_
    refine lv_iconst (v := 5) hx hb dX12_tune_26 (by decide) ?_
    refine lv_iload_n hx hb dX12_tune_27 rfl (lv_at hl 3 rfl) ?_
    obtain ⟨z6, hc7, hf⟩ := br_some hf
    refine mu_cV (As := [.int a1, .int 5, .int a2]) (rest := [.ref (b + 0)]) hx hb hml hown hts hE (mX12_replaces l E B0 b (by omega) z1 a1 (5 : Int32) a2 z6 hc7) cv_X12_144 (w_recv (k := 0) (ci := 12) hE hM (by decide) rfl rfl) hM hS hAB (fun _ h => h) rfl hl.1 rfl (by decide) (Nat.le_of_ble_eq_true rfl) ⟨Nat.le_refl _, Nat.le_refl _⟩ dX12_tune_28 (fun H locs hM _ hu hS => ?_)
    obtain ⟨z8, hc9, hf⟩ := br_some hf
    refine mu_cV (As := [.int z6.1]) (rest := []) hx hb hml hown hts hE (mX12_commit l E B0 b (by omega) z6.2 z6.1 z8 hc9) cv_X12_125 (w_recv (k := 0) (ci := 12) hE hM (by decide) rfl rfl) hM hS hAB (fun _ h => h) rfl hl.1 rfl (by decide) (Nat.le_of_ble_eq_true rfl) ⟨Nat.le_refl _, Nat.le_refl _⟩ dX12_tune_31 (fun H locs hM _ hu hS => ?_)
    have hre := Option.some.inj hf
    subst hre
    exact mu_i (v := z8.1) hx hb hrt hlocks hM hS dX12_tune_34
  · rw [if_neg c5] at hf
    refine lv_aload_n hx hb dX12_tune_15 rfl (lv_at hl 1 rfl) ?_
    refine lv_iload_n hx hb dX12_tune_16 rfl (lv_at hl 0 rfl) ?_
    obtain ⟨z10, hc11, hf⟩ := br_some hf
    refine mu_cV (As := [.int z3]) (rest := []) hx hb hml hown hts hE (mX12_fail l E B0 b (by omega) z1 z3 z10 hc11) cv_X12_119 (w_recv (k := 0) (ci := 12) hE hM (by decide) rfl rfl) hM hS hAB (fun _ h => h) rfl hl.1 rfl (by decide) (Nat.le_of_ble_eq_true rfl) ⟨Nat.le_refl _, Nat.le_refl _⟩ dX12_tune_17 (fun H locs hM _ hu hS => ?_)
    refine lv_goto (tgt := 34) hx hb dX12_tune_20 (by decide) ?_
    have hre := Option.some.inj hf
    subst hre
    exact mu_i (v := z10.1) hx hb hrt hlocks hM hS dX12_tune_34
def fX12_speaks (M : Mem) (a1 : Int32) : Option (Mem) := (fX12_set M a1 (6 : Int32) (1 : Int32)).bind fun z1 => (fX12_set z1 a1 (7 : Int32) (z1 1 1)).bind fun z3 => (fX12_set z3 a1 (8 : Int32) (0 : Int32)).bind fun z5 => some z5
set_option maxHeartbeats 4000000 in
set_option maxRecDepth 100000 in
theorem mX12_speaks (l : Launch) (E : EP) (B0 : Nat) (b : Nat) (hb0 : B0 ≤ b) (M : Mem) (a1 : Int32) (r : Mem) (hf : fX12_speaks M a1 = some r) : MU l E B0 yX12_speaks cX12_speaks 2 none 1 0 0 [.ref (b + 0), .int a1] (Blk E b modSh 10 M) none (Blk E b modSh 10 r) (iv b 10) := by
  refine mu_of (by decide +kernel) (Nat.le_of_ble_eq_true rfl) ?_
  intro p e s m args below meth c hx hb hml hown hts hrt hlocks hE H hM hS ls hl
  have hown : s.vm.findClass RX12 = some m.cls := hown
  have hl : lv_has ls 2 [(0, .ref (b + 0)), (1, .int a1)] := hl
  have hw : ∀ w ∈ WA, w.before args s = true := fun w h => hts w (List.mem_cons_of_mem _ h)
  have hAB : ∀ q, (iv b 10) q → B0 ≤ q := (iv_ge (by omega))
  unfold fX12_speaks at hf
  refine lv_aload_n hx hb dX12_speaks_0 rfl (lv_at hl 0 rfl) ?_
  refine lv_iload_n hx hb dX12_speaks_1 rfl (lv_at hl 1 rfl) ?_
  refine lv_bipush (v := 6) hx hb dX12_speaks_2 (by decide) ?_
  refine lv_iconst (v := 1) hx hb dX12_speaks_4 (by decide) ?_
  obtain ⟨z1, hc2, hf⟩ := br_some hf
  refine mu_cV (As := [.int a1, .int 6, .int 1]) (rest := []) hx hb hml hown hts hE (mX12_set l E B0 b (by omega) M a1 (6 : Int32) (1 : Int32) z1 hc2) cv_X12_108 (w_recv (k := 0) (ci := 12) hE hM (by decide) rfl rfl) hM hS hAB (fun _ h => h) rfl hl.1 rfl (by decide) (Nat.le_of_ble_eq_true rfl) ⟨Nat.le_refl _, Nat.le_refl _⟩ dX12_speaks_5 (fun H locs hM _ hu hS => ?_)
  refine lv_aload_n hx hb dX12_speaks_8 rfl (lv_at hl 0 rfl) ?_
  refine lv_iload_n hx hb dX12_speaks_9 rfl (lv_at hl 1 rfl) ?_
  refine lv_bipush (v := 7) hx hb dX12_speaks_10 (by decide) ?_
  refine lv_aload_n hx hb dX12_speaks_12 rfl (lv_at hl 0 rfl) ?_
  refine w_get (k := 0) (v := .ref (b + 1)) hx hb hw hown hE fl_X12_7 hM (by decide) rfl rfl rfl dX12_speaks_13 ?_
  refine lv_iconst (v := 1) hx hb dX12_speaks_16 (by decide) ?_
  refine w_iald (k := 1) (x9 := 1) hx hb hE hM (by decide) rfl (by decide) (by decide) dX12_speaks_17 ?_
  obtain ⟨z3, hc4, hf⟩ := br_some hf
  refine mu_cV (As := [.int a1, .int 7, .int (z1 1 1)]) (rest := []) hx hb hml hown hts hE (mX12_set l E B0 b (by omega) z1 a1 (7 : Int32) (z1 1 1) z3 hc4) cv_X12_108 (w_recv (k := 0) (ci := 12) hE hM (by decide) rfl rfl) hM hS hAB (fun _ h => h) rfl hl.1 rfl (by decide) (Nat.le_of_ble_eq_true rfl) ⟨Nat.le_refl _, Nat.le_refl _⟩ dX12_speaks_18 (fun H locs hM _ hu hS => ?_)
  refine lv_aload_n hx hb dX12_speaks_21 rfl (lv_at hl 0 rfl) ?_
  refine lv_iload_n hx hb dX12_speaks_22 rfl (lv_at hl 1 rfl) ?_
  refine lv_bipush (v := 8) hx hb dX12_speaks_23 (by decide) ?_
  refine lv_iconst (v := 0) hx hb dX12_speaks_25 (by decide) ?_
  obtain ⟨z5, hc6, hf⟩ := br_some hf
  refine mu_cV (As := [.int a1, .int 8, .int 0]) (rest := []) hx hb hml hown hts hE (mX12_set l E B0 b (by omega) z3 a1 (8 : Int32) (0 : Int32) z5 hc6) cv_X12_108 (w_recv (k := 0) (ci := 12) hE hM (by decide) rfl rfl) hM hS hAB (fun _ h => h) rfl hl.1 rfl (by decide) (Nat.le_of_ble_eq_true rfl) ⟨Nat.le_refl _, Nat.le_refl _⟩ dX12_speaks_26 (fun H locs hM _ hu hS => ?_)
  have hre := Option.some.inj hf
  subst hre
  exact mu_v hx hb hrt hlocks hM hS dX12_speaks_29
def fX12_unless (M : Mem) (a1 : Int32) (a2 : Int32) : Option (Int32) := (fX12_isStation M a1).bind fun z1 => (if z1 = 0 then some 1 else (fX12_t M a1 (6 : Int32)).bind fun z4 => (if z4 = a2 then some 0 else some 2))
set_option maxHeartbeats 4000000 in
set_option maxRecDepth 100000 in
theorem mX12_unless (l : Launch) (E : EP) (B0 : Nat) (b : Nat) (hb0 : B0 ≤ b) (M : Mem) (a1 : Int32) (a2 : Int32) (r : Int32) (hf : fX12_unless M a1 a2 = some r) : MU l E B0 yX12_unless cX12_unless 3 (some .int) 2 0 0 [.ref (b + 0), .int a1, .int a2] (Blk E b modSh 10 M) (some (.int r)) (Blk E b modSh 10 M) nv := by
  refine mu_of (by decide +kernel) (Nat.le_of_ble_eq_true rfl) ?_
  intro p e s m args below meth c hx hb hml hown hts hrt hlocks hE H hM hS ls hl
  have hown : s.vm.findClass RX12 = some m.cls := hown
  have hl : lv_has ls 3 [(0, .ref (b + 0)), (1, .int a1), (2, .int a2)] := hl
  have hw : ∀ w ∈ WA, w.before args s = true := fun w h => hts w (List.mem_cons_of_mem _ h)
  have hAB : ∀ q, nv q → B0 ≤ q := fun _ h => h.elim
  unfold fX12_unless at hf
  refine lv_aload_n hx hb dX12_unless_0 rfl (lv_at hl 0 rfl) ?_
  refine lv_iload_n hx hb dX12_unless_1 rfl (lv_at hl 1 rfl) ?_
  obtain ⟨z1, hc2, hf⟩ := br_some hf
  refine mu_cV (As := [.int a1]) (rest := []) hx hb hml hown hts hE (mX12_isStation l E B0 b (by omega) M a1 z1 hc2) cv_X12_131 (w_recv (k := 0) (ci := 12) hE hM (by decide) rfl rfl) hM hS hAB (fun _ h => h.elim) rfl hl.1 rfl (by decide) (Nat.le_of_ble_eq_true rfl) ⟨Nat.le_refl _, Nat.le_refl _⟩ dX12_unless_2 (fun H locs hM _ hu hS => ?_)
  refine lv_if_ne (tgt := 12) hx hb dX12_unless_5 (by decide) (fun c3 => ?_) (fun c3 => ?_)
  · rw [if_neg c3] at hf
    refine lv_aload_n hx hb dX12_unless_12 rfl (lv_at hl 0 rfl) ?_
    refine lv_iload_n hx hb dX12_unless_13 rfl (lv_at hl 1 rfl) ?_
    refine lv_bipush (v := 6) hx hb dX12_unless_14 (by decide) ?_
    obtain ⟨z4, hc5, hf⟩ := br_some hf
    refine mu_cV (As := [.int a1, .int 6]) (rest := []) hx hb hml hown hts hE (mX12_t l E B0 b (by omega) M a1 (6 : Int32) z4 hc5) cv_X12_80 (w_recv (k := 0) (ci := 12) hE hM (by decide) rfl rfl) hM hS hAB (fun _ h => h.elim) rfl hl.1 rfl (by decide) (Nat.le_of_ble_eq_true rfl) ⟨Nat.le_refl _, Nat.le_refl _⟩ dX12_unless_16 (fun H locs hM _ hu hS => ?_)
    refine lv_iload_n hx hb dX12_unless_19 rfl (lv_at hl 2 rfl) ?_
    refine lv_icmp_ne (tgt := 27) hx hb dX12_unless_20 (by decide) (fun c6 => ?_) (fun c6 => ?_)
    · rw [if_neg c6] at hf
      refine lv_iconst (v := 2) hx hb dX12_unless_27 (by decide) ?_
      have hre := Option.some.inj hf
      subst hre
      exact mu_i (v := 2) hx hb hrt hlocks hM hS dX12_unless_28
    · rw [if_pos c6] at hf
      refine lv_iconst (v := 0) hx hb dX12_unless_23 (by decide) ?_
      refine lv_goto (tgt := 28) hx hb dX12_unless_24 (by decide) ?_
      have hre := Option.some.inj hf
      subst hre
      exact mu_i (v := 0) hx hb hrt hlocks hM hS dX12_unless_28
  · rw [if_pos c3] at hf
    refine lv_iconst (v := 1) hx hb dX12_unless_8 (by decide) ?_
    refine lv_goto (tgt := 28) hx hb dX12_unless_9 (by decide) ?_
    have hre := Option.some.inj hf
    subst hre
    exact mu_i (v := 1) hx hb hrt hlocks hM hS dX12_unless_28
noncomputable def fX12_requests (M : Mem) (a1 : Int32) : Option (Int32 × Mem) := (fX12_t M a1 (5 : Int32)).bind fun z1 => (fX12_speakerOn M z1).bind fun z3 => (if 0 ≤ z3 then (fX12_set (up2 M 1 3 ((M 1 3) + 1)) a1 (11 : Int32) ((up2 M 1 3 ((M 1 3) + 1)) 1 3)).bind fun z6 => (fX12_set z6 a1 (6 : Int32) (2 : Int32)).bind fun z8 => (fX12_positionOf z8 a1).bind fun z10 => some (z10, z8) else (fX12_speaks M a1).bind fun z12 => some (0, z12))
set_option maxHeartbeats 4000000 in
set_option maxRecDepth 100000 in
theorem mX12_requests (l : Launch) (E : EP) (B0 : Nat) (b : Nat) (hb0 : B0 ≤ b) (M : Mem) (a1 : Int32) (r : Int32 × Mem) (hf : fX12_requests M a1 = some r) : MU l E B0 yX12_requests cX12_requests 2 (some .int) 3 0 0 [.ref (b + 0), .int a1] (Blk E b modSh 10 M) (some (.int r.1)) (Blk E b modSh 10 r.2) (iv b 10) := by
  refine mu_of (by decide +kernel) (Nat.le_of_ble_eq_true rfl) ?_
  intro p e s m args below meth c hx hb hml hown hts hrt hlocks hE H hM hS ls hl
  have hown : s.vm.findClass RX12 = some m.cls := hown
  have hl : lv_has ls 2 [(0, .ref (b + 0)), (1, .int a1)] := hl
  have hw : ∀ w ∈ WA, w.before args s = true := fun w h => hts w (List.mem_cons_of_mem _ h)
  have hAB : ∀ q, (iv b 10) q → B0 ≤ q := (iv_ge (by omega))
  unfold fX12_requests at hf
  refine lv_aload_n hx hb dX12_requests_0 rfl (lv_at hl 0 rfl) ?_
  refine lv_aload_n hx hb dX12_requests_1 rfl (lv_at hl 0 rfl) ?_
  refine lv_iload_n hx hb dX12_requests_2 rfl (lv_at hl 1 rfl) ?_
  refine lv_iconst (v := 5) hx hb dX12_requests_3 (by decide) ?_
  obtain ⟨z1, hc2, hf⟩ := br_some hf
  refine mu_cV (As := [.int a1, .int 5]) (rest := [.ref (b + 0)]) hx hb hml hown hts hE (mX12_t l E B0 b (by omega) M a1 (5 : Int32) z1 hc2) cv_X12_80 (w_recv (k := 0) (ci := 12) hE hM (by decide) rfl rfl) hM hS hAB (fun _ h => h.elim) rfl hl.1 rfl (by decide) (Nat.le_of_ble_eq_true rfl) ⟨Nat.le_refl _, Nat.le_refl _⟩ dX12_requests_4 (fun H locs hM _ hu hS => ?_)
  obtain ⟨z3, hc4, hf⟩ := br_some hf
  refine mu_cV (As := [.int z1]) (rest := []) hx hb hml hown hts hE (mX12_speakerOn l E B0 b (by omega) M z1 z3 hc4) cv_X12_150 (w_recv (k := 0) (ci := 12) hE hM (by decide) rfl rfl) hM hS hAB (fun _ h => h.elim) rfl hl.1 rfl (by decide) (Nat.le_of_ble_eq_true rfl) ⟨Nat.le_refl _, Nat.le_refl _⟩ dX12_requests_7 (fun H locs hM _ hu hS => ?_)
  refine lv_if_ge (tgt := 20) hx hb dX12_requests_10 (by decide) (fun c5 => ?_) (fun c5 => ?_)
  · rw [if_pos c5] at hf
    refine lv_aload_n hx hb dX12_requests_20 rfl (lv_at hl 0 rfl) ?_
    refine w_get (k := 0) (v := .ref (b + 1)) hx hb hw hown hE fl_X12_7 hM (by decide) rfl rfl rfl dX12_requests_21 ?_
    refine lv_iconst (v := 3) hx hb dX12_requests_24 (by decide) ?_
    refine lv_dup2_11 hx hb dX12_requests_25 rfl rfl ?_
    refine w_iald (k := 1) (x9 := 3) hx hb hE hM (by decide) rfl (by decide) (by decide) dX12_requests_26 ?_
    refine lv_iconst (v := 1) hx hb dX12_requests_27 (by decide) ?_
    refine lv_iadd hx hb dX12_requests_28 ?_
    refine w_iast (k := 1) (x9 := 3) (x := ((M 1 3) + 1)) hx hb hE hM (by decide) rfl (by decide) (by decide) hS (iv_mem (by decide)) dX12_requests_29 (fun H locs hM _ hu hS => ?_)
    refine lv_aload_n hx hb dX12_requests_30 rfl (lv_at hl 0 rfl) ?_
    refine lv_iload_n hx hb dX12_requests_31 rfl (lv_at hl 1 rfl) ?_
    refine lv_bipush (v := 11) hx hb dX12_requests_32 (by decide) ?_
    refine lv_aload_n hx hb dX12_requests_34 rfl (lv_at hl 0 rfl) ?_
    refine w_get (k := 0) (v := .ref (b + 1)) hx hb hw hown hE fl_X12_7 hM (by decide) rfl rfl rfl dX12_requests_35 ?_
    refine lv_iconst (v := 3) hx hb dX12_requests_38 (by decide) ?_
    refine w_iald (k := 1) (x9 := 3) hx hb hE hM (by decide) rfl (by decide) (by decide) dX12_requests_39 ?_
    obtain ⟨z6, hc7, hf⟩ := br_some hf
    refine mu_cV (As := [.int a1, .int 11, .int ((up2 M 1 3 ((M 1 3) + 1)) 1 3)]) (rest := []) hx hb hml hown hts hE (mX12_set l E B0 b (by omega) (up2 M 1 3 ((M 1 3) + 1)) a1 (11 : Int32) ((up2 M 1 3 ((M 1 3) + 1)) 1 3) z6 hc7) cv_X12_108 (w_recv (k := 0) (ci := 12) hE hM (by decide) rfl rfl) hM hS hAB (fun _ h => h) rfl hl.1 rfl (by decide) (Nat.le_of_ble_eq_true rfl) ⟨Nat.le_refl _, Nat.le_refl _⟩ dX12_requests_40 (fun H locs hM _ hu hS => ?_)
    refine lv_aload_n hx hb dX12_requests_43 rfl (lv_at hl 0 rfl) ?_
    refine lv_iload_n hx hb dX12_requests_44 rfl (lv_at hl 1 rfl) ?_
    refine lv_bipush (v := 6) hx hb dX12_requests_45 (by decide) ?_
    refine lv_iconst (v := 2) hx hb dX12_requests_47 (by decide) ?_
    obtain ⟨z8, hc9, hf⟩ := br_some hf
    refine mu_cV (As := [.int a1, .int 6, .int 2]) (rest := []) hx hb hml hown hts hE (mX12_set l E B0 b (by omega) z6 a1 (6 : Int32) (2 : Int32) z8 hc9) cv_X12_108 (w_recv (k := 0) (ci := 12) hE hM (by decide) rfl rfl) hM hS hAB (fun _ h => h) rfl hl.1 rfl (by decide) (Nat.le_of_ble_eq_true rfl) ⟨Nat.le_refl _, Nat.le_refl _⟩ dX12_requests_48 (fun H locs hM _ hu hS => ?_)
    refine lv_aload_n hx hb dX12_requests_51 rfl (lv_at hl 0 rfl) ?_
    refine lv_iload_n hx hb dX12_requests_52 rfl (lv_at hl 1 rfl) ?_
    obtain ⟨z10, hc11, hf⟩ := br_some hf
    refine mu_cV (As := [.int a1]) (rest := []) hx hb hml hown hts hE (mX12_positionOf l E B0 b (by omega) z8 a1 z10 hc11) cv_X12_94 (w_recv (k := 0) (ci := 12) hE hM (by decide) rfl rfl) hM hS hAB (fun _ h => h.elim) rfl hl.1 rfl (by decide) (Nat.le_of_ble_eq_true rfl) ⟨Nat.le_refl _, Nat.le_refl _⟩ dX12_requests_53 (fun H locs hM _ hu hS => ?_)
    have hre := Option.some.inj hf
    subst hre
    exact mu_i (v := z10) hx hb hrt hlocks hM hS dX12_requests_56
  · rw [if_neg c5] at hf
    refine lv_aload_n hx hb dX12_requests_13 rfl (lv_at hl 0 rfl) ?_
    refine lv_iload_n hx hb dX12_requests_14 rfl (lv_at hl 1 rfl) ?_
    obtain ⟨z12, hc13, hf⟩ := br_some hf
    refine mu_cV (As := [.int a1]) (rest := []) hx hb hml hown hts hE (mX12_speaks l E B0 b (by omega) M a1 z12 hc13) cv_X12_153 (w_recv (k := 0) (ci := 12) hE hM (by decide) rfl rfl) hM hS hAB (fun _ h => h) rfl hl.1 rfl (by decide) (Nat.le_of_ble_eq_true rfl) ⟨Nat.le_refl _, Nat.le_refl _⟩ dX12_requests_15 (fun H locs hM _ hu hS => ?_)
    refine lv_iconst (v := 0) hx hb dX12_requests_18 (by decide) ?_
    have hre := Option.some.inj hf
    subst hre
    exact mu_i (v := 0) hx hb hrt hlocks hM hS dX12_requests_19
noncomputable def fX12_request (M : Mem) (a1 : Int32) : Option (Int32 × Mem) := (fX12_begin M).bind fun z1 => (fX12_unless z1 a1 (0 : Int32)).bind fun z3 => (if z3 ≤ 0 then (fX12_requests z1 a1).bind fun z6 => (fX12_commit z6.2 z6.1).bind fun z8 => some (z8.1, z8.2) else (fX12_fail z1 z3).bind fun z10 => some (z10.1, z10.2))
set_option maxHeartbeats 4000000 in
set_option maxRecDepth 100000 in
theorem mX12_request (l : Launch) (E : EP) (B0 : Nat) (b : Nat) (hb0 : B0 ≤ b) (M : Mem) (a1 : Int32) (r : Int32 × Mem) (hf : fX12_request M a1 = some r) : MU l E B0 yX12_request cX12_request 3 (some .int) 4 0 0 [.ref (b + 0), .int a1] (Blk E b modSh 10 M) (some (.int r.1)) (Blk E b modSh 10 r.2) (iv b 10) := by
  refine mu_of (by decide +kernel) (Nat.le_of_ble_eq_true rfl) ?_
  intro p e s m args below meth c hx hb hml hown hts hrt hlocks hE H hM hS ls hl
  have hown : s.vm.findClass RX12 = some m.cls := hown
  have hl : lv_has ls 3 [(0, .ref (b + 0)), (1, .int a1)] := hl
  have hw : ∀ w ∈ WA, w.before args s = true := fun w h => hts w (List.mem_cons_of_mem _ h)
  have hAB : ∀ q, (iv b 10) q → B0 ≤ q := (iv_ge (by omega))
  unfold fX12_request at hf
  refine lv_aload_n hx hb dX12_request_0 rfl (lv_at hl 0 rfl) ?_
  obtain ⟨z1, hc2, hf⟩ := br_some hf
  refine mu_cV (As := []) (rest := []) hx hb hml hown hts hE (mX12_begin l E B0 b (by omega) M z1 hc2) cv_X12_112 (w_recv (k := 0) (ci := 12) hE hM (by decide) rfl rfl) hM hS hAB (fun _ h => h) rfl hl.1 rfl (by decide) (Nat.le_of_ble_eq_true rfl) ⟨Nat.le_refl _, Nat.le_refl _⟩ dX12_request_1 (fun H locs hM _ hu hS => ?_)
  refine lv_aload_n hx hb dX12_request_4 rfl (lv_at hl 0 rfl) ?_
  refine lv_iload_n hx hb dX12_request_5 rfl (lv_at hl 1 rfl) ?_
  refine lv_iconst (v := 0) hx hb dX12_request_6 (by decide) ?_
  obtain ⟨z3, hc4, hf⟩ := br_some hf
  refine mu_cV (As := [.int a1, .int 0]) (rest := []) hx hb hml hown hts hE (mX12_unless l E B0 b (by omega) z1 a1 (0 : Int32) z3 hc4) cv_X12_157 (w_recv (k := 0) (ci := 12) hE hM (by decide) rfl rfl) hM hS hAB (fun _ h => h.elim) rfl hl.1 rfl (by decide) (Nat.le_of_ble_eq_true rfl) ⟨Nat.le_refl _, Nat.le_refl _⟩ dX12_request_7 (fun H locs hM _ hu hS => ?_)
  refine lv_istore_n (lv' := [(2, .int z3), (0, .ref (b + 0)), (1, .int a1)]) hx hb dX12_request_10 rfl hl (by decide) rfl (fun ls hl => ?_)
  refine lv_iload_n hx hb dX12_request_11 rfl (lv_at hl 0 rfl) ?_
  refine lv_if_le (tgt := 23) hx hb dX12_request_12 (by decide) (fun c5 => ?_) (fun c5 => ?_)
  · rw [if_pos c5] at hf
    refine lv_aload_n hx hb dX12_request_23 rfl (lv_at hl 1 rfl) ?_
    refine lv_aload_n hx hb dX12_request_24 rfl (lv_at hl 1 rfl) ?_
    refine lv_iload_n hx hb dX12_request_25 rfl (lv_at hl 2 rfl) ?_
    obtain ⟨z6, hc7, hf⟩ := br_some hf
    refine mu_cV (As := [.int a1]) (rest := [.ref (b + 0)]) hx hb hml hown hts hE (mX12_requests l E B0 b (by omega) z1 a1 z6 hc7) cv_X12_160 (w_recv (k := 0) (ci := 12) hE hM (by decide) rfl rfl) hM hS hAB (fun _ h => h) rfl hl.1 rfl (by decide) (Nat.le_of_ble_eq_true rfl) ⟨Nat.le_refl _, Nat.le_refl _⟩ dX12_request_26 (fun H locs hM _ hu hS => ?_)
    obtain ⟨z8, hc9, hf⟩ := br_some hf
    refine mu_cV (As := [.int z6.1]) (rest := []) hx hb hml hown hts hE (mX12_commit l E B0 b (by omega) z6.2 z6.1 z8 hc9) cv_X12_125 (w_recv (k := 0) (ci := 12) hE hM (by decide) rfl rfl) hM hS hAB (fun _ h => h) rfl hl.1 rfl (by decide) (Nat.le_of_ble_eq_true rfl) ⟨Nat.le_refl _, Nat.le_refl _⟩ dX12_request_29 (fun H locs hM _ hu hS => ?_)
    have hre := Option.some.inj hf
    subst hre
    exact mu_i (v := z8.1) hx hb hrt hlocks hM hS dX12_request_32
  · rw [if_neg c5] at hf
    refine lv_aload_n hx hb dX12_request_15 rfl (lv_at hl 1 rfl) ?_
    refine lv_iload_n hx hb dX12_request_16 rfl (lv_at hl 0 rfl) ?_
    obtain ⟨z10, hc11, hf⟩ := br_some hf
    refine mu_cV (As := [.int z3]) (rest := []) hx hb hml hown hts hE (mX12_fail l E B0 b (by omega) z1 z3 z10 hc11) cv_X12_119 (w_recv (k := 0) (ci := 12) hE hM (by decide) rfl rfl) hM hS hAB (fun _ h => h) rfl hl.1 rfl (by decide) (Nat.le_of_ble_eq_true rfl) ⟨Nat.le_refl _, Nat.le_refl _⟩ dX12_request_17 (fun H locs hM _ hu hS => ?_)
    refine lv_goto (tgt := 32) hx hb dX12_request_20 (by decide) ?_
    have hre := Option.some.inj hf
    subst hre
    exact mu_i (v := z10.1) hx hb hrt hlocks hM hS dX12_request_32
def fX12_logs_s (a1 : Int32) (z : Int32 × Mem) : Option ((Int32 × Mem) ⊕ (Mem)) := (if ((108 : Int32) + ((3 : Int32) * (z.2 1 4))) ≤ z.1 then gd (inb ((108 : Int32) + ((3 : Int32) * (z.2 1 4))) 160) ((fX12_t (up2 z.2 1 (((108 : Int32) + ((3 : Int32) * (z.2 1 4))).toNatClampNeg) a1) a1 (7 : Int32)).bind fun z3 => gd (inb (((108 : Int32) + ((3 : Int32) * (z.2 1 4))) + 1) 160) ((fX12_t (up2 (up2 z.2 1 (((108 : Int32) + ((3 : Int32) * (z.2 1 4))).toNatClampNeg) a1) 1 ((((108 : Int32) + ((3 : Int32) * (z.2 1 4))) + 1).toNatClampNeg) z3) a1 (8 : Int32)).bind fun z6 => gd (inb (((108 : Int32) + ((3 : Int32) * (z.2 1 4))) + 2) 160) (some (.inr (up2 (up2 (up2 (up2 z.2 1 (((108 : Int32) + ((3 : Int32) * (z.2 1 4))).toNatClampNeg) a1) 1 ((((108 : Int32) + ((3 : Int32) * (z.2 1 4))) + 1).toNatClampNeg) z3) 1 ((((108 : Int32) + ((3 : Int32) * (z.2 1 4))) + 2).toNatClampNeg) z6) 1 4 (((up2 (up2 (up2 z.2 1 (((108 : Int32) + ((3 : Int32) * (z.2 1 4))).toNatClampNeg) a1) 1 ((((108 : Int32) + ((3 : Int32) * (z.2 1 4))) + 1).toNatClampNeg) z3) 1 ((((108 : Int32) + ((3 : Int32) * (z.2 1 4))) + 2).toNatClampNeg) z6) 1 4) + 1)))))) else gd (inb (z.1 + 3) 160) (gd (inb z.1 160) (some (.inl ((z.1 + 1), (up2 z.2 1 z.1.toNatClampNeg (z.2 1 ((z.1 + 3).toNatClampNeg))))))))
noncomputable def fX12_logs (M : Mem) (a1 : Int32) : Option (Mem) := (if (M 1 4) = (16 : Int32) then lp (fX12_logs_s a1) (108, (up2 M 1 4 ((M 1 4) - 1))) else gd (inb ((108 : Int32) + ((3 : Int32) * (M 1 4))) 160) ((fX12_t (up2 M 1 (((108 : Int32) + ((3 : Int32) * (M 1 4))).toNatClampNeg) a1) a1 (7 : Int32)).bind fun z13 => gd (inb (((108 : Int32) + ((3 : Int32) * (M 1 4))) + 1) 160) ((fX12_t (up2 (up2 M 1 (((108 : Int32) + ((3 : Int32) * (M 1 4))).toNatClampNeg) a1) 1 ((((108 : Int32) + ((3 : Int32) * (M 1 4))) + 1).toNatClampNeg) z13) a1 (8 : Int32)).bind fun z16 => gd (inb (((108 : Int32) + ((3 : Int32) * (M 1 4))) + 2) 160) (some (up2 (up2 (up2 (up2 M 1 (((108 : Int32) + ((3 : Int32) * (M 1 4))).toNatClampNeg) a1) 1 ((((108 : Int32) + ((3 : Int32) * (M 1 4))) + 1).toNatClampNeg) z13) 1 ((((108 : Int32) + ((3 : Int32) * (M 1 4))) + 2).toNatClampNeg) z16) 1 4 (((up2 (up2 (up2 M 1 (((108 : Int32) + ((3 : Int32) * (M 1 4))).toNatClampNeg) a1) 1 ((((108 : Int32) + ((3 : Int32) * (M 1 4))) + 1).toNatClampNeg) z13) 1 ((((108 : Int32) + ((3 : Int32) * (M 1 4))) + 2).toNatClampNeg) z16) 1 4) + 1))))))
set_option maxHeartbeats 4000000 in
set_option maxRecDepth 100000 in
theorem mX12_logs (l : Launch) (E : EP) (B0 : Nat) (b : Nat) (hb0 : B0 ≤ b) (M : Mem) (a1 : Int32) (r : Mem) (hf : fX12_logs M a1 = some r) : MU l E B0 yX12_logs cX12_logs 3 none 1 0 0 [.ref (b + 0), .int a1] (Blk E b modSh 10 M) none (Blk E b modSh 10 r) (iv b 10) := by
  refine mu_of (by decide +kernel) (Nat.le_of_ble_eq_true rfl) ?_
  intro p e s m args below meth c hx hb hml hown hts hrt hlocks hE H hM hS ls hl
  have hown : s.vm.findClass RX12 = some m.cls := hown
  have hl : lv_has ls 3 [(0, .ref (b + 0)), (1, .int a1)] := hl
  have hw : ∀ w ∈ WA, w.before args s = true := fun w h => hts w (List.mem_cons_of_mem _ h)
  have hAB : ∀ q, (iv b 10) q → B0 ≤ q := (iv_ge (by omega))
  unfold fX12_logs at hf
  have loop : ∀ (fu : Nat) (z : Int32 × Mem), lpI (fX12_logs_s a1) fu z = some r → (∀ (H : Heap) (locs : List Loc) (ls : Array Slot), Blk E b modSh 10 z.2 H → va_S (iv b 10) s.heap H locs → lv_has ls 3 [(0, .ref (b + 0)), (1, .int a1), (2, .int z.1)] → W p l e (rmD 1 0 0) s m args below meth c H locs 0 0 (MQ below (QU none (Blk E b modSh 10 r) (iv b 10)) args s 0 0 (iv b 10)) (F0 m 24 ls [])) := by
    intro fu
    induction fu with
    | zero =>
      intro z hn
      exact nomatch hn
    | succ fu ih =>
      intro z hn
      obtain ⟨y, hf, hy⟩ := lpI_succ hn
      intro H locs ls hM hS hl
      unfold fX12_logs_s at hf
      refine lv_iload_n hx hb dX12_logs_24 rfl (lv_at hl 2 rfl) ?_
      refine lv_bipush (v := 108) hx hb dX12_logs_25 (by decide) ?_
      refine lv_iconst (v := 3) hx hb dX12_logs_27 (by decide) ?_
      refine lv_aload_n hx hb dX12_logs_28 rfl (lv_at hl 0 rfl) ?_
      refine w_get (k := 0) (v := .ref (b + 1)) hx hb hw hown hE fl_X12_7 hM (by decide) rfl rfl rfl dX12_logs_29 ?_
      refine lv_iconst (v := 4) hx hb dX12_logs_32 (by decide) ?_
      refine w_iald (k := 1) (x9 := 4) hx hb hE hM (by decide) rfl (by decide) (by decide) dX12_logs_33 ?_
      refine lv_imul hx hb dX12_logs_34 ?_
      refine lv_iadd hx hb dX12_logs_35 ?_
      refine lv_icmp_ge (tgt := 59) hx hb dX12_logs_36 (by decide) (fun c1 => ?_) (fun c1 => ?_)
      · rw [if_pos c1] at hf
        refine lv_bipush (v := 108) hx hb dX12_logs_59 (by decide) ?_
        refine lv_iconst (v := 3) hx hb dX12_logs_61 (by decide) ?_
        refine lv_aload_n hx hb dX12_logs_62 rfl (lv_at hl 0 rfl) ?_
        refine w_get (k := 0) (v := .ref (b + 1)) hx hb hw hown hE fl_X12_7 hM (by decide) rfl rfl rfl dX12_logs_63 ?_
        refine lv_iconst (v := 4) hx hb dX12_logs_66 (by decide) ?_
        refine w_iald (k := 1) (x9 := 4) hx hb hE hM (by decide) rfl (by decide) (by decide) dX12_logs_67 ?_
        refine lv_imul hx hb dX12_logs_68 ?_
        refine lv_iadd hx hb dX12_logs_69 ?_
        refine lv_istore_n (lv' := [(2, .int ((108 : Int32) + ((3 : Int32) * (z.2 1 4)))), (0, .ref (b + 0)), (1, .int a1)]) hx hb dX12_logs_70 rfl hl (by decide) rfl (fun ls hl => ?_)
        refine lv_aload_n hx hb dX12_logs_71 rfl (lv_at hl 1 rfl) ?_
        refine w_get (k := 0) (v := .ref (b + 1)) hx hb hw hown hE fl_X12_7 hM (by decide) rfl rfl rfl dX12_logs_72 ?_
        refine lv_iload_n hx hb dX12_logs_75 rfl (lv_at hl 0 rfl) ?_
        refine lv_iload_n hx hb dX12_logs_76 rfl (lv_at hl 2 rfl) ?_
        obtain ⟨h2, hf⟩ := gd_some hf
        refine w_iast (k := 1) (x9 := ((108 : Int32) + ((3 : Int32) * (z.2 1 4))).toNatClampNeg) (x := a1) hx hb hE hM (by decide) rfl rfl h2 hS (iv_mem (by decide)) dX12_logs_77 (fun H locs hM _ hu hS => ?_)
        refine lv_aload_n hx hb dX12_logs_78 rfl (lv_at hl 1 rfl) ?_
        refine w_get (k := 0) (v := .ref (b + 1)) hx hb hw hown hE fl_X12_7 hM (by decide) rfl rfl rfl dX12_logs_79 ?_
        refine lv_iload_n hx hb dX12_logs_82 rfl (lv_at hl 0 rfl) ?_
        refine lv_iconst (v := 1) hx hb dX12_logs_83 (by decide) ?_
        refine lv_iadd hx hb dX12_logs_84 ?_
        refine lv_aload_n hx hb dX12_logs_85 rfl (lv_at hl 1 rfl) ?_
        refine lv_iload_n hx hb dX12_logs_86 rfl (lv_at hl 2 rfl) ?_
        refine lv_bipush (v := 7) hx hb dX12_logs_87 (by decide) ?_
        obtain ⟨z3, hc4, hf⟩ := br_some hf
        refine mu_cV (As := [.int a1, .int 7]) (rest := [.int (((108 : Int32) + ((3 : Int32) * (z.2 1 4))) + 1), .ref (b + 1)]) hx hb hml hown hts hE (mX12_t l E B0 b (by omega) (up2 z.2 1 (((108 : Int32) + ((3 : Int32) * (z.2 1 4))).toNatClampNeg) a1) a1 (7 : Int32) z3 hc4) cv_X12_80 (w_recv (k := 0) (ci := 12) hE hM (by decide) rfl rfl) hM hS hAB (fun _ h => h.elim) rfl hl.1 rfl (by decide) (Nat.le_of_ble_eq_true rfl) ⟨Nat.le_refl _, Nat.le_refl _⟩ dX12_logs_89 (fun H locs hM _ hu hS => ?_)
        obtain ⟨h5, hf⟩ := gd_some hf
        refine w_iast (k := 1) (x9 := (((108 : Int32) + ((3 : Int32) * (z.2 1 4))) + 1).toNatClampNeg) (x := z3) hx hb hE hM (by decide) rfl rfl h5 hS (iv_mem (by decide)) dX12_logs_92 (fun H locs hM _ hu hS => ?_)
        refine lv_aload_n hx hb dX12_logs_93 rfl (lv_at hl 1 rfl) ?_
        refine w_get (k := 0) (v := .ref (b + 1)) hx hb hw hown hE fl_X12_7 hM (by decide) rfl rfl rfl dX12_logs_94 ?_
        refine lv_iload_n hx hb dX12_logs_97 rfl (lv_at hl 0 rfl) ?_
        refine lv_iconst (v := 2) hx hb dX12_logs_98 (by decide) ?_
        refine lv_iadd hx hb dX12_logs_99 ?_
        refine lv_aload_n hx hb dX12_logs_100 rfl (lv_at hl 1 rfl) ?_
        refine lv_iload_n hx hb dX12_logs_101 rfl (lv_at hl 2 rfl) ?_
        refine lv_bipush (v := 8) hx hb dX12_logs_102 (by decide) ?_
        obtain ⟨z6, hc7, hf⟩ := br_some hf
        refine mu_cV (As := [.int a1, .int 8]) (rest := [.int (((108 : Int32) + ((3 : Int32) * (z.2 1 4))) + 2), .ref (b + 1)]) hx hb hml hown hts hE (mX12_t l E B0 b (by omega) (up2 (up2 z.2 1 (((108 : Int32) + ((3 : Int32) * (z.2 1 4))).toNatClampNeg) a1) 1 ((((108 : Int32) + ((3 : Int32) * (z.2 1 4))) + 1).toNatClampNeg) z3) a1 (8 : Int32) z6 hc7) cv_X12_80 (w_recv (k := 0) (ci := 12) hE hM (by decide) rfl rfl) hM hS hAB (fun _ h => h.elim) rfl hl.1 rfl (by decide) (Nat.le_of_ble_eq_true rfl) ⟨Nat.le_refl _, Nat.le_refl _⟩ dX12_logs_104 (fun H locs hM _ hu hS => ?_)
        obtain ⟨h8, hf⟩ := gd_some hf
        refine w_iast (k := 1) (x9 := (((108 : Int32) + ((3 : Int32) * (z.2 1 4))) + 2).toNatClampNeg) (x := z6) hx hb hE hM (by decide) rfl rfl h8 hS (iv_mem (by decide)) dX12_logs_107 (fun H locs hM _ hu hS => ?_)
        refine lv_aload_n hx hb dX12_logs_108 rfl (lv_at hl 1 rfl) ?_
        refine w_get (k := 0) (v := .ref (b + 1)) hx hb hw hown hE fl_X12_7 hM (by decide) rfl rfl rfl dX12_logs_109 ?_
        refine lv_iconst (v := 4) hx hb dX12_logs_112 (by decide) ?_
        refine lv_dup2_11 hx hb dX12_logs_113 rfl rfl ?_
        refine w_iald (k := 1) (x9 := 4) hx hb hE hM (by decide) rfl (by decide) (by decide) dX12_logs_114 ?_
        refine lv_iconst (v := 1) hx hb dX12_logs_115 (by decide) ?_
        refine lv_iadd hx hb dX12_logs_116 ?_
        refine w_iast (k := 1) (x9 := 4) (x := (((up2 (up2 (up2 z.2 1 (((108 : Int32) + ((3 : Int32) * (z.2 1 4))).toNatClampNeg) a1) 1 ((((108 : Int32) + ((3 : Int32) * (z.2 1 4))) + 1).toNatClampNeg) z3) 1 ((((108 : Int32) + ((3 : Int32) * (z.2 1 4))) + 2).toNatClampNeg) z6) 1 4) + 1)) hx hb hE hM (by decide) rfl (by decide) (by decide) hS (iv_mem (by decide)) dX12_logs_117 (fun H locs hM _ hu hS => ?_)
        have hre := lp_end hy (Option.some.inj hf).symm
        subst hre
        exact mu_v hx hb hrt hlocks hM hS dX12_logs_118
      · rw [if_neg c1] at hf
        refine lv_aload_n hx hb dX12_logs_39 rfl (lv_at hl 0 rfl) ?_
        refine w_get (k := 0) (v := .ref (b + 1)) hx hb hw hown hE fl_X12_7 hM (by decide) rfl rfl rfl dX12_logs_40 ?_
        refine lv_iload_n hx hb dX12_logs_43 rfl (lv_at hl 2 rfl) ?_
        refine lv_aload_n hx hb dX12_logs_44 rfl (lv_at hl 0 rfl) ?_
        refine w_get (k := 0) (v := .ref (b + 1)) hx hb hw hown hE fl_X12_7 hM (by decide) rfl rfl rfl dX12_logs_45 ?_
        refine lv_iload_n hx hb dX12_logs_48 rfl (lv_at hl 2 rfl) ?_
        refine lv_iconst (v := 3) hx hb dX12_logs_49 (by decide) ?_
        refine lv_iadd hx hb dX12_logs_50 ?_
        obtain ⟨h9, hf⟩ := gd_some hf
        refine w_iald (k := 1) (x9 := (z.1 + 3).toNatClampNeg) hx hb hE hM (by decide) rfl rfl h9 dX12_logs_51 ?_
        obtain ⟨h10, hf⟩ := gd_some hf
        refine w_iast (k := 1) (x9 := z.1.toNatClampNeg) (x := (z.2 1 ((z.1 + 3).toNatClampNeg))) hx hb hE hM (by decide) rfl rfl h10 hS (iv_mem (by decide)) dX12_logs_52 (fun H locs hM _ hu hS => ?_)
        refine lv_iinc (v := (z.1 + 1)) (lv' := [(2, .int (z.1 + 1)), (0, .ref (b + 0)), (1, .int a1)]) hx hb dX12_logs_53 hl (k := 2) rfl rfl (by decide) rfl (fun ls hl => ?_)
        refine lv_goto (tgt := 24) hx hb dX12_logs_56 (by decide) ?_
        exact ih ((z.1 + 1), (up2 z.2 1 z.1.toNatClampNeg (z.2 1 ((z.1 + 3).toNatClampNeg)))) (lp_back hy (Option.some.inj hf).symm) _ _ _ hM hS (lv_sub hl [1, 2, 0] rfl)
  refine lv_aload_n hx hb dX12_logs_0 rfl (lv_at hl 0 rfl) ?_
  refine w_get (k := 0) (v := .ref (b + 1)) hx hb hw hown hE fl_X12_7 hM (by decide) rfl rfl rfl dX12_logs_1 ?_
  refine lv_iconst (v := 4) hx hb dX12_logs_4 (by decide) ?_
  refine w_iald (k := 1) (x9 := 4) hx hb hE hM (by decide) rfl (by decide) (by decide) dX12_logs_5 ?_
  refine lv_bipush (v := 16) hx hb dX12_logs_6 (by decide) ?_
  refine lv_icmp_ne (tgt := 59) hx hb dX12_logs_8 (by decide) (fun c11 => ?_) (fun c11 => ?_)
  · rw [if_neg c11] at hf
    refine lv_bipush (v := 108) hx hb dX12_logs_59 (by decide) ?_
    refine lv_iconst (v := 3) hx hb dX12_logs_61 (by decide) ?_
    refine lv_aload_n hx hb dX12_logs_62 rfl (lv_at hl 0 rfl) ?_
    refine w_get (k := 0) (v := .ref (b + 1)) hx hb hw hown hE fl_X12_7 hM (by decide) rfl rfl rfl dX12_logs_63 ?_
    refine lv_iconst (v := 4) hx hb dX12_logs_66 (by decide) ?_
    refine w_iald (k := 1) (x9 := 4) hx hb hE hM (by decide) rfl (by decide) (by decide) dX12_logs_67 ?_
    refine lv_imul hx hb dX12_logs_68 ?_
    refine lv_iadd hx hb dX12_logs_69 ?_
    refine lv_istore_n (lv' := [(2, .int ((108 : Int32) + ((3 : Int32) * (M 1 4)))), (0, .ref (b + 0)), (1, .int a1)]) hx hb dX12_logs_70 rfl hl (by decide) rfl (fun ls hl => ?_)
    refine lv_aload_n hx hb dX12_logs_71 rfl (lv_at hl 1 rfl) ?_
    refine w_get (k := 0) (v := .ref (b + 1)) hx hb hw hown hE fl_X12_7 hM (by decide) rfl rfl rfl dX12_logs_72 ?_
    refine lv_iload_n hx hb dX12_logs_75 rfl (lv_at hl 0 rfl) ?_
    refine lv_iload_n hx hb dX12_logs_76 rfl (lv_at hl 2 rfl) ?_
    obtain ⟨h12, hf⟩ := gd_some hf
    refine w_iast (k := 1) (x9 := ((108 : Int32) + ((3 : Int32) * (M 1 4))).toNatClampNeg) (x := a1) hx hb hE hM (by decide) rfl rfl h12 hS (iv_mem (by decide)) dX12_logs_77 (fun H locs hM _ hu hS => ?_)
    refine lv_aload_n hx hb dX12_logs_78 rfl (lv_at hl 1 rfl) ?_
    refine w_get (k := 0) (v := .ref (b + 1)) hx hb hw hown hE fl_X12_7 hM (by decide) rfl rfl rfl dX12_logs_79 ?_
    refine lv_iload_n hx hb dX12_logs_82 rfl (lv_at hl 0 rfl) ?_
    refine lv_iconst (v := 1) hx hb dX12_logs_83 (by decide) ?_
    refine lv_iadd hx hb dX12_logs_84 ?_
    refine lv_aload_n hx hb dX12_logs_85 rfl (lv_at hl 1 rfl) ?_
    refine lv_iload_n hx hb dX12_logs_86 rfl (lv_at hl 2 rfl) ?_
    refine lv_bipush (v := 7) hx hb dX12_logs_87 (by decide) ?_
    obtain ⟨z13, hc14, hf⟩ := br_some hf
    refine mu_cV (As := [.int a1, .int 7]) (rest := [.int (((108 : Int32) + ((3 : Int32) * (M 1 4))) + 1), .ref (b + 1)]) hx hb hml hown hts hE (mX12_t l E B0 b (by omega) (up2 M 1 (((108 : Int32) + ((3 : Int32) * (M 1 4))).toNatClampNeg) a1) a1 (7 : Int32) z13 hc14) cv_X12_80 (w_recv (k := 0) (ci := 12) hE hM (by decide) rfl rfl) hM hS hAB (fun _ h => h.elim) rfl hl.1 rfl (by decide) (Nat.le_of_ble_eq_true rfl) ⟨Nat.le_refl _, Nat.le_refl _⟩ dX12_logs_89 (fun H locs hM _ hu hS => ?_)
    obtain ⟨h15, hf⟩ := gd_some hf
    refine w_iast (k := 1) (x9 := (((108 : Int32) + ((3 : Int32) * (M 1 4))) + 1).toNatClampNeg) (x := z13) hx hb hE hM (by decide) rfl rfl h15 hS (iv_mem (by decide)) dX12_logs_92 (fun H locs hM _ hu hS => ?_)
    refine lv_aload_n hx hb dX12_logs_93 rfl (lv_at hl 1 rfl) ?_
    refine w_get (k := 0) (v := .ref (b + 1)) hx hb hw hown hE fl_X12_7 hM (by decide) rfl rfl rfl dX12_logs_94 ?_
    refine lv_iload_n hx hb dX12_logs_97 rfl (lv_at hl 0 rfl) ?_
    refine lv_iconst (v := 2) hx hb dX12_logs_98 (by decide) ?_
    refine lv_iadd hx hb dX12_logs_99 ?_
    refine lv_aload_n hx hb dX12_logs_100 rfl (lv_at hl 1 rfl) ?_
    refine lv_iload_n hx hb dX12_logs_101 rfl (lv_at hl 2 rfl) ?_
    refine lv_bipush (v := 8) hx hb dX12_logs_102 (by decide) ?_
    obtain ⟨z16, hc17, hf⟩ := br_some hf
    refine mu_cV (As := [.int a1, .int 8]) (rest := [.int (((108 : Int32) + ((3 : Int32) * (M 1 4))) + 2), .ref (b + 1)]) hx hb hml hown hts hE (mX12_t l E B0 b (by omega) (up2 (up2 M 1 (((108 : Int32) + ((3 : Int32) * (M 1 4))).toNatClampNeg) a1) 1 ((((108 : Int32) + ((3 : Int32) * (M 1 4))) + 1).toNatClampNeg) z13) a1 (8 : Int32) z16 hc17) cv_X12_80 (w_recv (k := 0) (ci := 12) hE hM (by decide) rfl rfl) hM hS hAB (fun _ h => h.elim) rfl hl.1 rfl (by decide) (Nat.le_of_ble_eq_true rfl) ⟨Nat.le_refl _, Nat.le_refl _⟩ dX12_logs_104 (fun H locs hM _ hu hS => ?_)
    obtain ⟨h18, hf⟩ := gd_some hf
    refine w_iast (k := 1) (x9 := (((108 : Int32) + ((3 : Int32) * (M 1 4))) + 2).toNatClampNeg) (x := z16) hx hb hE hM (by decide) rfl rfl h18 hS (iv_mem (by decide)) dX12_logs_107 (fun H locs hM _ hu hS => ?_)
    refine lv_aload_n hx hb dX12_logs_108 rfl (lv_at hl 1 rfl) ?_
    refine w_get (k := 0) (v := .ref (b + 1)) hx hb hw hown hE fl_X12_7 hM (by decide) rfl rfl rfl dX12_logs_109 ?_
    refine lv_iconst (v := 4) hx hb dX12_logs_112 (by decide) ?_
    refine lv_dup2_11 hx hb dX12_logs_113 rfl rfl ?_
    refine w_iald (k := 1) (x9 := 4) hx hb hE hM (by decide) rfl (by decide) (by decide) dX12_logs_114 ?_
    refine lv_iconst (v := 1) hx hb dX12_logs_115 (by decide) ?_
    refine lv_iadd hx hb dX12_logs_116 ?_
    refine w_iast (k := 1) (x9 := 4) (x := (((up2 (up2 (up2 M 1 (((108 : Int32) + ((3 : Int32) * (M 1 4))).toNatClampNeg) a1) 1 ((((108 : Int32) + ((3 : Int32) * (M 1 4))) + 1).toNatClampNeg) z13) 1 ((((108 : Int32) + ((3 : Int32) * (M 1 4))) + 2).toNatClampNeg) z16) 1 4) + 1)) hx hb hE hM (by decide) rfl (by decide) (by decide) hS (iv_mem (by decide)) dX12_logs_117 (fun H locs hM _ hu hS => ?_)
    have hre := Option.some.inj hf
    subst hre
    exact mu_v hx hb hrt hlocks hM hS dX12_logs_118
  · rw [if_pos c11] at hf
    refine lv_aload_n hx hb dX12_logs_11 rfl (lv_at hl 0 rfl) ?_
    refine w_get (k := 0) (v := .ref (b + 1)) hx hb hw hown hE fl_X12_7 hM (by decide) rfl rfl rfl dX12_logs_12 ?_
    refine lv_iconst (v := 4) hx hb dX12_logs_15 (by decide) ?_
    refine lv_dup2_11 hx hb dX12_logs_16 rfl rfl ?_
    refine w_iald (k := 1) (x9 := 4) hx hb hE hM (by decide) rfl (by decide) (by decide) dX12_logs_17 ?_
    refine lv_iconst (v := 1) hx hb dX12_logs_18 (by decide) ?_
    refine lv_isub hx hb dX12_logs_19 ?_
    refine w_iast (k := 1) (x9 := 4) (x := ((M 1 4) - 1)) hx hb hE hM (by decide) rfl (by decide) (by decide) hS (iv_mem (by decide)) dX12_logs_20 (fun H locs hM _ hu hS => ?_)
    refine lv_bipush (v := 108) hx hb dX12_logs_21 (by decide) ?_
    refine lv_istore_n (lv' := [(2, .int 108), (0, .ref (b + 0)), (1, .int a1)]) hx hb dX12_logs_23 rfl hl (by decide) rfl (fun ls hl => ?_)
    obtain ⟨fu, hfu⟩ := lp_some hf
    exact (loop fu (108, (up2 M 1 4 ((M 1 4) - 1))) hfu) _ _ _ hM hS (lv_sub hl [1, 2, 0] rfl)
noncomputable def fX12_ends (M : Mem) (a1 : Int32) : Option (Int32 × Mem) := (fX12_t M a1 (8 : Int32)).bind fun z1 => (fX12_logs M a1).bind fun z3 => (fX12_t z3 a1 (5 : Int32)).bind fun z5 => (fX12_inLine z3 z5 (1 : Int32)).bind fun z7 => (fX12_set z3 a1 (6 : Int32) (0 : Int32)).bind fun z9 => (fX12_set z9 a1 (8 : Int32) (0 : Int32)).bind fun z11 => (if z7 < 0 then some (z1, z11) else (fX12_speaks z11 z7).bind fun z14 => some (z1, z14))
set_option maxHeartbeats 4000000 in
set_option maxRecDepth 100000 in
theorem mX12_ends (l : Launch) (E : EP) (B0 : Nat) (b : Nat) (hb0 : B0 ≤ b) (M : Mem) (a1 : Int32) (r : Int32 × Mem) (hf : fX12_ends M a1 = some r) : MU l E B0 yX12_ends cX12_ends 4 (some .int) 4 0 0 [.ref (b + 0), .int a1] (Blk E b modSh 10 M) (some (.int r.1)) (Blk E b modSh 10 r.2) (iv b 10) := by
  refine mu_of (by decide +kernel) (Nat.le_of_ble_eq_true rfl) ?_
  intro p e s m args below meth c hx hb hml hown hts hrt hlocks hE H hM hS ls hl
  have hown : s.vm.findClass RX12 = some m.cls := hown
  have hl : lv_has ls 4 [(0, .ref (b + 0)), (1, .int a1)] := hl
  have hw : ∀ w ∈ WA, w.before args s = true := fun w h => hts w (List.mem_cons_of_mem _ h)
  have hAB : ∀ q, (iv b 10) q → B0 ≤ q := (iv_ge (by omega))
  unfold fX12_ends at hf
  refine lv_aload_n hx hb dX12_ends_0 rfl (lv_at hl 0 rfl) ?_
  refine lv_iload_n hx hb dX12_ends_1 rfl (lv_at hl 1 rfl) ?_
  refine lv_bipush (v := 8) hx hb dX12_ends_2 (by decide) ?_
  obtain ⟨z1, hc2, hf⟩ := br_some hf
  refine mu_cV (As := [.int a1, .int 8]) (rest := []) hx hb hml hown hts hE (mX12_t l E B0 b (by omega) M a1 (8 : Int32) z1 hc2) cv_X12_80 (w_recv (k := 0) (ci := 12) hE hM (by decide) rfl rfl) hM hS hAB (fun _ h => h.elim) rfl hl.1 rfl (by decide) (Nat.le_of_ble_eq_true rfl) ⟨Nat.le_refl _, Nat.le_refl _⟩ dX12_ends_4 (fun H locs hM _ hu hS => ?_)
  refine lv_istore_n (lv' := [(2, .int z1), (0, .ref (b + 0)), (1, .int a1)]) hx hb dX12_ends_7 rfl hl (by decide) rfl (fun ls hl => ?_)
  refine lv_aload_n hx hb dX12_ends_8 rfl (lv_at hl 1 rfl) ?_
  refine lv_iload_n hx hb dX12_ends_9 rfl (lv_at hl 2 rfl) ?_
  obtain ⟨z3, hc4, hf⟩ := br_some hf
  refine mu_cV (As := [.int a1]) (rest := []) hx hb hml hown hts hE (mX12_logs l E B0 b (by omega) M a1 z3 hc4) cv_X12_163 (w_recv (k := 0) (ci := 12) hE hM (by decide) rfl rfl) hM hS hAB (fun _ h => h) rfl hl.1 rfl (by decide) (Nat.le_of_ble_eq_true rfl) ⟨Nat.le_refl _, Nat.le_refl _⟩ dX12_ends_10 (fun H locs hM _ hu hS => ?_)
  refine lv_aload_n hx hb dX12_ends_13 rfl (lv_at hl 1 rfl) ?_
  refine lv_aload_n hx hb dX12_ends_14 rfl (lv_at hl 1 rfl) ?_
  refine lv_iload_n hx hb dX12_ends_15 rfl (lv_at hl 2 rfl) ?_
  refine lv_iconst (v := 5) hx hb dX12_ends_16 (by decide) ?_
  obtain ⟨z5, hc6, hf⟩ := br_some hf
  refine mu_cV (As := [.int a1, .int 5]) (rest := [.ref (b + 0)]) hx hb hml hown hts hE (mX12_t l E B0 b (by omega) z3 a1 (5 : Int32) z5 hc6) cv_X12_80 (w_recv (k := 0) (ci := 12) hE hM (by decide) rfl rfl) hM hS hAB (fun _ h => h.elim) rfl hl.1 rfl (by decide) (Nat.le_of_ble_eq_true rfl) ⟨Nat.le_refl _, Nat.le_refl _⟩ dX12_ends_17 (fun H locs hM _ hu hS => ?_)
  refine lv_iconst (v := 1) hx hb dX12_ends_20 (by decide) ?_
  obtain ⟨z7, hc8, hf⟩ := br_some hf
  refine mu_cV (As := [.int z5, .int 1]) (rest := []) hx hb hml hown hts hE (mX12_inLine l E B0 b (by omega) z3 z5 (1 : Int32) z7 hc8) cv_X12_166 (w_recv (k := 0) (ci := 12) hE hM (by decide) rfl rfl) hM hS hAB (fun _ h => h.elim) rfl hl.1 rfl (by decide) (Nat.le_of_ble_eq_true rfl) ⟨Nat.le_refl _, Nat.le_refl _⟩ dX12_ends_21 (fun H locs hM _ hu hS => ?_)
  refine lv_istore_n (lv' := [(3, .int z7), (2, .int z1), (0, .ref (b + 0)), (1, .int a1)]) hx hb dX12_ends_24 rfl hl (by decide) rfl (fun ls hl => ?_)
  refine lv_aload_n hx hb dX12_ends_25 rfl (lv_at hl 2 rfl) ?_
  refine lv_iload_n hx hb dX12_ends_26 rfl (lv_at hl 3 rfl) ?_
  refine lv_bipush (v := 6) hx hb dX12_ends_27 (by decide) ?_
  refine lv_iconst (v := 0) hx hb dX12_ends_29 (by decide) ?_
  obtain ⟨z9, hc10, hf⟩ := br_some hf
  refine mu_cV (As := [.int a1, .int 6, .int 0]) (rest := []) hx hb hml hown hts hE (mX12_set l E B0 b (by omega) z3 a1 (6 : Int32) (0 : Int32) z9 hc10) cv_X12_108 (w_recv (k := 0) (ci := 12) hE hM (by decide) rfl rfl) hM hS hAB (fun _ h => h) rfl hl.1 rfl (by decide) (Nat.le_of_ble_eq_true rfl) ⟨Nat.le_refl _, Nat.le_refl _⟩ dX12_ends_30 (fun H locs hM _ hu hS => ?_)
  refine lv_aload_n hx hb dX12_ends_33 rfl (lv_at hl 2 rfl) ?_
  refine lv_iload_n hx hb dX12_ends_34 rfl (lv_at hl 3 rfl) ?_
  refine lv_bipush (v := 8) hx hb dX12_ends_35 (by decide) ?_
  refine lv_iconst (v := 0) hx hb dX12_ends_37 (by decide) ?_
  obtain ⟨z11, hc12, hf⟩ := br_some hf
  refine mu_cV (As := [.int a1, .int 8, .int 0]) (rest := []) hx hb hml hown hts hE (mX12_set l E B0 b (by omega) z9 a1 (8 : Int32) (0 : Int32) z11 hc12) cv_X12_108 (w_recv (k := 0) (ci := 12) hE hM (by decide) rfl rfl) hM hS hAB (fun _ h => h) rfl hl.1 rfl (by decide) (Nat.le_of_ble_eq_true rfl) ⟨Nat.le_refl _, Nat.le_refl _⟩ dX12_ends_38 (fun H locs hM _ hu hS => ?_)
  refine lv_iload_n hx hb dX12_ends_41 rfl (lv_at hl 0 rfl) ?_
  refine lv_if_lt (tgt := 50) hx hb dX12_ends_42 (by decide) (fun c13 => ?_) (fun c13 => ?_)
  · rw [if_pos c13] at hf
    refine lv_iload_n hx hb dX12_ends_50 rfl (lv_at hl 1 rfl) ?_
    have hre := Option.some.inj hf
    subst hre
    exact mu_i (v := z1) hx hb hrt hlocks hM hS dX12_ends_51
  · rw [if_neg c13] at hf
    refine lv_aload_n hx hb dX12_ends_45 rfl (lv_at hl 2 rfl) ?_
    refine lv_iload_n hx hb dX12_ends_46 rfl (lv_at hl 0 rfl) ?_
    obtain ⟨z14, hc15, hf⟩ := br_some hf
    refine mu_cV (As := [.int z7]) (rest := []) hx hb hml hown hts hE (mX12_speaks l E B0 b (by omega) z11 z7 z14 hc15) cv_X12_153 (w_recv (k := 0) (ci := 12) hE hM (by decide) rfl rfl) hM hS hAB (fun _ h => h) rfl hl.1 rfl (by decide) (Nat.le_of_ble_eq_true rfl) ⟨Nat.le_refl _, Nat.le_refl _⟩ dX12_ends_47 (fun H locs hM _ hu hS => ?_)
    refine lv_iload_n hx hb dX12_ends_50 rfl (lv_at hl 1 rfl) ?_
    have hre := Option.some.inj hf
    subst hre
    exact mu_i (v := z1) hx hb hrt hlocks hM hS dX12_ends_51
noncomputable def fX12_release (M : Mem) (a1 : Int32) : Option (Int32 × Mem) := (fX12_begin M).bind fun z1 => (fX12_unless z1 a1 (1 : Int32)).bind fun z3 => (if z3 ≤ 0 then (fX12_ends z1 a1).bind fun z6 => (fX12_commit z6.2 z6.1).bind fun z8 => some (z8.1, z8.2) else (fX12_fail z1 z3).bind fun z10 => some (z10.1, z10.2))
set_option maxHeartbeats 4000000 in
set_option maxRecDepth 100000 in
theorem mX12_release (l : Launch) (E : EP) (B0 : Nat) (b : Nat) (hb0 : B0 ≤ b) (M : Mem) (a1 : Int32) (r : Int32 × Mem) (hf : fX12_release M a1 = some r) : MU l E B0 yX12_release cX12_release 3 (some .int) 5 0 0 [.ref (b + 0), .int a1] (Blk E b modSh 10 M) (some (.int r.1)) (Blk E b modSh 10 r.2) (iv b 10) := by
  refine mu_of (by decide +kernel) (Nat.le_of_ble_eq_true rfl) ?_
  intro p e s m args below meth c hx hb hml hown hts hrt hlocks hE H hM hS ls hl
  have hown : s.vm.findClass RX12 = some m.cls := hown
  have hl : lv_has ls 3 [(0, .ref (b + 0)), (1, .int a1)] := hl
  have hw : ∀ w ∈ WA, w.before args s = true := fun w h => hts w (List.mem_cons_of_mem _ h)
  have hAB : ∀ q, (iv b 10) q → B0 ≤ q := (iv_ge (by omega))
  unfold fX12_release at hf
  refine lv_aload_n hx hb dX12_release_0 rfl (lv_at hl 0 rfl) ?_
  obtain ⟨z1, hc2, hf⟩ := br_some hf
  refine mu_cV (As := []) (rest := []) hx hb hml hown hts hE (mX12_begin l E B0 b (by omega) M z1 hc2) cv_X12_112 (w_recv (k := 0) (ci := 12) hE hM (by decide) rfl rfl) hM hS hAB (fun _ h => h) rfl hl.1 rfl (by decide) (Nat.le_of_ble_eq_true rfl) ⟨Nat.le_refl _, Nat.le_refl _⟩ dX12_release_1 (fun H locs hM _ hu hS => ?_)
  refine lv_aload_n hx hb dX12_release_4 rfl (lv_at hl 0 rfl) ?_
  refine lv_iload_n hx hb dX12_release_5 rfl (lv_at hl 1 rfl) ?_
  refine lv_iconst (v := 1) hx hb dX12_release_6 (by decide) ?_
  obtain ⟨z3, hc4, hf⟩ := br_some hf
  refine mu_cV (As := [.int a1, .int 1]) (rest := []) hx hb hml hown hts hE (mX12_unless l E B0 b (by omega) z1 a1 (1 : Int32) z3 hc4) cv_X12_157 (w_recv (k := 0) (ci := 12) hE hM (by decide) rfl rfl) hM hS hAB (fun _ h => h.elim) rfl hl.1 rfl (by decide) (Nat.le_of_ble_eq_true rfl) ⟨Nat.le_refl _, Nat.le_refl _⟩ dX12_release_7 (fun H locs hM _ hu hS => ?_)
  refine lv_istore_n (lv' := [(2, .int z3), (0, .ref (b + 0)), (1, .int a1)]) hx hb dX12_release_10 rfl hl (by decide) rfl (fun ls hl => ?_)
  refine lv_iload_n hx hb dX12_release_11 rfl (lv_at hl 0 rfl) ?_
  refine lv_if_le (tgt := 23) hx hb dX12_release_12 (by decide) (fun c5 => ?_) (fun c5 => ?_)
  · rw [if_pos c5] at hf
    refine lv_aload_n hx hb dX12_release_23 rfl (lv_at hl 1 rfl) ?_
    refine lv_aload_n hx hb dX12_release_24 rfl (lv_at hl 1 rfl) ?_
    refine lv_iload_n hx hb dX12_release_25 rfl (lv_at hl 2 rfl) ?_
    obtain ⟨z6, hc7, hf⟩ := br_some hf
    refine mu_cV (As := [.int a1]) (rest := [.ref (b + 0)]) hx hb hml hown hts hE (mX12_ends l E B0 b (by omega) z1 a1 z6 hc7) cv_X12_169 (w_recv (k := 0) (ci := 12) hE hM (by decide) rfl rfl) hM hS hAB (fun _ h => h) rfl hl.1 rfl (by decide) (Nat.le_of_ble_eq_true rfl) ⟨Nat.le_refl _, Nat.le_refl _⟩ dX12_release_26 (fun H locs hM _ hu hS => ?_)
    obtain ⟨z8, hc9, hf⟩ := br_some hf
    refine mu_cV (As := [.int z6.1]) (rest := []) hx hb hml hown hts hE (mX12_commit l E B0 b (by omega) z6.2 z6.1 z8 hc9) cv_X12_125 (w_recv (k := 0) (ci := 12) hE hM (by decide) rfl rfl) hM hS hAB (fun _ h => h) rfl hl.1 rfl (by decide) (Nat.le_of_ble_eq_true rfl) ⟨Nat.le_refl _, Nat.le_refl _⟩ dX12_release_29 (fun H locs hM _ hu hS => ?_)
    have hre := Option.some.inj hf
    subst hre
    exact mu_i (v := z8.1) hx hb hrt hlocks hM hS dX12_release_32
  · rw [if_neg c5] at hf
    refine lv_aload_n hx hb dX12_release_15 rfl (lv_at hl 1 rfl) ?_
    refine lv_iload_n hx hb dX12_release_16 rfl (lv_at hl 0 rfl) ?_
    obtain ⟨z10, hc11, hf⟩ := br_some hf
    refine mu_cV (As := [.int z3]) (rest := []) hx hb hml hown hts hE (mX12_fail l E B0 b (by omega) z1 z3 z10 hc11) cv_X12_119 (w_recv (k := 0) (ci := 12) hE hM (by decide) rfl rfl) hM hS hAB (fun _ h => h) rfl hl.1 rfl (by decide) (Nat.le_of_ble_eq_true rfl) ⟨Nat.le_refl _, Nat.le_refl _⟩ dX12_release_17 (fun H locs hM _ hu hS => ?_)
    refine lv_goto (tgt := 32) hx hb dX12_release_20 (by decide) ?_
    have hre := Option.some.inj hf
    subst hre
    exact mu_i (v := z10.1) hx hb hrt hlocks hM hS dX12_release_32
noncomputable def fX12_cancels (M : Mem) (a1 : Int32) : Option (Int32 × Mem) := (fX12_set M a1 (6 : Int32) (0 : Int32)).bind fun z1 => (fX12_t z1 a1 (5 : Int32)).bind fun z3 => (fX12_lineOf z1 z3).bind fun z5 => some (z5, z1)
set_option maxHeartbeats 4000000 in
set_option maxRecDepth 100000 in
theorem mX12_cancels (l : Launch) (E : EP) (B0 : Nat) (b : Nat) (hb0 : B0 ≤ b) (M : Mem) (a1 : Int32) (r : Int32 × Mem) (hf : fX12_cancels M a1 = some r) : MU l E B0 yX12_cancels cX12_cancels 2 (some .int) 3 0 0 [.ref (b + 0), .int a1] (Blk E b modSh 10 M) (some (.int r.1)) (Blk E b modSh 10 r.2) (iv b 10) := by
  refine mu_of (by decide +kernel) (Nat.le_of_ble_eq_true rfl) ?_
  intro p e s m args below meth c hx hb hml hown hts hrt hlocks hE H hM hS ls hl
  have hown : s.vm.findClass RX12 = some m.cls := hown
  have hl : lv_has ls 2 [(0, .ref (b + 0)), (1, .int a1)] := hl
  have hw : ∀ w ∈ WA, w.before args s = true := fun w h => hts w (List.mem_cons_of_mem _ h)
  have hAB : ∀ q, (iv b 10) q → B0 ≤ q := (iv_ge (by omega))
  unfold fX12_cancels at hf
  refine lv_aload_n hx hb dX12_cancels_0 rfl (lv_at hl 0 rfl) ?_
  refine lv_iload_n hx hb dX12_cancels_1 rfl (lv_at hl 1 rfl) ?_
  refine lv_bipush (v := 6) hx hb dX12_cancels_2 (by decide) ?_
  refine lv_iconst (v := 0) hx hb dX12_cancels_4 (by decide) ?_
  obtain ⟨z1, hc2, hf⟩ := br_some hf
  refine mu_cV (As := [.int a1, .int 6, .int 0]) (rest := []) hx hb hml hown hts hE (mX12_set l E B0 b (by omega) M a1 (6 : Int32) (0 : Int32) z1 hc2) cv_X12_108 (w_recv (k := 0) (ci := 12) hE hM (by decide) rfl rfl) hM hS hAB (fun _ h => h) rfl hl.1 rfl (by decide) (Nat.le_of_ble_eq_true rfl) ⟨Nat.le_refl _, Nat.le_refl _⟩ dX12_cancels_5 (fun H locs hM _ hu hS => ?_)
  refine lv_aload_n hx hb dX12_cancels_8 rfl (lv_at hl 0 rfl) ?_
  refine lv_aload_n hx hb dX12_cancels_9 rfl (lv_at hl 0 rfl) ?_
  refine lv_iload_n hx hb dX12_cancels_10 rfl (lv_at hl 1 rfl) ?_
  refine lv_iconst (v := 5) hx hb dX12_cancels_11 (by decide) ?_
  obtain ⟨z3, hc4, hf⟩ := br_some hf
  refine mu_cV (As := [.int a1, .int 5]) (rest := [.ref (b + 0)]) hx hb hml hown hts hE (mX12_t l E B0 b (by omega) z1 a1 (5 : Int32) z3 hc4) cv_X12_80 (w_recv (k := 0) (ci := 12) hE hM (by decide) rfl rfl) hM hS hAB (fun _ h => h.elim) rfl hl.1 rfl (by decide) (Nat.le_of_ble_eq_true rfl) ⟨Nat.le_refl _, Nat.le_refl _⟩ dX12_cancels_12 (fun H locs hM _ hu hS => ?_)
  obtain ⟨z5, hc6, hf⟩ := br_some hf
  refine mu_cV (As := [.int z3]) (rest := []) hx hb hml hown hts hE (mX12_lineOf l E B0 b (by omega) z1 z3 z5 hc6) cv_X12_172 (w_recv (k := 0) (ci := 12) hE hM (by decide) rfl rfl) hM hS hAB (fun _ h => h.elim) rfl hl.1 rfl (by decide) (Nat.le_of_ble_eq_true rfl) ⟨Nat.le_refl _, Nat.le_refl _⟩ dX12_cancels_15 (fun H locs hM _ hu hS => ?_)
  have hre := Option.some.inj hf
  subst hre
  exact mu_i (v := z5) hx hb hrt hlocks hM hS dX12_cancels_18
noncomputable def fX12_cancel (M : Mem) (a1 : Int32) : Option (Int32 × Mem) := (fX12_begin M).bind fun z1 => (fX12_unless z1 a1 (2 : Int32)).bind fun z3 => (if z3 ≤ 0 then (fX12_cancels z1 a1).bind fun z6 => (fX12_commit z6.2 z6.1).bind fun z8 => some (z8.1, z8.2) else (fX12_fail z1 z3).bind fun z10 => some (z10.1, z10.2))
set_option maxHeartbeats 4000000 in
set_option maxRecDepth 100000 in
theorem mX12_cancel (l : Launch) (E : EP) (B0 : Nat) (b : Nat) (hb0 : B0 ≤ b) (M : Mem) (a1 : Int32) (r : Int32 × Mem) (hf : fX12_cancel M a1 = some r) : MU l E B0 yX12_cancel cX12_cancel 3 (some .int) 4 0 0 [.ref (b + 0), .int a1] (Blk E b modSh 10 M) (some (.int r.1)) (Blk E b modSh 10 r.2) (iv b 10) := by
  refine mu_of (by decide +kernel) (Nat.le_of_ble_eq_true rfl) ?_
  intro p e s m args below meth c hx hb hml hown hts hrt hlocks hE H hM hS ls hl
  have hown : s.vm.findClass RX12 = some m.cls := hown
  have hl : lv_has ls 3 [(0, .ref (b + 0)), (1, .int a1)] := hl
  have hw : ∀ w ∈ WA, w.before args s = true := fun w h => hts w (List.mem_cons_of_mem _ h)
  have hAB : ∀ q, (iv b 10) q → B0 ≤ q := (iv_ge (by omega))
  unfold fX12_cancel at hf
  refine lv_aload_n hx hb dX12_cancel_0 rfl (lv_at hl 0 rfl) ?_
  obtain ⟨z1, hc2, hf⟩ := br_some hf
  refine mu_cV (As := []) (rest := []) hx hb hml hown hts hE (mX12_begin l E B0 b (by omega) M z1 hc2) cv_X12_112 (w_recv (k := 0) (ci := 12) hE hM (by decide) rfl rfl) hM hS hAB (fun _ h => h) rfl hl.1 rfl (by decide) (Nat.le_of_ble_eq_true rfl) ⟨Nat.le_refl _, Nat.le_refl _⟩ dX12_cancel_1 (fun H locs hM _ hu hS => ?_)
  refine lv_aload_n hx hb dX12_cancel_4 rfl (lv_at hl 0 rfl) ?_
  refine lv_iload_n hx hb dX12_cancel_5 rfl (lv_at hl 1 rfl) ?_
  refine lv_iconst (v := 2) hx hb dX12_cancel_6 (by decide) ?_
  obtain ⟨z3, hc4, hf⟩ := br_some hf
  refine mu_cV (As := [.int a1, .int 2]) (rest := []) hx hb hml hown hts hE (mX12_unless l E B0 b (by omega) z1 a1 (2 : Int32) z3 hc4) cv_X12_157 (w_recv (k := 0) (ci := 12) hE hM (by decide) rfl rfl) hM hS hAB (fun _ h => h.elim) rfl hl.1 rfl (by decide) (Nat.le_of_ble_eq_true rfl) ⟨Nat.le_refl _, Nat.le_refl _⟩ dX12_cancel_7 (fun H locs hM _ hu hS => ?_)
  refine lv_istore_n (lv' := [(2, .int z3), (0, .ref (b + 0)), (1, .int a1)]) hx hb dX12_cancel_10 rfl hl (by decide) rfl (fun ls hl => ?_)
  refine lv_iload_n hx hb dX12_cancel_11 rfl (lv_at hl 0 rfl) ?_
  refine lv_if_le (tgt := 23) hx hb dX12_cancel_12 (by decide) (fun c5 => ?_) (fun c5 => ?_)
  · rw [if_pos c5] at hf
    refine lv_aload_n hx hb dX12_cancel_23 rfl (lv_at hl 1 rfl) ?_
    refine lv_aload_n hx hb dX12_cancel_24 rfl (lv_at hl 1 rfl) ?_
    refine lv_iload_n hx hb dX12_cancel_25 rfl (lv_at hl 2 rfl) ?_
    obtain ⟨z6, hc7, hf⟩ := br_some hf
    refine mu_cV (As := [.int a1]) (rest := [.ref (b + 0)]) hx hb hml hown hts hE (mX12_cancels l E B0 b (by omega) z1 a1 z6 hc7) cv_X12_175 (w_recv (k := 0) (ci := 12) hE hM (by decide) rfl rfl) hM hS hAB (fun _ h => h) rfl hl.1 rfl (by decide) (Nat.le_of_ble_eq_true rfl) ⟨Nat.le_refl _, Nat.le_refl _⟩ dX12_cancel_26 (fun H locs hM _ hu hS => ?_)
    obtain ⟨z8, hc9, hf⟩ := br_some hf
    refine mu_cV (As := [.int z6.1]) (rest := []) hx hb hml hown hts hE (mX12_commit l E B0 b (by omega) z6.2 z6.1 z8 hc9) cv_X12_125 (w_recv (k := 0) (ci := 12) hE hM (by decide) rfl rfl) hM hS hAB (fun _ h => h) rfl hl.1 rfl (by decide) (Nat.le_of_ble_eq_true rfl) ⟨Nat.le_refl _, Nat.le_refl _⟩ dX12_cancel_29 (fun H locs hM _ hu hS => ?_)
    have hre := Option.some.inj hf
    subst hre
    exact mu_i (v := z8.1) hx hb hrt hlocks hM hS dX12_cancel_32
  · rw [if_neg c5] at hf
    refine lv_aload_n hx hb dX12_cancel_15 rfl (lv_at hl 1 rfl) ?_
    refine lv_iload_n hx hb dX12_cancel_16 rfl (lv_at hl 0 rfl) ?_
    obtain ⟨z10, hc11, hf⟩ := br_some hf
    refine mu_cV (As := [.int z3]) (rest := []) hx hb hml hown hts hE (mX12_fail l E B0 b (by omega) z1 z3 z10 hc11) cv_X12_119 (w_recv (k := 0) (ci := 12) hE hM (by decide) rfl rfl) hM hS hAB (fun _ h => h) rfl hl.1 rfl (by decide) (Nat.le_of_ble_eq_true rfl) ⟨Nat.le_refl _, Nat.le_refl _⟩ dX12_cancel_17 (fun H locs hM _ hu hS => ?_)
    refine lv_goto (tgt := 32) hx hb dX12_cancel_20 (by decide) ?_
    have hre := Option.some.inj hf
    subst hre
    exact mu_i (v := z10.1) hx hb hrt hlocks hM hS dX12_cancel_32
def fX12_limits (M : Mem) (a1 : Int32) : Option (Int32 × Mem) := some ((M 1 2), (up2 M 1 2 a1))
set_option maxHeartbeats 4000000 in
set_option maxRecDepth 100000 in
theorem mX12_limits (l : Launch) (E : EP) (B0 : Nat) (b : Nat) (hb0 : B0 ≤ b) (M : Mem) (a1 : Int32) (r : Int32 × Mem) (hf : fX12_limits M a1 = some r) : MU l E B0 yX12_limits cX12_limits 3 (some .int) 0 0 0 [.ref (b + 0), .int a1] (Blk E b modSh 10 M) (some (.int r.1)) (Blk E b modSh 10 r.2) (iv b 10) := by
  refine mu_of (by decide +kernel) (Nat.le_of_ble_eq_true rfl) ?_
  intro p e s m args below meth c hx hb hml hown hts hrt hlocks hE H hM hS ls hl
  have hown : s.vm.findClass RX12 = some m.cls := hown
  have hl : lv_has ls 3 [(0, .ref (b + 0)), (1, .int a1)] := hl
  have hw : ∀ w ∈ WA, w.before args s = true := fun w h => hts w (List.mem_cons_of_mem _ h)
  have hAB : ∀ q, (iv b 10) q → B0 ≤ q := (iv_ge (by omega))
  unfold fX12_limits at hf
  refine lv_aload_n hx hb dX12_limits_0 rfl (lv_at hl 0 rfl) ?_
  refine w_get (k := 0) (v := .ref (b + 1)) hx hb hw hown hE fl_X12_7 hM (by decide) rfl rfl rfl dX12_limits_1 ?_
  refine lv_iconst (v := 2) hx hb dX12_limits_4 (by decide) ?_
  refine w_iald (k := 1) (x9 := 2) hx hb hE hM (by decide) rfl (by decide) (by decide) dX12_limits_5 ?_
  refine lv_istore_n (lv' := [(2, .int (M 1 2)), (0, .ref (b + 0)), (1, .int a1)]) hx hb dX12_limits_6 rfl hl (by decide) rfl (fun ls hl => ?_)
  refine lv_aload_n hx hb dX12_limits_7 rfl (lv_at hl 1 rfl) ?_
  refine w_get (k := 0) (v := .ref (b + 1)) hx hb hw hown hE fl_X12_7 hM (by decide) rfl rfl rfl dX12_limits_8 ?_
  refine lv_iconst (v := 2) hx hb dX12_limits_11 (by decide) ?_
  refine lv_iload_n hx hb dX12_limits_12 rfl (lv_at hl 2 rfl) ?_
  refine w_iast (k := 1) (x9 := 2) (x := a1) hx hb hE hM (by decide) rfl (by decide) (by decide) hS (iv_mem (by decide)) dX12_limits_13 (fun H locs hM _ hu hS => ?_)
  refine lv_iload_n hx hb dX12_limits_14 rfl (lv_at hl 0 rfl) ?_
  have hre := Option.some.inj hf
  subst hre
  exact mu_i (v := (M 1 2)) hx hb hrt hlocks hM hS dX12_limits_15
noncomputable def fX12_setTurnLimit (M : Mem) (a1 : Int32) : Option (Int32 × Mem) := (fX12_begin M).bind fun z1 => (fX12_in a1 (1 : Int32) (60 : Int32)).bind fun z3 => (if z3 = 0 then (fX12_fail z1 (1 : Int32)).bind fun z6 => some (z6.1, z6.2) else (fX12_limits z1 a1).bind fun z8 => (fX12_commit z8.2 z8.1).bind fun z10 => some (z10.1, z10.2))
set_option maxHeartbeats 4000000 in
set_option maxRecDepth 100000 in
theorem mX12_setTurnLimit (l : Launch) (E : EP) (B0 : Nat) (b : Nat) (hb0 : B0 ≤ b) (M : Mem) (a1 : Int32) (r : Int32 × Mem) (hf : fX12_setTurnLimit M a1 = some r) : MU l E B0 yX12_setTurnLimit cX12_setTurnLimit 2 (some .int) 2 0 0 [.ref (b + 0), .int a1] (Blk E b modSh 10 M) (some (.int r.1)) (Blk E b modSh 10 r.2) (iv b 10) := by
  refine mu_of (by decide +kernel) (Nat.le_of_ble_eq_true rfl) ?_
  intro p e s m args below meth c hx hb hml hown hts hrt hlocks hE H hM hS ls hl
  have hown : s.vm.findClass RX12 = some m.cls := hown
  have hl : lv_has ls 2 [(0, .ref (b + 0)), (1, .int a1)] := hl
  have hw : ∀ w ∈ WA, w.before args s = true := fun w h => hts w (List.mem_cons_of_mem _ h)
  have hAB : ∀ q, (iv b 10) q → B0 ≤ q := (iv_ge (by omega))
  unfold fX12_setTurnLimit at hf
  refine lv_aload_n hx hb dX12_setTurnLimit_0 rfl (lv_at hl 0 rfl) ?_
  obtain ⟨z1, hc2, hf⟩ := br_some hf
  refine mu_cV (As := []) (rest := []) hx hb hml hown hts hE (mX12_begin l E B0 b (by omega) M z1 hc2) cv_X12_112 (w_recv (k := 0) (ci := 12) hE hM (by decide) rfl rfl) hM hS hAB (fun _ h => h) rfl hl.1 rfl (by decide) (Nat.le_of_ble_eq_true rfl) ⟨Nat.le_refl _, Nat.le_refl _⟩ dX12_setTurnLimit_1 (fun H locs hM _ hu hS => ?_)
  refine lv_iload_n hx hb dX12_setTurnLimit_4 rfl (lv_at hl 1 rfl) ?_
  refine lv_iconst (v := 1) hx hb dX12_setTurnLimit_5 (by decide) ?_
  refine lv_bipush (v := 60) hx hb dX12_setTurnLimit_6 (by decide) ?_
  obtain ⟨z3, hc4, hf⟩ := br_some hf
  refine mu_cS (As := [.int a1, .int 1, .int 60]) (rest := []) hx hb hml hown hts hE (mX12_in l E B0 a1 (1 : Int32) (60 : Int32) z3 hc4) cs_X12_76 trivial hS hAB (fun _ h => h.elim) rfl hl.1 rfl (by decide) (Nat.le_of_ble_eq_true rfl) ⟨Nat.le_refl _, Nat.le_refl _⟩ dX12_setTurnLimit_8 (fun H locs _ _ hu hS => ?_)
  have hM := Blk.off hM hu (fun _ _ _ h => h)
  refine lv_if_eq (tgt := 26) hx hb dX12_setTurnLimit_11 (by decide) (fun c5 => ?_) (fun c5 => ?_)
  · rw [if_pos c5] at hf
    refine lv_aload_n hx hb dX12_setTurnLimit_26 rfl (lv_at hl 0 rfl) ?_
    refine lv_iconst (v := 1) hx hb dX12_setTurnLimit_27 (by decide) ?_
    obtain ⟨z6, hc7, hf⟩ := br_some hf
    refine mu_cV (As := [.int 1]) (rest := []) hx hb hml hown hts hE (mX12_fail l E B0 b (by omega) z1 (1 : Int32) z6 hc7) cv_X12_119 (w_recv (k := 0) (ci := 12) hE hM (by decide) rfl rfl) hM hS hAB (fun _ h => h) rfl hl.1 rfl (by decide) (Nat.le_of_ble_eq_true rfl) ⟨Nat.le_refl _, Nat.le_refl _⟩ dX12_setTurnLimit_28 (fun H locs hM _ hu hS => ?_)
    have hre := Option.some.inj hf
    subst hre
    exact mu_i (v := z6.1) hx hb hrt hlocks hM hS dX12_setTurnLimit_31
  · rw [if_neg c5] at hf
    refine lv_aload_n hx hb dX12_setTurnLimit_14 rfl (lv_at hl 0 rfl) ?_
    refine lv_aload_n hx hb dX12_setTurnLimit_15 rfl (lv_at hl 0 rfl) ?_
    refine lv_iload_n hx hb dX12_setTurnLimit_16 rfl (lv_at hl 1 rfl) ?_
    obtain ⟨z8, hc9, hf⟩ := br_some hf
    refine mu_cV (As := [.int a1]) (rest := [.ref (b + 0)]) hx hb hml hown hts hE (mX12_limits l E B0 b (by omega) z1 a1 z8 hc9) cv_X12_178 (w_recv (k := 0) (ci := 12) hE hM (by decide) rfl rfl) hM hS hAB (fun _ h => h) rfl hl.1 rfl (by decide) (Nat.le_of_ble_eq_true rfl) ⟨Nat.le_refl _, Nat.le_refl _⟩ dX12_setTurnLimit_17 (fun H locs hM _ hu hS => ?_)
    obtain ⟨z10, hc11, hf⟩ := br_some hf
    refine mu_cV (As := [.int z8.1]) (rest := []) hx hb hml hown hts hE (mX12_commit l E B0 b (by omega) z8.2 z8.1 z10 hc11) cv_X12_125 (w_recv (k := 0) (ci := 12) hE hM (by decide) rfl rfl) hM hS hAB (fun _ h => h) rfl hl.1 rfl (by decide) (Nat.le_of_ble_eq_true rfl) ⟨Nat.le_refl _, Nat.le_refl _⟩ dX12_setTurnLimit_20 (fun H locs hM _ hu hS => ?_)
    refine lv_goto (tgt := 31) hx hb dX12_setTurnLimit_23 (by decide) ?_
    have hre := Option.some.inj hf
    subst hre
    exact mu_i (v := z10.1) hx hb hrt hlocks hM hS dX12_setTurnLimit_31
noncomputable def fX12_receives (M : Mem) (a1 : Int32) : Option (Int32) := (fX12_t M a1 (5 : Int32)).bind fun z1 => (fX12_speakerOn M z1).bind fun z3 => (if z3 < 0 then some 0 else (fX12_hears M a1 z3).bind fun z6 => (if z6 = 0 then some 0 else (fX12_isDisturbed M a1).bind fun z9 => (if z9 = 0 then some 1 else some 0)))
set_option maxHeartbeats 4000000 in
set_option maxRecDepth 100000 in
theorem mX12_receives (l : Launch) (E : EP) (B0 : Nat) (b : Nat) (hb0 : B0 ≤ b) (M : Mem) (a1 : Int32) (r : Int32) (hf : fX12_receives M a1 = some r) : MU l E B0 yX12_receives cX12_receives 3 (some .boolean) 4 0 0 [.ref (b + 0), .int a1] (Blk E b modSh 10 M) (some (.int r)) (Blk E b modSh 10 M) nv := by
  refine mu_of (by decide +kernel) (Nat.le_of_ble_eq_true rfl) ?_
  intro p e s m args below meth c hx hb hml hown hts hrt hlocks hE H hM hS ls hl
  have hown : s.vm.findClass RX12 = some m.cls := hown
  have hl : lv_has ls 3 [(0, .ref (b + 0)), (1, .int a1)] := hl
  have hw : ∀ w ∈ WA, w.before args s = true := fun w h => hts w (List.mem_cons_of_mem _ h)
  have hAB : ∀ q, nv q → B0 ≤ q := fun _ h => h.elim
  unfold fX12_receives at hf
  refine lv_aload_n hx hb dX12_receives_0 rfl (lv_at hl 0 rfl) ?_
  refine lv_aload_n hx hb dX12_receives_1 rfl (lv_at hl 0 rfl) ?_
  refine lv_iload_n hx hb dX12_receives_2 rfl (lv_at hl 1 rfl) ?_
  refine lv_iconst (v := 5) hx hb dX12_receives_3 (by decide) ?_
  obtain ⟨z1, hc2, hf⟩ := br_some hf
  refine mu_cV (As := [.int a1, .int 5]) (rest := [.ref (b + 0)]) hx hb hml hown hts hE (mX12_t l E B0 b (by omega) M a1 (5 : Int32) z1 hc2) cv_X12_80 (w_recv (k := 0) (ci := 12) hE hM (by decide) rfl rfl) hM hS hAB (fun _ h => h.elim) rfl hl.1 rfl (by decide) (Nat.le_of_ble_eq_true rfl) ⟨Nat.le_refl _, Nat.le_refl _⟩ dX12_receives_4 (fun H locs hM _ hu hS => ?_)
  obtain ⟨z3, hc4, hf⟩ := br_some hf
  refine mu_cV (As := [.int z1]) (rest := []) hx hb hml hown hts hE (mX12_speakerOn l E B0 b (by omega) M z1 z3 hc4) cv_X12_150 (w_recv (k := 0) (ci := 12) hE hM (by decide) rfl rfl) hM hS hAB (fun _ h => h.elim) rfl hl.1 rfl (by decide) (Nat.le_of_ble_eq_true rfl) ⟨Nat.le_refl _, Nat.le_refl _⟩ dX12_receives_7 (fun H locs hM _ hu hS => ?_)
  refine lv_istore_n (lv' := [(2, .int z3), (0, .ref (b + 0)), (1, .int a1)]) hx hb dX12_receives_10 rfl hl (by decide) rfl (fun ls hl => ?_)
  refine lv_iload_n hx hb dX12_receives_11 rfl (lv_at hl 0 rfl) ?_
  refine lv_if_lt (tgt := 36) hx hb dX12_receives_12 (by decide) (fun c5 => ?_) (fun c5 => ?_)
  · rw [if_pos c5] at hf
    refine lv_iconst (v := 0) hx hb dX12_receives_36 (by decide) ?_
    have hre := Option.some.inj hf
    subst hre
    exact mu_z (v := 0) hx hb hrt rfl hlocks hM hS dX12_receives_37
  · rw [if_neg c5] at hf
    refine lv_aload_n hx hb dX12_receives_15 rfl (lv_at hl 1 rfl) ?_
    refine lv_iload_n hx hb dX12_receives_16 rfl (lv_at hl 2 rfl) ?_
    refine lv_iload_n hx hb dX12_receives_17 rfl (lv_at hl 0 rfl) ?_
    obtain ⟨z6, hc7, hf⟩ := br_some hf
    refine mu_cV (As := [.int a1, .int z3]) (rest := []) hx hb hml hown hts hE (mX12_hears l E B0 b (by omega) M a1 z3 z6 hc7) cv_X12_128 (w_recv (k := 0) (ci := 12) hE hM (by decide) rfl rfl) hM hS hAB (fun _ h => h.elim) rfl hl.1 rfl (by decide) (Nat.le_of_ble_eq_true rfl) ⟨Nat.le_refl _, Nat.le_refl _⟩ dX12_receives_18 (fun H locs hM _ hu hS => ?_)
    refine lv_if_eq (tgt := 36) hx hb dX12_receives_21 (by decide) (fun c8 => ?_) (fun c8 => ?_)
    · rw [if_pos c8] at hf
      refine lv_iconst (v := 0) hx hb dX12_receives_36 (by decide) ?_
      have hre := Option.some.inj hf
      subst hre
      exact mu_z (v := 0) hx hb hrt rfl hlocks hM hS dX12_receives_37
    · rw [if_neg c8] at hf
      refine lv_aload_n hx hb dX12_receives_24 rfl (lv_at hl 1 rfl) ?_
      refine lv_iload_n hx hb dX12_receives_25 rfl (lv_at hl 2 rfl) ?_
      obtain ⟨z9, hc10, hf⟩ := br_some hf
      refine mu_cV (As := [.int a1]) (rest := []) hx hb hml hown hts hE (mX12_isDisturbed l E B0 b (by omega) M a1 z9 hc10) cv_X12_181 (w_recv (k := 0) (ci := 12) hE hM (by decide) rfl rfl) hM hS hAB (fun _ h => h.elim) rfl hl.1 rfl (by decide) (Nat.le_of_ble_eq_true rfl) ⟨Nat.le_refl _, Nat.le_refl _⟩ dX12_receives_26 (fun H locs hM _ hu hS => ?_)
      refine lv_if_ne (tgt := 36) hx hb dX12_receives_29 (by decide) (fun c11 => ?_) (fun c11 => ?_)
      · rw [if_neg c11] at hf
        refine lv_iconst (v := 0) hx hb dX12_receives_36 (by decide) ?_
        have hre := Option.some.inj hf
        subst hre
        exact mu_z (v := 0) hx hb hrt rfl hlocks hM hS dX12_receives_37
      · rw [if_pos c11] at hf
        refine lv_iconst (v := 1) hx hb dX12_receives_32 (by decide) ?_
        refine lv_goto (tgt := 37) hx hb dX12_receives_33 (by decide) ?_
        have hre := Option.some.inj hf
        subst hre
        exact mu_z (v := 1) hx hb hrt rfl hlocks hM hS dX12_receives_37
noncomputable def fX12_minutePasses_s  (z : Nat × Int32 × Int32 × Int32 × Int32 × Mem) : Option ((Nat × Int32 × Int32 × Int32 × Int32 × Mem) ⊕ (Int32 × Mem)) := (if z.1 = 0 then (if (z.2.2.2.2.2 1 0) ≤ z.2.2.2.1 then some (.inl (1, z.2.1, z.2.2.1, 0, 0, (up2 z.2.2.2.2.2 1 1 ((z.2.2.2.2.2 1 1) + 1)))) else (fX12_receives z.2.2.2.2.2 z.2.2.2.1).bind fun z2 => (if z2 = 0 then (fX12_t z.2.2.2.2.2 z.2.2.2.1 (6 : Int32)).bind fun z5 => (if z5 = (1 : Int32) then (fX12_t z.2.2.2.2.2 z.2.2.2.1 (9 : Int32)).bind fun z8 => (fX12_set z.2.2.2.2.2 z.2.2.2.1 (9 : Int32) (z8 + 1)).bind fun z10 => (fX12_t z10 z.2.2.2.1 (8 : Int32)).bind fun z12 => (fX12_set z10 z.2.2.2.1 (8 : Int32) (z12 + 1)).bind fun z14 => (fX12_t z14 z.2.2.2.1 (8 : Int32)).bind fun z16 => (if z16 < (z14 1 2) then some (.inl (0, z.2.1, z.2.2.1, (z.2.2.2.1 + 1), 0, z14)) else some (.inl (0, z.2.1, (z.2.2.1 ||| ((1 : Int32) <<< (z.2.2.2.1 &&& 31))), (z.2.2.2.1 + 1), 0, z14))) else some (.inl (0, z.2.1, z.2.2.1, (z.2.2.2.1 + 1), 0, z.2.2.2.2.2))) else (fX12_t z.2.2.2.2.2 z.2.2.2.1 (10 : Int32)).bind fun z19 => (fX12_set z.2.2.2.2.2 z.2.2.2.1 (10 : Int32) (z19 + 1)).bind fun z21 => (fX12_t z21 z.2.2.2.1 (6 : Int32)).bind fun z23 => (if z23 = (1 : Int32) then (fX12_t z21 z.2.2.2.1 (9 : Int32)).bind fun z26 => (fX12_set z21 z.2.2.2.1 (9 : Int32) (z26 + 1)).bind fun z28 => (fX12_t z28 z.2.2.2.1 (8 : Int32)).bind fun z30 => (fX12_set z28 z.2.2.2.1 (8 : Int32) (z30 + 1)).bind fun z32 => (fX12_t z32 z.2.2.2.1 (8 : Int32)).bind fun z34 => (if z34 < (z32 1 2) then some (.inl (0, (z.2.1 + 1), z.2.2.1, (z.2.2.2.1 + 1), 0, z32)) else some (.inl (0, (z.2.1 + 1), (z.2.2.1 ||| ((1 : Int32) <<< (z.2.2.2.1 &&& 31))), (z.2.2.2.1 + 1), 0, z32))) else some (.inl (0, (z.2.1 + 1), z.2.2.1, (z.2.2.2.1 + 1), 0, z21))))) else (if (z.2.2.2.2.2 1 0) ≤ z.2.2.2.2.1 then some (.inr (z.2.1, z.2.2.2.2.2)) else (if ((z.2.2.1 >>> (z.2.2.2.2.1 &&& 31)) &&& 1) = (1 : Int32) then (fX12_ends z.2.2.2.2.2 z.2.2.2.2.1).bind fun z39 => some (.inl (1, z.2.1, z.2.2.1, z39.1, (z.2.2.2.2.1 + 1), z39.2)) else some (.inl (1, z.2.1, z.2.2.1, z.2.2.2.1, (z.2.2.2.2.1 + 1), z.2.2.2.2.2)))))
noncomputable def fX12_minutePasses (M : Mem) : Option (Int32 × Mem) := lp (fX12_minutePasses_s) (0, 0, 0, 0, 0, M)
set_option maxHeartbeats 4000000 in
set_option maxRecDepth 100000 in
theorem mX12_minutePasses (l : Launch) (E : EP) (B0 : Nat) (b : Nat) (hb0 : B0 ≤ b) (M : Mem) (r : Int32 × Mem) (hf : fX12_minutePasses M = some r) : MU l E B0 yX12_minutePasses cX12_minutePasses 5 (some .int) 5 0 0 [.ref (b + 0)] (Blk E b modSh 10 M) (some (.int r.1)) (Blk E b modSh 10 r.2) (iv b 10) := by
  refine mu_of (by decide +kernel) (Nat.le_of_ble_eq_true rfl) ?_
  intro p e s m args below meth c hx hb hml hown hts hrt hlocks hE H hM hS ls hl
  have hown : s.vm.findClass RX12 = some m.cls := hown
  have hl : lv_has ls 5 [(0, .ref (b + 0))] := hl
  have hw : ∀ w ∈ WA, w.before args s = true := fun w h => hts w (List.mem_cons_of_mem _ h)
  have hAB : ∀ q, (iv b 10) q → B0 ≤ q := (iv_ge (by omega))
  unfold fX12_minutePasses at hf
  have loop : ∀ (fu : Nat) (z : Nat × Int32 × Int32 × Int32 × Int32 × Mem), lpI (fX12_minutePasses_s) fu z = some r → (∀ (H : Heap) (locs : List Loc) (ls : Array Slot), z.1 = 0 → Blk E b modSh 10 z.2.2.2.2.2 H → va_S (iv b 10) s.heap H locs → lv_has ls 5 [(0, .ref (b + 0)), (1, .int z.2.1), (2, .int z.2.2.1), (3, .int z.2.2.2.1)] → W p l e (rmD 5 0 0) s m args below meth c H locs 0 0 (MQ below (QU (some (.int r.1)) (Blk E b modSh 10 r.2) (iv b 10)) args s 0 0 (iv b 10)) (F0 m 6 ls [])) ∧ (∀ (H : Heap) (locs : List Loc) (ls : Array Slot), z.1 = 1 → Blk E b modSh 10 z.2.2.2.2.2 H → va_S (iv b 10) s.heap H locs → lv_has ls 5 [(0, .ref (b + 0)), (1, .int z.2.1), (2, .int z.2.2.1), (3, .int z.2.2.2.1), (4, .int z.2.2.2.2.1)] → W p l e (rmD 5 0 0) s m args below meth c H locs 0 0 (MQ below (QU (some (.int r.1)) (Blk E b modSh 10 r.2) (iv b 10)) args s 0 0 (iv b 10)) (F0 m 132 ls [])) := by
    intro fu
    induction fu with
    | zero =>
      intro z hn
      exact nomatch hn
    | succ fu ih =>
      intro z hn
      obtain ⟨y, hf, hy⟩ := lpI_succ hn
      refine ⟨?_, ?_⟩
      · intro H locs ls hz hM hS hl
        unfold fX12_minutePasses_s at hf
        rw [if_pos hz] at hf
        refine lv_iload_n hx hb dX12_minutePasses_6 rfl (lv_at hl 3 rfl) ?_
        refine lv_aload_n hx hb dX12_minutePasses_7 rfl (lv_at hl 0 rfl) ?_
        refine w_get (k := 0) (v := .ref (b + 1)) hx hb hw hown hE fl_X12_7 hM (by decide) rfl rfl rfl dX12_minutePasses_8 ?_
        refine lv_iconst (v := 0) hx hb dX12_minutePasses_11 (by decide) ?_
        refine w_iald (k := 1) (x9 := 0) hx hb hE hM (by decide) rfl (by decide) (by decide) dX12_minutePasses_12 ?_
        refine lv_icmp_ge (tgt := 117) hx hb dX12_minutePasses_13 (by decide) (fun c1 => ?_) (fun c1 => ?_)
        · rw [if_pos c1] at hf
          refine lv_aload_n hx hb dX12_minutePasses_117 rfl (lv_at hl 0 rfl) ?_
          refine w_get (k := 0) (v := .ref (b + 1)) hx hb hw hown hE fl_X12_7 hM (by decide) rfl rfl rfl dX12_minutePasses_118 ?_
          refine lv_iconst (v := 1) hx hb dX12_minutePasses_121 (by decide) ?_
          refine lv_dup2_11 hx hb dX12_minutePasses_122 rfl rfl ?_
          refine w_iald (k := 1) (x9 := 1) hx hb hE hM (by decide) rfl (by decide) (by decide) dX12_minutePasses_123 ?_
          refine lv_iconst (v := 1) hx hb dX12_minutePasses_124 (by decide) ?_
          refine lv_iadd hx hb dX12_minutePasses_125 ?_
          refine w_iast (k := 1) (x9 := 1) (x := ((z.2.2.2.2.2 1 1) + 1)) hx hb hE hM (by decide) rfl (by decide) (by decide) hS (iv_mem (by decide)) dX12_minutePasses_126 (fun H locs hM _ hu hS => ?_)
          refine lv_iconst (v := 0) hx hb dX12_minutePasses_127 (by decide) ?_
          refine lv_istore_n (lv' := [(3, .int 0), (0, .ref (b + 0)), (1, .int z.2.1), (2, .int z.2.2.1)]) hx hb dX12_minutePasses_128 rfl hl (by decide) rfl (fun ls hl => ?_)
          refine lv_iconst (v := 0) hx hb dX12_minutePasses_129 (by decide) ?_
          refine lv_istore (lv' := [(4, .int 0), (3, .int 0), (0, .ref (b + 0)), (1, .int z.2.1), (2, .int z.2.2.1)]) hx hb dX12_minutePasses_130 hl (by decide) rfl (fun ls hl => ?_)
          exact (ih (1, z.2.1, z.2.2.1, 0, 0, (up2 z.2.2.2.2.2 1 1 ((z.2.2.2.2.2 1 1) + 1))) (lp_back hy (Option.some.inj hf).symm)).2 _ _ _ rfl hM hS (lv_sub hl [2, 3, 4, 1, 0] rfl)
        · rw [if_neg c1] at hf
          refine lv_aload_n hx hb dX12_minutePasses_16 rfl (lv_at hl 0 rfl) ?_
          refine lv_iload_n hx hb dX12_minutePasses_17 rfl (lv_at hl 3 rfl) ?_
          obtain ⟨z2, hc3, hf⟩ := br_some hf
          refine mu_cV (As := [.int z.2.2.2.1]) (rest := []) hx hb hml hown hts hE (mX12_receives l E B0 b (by omega) z.2.2.2.2.2 z.2.2.2.1 z2 hc3) cv_X12_184 (w_recv (k := 0) (ci := 12) hE hM (by decide) rfl rfl) hM hS hAB (fun _ h => h.elim) rfl hl.1 rfl (by decide) (Nat.le_of_ble_eq_true rfl) ⟨Nat.le_refl _, Nat.le_refl _⟩ dX12_minutePasses_18 (fun H locs hM _ hu hS => ?_)
          refine lv_if_eq (tgt := 43) hx hb dX12_minutePasses_21 (by decide) (fun c4 => ?_) (fun c4 => ?_)
          · rw [if_pos c4] at hf
            refine lv_aload_n hx hb dX12_minutePasses_43 rfl (lv_at hl 0 rfl) ?_
            refine lv_iload_n hx hb dX12_minutePasses_44 rfl (lv_at hl 3 rfl) ?_
            refine lv_bipush (v := 6) hx hb dX12_minutePasses_45 (by decide) ?_
            obtain ⟨z5, hc6, hf⟩ := br_some hf
            refine mu_cV (As := [.int z.2.2.2.1, .int 6]) (rest := []) hx hb hml hown hts hE (mX12_t l E B0 b (by omega) z.2.2.2.2.2 z.2.2.2.1 (6 : Int32) z5 hc6) cv_X12_80 (w_recv (k := 0) (ci := 12) hE hM (by decide) rfl rfl) hM hS hAB (fun _ h => h.elim) rfl hl.1 rfl (by decide) (Nat.le_of_ble_eq_true rfl) ⟨Nat.le_refl _, Nat.le_refl _⟩ dX12_minutePasses_47 (fun H locs hM _ hu hS => ?_)
            refine lv_iconst (v := 1) hx hb dX12_minutePasses_50 (by decide) ?_
            refine lv_icmp_eq (tgt := 57) hx hb dX12_minutePasses_51 (by decide) (fun c7 => ?_) (fun c7 => ?_)
            · rw [if_pos c7] at hf
              refine lv_aload_n hx hb dX12_minutePasses_57 rfl (lv_at hl 0 rfl) ?_
              refine lv_iload_n hx hb dX12_minutePasses_58 rfl (lv_at hl 3 rfl) ?_
              refine lv_bipush (v := 9) hx hb dX12_minutePasses_59 (by decide) ?_
              refine lv_aload_n hx hb dX12_minutePasses_61 rfl (lv_at hl 0 rfl) ?_
              refine lv_iload_n hx hb dX12_minutePasses_62 rfl (lv_at hl 3 rfl) ?_
              refine lv_bipush (v := 9) hx hb dX12_minutePasses_63 (by decide) ?_
              obtain ⟨z8, hc9, hf⟩ := br_some hf
              refine mu_cV (As := [.int z.2.2.2.1, .int 9]) (rest := [.int 9, .int z.2.2.2.1, .ref (b + 0)]) hx hb hml hown hts hE (mX12_t l E B0 b (by omega) z.2.2.2.2.2 z.2.2.2.1 (9 : Int32) z8 hc9) cv_X12_80 (w_recv (k := 0) (ci := 12) hE hM (by decide) rfl rfl) hM hS hAB (fun _ h => h.elim) rfl hl.1 rfl (by decide) (Nat.le_of_ble_eq_true rfl) ⟨Nat.le_refl _, Nat.le_refl _⟩ dX12_minutePasses_65 (fun H locs hM _ hu hS => ?_)
              refine lv_iconst (v := 1) hx hb dX12_minutePasses_68 (by decide) ?_
              refine lv_iadd hx hb dX12_minutePasses_69 ?_
              obtain ⟨z10, hc11, hf⟩ := br_some hf
              refine mu_cV (As := [.int z.2.2.2.1, .int 9, .int (z8 + 1)]) (rest := []) hx hb hml hown hts hE (mX12_set l E B0 b (by omega) z.2.2.2.2.2 z.2.2.2.1 (9 : Int32) (z8 + 1) z10 hc11) cv_X12_108 (w_recv (k := 0) (ci := 12) hE hM (by decide) rfl rfl) hM hS hAB (fun _ h => h) rfl hl.1 rfl (by decide) (Nat.le_of_ble_eq_true rfl) ⟨Nat.le_refl _, Nat.le_refl _⟩ dX12_minutePasses_70 (fun H locs hM _ hu hS => ?_)
              refine lv_aload_n hx hb dX12_minutePasses_73 rfl (lv_at hl 0 rfl) ?_
              refine lv_iload_n hx hb dX12_minutePasses_74 rfl (lv_at hl 3 rfl) ?_
              refine lv_bipush (v := 8) hx hb dX12_minutePasses_75 (by decide) ?_
              refine lv_aload_n hx hb dX12_minutePasses_77 rfl (lv_at hl 0 rfl) ?_
              refine lv_iload_n hx hb dX12_minutePasses_78 rfl (lv_at hl 3 rfl) ?_
              refine lv_bipush (v := 8) hx hb dX12_minutePasses_79 (by decide) ?_
              obtain ⟨z12, hc13, hf⟩ := br_some hf
              refine mu_cV (As := [.int z.2.2.2.1, .int 8]) (rest := [.int 8, .int z.2.2.2.1, .ref (b + 0)]) hx hb hml hown hts hE (mX12_t l E B0 b (by omega) z10 z.2.2.2.1 (8 : Int32) z12 hc13) cv_X12_80 (w_recv (k := 0) (ci := 12) hE hM (by decide) rfl rfl) hM hS hAB (fun _ h => h.elim) rfl hl.1 rfl (by decide) (Nat.le_of_ble_eq_true rfl) ⟨Nat.le_refl _, Nat.le_refl _⟩ dX12_minutePasses_81 (fun H locs hM _ hu hS => ?_)
              refine lv_iconst (v := 1) hx hb dX12_minutePasses_84 (by decide) ?_
              refine lv_iadd hx hb dX12_minutePasses_85 ?_
              obtain ⟨z14, hc15, hf⟩ := br_some hf
              refine mu_cV (As := [.int z.2.2.2.1, .int 8, .int (z12 + 1)]) (rest := []) hx hb hml hown hts hE (mX12_set l E B0 b (by omega) z10 z.2.2.2.1 (8 : Int32) (z12 + 1) z14 hc15) cv_X12_108 (w_recv (k := 0) (ci := 12) hE hM (by decide) rfl rfl) hM hS hAB (fun _ h => h) rfl hl.1 rfl (by decide) (Nat.le_of_ble_eq_true rfl) ⟨Nat.le_refl _, Nat.le_refl _⟩ dX12_minutePasses_86 (fun H locs hM _ hu hS => ?_)
              refine lv_aload_n hx hb dX12_minutePasses_89 rfl (lv_at hl 0 rfl) ?_
              refine lv_iload_n hx hb dX12_minutePasses_90 rfl (lv_at hl 3 rfl) ?_
              refine lv_bipush (v := 8) hx hb dX12_minutePasses_91 (by decide) ?_
              obtain ⟨z16, hc17, hf⟩ := br_some hf
              refine mu_cV (As := [.int z.2.2.2.1, .int 8]) (rest := []) hx hb hml hown hts hE (mX12_t l E B0 b (by omega) z14 z.2.2.2.1 (8 : Int32) z16 hc17) cv_X12_80 (w_recv (k := 0) (ci := 12) hE hM (by decide) rfl rfl) hM hS hAB (fun _ h => h.elim) rfl hl.1 rfl (by decide) (Nat.le_of_ble_eq_true rfl) ⟨Nat.le_refl _, Nat.le_refl _⟩ dX12_minutePasses_93 (fun H locs hM _ hu hS => ?_)
              refine lv_aload_n hx hb dX12_minutePasses_96 rfl (lv_at hl 0 rfl) ?_
              refine w_get (k := 0) (v := .ref (b + 1)) hx hb hw hown hE fl_X12_7 hM (by decide) rfl rfl rfl dX12_minutePasses_97 ?_
              refine lv_iconst (v := 2) hx hb dX12_minutePasses_100 (by decide) ?_
              refine w_iald (k := 1) (x9 := 2) hx hb hE hM (by decide) rfl (by decide) (by decide) dX12_minutePasses_101 ?_
              refine lv_icmp_lt (tgt := 111) hx hb dX12_minutePasses_102 (by decide) (fun c18 => ?_) (fun c18 => ?_)
              · rw [if_pos c18] at hf
                refine lv_iinc (v := (z.2.2.2.1 + 1)) (lv' := [(3, .int (z.2.2.2.1 + 1)), (0, .ref (b + 0)), (1, .int z.2.1), (2, .int z.2.2.1)]) hx hb dX12_minutePasses_111 hl (k := 3) rfl rfl (by decide) rfl (fun ls hl => ?_)
                refine lv_goto (tgt := 6) hx hb dX12_minutePasses_114 (by decide) ?_
                exact (ih (0, z.2.1, z.2.2.1, (z.2.2.2.1 + 1), 0, z14) (lp_back hy (Option.some.inj hf).symm)).1 _ _ _ rfl hM hS (lv_sub hl [1, 2, 3, 0] rfl)
              · rw [if_neg c18] at hf
                refine lv_iload_n hx hb dX12_minutePasses_105 rfl (lv_at hl 2 rfl) ?_
                refine lv_iconst (v := 1) hx hb dX12_minutePasses_106 (by decide) ?_
                refine lv_iload_n hx hb dX12_minutePasses_107 rfl (lv_at hl 3 rfl) ?_
                refine lv_ishl hx hb dX12_minutePasses_108 ?_
                refine lv_ior hx hb dX12_minutePasses_109 ?_
                refine lv_istore_n (lv' := [(2, .int (z.2.2.1 ||| ((1 : Int32) <<< (z.2.2.2.1 &&& 31)))), (0, .ref (b + 0)), (1, .int z.2.1), (3, .int z.2.2.2.1)]) hx hb dX12_minutePasses_110 rfl hl (by decide) rfl (fun ls hl => ?_)
                refine lv_iinc (v := (z.2.2.2.1 + 1)) (lv' := [(3, .int (z.2.2.2.1 + 1)), (2, .int (z.2.2.1 ||| ((1 : Int32) <<< (z.2.2.2.1 &&& 31)))), (0, .ref (b + 0)), (1, .int z.2.1)]) hx hb dX12_minutePasses_111 hl (k := 3) rfl rfl (by decide) rfl (fun ls hl => ?_)
                refine lv_goto (tgt := 6) hx hb dX12_minutePasses_114 (by decide) ?_
                exact (ih (0, z.2.1, (z.2.2.1 ||| ((1 : Int32) <<< (z.2.2.2.1 &&& 31))), (z.2.2.2.1 + 1), 0, z14) (lp_back hy (Option.some.inj hf).symm)).1 _ _ _ rfl hM hS (lv_sub hl [2, 3, 1, 0] rfl)
            · rw [if_neg c7] at hf
              refine lv_goto (tgt := 111) hx hb dX12_minutePasses_54 (by decide) ?_
              refine lv_iinc (v := (z.2.2.2.1 + 1)) (lv' := [(3, .int (z.2.2.2.1 + 1)), (0, .ref (b + 0)), (1, .int z.2.1), (2, .int z.2.2.1)]) hx hb dX12_minutePasses_111 hl (k := 3) rfl rfl (by decide) rfl (fun ls hl => ?_)
              refine lv_goto (tgt := 6) hx hb dX12_minutePasses_114 (by decide) ?_
              exact (ih (0, z.2.1, z.2.2.1, (z.2.2.2.1 + 1), 0, z.2.2.2.2.2) (lp_back hy (Option.some.inj hf).symm)).1 _ _ _ rfl hM hS (lv_sub hl [1, 2, 3, 0] rfl)
          · rw [if_neg c4] at hf
            refine lv_aload_n hx hb dX12_minutePasses_24 rfl (lv_at hl 0 rfl) ?_
            refine lv_iload_n hx hb dX12_minutePasses_25 rfl (lv_at hl 3 rfl) ?_
            refine lv_bipush (v := 10) hx hb dX12_minutePasses_26 (by decide) ?_
            refine lv_aload_n hx hb dX12_minutePasses_28 rfl (lv_at hl 0 rfl) ?_
            refine lv_iload_n hx hb dX12_minutePasses_29 rfl (lv_at hl 3 rfl) ?_
            refine lv_bipush (v := 10) hx hb dX12_minutePasses_30 (by decide) ?_
            obtain ⟨z19, hc20, hf⟩ := br_some hf
            refine mu_cV (As := [.int z.2.2.2.1, .int 10]) (rest := [.int 10, .int z.2.2.2.1, .ref (b + 0)]) hx hb hml hown hts hE (mX12_t l E B0 b (by omega) z.2.2.2.2.2 z.2.2.2.1 (10 : Int32) z19 hc20) cv_X12_80 (w_recv (k := 0) (ci := 12) hE hM (by decide) rfl rfl) hM hS hAB (fun _ h => h.elim) rfl hl.1 rfl (by decide) (Nat.le_of_ble_eq_true rfl) ⟨Nat.le_refl _, Nat.le_refl _⟩ dX12_minutePasses_32 (fun H locs hM _ hu hS => ?_)
            refine lv_iconst (v := 1) hx hb dX12_minutePasses_35 (by decide) ?_
            refine lv_iadd hx hb dX12_minutePasses_36 ?_
            obtain ⟨z21, hc22, hf⟩ := br_some hf
            refine mu_cV (As := [.int z.2.2.2.1, .int 10, .int (z19 + 1)]) (rest := []) hx hb hml hown hts hE (mX12_set l E B0 b (by omega) z.2.2.2.2.2 z.2.2.2.1 (10 : Int32) (z19 + 1) z21 hc22) cv_X12_108 (w_recv (k := 0) (ci := 12) hE hM (by decide) rfl rfl) hM hS hAB (fun _ h => h) rfl hl.1 rfl (by decide) (Nat.le_of_ble_eq_true rfl) ⟨Nat.le_refl _, Nat.le_refl _⟩ dX12_minutePasses_37 (fun H locs hM _ hu hS => ?_)
            refine lv_iinc (v := (z.2.1 + 1)) (lv' := [(1, .int (z.2.1 + 1)), (0, .ref (b + 0)), (2, .int z.2.2.1), (3, .int z.2.2.2.1)]) hx hb dX12_minutePasses_40 hl (k := 1) rfl rfl (by decide) rfl (fun ls hl => ?_)
            refine lv_aload_n hx hb dX12_minutePasses_43 rfl (lv_at hl 1 rfl) ?_
            refine lv_iload_n hx hb dX12_minutePasses_44 rfl (lv_at hl 3 rfl) ?_
            refine lv_bipush (v := 6) hx hb dX12_minutePasses_45 (by decide) ?_
            obtain ⟨z23, hc24, hf⟩ := br_some hf
            refine mu_cV (As := [.int z.2.2.2.1, .int 6]) (rest := []) hx hb hml hown hts hE (mX12_t l E B0 b (by omega) z21 z.2.2.2.1 (6 : Int32) z23 hc24) cv_X12_80 (w_recv (k := 0) (ci := 12) hE hM (by decide) rfl rfl) hM hS hAB (fun _ h => h.elim) rfl hl.1 rfl (by decide) (Nat.le_of_ble_eq_true rfl) ⟨Nat.le_refl _, Nat.le_refl _⟩ dX12_minutePasses_47 (fun H locs hM _ hu hS => ?_)
            refine lv_iconst (v := 1) hx hb dX12_minutePasses_50 (by decide) ?_
            refine lv_icmp_eq (tgt := 57) hx hb dX12_minutePasses_51 (by decide) (fun c25 => ?_) (fun c25 => ?_)
            · rw [if_pos c25] at hf
              refine lv_aload_n hx hb dX12_minutePasses_57 rfl (lv_at hl 1 rfl) ?_
              refine lv_iload_n hx hb dX12_minutePasses_58 rfl (lv_at hl 3 rfl) ?_
              refine lv_bipush (v := 9) hx hb dX12_minutePasses_59 (by decide) ?_
              refine lv_aload_n hx hb dX12_minutePasses_61 rfl (lv_at hl 1 rfl) ?_
              refine lv_iload_n hx hb dX12_minutePasses_62 rfl (lv_at hl 3 rfl) ?_
              refine lv_bipush (v := 9) hx hb dX12_minutePasses_63 (by decide) ?_
              obtain ⟨z26, hc27, hf⟩ := br_some hf
              refine mu_cV (As := [.int z.2.2.2.1, .int 9]) (rest := [.int 9, .int z.2.2.2.1, .ref (b + 0)]) hx hb hml hown hts hE (mX12_t l E B0 b (by omega) z21 z.2.2.2.1 (9 : Int32) z26 hc27) cv_X12_80 (w_recv (k := 0) (ci := 12) hE hM (by decide) rfl rfl) hM hS hAB (fun _ h => h.elim) rfl hl.1 rfl (by decide) (Nat.le_of_ble_eq_true rfl) ⟨Nat.le_refl _, Nat.le_refl _⟩ dX12_minutePasses_65 (fun H locs hM _ hu hS => ?_)
              refine lv_iconst (v := 1) hx hb dX12_minutePasses_68 (by decide) ?_
              refine lv_iadd hx hb dX12_minutePasses_69 ?_
              obtain ⟨z28, hc29, hf⟩ := br_some hf
              refine mu_cV (As := [.int z.2.2.2.1, .int 9, .int (z26 + 1)]) (rest := []) hx hb hml hown hts hE (mX12_set l E B0 b (by omega) z21 z.2.2.2.1 (9 : Int32) (z26 + 1) z28 hc29) cv_X12_108 (w_recv (k := 0) (ci := 12) hE hM (by decide) rfl rfl) hM hS hAB (fun _ h => h) rfl hl.1 rfl (by decide) (Nat.le_of_ble_eq_true rfl) ⟨Nat.le_refl _, Nat.le_refl _⟩ dX12_minutePasses_70 (fun H locs hM _ hu hS => ?_)
              refine lv_aload_n hx hb dX12_minutePasses_73 rfl (lv_at hl 1 rfl) ?_
              refine lv_iload_n hx hb dX12_minutePasses_74 rfl (lv_at hl 3 rfl) ?_
              refine lv_bipush (v := 8) hx hb dX12_minutePasses_75 (by decide) ?_
              refine lv_aload_n hx hb dX12_minutePasses_77 rfl (lv_at hl 1 rfl) ?_
              refine lv_iload_n hx hb dX12_minutePasses_78 rfl (lv_at hl 3 rfl) ?_
              refine lv_bipush (v := 8) hx hb dX12_minutePasses_79 (by decide) ?_
              obtain ⟨z30, hc31, hf⟩ := br_some hf
              refine mu_cV (As := [.int z.2.2.2.1, .int 8]) (rest := [.int 8, .int z.2.2.2.1, .ref (b + 0)]) hx hb hml hown hts hE (mX12_t l E B0 b (by omega) z28 z.2.2.2.1 (8 : Int32) z30 hc31) cv_X12_80 (w_recv (k := 0) (ci := 12) hE hM (by decide) rfl rfl) hM hS hAB (fun _ h => h.elim) rfl hl.1 rfl (by decide) (Nat.le_of_ble_eq_true rfl) ⟨Nat.le_refl _, Nat.le_refl _⟩ dX12_minutePasses_81 (fun H locs hM _ hu hS => ?_)
              refine lv_iconst (v := 1) hx hb dX12_minutePasses_84 (by decide) ?_
              refine lv_iadd hx hb dX12_minutePasses_85 ?_
              obtain ⟨z32, hc33, hf⟩ := br_some hf
              refine mu_cV (As := [.int z.2.2.2.1, .int 8, .int (z30 + 1)]) (rest := []) hx hb hml hown hts hE (mX12_set l E B0 b (by omega) z28 z.2.2.2.1 (8 : Int32) (z30 + 1) z32 hc33) cv_X12_108 (w_recv (k := 0) (ci := 12) hE hM (by decide) rfl rfl) hM hS hAB (fun _ h => h) rfl hl.1 rfl (by decide) (Nat.le_of_ble_eq_true rfl) ⟨Nat.le_refl _, Nat.le_refl _⟩ dX12_minutePasses_86 (fun H locs hM _ hu hS => ?_)
              refine lv_aload_n hx hb dX12_minutePasses_89 rfl (lv_at hl 1 rfl) ?_
              refine lv_iload_n hx hb dX12_minutePasses_90 rfl (lv_at hl 3 rfl) ?_
              refine lv_bipush (v := 8) hx hb dX12_minutePasses_91 (by decide) ?_
              obtain ⟨z34, hc35, hf⟩ := br_some hf
              refine mu_cV (As := [.int z.2.2.2.1, .int 8]) (rest := []) hx hb hml hown hts hE (mX12_t l E B0 b (by omega) z32 z.2.2.2.1 (8 : Int32) z34 hc35) cv_X12_80 (w_recv (k := 0) (ci := 12) hE hM (by decide) rfl rfl) hM hS hAB (fun _ h => h.elim) rfl hl.1 rfl (by decide) (Nat.le_of_ble_eq_true rfl) ⟨Nat.le_refl _, Nat.le_refl _⟩ dX12_minutePasses_93 (fun H locs hM _ hu hS => ?_)
              refine lv_aload_n hx hb dX12_minutePasses_96 rfl (lv_at hl 1 rfl) ?_
              refine w_get (k := 0) (v := .ref (b + 1)) hx hb hw hown hE fl_X12_7 hM (by decide) rfl rfl rfl dX12_minutePasses_97 ?_
              refine lv_iconst (v := 2) hx hb dX12_minutePasses_100 (by decide) ?_
              refine w_iald (k := 1) (x9 := 2) hx hb hE hM (by decide) rfl (by decide) (by decide) dX12_minutePasses_101 ?_
              refine lv_icmp_lt (tgt := 111) hx hb dX12_minutePasses_102 (by decide) (fun c36 => ?_) (fun c36 => ?_)
              · rw [if_pos c36] at hf
                refine lv_iinc (v := (z.2.2.2.1 + 1)) (lv' := [(3, .int (z.2.2.2.1 + 1)), (1, .int (z.2.1 + 1)), (0, .ref (b + 0)), (2, .int z.2.2.1)]) hx hb dX12_minutePasses_111 hl (k := 3) rfl rfl (by decide) rfl (fun ls hl => ?_)
                refine lv_goto (tgt := 6) hx hb dX12_minutePasses_114 (by decide) ?_
                exact (ih (0, (z.2.1 + 1), z.2.2.1, (z.2.2.2.1 + 1), 0, z32) (lp_back hy (Option.some.inj hf).symm)).1 _ _ _ rfl hM hS (lv_sub hl [2, 1, 3, 0] rfl)
              · rw [if_neg c36] at hf
                refine lv_iload_n hx hb dX12_minutePasses_105 rfl (lv_at hl 2 rfl) ?_
                refine lv_iconst (v := 1) hx hb dX12_minutePasses_106 (by decide) ?_
                refine lv_iload_n hx hb dX12_minutePasses_107 rfl (lv_at hl 3 rfl) ?_
                refine lv_ishl hx hb dX12_minutePasses_108 ?_
                refine lv_ior hx hb dX12_minutePasses_109 ?_
                refine lv_istore_n (lv' := [(2, .int (z.2.2.1 ||| ((1 : Int32) <<< (z.2.2.2.1 &&& 31)))), (1, .int (z.2.1 + 1)), (0, .ref (b + 0)), (3, .int z.2.2.2.1)]) hx hb dX12_minutePasses_110 rfl hl (by decide) rfl (fun ls hl => ?_)
                refine lv_iinc (v := (z.2.2.2.1 + 1)) (lv' := [(3, .int (z.2.2.2.1 + 1)), (2, .int (z.2.2.1 ||| ((1 : Int32) <<< (z.2.2.2.1 &&& 31)))), (1, .int (z.2.1 + 1)), (0, .ref (b + 0))]) hx hb dX12_minutePasses_111 hl (k := 3) rfl rfl (by decide) rfl (fun ls hl => ?_)
                refine lv_goto (tgt := 6) hx hb dX12_minutePasses_114 (by decide) ?_
                exact (ih (0, (z.2.1 + 1), (z.2.2.1 ||| ((1 : Int32) <<< (z.2.2.2.1 &&& 31))), (z.2.2.2.1 + 1), 0, z32) (lp_back hy (Option.some.inj hf).symm)).1 _ _ _ rfl hM hS (lv_sub hl [3, 2, 1, 0] rfl)
            · rw [if_neg c25] at hf
              refine lv_goto (tgt := 111) hx hb dX12_minutePasses_54 (by decide) ?_
              refine lv_iinc (v := (z.2.2.2.1 + 1)) (lv' := [(3, .int (z.2.2.2.1 + 1)), (1, .int (z.2.1 + 1)), (0, .ref (b + 0)), (2, .int z.2.2.1)]) hx hb dX12_minutePasses_111 hl (k := 3) rfl rfl (by decide) rfl (fun ls hl => ?_)
              refine lv_goto (tgt := 6) hx hb dX12_minutePasses_114 (by decide) ?_
              exact (ih (0, (z.2.1 + 1), z.2.2.1, (z.2.2.2.1 + 1), 0, z21) (lp_back hy (Option.some.inj hf).symm)).1 _ _ _ rfl hM hS (lv_sub hl [2, 1, 3, 0] rfl)
      · intro H locs ls hz hM hS hl
        unfold fX12_minutePasses_s at hf
        rw [if_neg (by rw [hz]; decide)] at hf
        refine lv_iload hx hb dX12_minutePasses_132 (lv_at hl 4 rfl) ?_
        refine lv_aload_n hx hb dX12_minutePasses_134 rfl (lv_at hl 0 rfl) ?_
        refine w_get (k := 0) (v := .ref (b + 1)) hx hb hw hown hE fl_X12_7 hM (by decide) rfl rfl rfl dX12_minutePasses_135 ?_
        refine lv_iconst (v := 0) hx hb dX12_minutePasses_138 (by decide) ?_
        refine w_iald (k := 1) (x9 := 0) hx hb hE hM (by decide) rfl (by decide) (by decide) dX12_minutePasses_139 ?_
        refine lv_icmp_ge (tgt := 166) hx hb dX12_minutePasses_140 (by decide) (fun c37 => ?_) (fun c37 => ?_)
        · rw [if_pos c37] at hf
          refine lv_iload_n hx hb dX12_minutePasses_166 rfl (lv_at hl 1 rfl) ?_
          have hre := lp_end hy (Option.some.inj hf).symm
          subst hre
          exact mu_i (v := z.2.1) hx hb hrt hlocks hM hS dX12_minutePasses_167
        · rw [if_neg c37] at hf
          refine lv_iload_n hx hb dX12_minutePasses_143 rfl (lv_at hl 2 rfl) ?_
          refine lv_iload hx hb dX12_minutePasses_144 (lv_at hl 4 rfl) ?_
          refine lv_ishr hx hb dX12_minutePasses_146 ?_
          refine lv_iconst (v := 1) hx hb dX12_minutePasses_147 (by decide) ?_
          refine lv_iand hx hb dX12_minutePasses_148 ?_
          refine lv_iconst (v := 1) hx hb dX12_minutePasses_149 (by decide) ?_
          refine lv_icmp_ne (tgt := 160) hx hb dX12_minutePasses_150 (by decide) (fun c38 => ?_) (fun c38 => ?_)
          · rw [if_neg c38] at hf
            refine lv_iinc (v := (z.2.2.2.2.1 + 1)) (lv' := [(4, .int (z.2.2.2.2.1 + 1)), (0, .ref (b + 0)), (1, .int z.2.1), (2, .int z.2.2.1), (3, .int z.2.2.2.1)]) hx hb dX12_minutePasses_160 hl (k := 4) rfl rfl (by decide) rfl (fun ls hl => ?_)
            refine lv_goto (tgt := 132) hx hb dX12_minutePasses_163 (by decide) ?_
            exact (ih (1, z.2.1, z.2.2.1, z.2.2.2.1, (z.2.2.2.2.1 + 1), z.2.2.2.2.2) (lp_back hy (Option.some.inj hf).symm)).2 _ _ _ rfl hM hS (lv_sub hl [1, 2, 3, 4, 0] rfl)
          · rw [if_pos c38] at hf
            refine lv_aload_n hx hb dX12_minutePasses_153 rfl (lv_at hl 0 rfl) ?_
            refine lv_iload hx hb dX12_minutePasses_154 (lv_at hl 4 rfl) ?_
            obtain ⟨z39, hc40, hf⟩ := br_some hf
            refine mu_cV (As := [.int z.2.2.2.2.1]) (rest := []) hx hb hml hown hts hE (mX12_ends l E B0 b (by omega) z.2.2.2.2.2 z.2.2.2.2.1 z39 hc40) cv_X12_169 (w_recv (k := 0) (ci := 12) hE hM (by decide) rfl rfl) hM hS hAB (fun _ h => h) rfl hl.1 rfl (by decide) (Nat.le_of_ble_eq_true rfl) ⟨Nat.le_refl _, Nat.le_refl _⟩ dX12_minutePasses_156 (fun H locs hM _ hu hS => ?_)
            refine lv_istore_n (lv' := [(3, .int z39.1), (0, .ref (b + 0)), (1, .int z.2.1), (2, .int z.2.2.1), (4, .int z.2.2.2.2.1)]) hx hb dX12_minutePasses_159 rfl hl (by decide) rfl (fun ls hl => ?_)
            refine lv_iinc (v := (z.2.2.2.2.1 + 1)) (lv' := [(4, .int (z.2.2.2.2.1 + 1)), (3, .int z39.1), (0, .ref (b + 0)), (1, .int z.2.1), (2, .int z.2.2.1)]) hx hb dX12_minutePasses_160 hl (k := 4) rfl rfl (by decide) rfl (fun ls hl => ?_)
            refine lv_goto (tgt := 132) hx hb dX12_minutePasses_163 (by decide) ?_
            exact (ih (1, z.2.1, z.2.2.1, z39.1, (z.2.2.2.2.1 + 1), z39.2) (lp_back hy (Option.some.inj hf).symm)).2 _ _ _ rfl hM hS (lv_sub hl [2, 3, 4, 1, 0] rfl)
  refine lv_iconst (v := 0) hx hb dX12_minutePasses_0 (by decide) ?_
  refine lv_istore_n (lv' := [(1, .int 0), (0, .ref (b + 0))]) hx hb dX12_minutePasses_1 rfl hl (by decide) rfl (fun ls hl => ?_)
  refine lv_iconst (v := 0) hx hb dX12_minutePasses_2 (by decide) ?_
  refine lv_istore_n (lv' := [(2, .int 0), (1, .int 0), (0, .ref (b + 0))]) hx hb dX12_minutePasses_3 rfl hl (by decide) rfl (fun ls hl => ?_)
  refine lv_iconst (v := 0) hx hb dX12_minutePasses_4 (by decide) ?_
  refine lv_istore_n (lv' := [(3, .int 0), (2, .int 0), (1, .int 0), (0, .ref (b + 0))]) hx hb dX12_minutePasses_5 rfl hl (by decide) rfl (fun ls hl => ?_)
  obtain ⟨fu, hfu⟩ := lp_some hf
  exact (loop fu (0, 0, 0, 0, 0, M) hfu).1 _ _ _ rfl hM hS (lv_sub hl [3, 2, 1, 0] rfl)
noncomputable def fX12_passes_s (a1 : Int32) (z : Int32 × Int32 × Mem) : Option ((Int32 × Int32 × Mem) ⊕ (Int32 × Mem)) := (if a1 ≤ z.2.1 then some (.inr (z.1, z.2.2)) else (fX12_minutePasses z.2.2).bind fun z2 => some (.inl ((z.1 + z2.1), (z.2.1 + 1), z2.2)))
noncomputable def fX12_passes (M : Mem) (a1 : Int32) : Option (Int32 × Mem) := lp (fX12_passes_s a1) (0, 0, M)
set_option maxHeartbeats 4000000 in
set_option maxRecDepth 100000 in
theorem mX12_passes (l : Launch) (E : EP) (B0 : Nat) (b : Nat) (hb0 : B0 ≤ b) (M : Mem) (a1 : Int32) (r : Int32 × Mem) (hf : fX12_passes M a1 = some r) : MU l E B0 yX12_passes cX12_passes 4 (some .int) 6 0 0 [.ref (b + 0), .int a1] (Blk E b modSh 10 M) (some (.int r.1)) (Blk E b modSh 10 r.2) (iv b 10) := by
  refine mu_of (by decide +kernel) (Nat.le_of_ble_eq_true rfl) ?_
  intro p e s m args below meth c hx hb hml hown hts hrt hlocks hE H hM hS ls hl
  have hown : s.vm.findClass RX12 = some m.cls := hown
  have hl : lv_has ls 4 [(0, .ref (b + 0)), (1, .int a1)] := hl
  have hw : ∀ w ∈ WA, w.before args s = true := fun w h => hts w (List.mem_cons_of_mem _ h)
  have hAB : ∀ q, (iv b 10) q → B0 ≤ q := (iv_ge (by omega))
  unfold fX12_passes at hf
  have loop : ∀ (fu : Nat) (z : Int32 × Int32 × Mem), lpI (fX12_passes_s a1) fu z = some r → (∀ (H : Heap) (locs : List Loc) (ls : Array Slot), Blk E b modSh 10 z.2.2 H → va_S (iv b 10) s.heap H locs → lv_has ls 4 [(0, .ref (b + 0)), (1, .int a1), (2, .int z.1), (3, .int z.2.1)] → W p l e (rmD 6 0 0) s m args below meth c H locs 0 0 (MQ below (QU (some (.int r.1)) (Blk E b modSh 10 r.2) (iv b 10)) args s 0 0 (iv b 10)) (F0 m 4 ls [])) := by
    intro fu
    induction fu with
    | zero =>
      intro z hn
      exact nomatch hn
    | succ fu ih =>
      intro z hn
      obtain ⟨y, hf, hy⟩ := lpI_succ hn
      intro H locs ls hM hS hl
      unfold fX12_passes_s at hf
      refine lv_iload_n hx hb dX12_passes_4 rfl (lv_at hl 3 rfl) ?_
      refine lv_iload_n hx hb dX12_passes_5 rfl (lv_at hl 1 rfl) ?_
      refine lv_icmp_ge (tgt := 22) hx hb dX12_passes_6 (by decide) (fun c1 => ?_) (fun c1 => ?_)
      · rw [if_pos c1] at hf
        refine lv_iload_n hx hb dX12_passes_22 rfl (lv_at hl 2 rfl) ?_
        have hre := lp_end hy (Option.some.inj hf).symm
        subst hre
        exact mu_i (v := z.1) hx hb hrt hlocks hM hS dX12_passes_23
      · rw [if_neg c1] at hf
        refine lv_iload_n hx hb dX12_passes_9 rfl (lv_at hl 2 rfl) ?_
        refine lv_aload_n hx hb dX12_passes_10 rfl (lv_at hl 0 rfl) ?_
        obtain ⟨z2, hc3, hf⟩ := br_some hf
        refine mu_cV (As := []) (rest := [.int z.1]) hx hb hml hown hts hE (mX12_minutePasses l E B0 b (by omega) z.2.2 z2 hc3) cv_X12_187 (w_recv (k := 0) (ci := 12) hE hM (by decide) rfl rfl) hM hS hAB (fun _ h => h) rfl hl.1 rfl (by decide) (Nat.le_of_ble_eq_true rfl) ⟨Nat.le_refl _, Nat.le_refl _⟩ dX12_passes_11 (fun H locs hM _ hu hS => ?_)
        refine lv_iadd hx hb dX12_passes_14 ?_
        refine lv_istore_n (lv' := [(2, .int (z.1 + z2.1)), (0, .ref (b + 0)), (1, .int a1), (3, .int z.2.1)]) hx hb dX12_passes_15 rfl hl (by decide) rfl (fun ls hl => ?_)
        refine lv_iinc (v := (z.2.1 + 1)) (lv' := [(3, .int (z.2.1 + 1)), (2, .int (z.1 + z2.1)), (0, .ref (b + 0)), (1, .int a1)]) hx hb dX12_passes_16 hl (k := 3) rfl rfl (by decide) rfl (fun ls hl => ?_)
        refine lv_goto (tgt := 4) hx hb dX12_passes_19 (by decide) ?_
        exact ih ((z.1 + z2.1), (z.2.1 + 1), z2.2) (lp_back hy (Option.some.inj hf).symm) _ _ _ hM hS (lv_sub hl [2, 3, 1, 0] rfl)
  refine lv_iconst (v := 0) hx hb dX12_passes_0 (by decide) ?_
  refine lv_istore_n (lv' := [(2, .int 0), (0, .ref (b + 0)), (1, .int a1)]) hx hb dX12_passes_1 rfl hl (by decide) rfl (fun ls hl => ?_)
  refine lv_iconst (v := 0) hx hb dX12_passes_2 (by decide) ?_
  refine lv_istore_n (lv' := [(3, .int 0), (2, .int 0), (0, .ref (b + 0)), (1, .int a1)]) hx hb dX12_passes_3 rfl hl (by decide) rfl (fun ls hl => ?_)
  obtain ⟨fu, hfu⟩ := lp_some hf
  exact (loop fu (0, 0, M) hfu) _ _ _ hM hS (lv_sub hl [2, 3, 1, 0] rfl)
noncomputable def fX12_pass (M : Mem) (a1 : Int32) : Option (Int32 × Mem) := (fX12_begin M).bind fun z1 => (fX12_in a1 (1 : Int32) (60 : Int32)).bind fun z3 => (if z3 = 0 then (fX12_fail z1 (1 : Int32)).bind fun z6 => some (z6.1, z6.2) else (fX12_passes z1 a1).bind fun z8 => (fX12_commit z8.2 z8.1).bind fun z10 => some (z10.1, z10.2))
set_option maxHeartbeats 4000000 in
set_option maxRecDepth 100000 in
theorem mX12_pass (l : Launch) (E : EP) (B0 : Nat) (b : Nat) (hb0 : B0 ≤ b) (M : Mem) (a1 : Int32) (r : Int32 × Mem) (hf : fX12_pass M a1 = some r) : MU l E B0 yX12_pass cX12_pass 2 (some .int) 7 0 0 [.ref (b + 0), .int a1] (Blk E b modSh 10 M) (some (.int r.1)) (Blk E b modSh 10 r.2) (iv b 10) := by
  refine mu_of (by decide +kernel) (Nat.le_of_ble_eq_true rfl) ?_
  intro p e s m args below meth c hx hb hml hown hts hrt hlocks hE H hM hS ls hl
  have hown : s.vm.findClass RX12 = some m.cls := hown
  have hl : lv_has ls 2 [(0, .ref (b + 0)), (1, .int a1)] := hl
  have hw : ∀ w ∈ WA, w.before args s = true := fun w h => hts w (List.mem_cons_of_mem _ h)
  have hAB : ∀ q, (iv b 10) q → B0 ≤ q := (iv_ge (by omega))
  unfold fX12_pass at hf
  refine lv_aload_n hx hb dX12_pass_0 rfl (lv_at hl 0 rfl) ?_
  obtain ⟨z1, hc2, hf⟩ := br_some hf
  refine mu_cV (As := []) (rest := []) hx hb hml hown hts hE (mX12_begin l E B0 b (by omega) M z1 hc2) cv_X12_112 (w_recv (k := 0) (ci := 12) hE hM (by decide) rfl rfl) hM hS hAB (fun _ h => h) rfl hl.1 rfl (by decide) (Nat.le_of_ble_eq_true rfl) ⟨Nat.le_refl _, Nat.le_refl _⟩ dX12_pass_1 (fun H locs hM _ hu hS => ?_)
  refine lv_iload_n hx hb dX12_pass_4 rfl (lv_at hl 1 rfl) ?_
  refine lv_iconst (v := 1) hx hb dX12_pass_5 (by decide) ?_
  refine lv_bipush (v := 60) hx hb dX12_pass_6 (by decide) ?_
  obtain ⟨z3, hc4, hf⟩ := br_some hf
  refine mu_cS (As := [.int a1, .int 1, .int 60]) (rest := []) hx hb hml hown hts hE (mX12_in l E B0 a1 (1 : Int32) (60 : Int32) z3 hc4) cs_X12_76 trivial hS hAB (fun _ h => h.elim) rfl hl.1 rfl (by decide) (Nat.le_of_ble_eq_true rfl) ⟨Nat.le_refl _, Nat.le_refl _⟩ dX12_pass_8 (fun H locs _ _ hu hS => ?_)
  have hM := Blk.off hM hu (fun _ _ _ h => h)
  refine lv_if_eq (tgt := 26) hx hb dX12_pass_11 (by decide) (fun c5 => ?_) (fun c5 => ?_)
  · rw [if_pos c5] at hf
    refine lv_aload_n hx hb dX12_pass_26 rfl (lv_at hl 0 rfl) ?_
    refine lv_iconst (v := 1) hx hb dX12_pass_27 (by decide) ?_
    obtain ⟨z6, hc7, hf⟩ := br_some hf
    refine mu_cV (As := [.int 1]) (rest := []) hx hb hml hown hts hE (mX12_fail l E B0 b (by omega) z1 (1 : Int32) z6 hc7) cv_X12_119 (w_recv (k := 0) (ci := 12) hE hM (by decide) rfl rfl) hM hS hAB (fun _ h => h) rfl hl.1 rfl (by decide) (Nat.le_of_ble_eq_true rfl) ⟨Nat.le_refl _, Nat.le_refl _⟩ dX12_pass_28 (fun H locs hM _ hu hS => ?_)
    have hre := Option.some.inj hf
    subst hre
    exact mu_i (v := z6.1) hx hb hrt hlocks hM hS dX12_pass_31
  · rw [if_neg c5] at hf
    refine lv_aload_n hx hb dX12_pass_14 rfl (lv_at hl 0 rfl) ?_
    refine lv_aload_n hx hb dX12_pass_15 rfl (lv_at hl 0 rfl) ?_
    refine lv_iload_n hx hb dX12_pass_16 rfl (lv_at hl 1 rfl) ?_
    obtain ⟨z8, hc9, hf⟩ := br_some hf
    refine mu_cV (As := [.int a1]) (rest := [.ref (b + 0)]) hx hb hml hown hts hE (mX12_passes l E B0 b (by omega) z1 a1 z8 hc9) cv_X12_191 (w_recv (k := 0) (ci := 12) hE hM (by decide) rfl rfl) hM hS hAB (fun _ h => h) rfl hl.1 rfl (by decide) (Nat.le_of_ble_eq_true rfl) ⟨Nat.le_refl _, Nat.le_refl _⟩ dX12_pass_17 (fun H locs hM _ hu hS => ?_)
    obtain ⟨z10, hc11, hf⟩ := br_some hf
    refine mu_cV (As := [.int z8.1]) (rest := []) hx hb hml hown hts hE (mX12_commit l E B0 b (by omega) z8.2 z8.1 z10 hc11) cv_X12_125 (w_recv (k := 0) (ci := 12) hE hM (by decide) rfl rfl) hM hS hAB (fun _ h => h) rfl hl.1 rfl (by decide) (Nat.le_of_ble_eq_true rfl) ⟨Nat.le_refl _, Nat.le_refl _⟩ dX12_pass_20 (fun H locs hM _ hu hS => ?_)
    refine lv_goto (tgt := 31) hx hb dX12_pass_23 (by decide) ?_
    have hre := Option.some.inj hf
    subst hre
    exact mu_i (v := z10.1) hx hb hrt hlocks hM hS dX12_pass_31
def fX12_plain (M : Mem) (a1 : Int32) : Option (Int32 × Mem) := some (a1, (up2 M 0 4 (0 : Int32)))
set_option maxHeartbeats 4000000 in
set_option maxRecDepth 100000 in
theorem mX12_plain (l : Launch) (E : EP) (B0 : Nat) (b : Nat) (hb0 : B0 ≤ b) (M : Mem) (a1 : Int32) (r : Int32 × Mem) (hf : fX12_plain M a1 = some r) : MU l E B0 yX12_plain cX12_plain 2 (some .int) 0 0 0 [.ref (b + 0), .int a1] (Blk E b modSh 10 M) (some (.int r.1)) (Blk E b modSh 10 r.2) (iv b 10) := by
  refine mu_of (by decide +kernel) (Nat.le_of_ble_eq_true rfl) ?_
  intro p e s m args below meth c hx hb hml hown hts hrt hlocks hE H hM hS ls hl
  have hown : s.vm.findClass RX12 = some m.cls := hown
  have hl : lv_has ls 2 [(0, .ref (b + 0)), (1, .int a1)] := hl
  have hw : ∀ w ∈ WA, w.before args s = true := fun w h => hts w (List.mem_cons_of_mem _ h)
  have hAB : ∀ q, (iv b 10) q → B0 ≤ q := (iv_ge (by omega))
  unfold fX12_plain at hf
  refine lv_aload_n hx hb dX12_plain_0 rfl (lv_at hl 0 rfl) ?_
  refine lv_iconst (v := 0) hx hb dX12_plain_1 (by decide) ?_
  refine w_put (k := 0) (v := .int 0) hx hb hw hown hE fl_X12_22 fw_X12_4 hM (by decide) rfl rfl (0 : Int32) rfl rfl rfl hS (iv_mem (by decide)) dX12_plain_2 (fun H locs hM _ hu hS => ?_)
  refine lv_iload_n hx hb dX12_plain_5 rfl (lv_at hl 1 rfl) ?_
  have hre := Option.some.inj hf
  subst hre
  exact mu_i (v := a1) hx hb hrt hlocks hM hS dX12_plain_6
def fX12_ofStation (M : Mem) (a1 : Int32) (a2 : Int32) : Option (Int32 × Mem) := (fX12_isStation M a1).bind fun z1 => (if z1 = 0 then (if ((up2 M 0 4 (1 : Int32)) 0 4) ≤ 0 then (fX12_t (up2 M 0 4 (1 : Int32)) a1 a2).bind fun z5 => some (z5, (up2 M 0 4 (1 : Int32))) else some (0, (up2 M 0 4 (1 : Int32)))) else (if ((up2 M 0 4 (0 : Int32)) 0 4) ≤ 0 then (fX12_t (up2 M 0 4 (0 : Int32)) a1 a2).bind fun z8 => some (z8, (up2 M 0 4 (0 : Int32))) else some (0, (up2 M 0 4 (0 : Int32)))))
set_option maxHeartbeats 4000000 in
set_option maxRecDepth 100000 in
theorem mX12_ofStation (l : Launch) (E : EP) (B0 : Nat) (b : Nat) (hb0 : B0 ≤ b) (M : Mem) (a1 : Int32) (a2 : Int32) (r : Int32 × Mem) (hf : fX12_ofStation M a1 a2 = some r) : MU l E B0 yX12_ofStation cX12_ofStation 3 (some .int) 2 0 0 [.ref (b + 0), .int a1, .int a2] (Blk E b modSh 10 M) (some (.int r.1)) (Blk E b modSh 10 r.2) (iv b 10) := by
  refine mu_of (by decide +kernel) (Nat.le_of_ble_eq_true rfl) ?_
  intro p e s m args below meth c hx hb hml hown hts hrt hlocks hE H hM hS ls hl
  have hown : s.vm.findClass RX12 = some m.cls := hown
  have hl : lv_has ls 3 [(0, .ref (b + 0)), (1, .int a1), (2, .int a2)] := hl
  have hw : ∀ w ∈ WA, w.before args s = true := fun w h => hts w (List.mem_cons_of_mem _ h)
  have hAB : ∀ q, (iv b 10) q → B0 ≤ q := (iv_ge (by omega))
  unfold fX12_ofStation at hf
  refine lv_aload_n hx hb dX12_ofStation_0 rfl (lv_at hl 0 rfl) ?_
  refine lv_aload_n hx hb dX12_ofStation_1 rfl (lv_at hl 0 rfl) ?_
  refine lv_iload_n hx hb dX12_ofStation_2 rfl (lv_at hl 1 rfl) ?_
  obtain ⟨z1, hc2, hf⟩ := br_some hf
  refine mu_cV (As := [.int a1]) (rest := [.ref (b + 0)]) hx hb hml hown hts hE (mX12_isStation l E B0 b (by omega) M a1 z1 hc2) cv_X12_131 (w_recv (k := 0) (ci := 12) hE hM (by decide) rfl rfl) hM hS hAB (fun _ h => h.elim) rfl hl.1 rfl (by decide) (Nat.le_of_ble_eq_true rfl) ⟨Nat.le_refl _, Nat.le_refl _⟩ dX12_ofStation_3 (fun H locs hM _ hu hS => ?_)
  refine lv_if_eq (tgt := 13) hx hb dX12_ofStation_6 (by decide) (fun c3 => ?_) (fun c3 => ?_)
  · rw [if_pos c3] at hf
    refine lv_iconst (v := 1) hx hb dX12_ofStation_13 (by decide) ?_
    refine w_put (k := 0) (v := .int 1) hx hb hw hown hE fl_X12_22 fw_X12_4 hM (by decide) rfl rfl (1 : Int32) rfl rfl rfl hS (iv_mem (by decide)) dX12_ofStation_14 (fun H locs hM _ hu hS => ?_)
    refine lv_aload_n hx hb dX12_ofStation_17 rfl (lv_at hl 0 rfl) ?_
    refine w_get (k := 0) (v := .int ((up2 M 0 4 (1 : Int32)) 0 4)) hx hb hw hown hE fl_X12_22 hM (by decide) rfl rfl rfl dX12_ofStation_18 ?_
    refine lv_if_le (tgt := 28) hx hb dX12_ofStation_21 (by decide) (fun c4 => ?_) (fun c4 => ?_)
    · rw [if_pos c4] at hf
      refine lv_aload_n hx hb dX12_ofStation_28 rfl (lv_at hl 0 rfl) ?_
      refine lv_iload_n hx hb dX12_ofStation_29 rfl (lv_at hl 1 rfl) ?_
      refine lv_iload_n hx hb dX12_ofStation_30 rfl (lv_at hl 2 rfl) ?_
      obtain ⟨z5, hc6, hf⟩ := br_some hf
      refine mu_cV (As := [.int a1, .int a2]) (rest := []) hx hb hml hown hts hE (mX12_t l E B0 b (by omega) (up2 M 0 4 (1 : Int32)) a1 a2 z5 hc6) cv_X12_80 (w_recv (k := 0) (ci := 12) hE hM (by decide) rfl rfl) hM hS hAB (fun _ h => h.elim) rfl hl.1 rfl (by decide) (Nat.le_of_ble_eq_true rfl) ⟨Nat.le_refl _, Nat.le_refl _⟩ dX12_ofStation_31 (fun H locs hM _ hu hS => ?_)
      have hre := Option.some.inj hf
      subst hre
      exact mu_i (v := z5) hx hb hrt hlocks hM hS dX12_ofStation_34
    · rw [if_neg c4] at hf
      refine lv_iconst (v := 0) hx hb dX12_ofStation_24 (by decide) ?_
      refine lv_goto (tgt := 34) hx hb dX12_ofStation_25 (by decide) ?_
      have hre := Option.some.inj hf
      subst hre
      exact mu_i (v := 0) hx hb hrt hlocks hM hS dX12_ofStation_34
  · rw [if_neg c3] at hf
    refine lv_iconst (v := 0) hx hb dX12_ofStation_9 (by decide) ?_
    refine lv_goto (tgt := 14) hx hb dX12_ofStation_10 (by decide) ?_
    refine w_put (k := 0) (v := .int 0) hx hb hw hown hE fl_X12_22 fw_X12_4 hM (by decide) rfl rfl (0 : Int32) rfl rfl rfl hS (iv_mem (by decide)) dX12_ofStation_14 (fun H locs hM _ hu hS => ?_)
    refine lv_aload_n hx hb dX12_ofStation_17 rfl (lv_at hl 0 rfl) ?_
    refine w_get (k := 0) (v := .int ((up2 M 0 4 (0 : Int32)) 0 4)) hx hb hw hown hE fl_X12_22 hM (by decide) rfl rfl rfl dX12_ofStation_18 ?_
    refine lv_if_le (tgt := 28) hx hb dX12_ofStation_21 (by decide) (fun c7 => ?_) (fun c7 => ?_)
    · rw [if_pos c7] at hf
      refine lv_aload_n hx hb dX12_ofStation_28 rfl (lv_at hl 0 rfl) ?_
      refine lv_iload_n hx hb dX12_ofStation_29 rfl (lv_at hl 1 rfl) ?_
      refine lv_iload_n hx hb dX12_ofStation_30 rfl (lv_at hl 2 rfl) ?_
      obtain ⟨z8, hc9, hf⟩ := br_some hf
      refine mu_cV (As := [.int a1, .int a2]) (rest := []) hx hb hml hown hts hE (mX12_t l E B0 b (by omega) (up2 M 0 4 (0 : Int32)) a1 a2 z8 hc9) cv_X12_80 (w_recv (k := 0) (ci := 12) hE hM (by decide) rfl rfl) hM hS hAB (fun _ h => h.elim) rfl hl.1 rfl (by decide) (Nat.le_of_ble_eq_true rfl) ⟨Nat.le_refl _, Nat.le_refl _⟩ dX12_ofStation_31 (fun H locs hM _ hu hS => ?_)
      have hre := Option.some.inj hf
      subst hre
      exact mu_i (v := z8) hx hb hrt hlocks hM hS dX12_ofStation_34
    · rw [if_neg c7] at hf
      refine lv_iconst (v := 0) hx hb dX12_ofStation_24 (by decide) ?_
      refine lv_goto (tgt := 34) hx hb dX12_ofStation_25 (by decide) ?_
      have hre := Option.some.inj hf
      subst hre
      exact mu_i (v := 0) hx hb hrt hlocks hM hS dX12_ofStation_34
def fX12_stations (M : Mem) : Option (Int32 × Mem) := (fX12_plain M (M 1 0)).bind fun z1 => some (z1.1, z1.2)
set_option maxHeartbeats 4000000 in
set_option maxRecDepth 100000 in
theorem mX12_stations (l : Launch) (E : EP) (B0 : Nat) (b : Nat) (hb0 : B0 ≤ b) (M : Mem) (r : Int32 × Mem) (hf : fX12_stations M = some r) : MU l E B0 yX12_stations cX12_stations 1 (some .int) 1 0 0 [.ref (b + 0)] (Blk E b modSh 10 M) (some (.int r.1)) (Blk E b modSh 10 r.2) (iv b 10) := by
  refine mu_of (by decide +kernel) (Nat.le_of_ble_eq_true rfl) ?_
  intro p e s m args below meth c hx hb hml hown hts hrt hlocks hE H hM hS ls hl
  have hown : s.vm.findClass RX12 = some m.cls := hown
  have hl : lv_has ls 1 [(0, .ref (b + 0))] := hl
  have hw : ∀ w ∈ WA, w.before args s = true := fun w h => hts w (List.mem_cons_of_mem _ h)
  have hAB : ∀ q, (iv b 10) q → B0 ≤ q := (iv_ge (by omega))
  unfold fX12_stations at hf
  refine lv_aload_n hx hb dX12_stations_0 rfl (lv_at hl 0 rfl) ?_
  refine lv_aload_n hx hb dX12_stations_1 rfl (lv_at hl 0 rfl) ?_
  refine w_get (k := 0) (v := .ref (b + 1)) hx hb hw hown hE fl_X12_7 hM (by decide) rfl rfl rfl dX12_stations_2 ?_
  refine lv_iconst (v := 0) hx hb dX12_stations_5 (by decide) ?_
  refine w_iald (k := 1) (x9 := 0) hx hb hE hM (by decide) rfl (by decide) (by decide) dX12_stations_6 ?_
  obtain ⟨z1, hc2, hf⟩ := br_some hf
  refine mu_cV (As := [.int (M 1 0)]) (rest := []) hx hb hml hown hts hE (mX12_plain l E B0 b (by omega) M (M 1 0) z1 hc2) cv_X12_194 (w_recv (k := 0) (ci := 12) hE hM (by decide) rfl rfl) hM hS hAB (fun _ h => h) rfl hl.1 rfl (by decide) (Nat.le_of_ble_eq_true rfl) ⟨Nat.le_refl _, Nat.le_refl _⟩ dX12_stations_7 (fun H locs hM _ hu hS => ?_)
  have hre := Option.some.inj hf
  subst hre
  exact mu_i (v := z1.1) hx hb hrt hlocks hM hS dX12_stations_10
noncomputable def fX12_find (M : Mem) (a1 : Int32) (a2 : Int32) : Option (Int32 × Mem) := (fX12_signed (up2 M 0 4 (0 : Int32)) a1 a2).bind fun z1 => (if 0 ≤ z1 then some (z1, (up2 M 0 4 (0 : Int32))) else (fX12_fail (up2 M 0 4 (0 : Int32)) (1 : Int32)).bind fun z4 => some (z4.1, z4.2))
set_option maxHeartbeats 4000000 in
set_option maxRecDepth 100000 in
theorem mX12_find (l : Launch) (E : EP) (B0 : Nat) (b : Nat) (hb0 : B0 ≤ b) (M : Mem) (a1 : Int32) (a2 : Int32) (r : Int32 × Mem) (hf : fX12_find M a1 a2 = some r) : MU l E B0 yX12_find cX12_find 4 (some .int) 2 0 0 [.ref (b + 0), .int a1, .int a2] (Blk E b modSh 10 M) (some (.int r.1)) (Blk E b modSh 10 r.2) (iv b 10) := by
  refine mu_of (by decide +kernel) (Nat.le_of_ble_eq_true rfl) ?_
  intro p e s m args below meth c hx hb hml hown hts hrt hlocks hE H hM hS ls hl
  have hown : s.vm.findClass RX12 = some m.cls := hown
  have hl : lv_has ls 4 [(0, .ref (b + 0)), (1, .int a1), (2, .int a2)] := hl
  have hw : ∀ w ∈ WA, w.before args s = true := fun w h => hts w (List.mem_cons_of_mem _ h)
  have hAB : ∀ q, (iv b 10) q → B0 ≤ q := (iv_ge (by omega))
  unfold fX12_find at hf
  refine lv_aload_n hx hb dX12_find_0 rfl (lv_at hl 0 rfl) ?_
  refine lv_iconst (v := 0) hx hb dX12_find_1 (by decide) ?_
  refine w_put (k := 0) (v := .int 0) hx hb hw hown hE fl_X12_22 fw_X12_4 hM (by decide) rfl rfl (0 : Int32) rfl rfl rfl hS (iv_mem (by decide)) dX12_find_2 (fun H locs hM _ hu hS => ?_)
  refine lv_aload_n hx hb dX12_find_5 rfl (lv_at hl 0 rfl) ?_
  refine lv_iload_n hx hb dX12_find_6 rfl (lv_at hl 1 rfl) ?_
  refine lv_iload_n hx hb dX12_find_7 rfl (lv_at hl 2 rfl) ?_
  obtain ⟨z1, hc2, hf⟩ := br_some hf
  refine mu_cV (As := [.int a1, .int a2]) (rest := []) hx hb hml hown hts hE (mX12_signed l E B0 b (by omega) (up2 M 0 4 (0 : Int32)) a1 a2 z1 hc2) cv_X12_105 (w_recv (k := 0) (ci := 12) hE hM (by decide) rfl rfl) hM hS hAB (fun _ h => h.elim) rfl hl.1 rfl (by decide) (Nat.le_of_ble_eq_true rfl) ⟨Nat.le_refl _, Nat.le_refl _⟩ dX12_find_8 (fun H locs hM _ hu hS => ?_)
  refine lv_istore_n (lv' := [(3, .int z1), (0, .ref (b + 0)), (1, .int a1), (2, .int a2)]) hx hb dX12_find_11 rfl hl (by decide) rfl (fun ls hl => ?_)
  refine lv_iload_n hx hb dX12_find_12 rfl (lv_at hl 0 rfl) ?_
  refine lv_if_ge (tgt := 24) hx hb dX12_find_13 (by decide) (fun c3 => ?_) (fun c3 => ?_)
  · rw [if_pos c3] at hf
    refine lv_iload_n hx hb dX12_find_24 rfl (lv_at hl 0 rfl) ?_
    have hre := Option.some.inj hf
    subst hre
    exact mu_i (v := z1) hx hb hrt hlocks hM hS dX12_find_25
  · rw [if_neg c3] at hf
    refine lv_aload_n hx hb dX12_find_16 rfl (lv_at hl 1 rfl) ?_
    refine lv_iconst (v := 1) hx hb dX12_find_17 (by decide) ?_
    obtain ⟨z4, hc5, hf⟩ := br_some hf
    refine mu_cV (As := [.int 1]) (rest := []) hx hb hml hown hts hE (mX12_fail l E B0 b (by omega) (up2 M 0 4 (0 : Int32)) (1 : Int32) z4 hc5) cv_X12_119 (w_recv (k := 0) (ci := 12) hE hM (by decide) rfl rfl) hM hS hAB (fun _ h => h) rfl hl.1 rfl (by decide) (Nat.le_of_ble_eq_true rfl) ⟨Nat.le_refl _, Nat.le_refl _⟩ dX12_find_18 (fun H locs hM _ hu hS => ?_)
    refine lv_goto (tgt := 25) hx hb dX12_find_21 (by decide) ?_
    have hre := Option.some.inj hf
    subst hre
    exact mu_i (v := z4.1) hx hb hrt hlocks hM hS dX12_find_25
def fX12_letter (M : Mem) (a1 : Int32) : Option (Int32 × Mem) := (fX12_ofStation M a1 (0 : Int32)).bind fun z1 => (if (z1.2 0 4) ≤ 0 then gd (isC ((z1.1.toUInt32 % 65536).toInt32)) (some (((z1.1.toUInt32 % 65536).toInt32), z1.2)) else some (32, z1.2))
set_option maxHeartbeats 4000000 in
set_option maxRecDepth 100000 in
theorem mX12_letter (l : Launch) (E : EP) (B0 : Nat) (b : Nat) (hb0 : B0 ≤ b) (M : Mem) (a1 : Int32) (r : Int32 × Mem) (hf : fX12_letter M a1 = some r) : MU l E B0 yX12_letter cX12_letter 3 (some .char) 3 0 0 [.ref (b + 0), .int a1] (Blk E b modSh 10 M) (some (.int r.1)) (Blk E b modSh 10 r.2) (iv b 10) := by
  refine mu_of (by decide +kernel) (Nat.le_of_ble_eq_true rfl) ?_
  intro p e s m args below meth c hx hb hml hown hts hrt hlocks hE H hM hS ls hl
  have hown : s.vm.findClass RX12 = some m.cls := hown
  have hl : lv_has ls 3 [(0, .ref (b + 0)), (1, .int a1)] := hl
  have hw : ∀ w ∈ WA, w.before args s = true := fun w h => hts w (List.mem_cons_of_mem _ h)
  have hAB : ∀ q, (iv b 10) q → B0 ≤ q := (iv_ge (by omega))
  unfold fX12_letter at hf
  refine lv_aload_n hx hb dX12_letter_0 rfl (lv_at hl 0 rfl) ?_
  refine lv_iload_n hx hb dX12_letter_1 rfl (lv_at hl 1 rfl) ?_
  refine lv_iconst (v := 0) hx hb dX12_letter_2 (by decide) ?_
  obtain ⟨z1, hc2, hf⟩ := br_some hf
  refine mu_cV (As := [.int a1, .int 0]) (rest := []) hx hb hml hown hts hE (mX12_ofStation l E B0 b (by omega) M a1 (0 : Int32) z1 hc2) cv_X12_197 (w_recv (k := 0) (ci := 12) hE hM (by decide) rfl rfl) hM hS hAB (fun _ h => h) rfl hl.1 rfl (by decide) (Nat.le_of_ble_eq_true rfl) ⟨Nat.le_refl _, Nat.le_refl _⟩ dX12_letter_3 (fun H locs hM _ hu hS => ?_)
  refine lv_istore_n (lv' := [(2, .int z1.1), (0, .ref (b + 0)), (1, .int a1)]) hx hb dX12_letter_6 rfl hl (by decide) rfl (fun ls hl => ?_)
  refine lv_aload_n hx hb dX12_letter_7 rfl (lv_at hl 1 rfl) ?_
  refine w_get (k := 0) (v := .int (z1.2 0 4)) hx hb hw hown hE fl_X12_22 hM (by decide) rfl rfl rfl dX12_letter_8 ?_
  refine lv_if_le (tgt := 19) hx hb dX12_letter_11 (by decide) (fun c3 => ?_) (fun c3 => ?_)
  · rw [if_pos c3] at hf
    refine lv_iload_n hx hb dX12_letter_19 rfl (lv_at hl 0 rfl) ?_
    refine lv_i2c (v := (z1.1.toUInt32 % 65536).toInt32) hx hb dX12_letter_20 rfl ?_
    obtain ⟨h4, hf⟩ := gd_some hf
    have hre := Option.some.inj hf
    subst hre
    exact mu_z (v := ((z1.1.toUInt32 % 65536).toInt32)) hx hb hrt (isC_n h4) hlocks hM hS dX12_letter_21
  · rw [if_neg c3] at hf
    refine lv_bipush (v := 32) hx hb dX12_letter_14 (by decide) ?_
    refine lv_goto (tgt := 21) hx hb dX12_letter_16 (by decide) ?_
    have hre := Option.some.inj hf
    subst hre
    exact mu_z (v := 32) hx hb hrt rfl hlocks hM hS dX12_letter_21
def fX12_digit (M : Mem) (a1 : Int32) : Option (Int32 × Mem) := (fX12_ofStation M a1 (1 : Int32)).bind fun z1 => some (z1.1, z1.2)
set_option maxHeartbeats 4000000 in
set_option maxRecDepth 100000 in
theorem mX12_digit (l : Launch) (E : EP) (B0 : Nat) (b : Nat) (hb0 : B0 ≤ b) (M : Mem) (a1 : Int32) (r : Int32 × Mem) (hf : fX12_digit M a1 = some r) : MU l E B0 yX12_digit cX12_digit 2 (some .int) 3 0 0 [.ref (b + 0), .int a1] (Blk E b modSh 10 M) (some (.int r.1)) (Blk E b modSh 10 r.2) (iv b 10) := by
  refine mu_of (by decide +kernel) (Nat.le_of_ble_eq_true rfl) ?_
  intro p e s m args below meth c hx hb hml hown hts hrt hlocks hE H hM hS ls hl
  have hown : s.vm.findClass RX12 = some m.cls := hown
  have hl : lv_has ls 2 [(0, .ref (b + 0)), (1, .int a1)] := hl
  have hw : ∀ w ∈ WA, w.before args s = true := fun w h => hts w (List.mem_cons_of_mem _ h)
  have hAB : ∀ q, (iv b 10) q → B0 ≤ q := (iv_ge (by omega))
  unfold fX12_digit at hf
  refine lv_aload_n hx hb dX12_digit_0 rfl (lv_at hl 0 rfl) ?_
  refine lv_iload_n hx hb dX12_digit_1 rfl (lv_at hl 1 rfl) ?_
  refine lv_iconst (v := 1) hx hb dX12_digit_2 (by decide) ?_
  obtain ⟨z1, hc2, hf⟩ := br_some hf
  refine mu_cV (As := [.int a1, .int 1]) (rest := []) hx hb hml hown hts hE (mX12_ofStation l E B0 b (by omega) M a1 (1 : Int32) z1 hc2) cv_X12_197 (w_recv (k := 0) (ci := 12) hE hM (by decide) rfl rfl) hM hS hAB (fun _ h => h) rfl hl.1 rfl (by decide) (Nat.le_of_ble_eq_true rfl) ⟨Nat.le_refl _, Nat.le_refl _⟩ dX12_digit_3 (fun H locs hM _ hu hS => ?_)
  have hre := Option.some.inj hf
  subst hre
  exact mu_i (v := z1.1) hx hb hrt hlocks hM hS dX12_digit_6
def fX12_channel (M : Mem) (a1 : Int32) : Option (Int32 × Mem) := (fX12_ofStation M a1 (5 : Int32)).bind fun z1 => some (z1.1, z1.2)
set_option maxHeartbeats 4000000 in
set_option maxRecDepth 100000 in
theorem mX12_channel (l : Launch) (E : EP) (B0 : Nat) (b : Nat) (hb0 : B0 ≤ b) (M : Mem) (a1 : Int32) (r : Int32 × Mem) (hf : fX12_channel M a1 = some r) : MU l E B0 yX12_channel cX12_channel 2 (some .int) 3 0 0 [.ref (b + 0), .int a1] (Blk E b modSh 10 M) (some (.int r.1)) (Blk E b modSh 10 r.2) (iv b 10) := by
  refine mu_of (by decide +kernel) (Nat.le_of_ble_eq_true rfl) ?_
  intro p e s m args below meth c hx hb hml hown hts hrt hlocks hE H hM hS ls hl
  have hown : s.vm.findClass RX12 = some m.cls := hown
  have hl : lv_has ls 2 [(0, .ref (b + 0)), (1, .int a1)] := hl
  have hw : ∀ w ∈ WA, w.before args s = true := fun w h => hts w (List.mem_cons_of_mem _ h)
  have hAB : ∀ q, (iv b 10) q → B0 ≤ q := (iv_ge (by omega))
  unfold fX12_channel at hf
  refine lv_aload_n hx hb dX12_channel_0 rfl (lv_at hl 0 rfl) ?_
  refine lv_iload_n hx hb dX12_channel_1 rfl (lv_at hl 1 rfl) ?_
  refine lv_iconst (v := 5) hx hb dX12_channel_2 (by decide) ?_
  obtain ⟨z1, hc2, hf⟩ := br_some hf
  refine mu_cV (As := [.int a1, .int 5]) (rest := []) hx hb hml hown hts hE (mX12_ofStation l E B0 b (by omega) M a1 (5 : Int32) z1 hc2) cv_X12_197 (w_recv (k := 0) (ci := 12) hE hM (by decide) rfl rfl) hM hS hAB (fun _ h => h) rfl hl.1 rfl (by decide) (Nat.le_of_ble_eq_true rfl) ⟨Nat.le_refl _, Nat.le_refl _⟩ dX12_channel_3 (fun H locs hM _ hu hS => ?_)
  have hre := Option.some.inj hf
  subst hre
  exact mu_i (v := z1.1) hx hb hrt hlocks hM hS dX12_channel_6
def fX12_power (M : Mem) (a1 : Int32) : Option (Int32 × Mem) := (fX12_ofStation M a1 (4 : Int32)).bind fun z1 => some (z1.1, z1.2)
set_option maxHeartbeats 4000000 in
set_option maxRecDepth 100000 in
theorem mX12_power (l : Launch) (E : EP) (B0 : Nat) (b : Nat) (hb0 : B0 ≤ b) (M : Mem) (a1 : Int32) (r : Int32 × Mem) (hf : fX12_power M a1 = some r) : MU l E B0 yX12_power cX12_power 2 (some .int) 3 0 0 [.ref (b + 0), .int a1] (Blk E b modSh 10 M) (some (.int r.1)) (Blk E b modSh 10 r.2) (iv b 10) := by
  refine mu_of (by decide +kernel) (Nat.le_of_ble_eq_true rfl) ?_
  intro p e s m args below meth c hx hb hml hown hts hrt hlocks hE H hM hS ls hl
  have hown : s.vm.findClass RX12 = some m.cls := hown
  have hl : lv_has ls 2 [(0, .ref (b + 0)), (1, .int a1)] := hl
  have hw : ∀ w ∈ WA, w.before args s = true := fun w h => hts w (List.mem_cons_of_mem _ h)
  have hAB : ∀ q, (iv b 10) q → B0 ≤ q := (iv_ge (by omega))
  unfold fX12_power at hf
  refine lv_aload_n hx hb dX12_power_0 rfl (lv_at hl 0 rfl) ?_
  refine lv_iload_n hx hb dX12_power_1 rfl (lv_at hl 1 rfl) ?_
  refine lv_iconst (v := 4) hx hb dX12_power_2 (by decide) ?_
  obtain ⟨z1, hc2, hf⟩ := br_some hf
  refine mu_cV (As := [.int a1, .int 4]) (rest := []) hx hb hml hown hts hE (mX12_ofStation l E B0 b (by omega) M a1 (4 : Int32) z1 hc2) cv_X12_197 (w_recv (k := 0) (ci := 12) hE hM (by decide) rfl rfl) hM hS hAB (fun _ h => h) rfl hl.1 rfl (by decide) (Nat.le_of_ble_eq_true rfl) ⟨Nat.le_refl _, Nat.le_refl _⟩ dX12_power_3 (fun H locs hM _ hu hS => ?_)
  have hre := Option.some.inj hf
  subst hre
  exact mu_i (v := z1.1) hx hb hrt hlocks hM hS dX12_power_6
def fX12_isSpeaking (M : Mem) (a1 : Int32) : Option (Int32 × Mem) := (fX12_ofStation M a1 (6 : Int32)).bind fun z1 => (if z1.1 = (1 : Int32) then some (1, z1.2) else some (0, z1.2))
set_option maxHeartbeats 4000000 in
set_option maxRecDepth 100000 in
theorem mX12_isSpeaking (l : Launch) (E : EP) (B0 : Nat) (b : Nat) (hb0 : B0 ≤ b) (M : Mem) (a1 : Int32) (r : Int32 × Mem) (hf : fX12_isSpeaking M a1 = some r) : MU l E B0 yX12_isSpeaking cX12_isSpeaking 2 (some .boolean) 3 0 0 [.ref (b + 0), .int a1] (Blk E b modSh 10 M) (some (.int r.1)) (Blk E b modSh 10 r.2) (iv b 10) := by
  refine mu_of (by decide +kernel) (Nat.le_of_ble_eq_true rfl) ?_
  intro p e s m args below meth c hx hb hml hown hts hrt hlocks hE H hM hS ls hl
  have hown : s.vm.findClass RX12 = some m.cls := hown
  have hl : lv_has ls 2 [(0, .ref (b + 0)), (1, .int a1)] := hl
  have hw : ∀ w ∈ WA, w.before args s = true := fun w h => hts w (List.mem_cons_of_mem _ h)
  have hAB : ∀ q, (iv b 10) q → B0 ≤ q := (iv_ge (by omega))
  unfold fX12_isSpeaking at hf
  refine lv_aload_n hx hb dX12_isSpeaking_0 rfl (lv_at hl 0 rfl) ?_
  refine lv_iload_n hx hb dX12_isSpeaking_1 rfl (lv_at hl 1 rfl) ?_
  refine lv_bipush (v := 6) hx hb dX12_isSpeaking_2 (by decide) ?_
  obtain ⟨z1, hc2, hf⟩ := br_some hf
  refine mu_cV (As := [.int a1, .int 6]) (rest := []) hx hb hml hown hts hE (mX12_ofStation l E B0 b (by omega) M a1 (6 : Int32) z1 hc2) cv_X12_197 (w_recv (k := 0) (ci := 12) hE hM (by decide) rfl rfl) hM hS hAB (fun _ h => h) rfl hl.1 rfl (by decide) (Nat.le_of_ble_eq_true rfl) ⟨Nat.le_refl _, Nat.le_refl _⟩ dX12_isSpeaking_4 (fun H locs hM _ hu hS => ?_)
  refine lv_iconst (v := 1) hx hb dX12_isSpeaking_7 (by decide) ?_
  refine lv_icmp_ne (tgt := 15) hx hb dX12_isSpeaking_8 (by decide) (fun c3 => ?_) (fun c3 => ?_)
  · rw [if_neg c3] at hf
    refine lv_iconst (v := 0) hx hb dX12_isSpeaking_15 (by decide) ?_
    have hre := Option.some.inj hf
    subst hre
    exact mu_z (v := 0) hx hb hrt rfl hlocks hM hS dX12_isSpeaking_16
  · rw [if_pos c3] at hf
    refine lv_iconst (v := 1) hx hb dX12_isSpeaking_11 (by decide) ?_
    refine lv_goto (tgt := 16) hx hb dX12_isSpeaking_12 (by decide) ?_
    have hre := Option.some.inj hf
    subst hre
    exact mu_z (v := 1) hx hb hrt rfl hlocks hM hS dX12_isSpeaking_16
def fX12_isWaiting (M : Mem) (a1 : Int32) : Option (Int32 × Mem) := (fX12_ofStation M a1 (6 : Int32)).bind fun z1 => (if z1.1 = (2 : Int32) then some (1, z1.2) else some (0, z1.2))
set_option maxHeartbeats 4000000 in
set_option maxRecDepth 100000 in
theorem mX12_isWaiting (l : Launch) (E : EP) (B0 : Nat) (b : Nat) (hb0 : B0 ≤ b) (M : Mem) (a1 : Int32) (r : Int32 × Mem) (hf : fX12_isWaiting M a1 = some r) : MU l E B0 yX12_isWaiting cX12_isWaiting 2 (some .boolean) 3 0 0 [.ref (b + 0), .int a1] (Blk E b modSh 10 M) (some (.int r.1)) (Blk E b modSh 10 r.2) (iv b 10) := by
  refine mu_of (by decide +kernel) (Nat.le_of_ble_eq_true rfl) ?_
  intro p e s m args below meth c hx hb hml hown hts hrt hlocks hE H hM hS ls hl
  have hown : s.vm.findClass RX12 = some m.cls := hown
  have hl : lv_has ls 2 [(0, .ref (b + 0)), (1, .int a1)] := hl
  have hw : ∀ w ∈ WA, w.before args s = true := fun w h => hts w (List.mem_cons_of_mem _ h)
  have hAB : ∀ q, (iv b 10) q → B0 ≤ q := (iv_ge (by omega))
  unfold fX12_isWaiting at hf
  refine lv_aload_n hx hb dX12_isWaiting_0 rfl (lv_at hl 0 rfl) ?_
  refine lv_iload_n hx hb dX12_isWaiting_1 rfl (lv_at hl 1 rfl) ?_
  refine lv_bipush (v := 6) hx hb dX12_isWaiting_2 (by decide) ?_
  obtain ⟨z1, hc2, hf⟩ := br_some hf
  refine mu_cV (As := [.int a1, .int 6]) (rest := []) hx hb hml hown hts hE (mX12_ofStation l E B0 b (by omega) M a1 (6 : Int32) z1 hc2) cv_X12_197 (w_recv (k := 0) (ci := 12) hE hM (by decide) rfl rfl) hM hS hAB (fun _ h => h) rfl hl.1 rfl (by decide) (Nat.le_of_ble_eq_true rfl) ⟨Nat.le_refl _, Nat.le_refl _⟩ dX12_isWaiting_4 (fun H locs hM _ hu hS => ?_)
  refine lv_iconst (v := 2) hx hb dX12_isWaiting_7 (by decide) ?_
  refine lv_icmp_ne (tgt := 15) hx hb dX12_isWaiting_8 (by decide) (fun c3 => ?_) (fun c3 => ?_)
  · rw [if_neg c3] at hf
    refine lv_iconst (v := 0) hx hb dX12_isWaiting_15 (by decide) ?_
    have hre := Option.some.inj hf
    subst hre
    exact mu_z (v := 0) hx hb hrt rfl hlocks hM hS dX12_isWaiting_16
  · rw [if_pos c3] at hf
    refine lv_iconst (v := 1) hx hb dX12_isWaiting_11 (by decide) ?_
    refine lv_goto (tgt := 16) hx hb dX12_isWaiting_12 (by decide) ?_
    have hre := Option.some.inj hf
    subst hre
    exact mu_z (v := 1) hx hb hrt rfl hlocks hM hS dX12_isWaiting_16
def fX12_minutesSpoken (M : Mem) (a1 : Int32) : Option (Int32 × Mem) := (fX12_ofStation M a1 (9 : Int32)).bind fun z1 => some (z1.1, z1.2)
set_option maxHeartbeats 4000000 in
set_option maxRecDepth 100000 in
theorem mX12_minutesSpoken (l : Launch) (E : EP) (B0 : Nat) (b : Nat) (hb0 : B0 ≤ b) (M : Mem) (a1 : Int32) (r : Int32 × Mem) (hf : fX12_minutesSpoken M a1 = some r) : MU l E B0 yX12_minutesSpoken cX12_minutesSpoken 2 (some .int) 3 0 0 [.ref (b + 0), .int a1] (Blk E b modSh 10 M) (some (.int r.1)) (Blk E b modSh 10 r.2) (iv b 10) := by
  refine mu_of (by decide +kernel) (Nat.le_of_ble_eq_true rfl) ?_
  intro p e s m args below meth c hx hb hml hown hts hrt hlocks hE H hM hS ls hl
  have hown : s.vm.findClass RX12 = some m.cls := hown
  have hl : lv_has ls 2 [(0, .ref (b + 0)), (1, .int a1)] := hl
  have hw : ∀ w ∈ WA, w.before args s = true := fun w h => hts w (List.mem_cons_of_mem _ h)
  have hAB : ∀ q, (iv b 10) q → B0 ≤ q := (iv_ge (by omega))
  unfold fX12_minutesSpoken at hf
  refine lv_aload_n hx hb dX12_minutesSpoken_0 rfl (lv_at hl 0 rfl) ?_
  refine lv_iload_n hx hb dX12_minutesSpoken_1 rfl (lv_at hl 1 rfl) ?_
  refine lv_bipush (v := 9) hx hb dX12_minutesSpoken_2 (by decide) ?_
  obtain ⟨z1, hc2, hf⟩ := br_some hf
  refine mu_cV (As := [.int a1, .int 9]) (rest := []) hx hb hml hown hts hE (mX12_ofStation l E B0 b (by omega) M a1 (9 : Int32) z1 hc2) cv_X12_197 (w_recv (k := 0) (ci := 12) hE hM (by decide) rfl rfl) hM hS hAB (fun _ h => h) rfl hl.1 rfl (by decide) (Nat.le_of_ble_eq_true rfl) ⟨Nat.le_refl _, Nat.le_refl _⟩ dX12_minutesSpoken_4 (fun H locs hM _ hu hS => ?_)
  have hre := Option.some.inj hf
  subst hre
  exact mu_i (v := z1.1) hx hb hrt hlocks hM hS dX12_minutesSpoken_7
def fX12_minutesReceived (M : Mem) (a1 : Int32) : Option (Int32 × Mem) := (fX12_ofStation M a1 (10 : Int32)).bind fun z1 => some (z1.1, z1.2)
set_option maxHeartbeats 4000000 in
set_option maxRecDepth 100000 in
theorem mX12_minutesReceived (l : Launch) (E : EP) (B0 : Nat) (b : Nat) (hb0 : B0 ≤ b) (M : Mem) (a1 : Int32) (r : Int32 × Mem) (hf : fX12_minutesReceived M a1 = some r) : MU l E B0 yX12_minutesReceived cX12_minutesReceived 2 (some .int) 3 0 0 [.ref (b + 0), .int a1] (Blk E b modSh 10 M) (some (.int r.1)) (Blk E b modSh 10 r.2) (iv b 10) := by
  refine mu_of (by decide +kernel) (Nat.le_of_ble_eq_true rfl) ?_
  intro p e s m args below meth c hx hb hml hown hts hrt hlocks hE H hM hS ls hl
  have hown : s.vm.findClass RX12 = some m.cls := hown
  have hl : lv_has ls 2 [(0, .ref (b + 0)), (1, .int a1)] := hl
  have hw : ∀ w ∈ WA, w.before args s = true := fun w h => hts w (List.mem_cons_of_mem _ h)
  have hAB : ∀ q, (iv b 10) q → B0 ≤ q := (iv_ge (by omega))
  unfold fX12_minutesReceived at hf
  refine lv_aload_n hx hb dX12_minutesReceived_0 rfl (lv_at hl 0 rfl) ?_
  refine lv_iload_n hx hb dX12_minutesReceived_1 rfl (lv_at hl 1 rfl) ?_
  refine lv_bipush (v := 10) hx hb dX12_minutesReceived_2 (by decide) ?_
  obtain ⟨z1, hc2, hf⟩ := br_some hf
  refine mu_cV (As := [.int a1, .int 10]) (rest := []) hx hb hml hown hts hE (mX12_ofStation l E B0 b (by omega) M a1 (10 : Int32) z1 hc2) cv_X12_197 (w_recv (k := 0) (ci := 12) hE hM (by decide) rfl rfl) hM hS hAB (fun _ h => h) rfl hl.1 rfl (by decide) (Nat.le_of_ble_eq_true rfl) ⟨Nat.le_refl _, Nat.le_refl _⟩ dX12_minutesReceived_4 (fun H locs hM _ hu hS => ?_)
  have hre := Option.some.inj hf
  subst hre
  exact mu_i (v := z1.1) hx hb hrt hlocks hM hS dX12_minutesReceived_7
def fX12_isAhead (M : Mem) (a1 : Int32) (a2 : Int32) : Option (Int32) := (fX12_t M a1 (9 : Int32)).bind fun z1 => (fX12_t M a2 (9 : Int32)).bind fun z3 => (if z1 = z3 then (fX12_t M a1 (10 : Int32)).bind fun z6 => (fX12_t M a2 (10 : Int32)).bind fun z8 => (if z6 = z8 then (fX12_t M a1 (0 : Int32)).bind fun z11 => (fX12_t M a1 (1 : Int32)).bind fun z13 => (fX12_t M a2 (0 : Int32)).bind fun z15 => (fX12_t M a2 (1 : Int32)).bind fun z17 => (if (((10 : Int32) * z15) + z17) ≤ (((10 : Int32) * z11) + z13) then some 0 else some 1) else (fX12_t M a1 (10 : Int32)).bind fun z20 => (fX12_t M a2 (10 : Int32)).bind fun z22 => (if z20 ≤ z22 then some 0 else some 1)) else (fX12_t M a1 (9 : Int32)).bind fun z25 => (fX12_t M a2 (9 : Int32)).bind fun z27 => (if z25 ≤ z27 then some 0 else some 1))
set_option maxHeartbeats 4000000 in
set_option maxRecDepth 100000 in
theorem mX12_isAhead (l : Launch) (E : EP) (B0 : Nat) (b : Nat) (hb0 : B0 ≤ b) (M : Mem) (a1 : Int32) (a2 : Int32) (r : Int32) (hf : fX12_isAhead M a1 a2 = some r) : MU l E B0 yX12_isAhead cX12_isAhead 3 (some .boolean) 1 0 0 [.ref (b + 0), .int a1, .int a2] (Blk E b modSh 10 M) (some (.int r)) (Blk E b modSh 10 M) nv := by
  refine mu_of (by decide +kernel) (Nat.le_of_ble_eq_true rfl) ?_
  intro p e s m args below meth c hx hb hml hown hts hrt hlocks hE H hM hS ls hl
  have hown : s.vm.findClass RX12 = some m.cls := hown
  have hl : lv_has ls 3 [(0, .ref (b + 0)), (1, .int a1), (2, .int a2)] := hl
  have hw : ∀ w ∈ WA, w.before args s = true := fun w h => hts w (List.mem_cons_of_mem _ h)
  have hAB : ∀ q, nv q → B0 ≤ q := fun _ h => h.elim
  unfold fX12_isAhead at hf
  refine lv_aload_n hx hb dX12_isAhead_0 rfl (lv_at hl 0 rfl) ?_
  refine lv_iload_n hx hb dX12_isAhead_1 rfl (lv_at hl 1 rfl) ?_
  refine lv_bipush (v := 9) hx hb dX12_isAhead_2 (by decide) ?_
  obtain ⟨z1, hc2, hf⟩ := br_some hf
  refine mu_cV (As := [.int a1, .int 9]) (rest := []) hx hb hml hown hts hE (mX12_t l E B0 b (by omega) M a1 (9 : Int32) z1 hc2) cv_X12_80 (w_recv (k := 0) (ci := 12) hE hM (by decide) rfl rfl) hM hS hAB (fun _ h => h.elim) rfl hl.1 rfl (by decide) (Nat.le_of_ble_eq_true rfl) ⟨Nat.le_refl _, Nat.le_refl _⟩ dX12_isAhead_4 (fun H locs hM _ hu hS => ?_)
  refine lv_aload_n hx hb dX12_isAhead_7 rfl (lv_at hl 0 rfl) ?_
  refine lv_iload_n hx hb dX12_isAhead_8 rfl (lv_at hl 2 rfl) ?_
  refine lv_bipush (v := 9) hx hb dX12_isAhead_9 (by decide) ?_
  obtain ⟨z3, hc4, hf⟩ := br_some hf
  refine mu_cV (As := [.int a2, .int 9]) (rest := [.int z1]) hx hb hml hown hts hE (mX12_t l E B0 b (by omega) M a2 (9 : Int32) z3 hc4) cv_X12_80 (w_recv (k := 0) (ci := 12) hE hM (by decide) rfl rfl) hM hS hAB (fun _ h => h.elim) rfl hl.1 rfl (by decide) (Nat.le_of_ble_eq_true rfl) ⟨Nat.le_refl _, Nat.le_refl _⟩ dX12_isAhead_11 (fun H locs hM _ hu hS => ?_)
  refine lv_icmp_eq (tgt := 40) hx hb dX12_isAhead_14 (by decide) (fun c5 => ?_) (fun c5 => ?_)
  · rw [if_pos c5] at hf
    refine lv_aload_n hx hb dX12_isAhead_40 rfl (lv_at hl 0 rfl) ?_
    refine lv_iload_n hx hb dX12_isAhead_41 rfl (lv_at hl 1 rfl) ?_
    refine lv_bipush (v := 10) hx hb dX12_isAhead_42 (by decide) ?_
    obtain ⟨z6, hc7, hf⟩ := br_some hf
    refine mu_cV (As := [.int a1, .int 10]) (rest := []) hx hb hml hown hts hE (mX12_t l E B0 b (by omega) M a1 (10 : Int32) z6 hc7) cv_X12_80 (w_recv (k := 0) (ci := 12) hE hM (by decide) rfl rfl) hM hS hAB (fun _ h => h.elim) rfl hl.1 rfl (by decide) (Nat.le_of_ble_eq_true rfl) ⟨Nat.le_refl _, Nat.le_refl _⟩ dX12_isAhead_44 (fun H locs hM _ hu hS => ?_)
    refine lv_aload_n hx hb dX12_isAhead_47 rfl (lv_at hl 0 rfl) ?_
    refine lv_iload_n hx hb dX12_isAhead_48 rfl (lv_at hl 2 rfl) ?_
    refine lv_bipush (v := 10) hx hb dX12_isAhead_49 (by decide) ?_
    obtain ⟨z8, hc9, hf⟩ := br_some hf
    refine mu_cV (As := [.int a2, .int 10]) (rest := [.int z6]) hx hb hml hown hts hE (mX12_t l E B0 b (by omega) M a2 (10 : Int32) z8 hc9) cv_X12_80 (w_recv (k := 0) (ci := 12) hE hM (by decide) rfl rfl) hM hS hAB (fun _ h => h.elim) rfl hl.1 rfl (by decide) (Nat.le_of_ble_eq_true rfl) ⟨Nat.le_refl _, Nat.le_refl _⟩ dX12_isAhead_51 (fun H locs hM _ hu hS => ?_)
    refine lv_icmp_eq (tgt := 80) hx hb dX12_isAhead_54 (by decide) (fun c10 => ?_) (fun c10 => ?_)
    · rw [if_pos c10] at hf
      refine lv_bipush (v := 10) hx hb dX12_isAhead_80 (by decide) ?_
      refine lv_aload_n hx hb dX12_isAhead_82 rfl (lv_at hl 0 rfl) ?_
      refine lv_iload_n hx hb dX12_isAhead_83 rfl (lv_at hl 1 rfl) ?_
      refine lv_iconst (v := 0) hx hb dX12_isAhead_84 (by decide) ?_
      obtain ⟨z11, hc12, hf⟩ := br_some hf
      refine mu_cV (As := [.int a1, .int 0]) (rest := [.int 10]) hx hb hml hown hts hE (mX12_t l E B0 b (by omega) M a1 (0 : Int32) z11 hc12) cv_X12_80 (w_recv (k := 0) (ci := 12) hE hM (by decide) rfl rfl) hM hS hAB (fun _ h => h.elim) rfl hl.1 rfl (by decide) (Nat.le_of_ble_eq_true rfl) ⟨Nat.le_refl _, Nat.le_refl _⟩ dX12_isAhead_85 (fun H locs hM _ hu hS => ?_)
      refine lv_imul hx hb dX12_isAhead_88 ?_
      refine lv_aload_n hx hb dX12_isAhead_89 rfl (lv_at hl 0 rfl) ?_
      refine lv_iload_n hx hb dX12_isAhead_90 rfl (lv_at hl 1 rfl) ?_
      refine lv_iconst (v := 1) hx hb dX12_isAhead_91 (by decide) ?_
      obtain ⟨z13, hc14, hf⟩ := br_some hf
      refine mu_cV (As := [.int a1, .int 1]) (rest := [.int ((10 : Int32) * z11)]) hx hb hml hown hts hE (mX12_t l E B0 b (by omega) M a1 (1 : Int32) z13 hc14) cv_X12_80 (w_recv (k := 0) (ci := 12) hE hM (by decide) rfl rfl) hM hS hAB (fun _ h => h.elim) rfl hl.1 rfl (by decide) (Nat.le_of_ble_eq_true rfl) ⟨Nat.le_refl _, Nat.le_refl _⟩ dX12_isAhead_92 (fun H locs hM _ hu hS => ?_)
      refine lv_iadd hx hb dX12_isAhead_95 ?_
      refine lv_bipush (v := 10) hx hb dX12_isAhead_96 (by decide) ?_
      refine lv_aload_n hx hb dX12_isAhead_98 rfl (lv_at hl 0 rfl) ?_
      refine lv_iload_n hx hb dX12_isAhead_99 rfl (lv_at hl 2 rfl) ?_
      refine lv_iconst (v := 0) hx hb dX12_isAhead_100 (by decide) ?_
      obtain ⟨z15, hc16, hf⟩ := br_some hf
      refine mu_cV (As := [.int a2, .int 0]) (rest := [.int 10, .int (((10 : Int32) * z11) + z13)]) hx hb hml hown hts hE (mX12_t l E B0 b (by omega) M a2 (0 : Int32) z15 hc16) cv_X12_80 (w_recv (k := 0) (ci := 12) hE hM (by decide) rfl rfl) hM hS hAB (fun _ h => h.elim) rfl hl.1 rfl (by decide) (Nat.le_of_ble_eq_true rfl) ⟨Nat.le_refl _, Nat.le_refl _⟩ dX12_isAhead_101 (fun H locs hM _ hu hS => ?_)
      refine lv_imul hx hb dX12_isAhead_104 ?_
      refine lv_aload_n hx hb dX12_isAhead_105 rfl (lv_at hl 0 rfl) ?_
      refine lv_iload_n hx hb dX12_isAhead_106 rfl (lv_at hl 2 rfl) ?_
      refine lv_iconst (v := 1) hx hb dX12_isAhead_107 (by decide) ?_
      obtain ⟨z17, hc18, hf⟩ := br_some hf
      refine mu_cV (As := [.int a2, .int 1]) (rest := [.int ((10 : Int32) * z15), .int (((10 : Int32) * z11) + z13)]) hx hb hml hown hts hE (mX12_t l E B0 b (by omega) M a2 (1 : Int32) z17 hc18) cv_X12_80 (w_recv (k := 0) (ci := 12) hE hM (by decide) rfl rfl) hM hS hAB (fun _ h => h.elim) rfl hl.1 rfl (by decide) (Nat.le_of_ble_eq_true rfl) ⟨Nat.le_refl _, Nat.le_refl _⟩ dX12_isAhead_108 (fun H locs hM _ hu hS => ?_)
      refine lv_iadd hx hb dX12_isAhead_111 ?_
      refine lv_icmp_ge (tgt := 119) hx hb dX12_isAhead_112 (by decide) (fun c19 => ?_) (fun c19 => ?_)
      · rw [if_pos c19] at hf
        refine lv_iconst (v := 0) hx hb dX12_isAhead_119 (by decide) ?_
        have hre := Option.some.inj hf
        subst hre
        exact mu_z (v := 0) hx hb hrt rfl hlocks hM hS dX12_isAhead_120
      · rw [if_neg c19] at hf
        refine lv_iconst (v := 1) hx hb dX12_isAhead_115 (by decide) ?_
        refine lv_goto (tgt := 120) hx hb dX12_isAhead_116 (by decide) ?_
        have hre := Option.some.inj hf
        subst hre
        exact mu_z (v := 1) hx hb hrt rfl hlocks hM hS dX12_isAhead_120
    · rw [if_neg c10] at hf
      refine lv_aload_n hx hb dX12_isAhead_57 rfl (lv_at hl 0 rfl) ?_
      refine lv_iload_n hx hb dX12_isAhead_58 rfl (lv_at hl 1 rfl) ?_
      refine lv_bipush (v := 10) hx hb dX12_isAhead_59 (by decide) ?_
      obtain ⟨z20, hc21, hf⟩ := br_some hf
      refine mu_cV (As := [.int a1, .int 10]) (rest := []) hx hb hml hown hts hE (mX12_t l E B0 b (by omega) M a1 (10 : Int32) z20 hc21) cv_X12_80 (w_recv (k := 0) (ci := 12) hE hM (by decide) rfl rfl) hM hS hAB (fun _ h => h.elim) rfl hl.1 rfl (by decide) (Nat.le_of_ble_eq_true rfl) ⟨Nat.le_refl _, Nat.le_refl _⟩ dX12_isAhead_61 (fun H locs hM _ hu hS => ?_)
      refine lv_aload_n hx hb dX12_isAhead_64 rfl (lv_at hl 0 rfl) ?_
      refine lv_iload_n hx hb dX12_isAhead_65 rfl (lv_at hl 2 rfl) ?_
      refine lv_bipush (v := 10) hx hb dX12_isAhead_66 (by decide) ?_
      obtain ⟨z22, hc23, hf⟩ := br_some hf
      refine mu_cV (As := [.int a2, .int 10]) (rest := [.int z20]) hx hb hml hown hts hE (mX12_t l E B0 b (by omega) M a2 (10 : Int32) z22 hc23) cv_X12_80 (w_recv (k := 0) (ci := 12) hE hM (by decide) rfl rfl) hM hS hAB (fun _ h => h.elim) rfl hl.1 rfl (by decide) (Nat.le_of_ble_eq_true rfl) ⟨Nat.le_refl _, Nat.le_refl _⟩ dX12_isAhead_68 (fun H locs hM _ hu hS => ?_)
      refine lv_icmp_le (tgt := 78) hx hb dX12_isAhead_71 (by decide) (fun c24 => ?_) (fun c24 => ?_)
      · rw [if_pos c24] at hf
        refine lv_iconst (v := 0) hx hb dX12_isAhead_78 (by decide) ?_
        have hre := Option.some.inj hf
        subst hre
        exact mu_z (v := 0) hx hb hrt rfl hlocks hM hS dX12_isAhead_79
      · rw [if_neg c24] at hf
        refine lv_iconst (v := 1) hx hb dX12_isAhead_74 (by decide) ?_
        refine lv_goto (tgt := 79) hx hb dX12_isAhead_75 (by decide) ?_
        have hre := Option.some.inj hf
        subst hre
        exact mu_z (v := 1) hx hb hrt rfl hlocks hM hS dX12_isAhead_79
  · rw [if_neg c5] at hf
    refine lv_aload_n hx hb dX12_isAhead_17 rfl (lv_at hl 0 rfl) ?_
    refine lv_iload_n hx hb dX12_isAhead_18 rfl (lv_at hl 1 rfl) ?_
    refine lv_bipush (v := 9) hx hb dX12_isAhead_19 (by decide) ?_
    obtain ⟨z25, hc26, hf⟩ := br_some hf
    refine mu_cV (As := [.int a1, .int 9]) (rest := []) hx hb hml hown hts hE (mX12_t l E B0 b (by omega) M a1 (9 : Int32) z25 hc26) cv_X12_80 (w_recv (k := 0) (ci := 12) hE hM (by decide) rfl rfl) hM hS hAB (fun _ h => h.elim) rfl hl.1 rfl (by decide) (Nat.le_of_ble_eq_true rfl) ⟨Nat.le_refl _, Nat.le_refl _⟩ dX12_isAhead_21 (fun H locs hM _ hu hS => ?_)
    refine lv_aload_n hx hb dX12_isAhead_24 rfl (lv_at hl 0 rfl) ?_
    refine lv_iload_n hx hb dX12_isAhead_25 rfl (lv_at hl 2 rfl) ?_
    refine lv_bipush (v := 9) hx hb dX12_isAhead_26 (by decide) ?_
    obtain ⟨z27, hc28, hf⟩ := br_some hf
    refine mu_cV (As := [.int a2, .int 9]) (rest := [.int z25]) hx hb hml hown hts hE (mX12_t l E B0 b (by omega) M a2 (9 : Int32) z27 hc28) cv_X12_80 (w_recv (k := 0) (ci := 12) hE hM (by decide) rfl rfl) hM hS hAB (fun _ h => h.elim) rfl hl.1 rfl (by decide) (Nat.le_of_ble_eq_true rfl) ⟨Nat.le_refl _, Nat.le_refl _⟩ dX12_isAhead_28 (fun H locs hM _ hu hS => ?_)
    refine lv_icmp_le (tgt := 38) hx hb dX12_isAhead_31 (by decide) (fun c29 => ?_) (fun c29 => ?_)
    · rw [if_pos c29] at hf
      refine lv_iconst (v := 0) hx hb dX12_isAhead_38 (by decide) ?_
      have hre := Option.some.inj hf
      subst hre
      exact mu_z (v := 0) hx hb hrt rfl hlocks hM hS dX12_isAhead_39
    · rw [if_neg c29] at hf
      refine lv_iconst (v := 1) hx hb dX12_isAhead_34 (by decide) ?_
      refine lv_goto (tgt := 39) hx hb dX12_isAhead_35 (by decide) ?_
      have hre := Option.some.inj hf
      subst hre
      exact mu_z (v := 1) hx hb hrt rfl hlocks hM hS dX12_isAhead_39
def fX12_stationByMinutes_s (a1 : Int32) (z : Nat × Int32 × Int32 × Int32 × Mem) : Option ((Nat × Int32 × Int32 × Int32 × Mem) ⊕ (Int32 × Mem)) := (if z.1 = 0 then (if (z.2.2.2.2 1 0) ≤ z.2.1 then (fX12_fail z.2.2.2.2 (1 : Int32)).bind fun z2 => some (.inr (z2.1, z2.2)) else some (.inl (1, z.2.1, 0, 0, z.2.2.2.2))) else (if (z.2.2.2.2 1 0) ≤ z.2.2.2.1 then (if z.2.2.1 = a1 then some (.inr (z.2.1, z.2.2.2.2)) else some (.inl (0, (z.2.1 + 1), 0, 0, z.2.2.2.2))) else (fX12_isAhead z.2.2.2.2 z.2.2.2.1 z.2.1).bind fun z6 => (if z6 = 0 then some (.inl (1, z.2.1, (z.2.2.1 + 0), (z.2.2.2.1 + 1), z.2.2.2.2)) else some (.inl (1, z.2.1, (z.2.2.1 + 1), (z.2.2.2.1 + 1), z.2.2.2.2)))))
noncomputable def fX12_stationByMinutes (M : Mem) (a1 : Int32) : Option (Int32 × Mem) := lp (fX12_stationByMinutes_s a1) (0, 0, 0, 0, (up2 M 0 4 (0 : Int32)))
set_option maxHeartbeats 4000000 in
set_option maxRecDepth 100000 in
theorem mX12_stationByMinutes (l : Launch) (E : EP) (B0 : Nat) (b : Nat) (hb0 : B0 ≤ b) (M : Mem) (a1 : Int32) (r : Int32 × Mem) (hf : fX12_stationByMinutes M a1 = some r) : MU l E B0 yX12_stationByMinutes cX12_stationByMinutes 5 (some .int) 2 0 0 [.ref (b + 0), .int a1] (Blk E b modSh 10 M) (some (.int r.1)) (Blk E b modSh 10 r.2) (iv b 10) := by
  refine mu_of (by decide +kernel) (Nat.le_of_ble_eq_true rfl) ?_
  intro p e s m args below meth c hx hb hml hown hts hrt hlocks hE H hM hS ls hl
  have hown : s.vm.findClass RX12 = some m.cls := hown
  have hl : lv_has ls 5 [(0, .ref (b + 0)), (1, .int a1)] := hl
  have hw : ∀ w ∈ WA, w.before args s = true := fun w h => hts w (List.mem_cons_of_mem _ h)
  have hAB : ∀ q, (iv b 10) q → B0 ≤ q := (iv_ge (by omega))
  unfold fX12_stationByMinutes at hf
  have loop : ∀ (fu : Nat) (z : Nat × Int32 × Int32 × Int32 × Mem), lpI (fX12_stationByMinutes_s a1) fu z = some r → (∀ (H : Heap) (locs : List Loc) (ls : Array Slot), z.1 = 0 → Blk E b modSh 10 z.2.2.2.2 H → va_S (iv b 10) s.heap H locs → lv_has ls 5 [(0, .ref (b + 0)), (1, .int a1), (2, .int z.2.1)] → W p l e (rmD 2 0 0) s m args below meth c H locs 0 0 (MQ below (QU (some (.int r.1)) (Blk E b modSh 10 r.2) (iv b 10)) args s 0 0 (iv b 10)) (F0 m 7 ls [])) ∧ (∀ (H : Heap) (locs : List Loc) (ls : Array Slot), z.1 = 1 → Blk E b modSh 10 z.2.2.2.2 H → va_S (iv b 10) s.heap H locs → lv_has ls 5 [(0, .ref (b + 0)), (1, .int a1), (2, .int z.2.1), (3, .int z.2.2.1), (4, .int z.2.2.2.1)] → W p l e (rmD 2 0 0) s m args below meth c H locs 0 0 (MQ below (QU (some (.int r.1)) (Blk E b modSh 10 r.2) (iv b 10)) args s 0 0 (iv b 10)) (F0 m 22 ls [])) := by
    intro fu
    induction fu with
    | zero =>
      intro z hn
      exact nomatch hn
    | succ fu ih =>
      intro z hn
      obtain ⟨y, hf, hy⟩ := lpI_succ hn
      refine ⟨?_, ?_⟩
      · intro H locs ls hz hM hS hl
        unfold fX12_stationByMinutes_s at hf
        rw [if_pos hz] at hf
        refine lv_iload_n hx hb dX12_stationByMinutes_7 rfl (lv_at hl 2 rfl) ?_
        refine lv_aload_n hx hb dX12_stationByMinutes_8 rfl (lv_at hl 0 rfl) ?_
        refine w_get (k := 0) (v := .ref (b + 1)) hx hb hw hown hE fl_X12_7 hM (by decide) rfl rfl rfl dX12_stationByMinutes_9 ?_
        refine lv_iconst (v := 0) hx hb dX12_stationByMinutes_12 (by decide) ?_
        refine w_iald (k := 1) (x9 := 0) hx hb hE hM (by decide) rfl (by decide) (by decide) dX12_stationByMinutes_13 ?_
        refine lv_icmp_ge (tgt := 70) hx hb dX12_stationByMinutes_14 (by decide) (fun c1 => ?_) (fun c1 => ?_)
        · rw [if_pos c1] at hf
          refine lv_aload_n hx hb dX12_stationByMinutes_70 rfl (lv_at hl 0 rfl) ?_
          refine lv_iconst (v := 1) hx hb dX12_stationByMinutes_71 (by decide) ?_
          obtain ⟨z2, hc3, hf⟩ := br_some hf
          refine mu_cV (As := [.int 1]) (rest := []) hx hb hml hown hts hE (mX12_fail l E B0 b (by omega) z.2.2.2.2 (1 : Int32) z2 hc3) cv_X12_119 (w_recv (k := 0) (ci := 12) hE hM (by decide) rfl rfl) hM hS hAB (fun _ h => h) rfl hl.1 rfl (by decide) (Nat.le_of_ble_eq_true rfl) ⟨Nat.le_refl _, Nat.le_refl _⟩ dX12_stationByMinutes_72 (fun H locs hM _ hu hS => ?_)
          have hre := lp_end hy (Option.some.inj hf).symm
          subst hre
          exact mu_i (v := z2.1) hx hb hrt hlocks hM hS dX12_stationByMinutes_75
        · rw [if_neg c1] at hf
          refine lv_iconst (v := 0) hx hb dX12_stationByMinutes_17 (by decide) ?_
          refine lv_istore_n (lv' := [(3, .int 0), (0, .ref (b + 0)), (1, .int a1), (2, .int z.2.1)]) hx hb dX12_stationByMinutes_18 rfl hl (by decide) rfl (fun ls hl => ?_)
          refine lv_iconst (v := 0) hx hb dX12_stationByMinutes_19 (by decide) ?_
          refine lv_istore (lv' := [(4, .int 0), (3, .int 0), (0, .ref (b + 0)), (1, .int a1), (2, .int z.2.1)]) hx hb dX12_stationByMinutes_20 hl (by decide) rfl (fun ls hl => ?_)
          exact (ih (1, z.2.1, 0, 0, z.2.2.2.2) (lp_back hy (Option.some.inj hf).symm)).2 _ _ _ rfl hM hS (lv_sub hl [2, 3, 4, 1, 0] rfl)
      · intro H locs ls hz hM hS hl
        unfold fX12_stationByMinutes_s at hf
        rw [if_neg (by rw [hz]; decide)] at hf
        refine lv_iload hx hb dX12_stationByMinutes_22 (lv_at hl 4 rfl) ?_
        refine lv_aload_n hx hb dX12_stationByMinutes_24 rfl (lv_at hl 0 rfl) ?_
        refine w_get (k := 0) (v := .ref (b + 1)) hx hb hw hown hE fl_X12_7 hM (by decide) rfl rfl rfl dX12_stationByMinutes_25 ?_
        refine lv_iconst (v := 0) hx hb dX12_stationByMinutes_28 (by decide) ?_
        refine w_iald (k := 1) (x9 := 0) hx hb hE hM (by decide) rfl (by decide) (by decide) dX12_stationByMinutes_29 ?_
        refine lv_icmp_ge (tgt := 57) hx hb dX12_stationByMinutes_30 (by decide) (fun c4 => ?_) (fun c4 => ?_)
        · rw [if_pos c4] at hf
          refine lv_iload_n hx hb dX12_stationByMinutes_57 rfl (lv_at hl 3 rfl) ?_
          refine lv_iload_n hx hb dX12_stationByMinutes_58 rfl (lv_at hl 1 rfl) ?_
          refine lv_icmp_ne (tgt := 64) hx hb dX12_stationByMinutes_59 (by decide) (fun c5 => ?_) (fun c5 => ?_)
          · rw [if_neg c5] at hf
            refine lv_iinc (v := (z.2.1 + 1)) (lv' := [(2, .int (z.2.1 + 1)), (0, .ref (b + 0)), (1, .int a1), (3, .int z.2.2.1), (4, .int z.2.2.2.1)]) hx hb dX12_stationByMinutes_64 hl (k := 2) rfl rfl (by decide) rfl (fun ls hl => ?_)
            refine lv_goto (tgt := 7) hx hb dX12_stationByMinutes_67 (by decide) ?_
            exact (ih (0, (z.2.1 + 1), 0, 0, z.2.2.2.2) (lp_back hy (Option.some.inj hf).symm)).1 _ _ _ rfl hM hS (lv_sub hl [1, 2, 0] rfl)
          · rw [if_pos c5] at hf
            refine lv_iload_n hx hb dX12_stationByMinutes_62 rfl (lv_at hl 2 rfl) ?_
            have hre := lp_end hy (Option.some.inj hf).symm
            subst hre
            exact mu_i (v := z.2.1) hx hb hrt hlocks hM hS dX12_stationByMinutes_63
        · rw [if_neg c4] at hf
          refine lv_iload_n hx hb dX12_stationByMinutes_33 rfl (lv_at hl 3 rfl) ?_
          refine lv_aload_n hx hb dX12_stationByMinutes_34 rfl (lv_at hl 0 rfl) ?_
          refine lv_iload hx hb dX12_stationByMinutes_35 (lv_at hl 4 rfl) ?_
          refine lv_iload_n hx hb dX12_stationByMinutes_37 rfl (lv_at hl 2 rfl) ?_
          obtain ⟨z6, hc7, hf⟩ := br_some hf
          refine mu_cV (As := [.int z.2.2.2.1, .int z.2.1]) (rest := [.int z.2.2.1]) hx hb hml hown hts hE (mX12_isAhead l E B0 b (by omega) z.2.2.2.2 z.2.2.2.1 z.2.1 z6 hc7) cv_X12_200 (w_recv (k := 0) (ci := 12) hE hM (by decide) rfl rfl) hM hS hAB (fun _ h => h.elim) rfl hl.1 rfl (by decide) (Nat.le_of_ble_eq_true rfl) ⟨Nat.le_refl _, Nat.le_refl _⟩ dX12_stationByMinutes_38 (fun H locs hM _ hu hS => ?_)
          refine lv_if_eq (tgt := 48) hx hb dX12_stationByMinutes_41 (by decide) (fun c8 => ?_) (fun c8 => ?_)
          · rw [if_pos c8] at hf
            refine lv_iconst (v := 0) hx hb dX12_stationByMinutes_48 (by decide) ?_
            refine lv_iadd hx hb dX12_stationByMinutes_49 ?_
            refine lv_istore_n (lv' := [(3, .int (z.2.2.1 + 0)), (0, .ref (b + 0)), (1, .int a1), (2, .int z.2.1), (4, .int z.2.2.2.1)]) hx hb dX12_stationByMinutes_50 rfl hl (by decide) rfl (fun ls hl => ?_)
            refine lv_iinc (v := (z.2.2.2.1 + 1)) (lv' := [(4, .int (z.2.2.2.1 + 1)), (3, .int (z.2.2.1 + 0)), (0, .ref (b + 0)), (1, .int a1), (2, .int z.2.1)]) hx hb dX12_stationByMinutes_51 hl (k := 4) rfl rfl (by decide) rfl (fun ls hl => ?_)
            refine lv_goto (tgt := 22) hx hb dX12_stationByMinutes_54 (by decide) ?_
            exact (ih (1, z.2.1, (z.2.2.1 + 0), (z.2.2.2.1 + 1), z.2.2.2.2) (lp_back hy (Option.some.inj hf).symm)).2 _ _ _ rfl hM hS (lv_sub hl [2, 3, 4, 1, 0] rfl)
          · rw [if_neg c8] at hf
            refine lv_iconst (v := 1) hx hb dX12_stationByMinutes_44 (by decide) ?_
            refine lv_goto (tgt := 49) hx hb dX12_stationByMinutes_45 (by decide) ?_
            refine lv_iadd hx hb dX12_stationByMinutes_49 ?_
            refine lv_istore_n (lv' := [(3, .int (z.2.2.1 + 1)), (0, .ref (b + 0)), (1, .int a1), (2, .int z.2.1), (4, .int z.2.2.2.1)]) hx hb dX12_stationByMinutes_50 rfl hl (by decide) rfl (fun ls hl => ?_)
            refine lv_iinc (v := (z.2.2.2.1 + 1)) (lv' := [(4, .int (z.2.2.2.1 + 1)), (3, .int (z.2.2.1 + 1)), (0, .ref (b + 0)), (1, .int a1), (2, .int z.2.1)]) hx hb dX12_stationByMinutes_51 hl (k := 4) rfl rfl (by decide) rfl (fun ls hl => ?_)
            refine lv_goto (tgt := 22) hx hb dX12_stationByMinutes_54 (by decide) ?_
            exact (ih (1, z.2.1, (z.2.2.1 + 1), (z.2.2.2.1 + 1), z.2.2.2.2) (lp_back hy (Option.some.inj hf).symm)).2 _ _ _ rfl hM hS (lv_sub hl [2, 3, 4, 1, 0] rfl)
  refine lv_aload_n hx hb dX12_stationByMinutes_0 rfl (lv_at hl 0 rfl) ?_
  refine lv_iconst (v := 0) hx hb dX12_stationByMinutes_1 (by decide) ?_
  refine w_put (k := 0) (v := .int 0) hx hb hw hown hE fl_X12_22 fw_X12_4 hM (by decide) rfl rfl (0 : Int32) rfl rfl rfl hS (iv_mem (by decide)) dX12_stationByMinutes_2 (fun H locs hM _ hu hS => ?_)
  refine lv_iconst (v := 0) hx hb dX12_stationByMinutes_5 (by decide) ?_
  refine lv_istore_n (lv' := [(2, .int 0), (0, .ref (b + 0)), (1, .int a1)]) hx hb dX12_stationByMinutes_6 rfl hl (by decide) rfl (fun ls hl => ?_)
  obtain ⟨fu, hfu⟩ := lp_some hf
  exact (loop fu (0, 0, 0, 0, (up2 M 0 4 (0 : Int32))) hfu).1 _ _ _ rfl hM hS (lv_sub hl [1, 2, 0] rfl)
noncomputable def fX12_speaker (M : Mem) (a1 : Int32) : Option (Int32 × Mem) := (fX12_isChannel a1).bind fun z1 => (if z1 = 0 then (if ((up2 M 0 4 (1 : Int32)) 0 4) ≤ 0 then (fX12_speakerOn (up2 M 0 4 (1 : Int32)) a1).bind fun z14 => some (z14, (up2 M 0 4 (1 : Int32))) else some (0, (up2 M 0 4 (1 : Int32)))) else (fX12_speakerOn M a1).bind fun z4 => (if 0 ≤ z4 then (if ((up2 M 0 4 (0 : Int32)) 0 4) ≤ 0 then (fX12_speakerOn (up2 M 0 4 (0 : Int32)) a1).bind fun z8 => some (z8, (up2 M 0 4 (0 : Int32))) else some (0, (up2 M 0 4 (0 : Int32)))) else (if ((up2 M 0 4 (2 : Int32)) 0 4) ≤ 0 then (fX12_speakerOn (up2 M 0 4 (2 : Int32)) a1).bind fun z11 => some (z11, (up2 M 0 4 (2 : Int32))) else some (0, (up2 M 0 4 (2 : Int32))))))
set_option maxHeartbeats 4000000 in
set_option maxRecDepth 100000 in
theorem mX12_speaker (l : Launch) (E : EP) (B0 : Nat) (b : Nat) (hb0 : B0 ≤ b) (M : Mem) (a1 : Int32) (r : Int32 × Mem) (hf : fX12_speaker M a1 = some r) : MU l E B0 yX12_speaker cX12_speaker 2 (some .int) 2 0 0 [.ref (b + 0), .int a1] (Blk E b modSh 10 M) (some (.int r.1)) (Blk E b modSh 10 r.2) (iv b 10) := by
  refine mu_of (by decide +kernel) (Nat.le_of_ble_eq_true rfl) ?_
  intro p e s m args below meth c hx hb hml hown hts hrt hlocks hE H hM hS ls hl
  have hown : s.vm.findClass RX12 = some m.cls := hown
  have hl : lv_has ls 2 [(0, .ref (b + 0)), (1, .int a1)] := hl
  have hw : ∀ w ∈ WA, w.before args s = true := fun w h => hts w (List.mem_cons_of_mem _ h)
  have hAB : ∀ q, (iv b 10) q → B0 ≤ q := (iv_ge (by omega))
  unfold fX12_speaker at hf
  refine lv_aload_n hx hb dX12_speaker_0 rfl (lv_at hl 0 rfl) ?_
  refine lv_iload_n hx hb dX12_speaker_1 rfl (lv_at hl 1 rfl) ?_
  obtain ⟨z1, hc2, hf⟩ := br_some hf
  refine mu_cS (As := [.int a1]) (rest := [.ref (b + 0)]) hx hb hml hown hts hE (mX12_isChannel l E B0 a1 z1 hc2) cs_X12_101 trivial hS hAB (fun _ h => h.elim) rfl hl.1 rfl (by decide) (Nat.le_of_ble_eq_true rfl) ⟨Nat.le_refl _, Nat.le_refl _⟩ dX12_speaker_2 (fun H locs _ _ hu hS => ?_)
  have hM := Blk.off hM hu (fun _ _ _ h => h)
  refine lv_if_ne (tgt := 12) hx hb dX12_speaker_5 (by decide) (fun c3 => ?_) (fun c3 => ?_)
  · rw [if_neg c3] at hf
    refine lv_aload_n hx hb dX12_speaker_12 rfl (lv_at hl 0 rfl) ?_
    refine lv_iload_n hx hb dX12_speaker_13 rfl (lv_at hl 1 rfl) ?_
    obtain ⟨z4, hc5, hf⟩ := br_some hf
    refine mu_cV (As := [.int a1]) (rest := [.ref (b + 0)]) hx hb hml hown hts hE (mX12_speakerOn l E B0 b (by omega) M a1 z4 hc5) cv_X12_150 (w_recv (k := 0) (ci := 12) hE hM (by decide) rfl rfl) hM hS hAB (fun _ h => h.elim) rfl hl.1 rfl (by decide) (Nat.le_of_ble_eq_true rfl) ⟨Nat.le_refl _, Nat.le_refl _⟩ dX12_speaker_14 (fun H locs hM _ hu hS => ?_)
    refine lv_if_ge (tgt := 24) hx hb dX12_speaker_17 (by decide) (fun c6 => ?_) (fun c6 => ?_)
    · rw [if_pos c6] at hf
      refine lv_iconst (v := 0) hx hb dX12_speaker_24 (by decide) ?_
      refine w_put (k := 0) (v := .int 0) hx hb hw hown hE fl_X12_22 fw_X12_4 hM (by decide) rfl rfl (0 : Int32) rfl rfl rfl hS (iv_mem (by decide)) dX12_speaker_25 (fun H locs hM _ hu hS => ?_)
      refine lv_aload_n hx hb dX12_speaker_28 rfl (lv_at hl 0 rfl) ?_
      refine w_get (k := 0) (v := .int ((up2 M 0 4 (0 : Int32)) 0 4)) hx hb hw hown hE fl_X12_22 hM (by decide) rfl rfl rfl dX12_speaker_29 ?_
      refine lv_if_le (tgt := 39) hx hb dX12_speaker_32 (by decide) (fun c7 => ?_) (fun c7 => ?_)
      · rw [if_pos c7] at hf
        refine lv_aload_n hx hb dX12_speaker_39 rfl (lv_at hl 0 rfl) ?_
        refine lv_iload_n hx hb dX12_speaker_40 rfl (lv_at hl 1 rfl) ?_
        obtain ⟨z8, hc9, hf⟩ := br_some hf
        refine mu_cV (As := [.int a1]) (rest := []) hx hb hml hown hts hE (mX12_speakerOn l E B0 b (by omega) (up2 M 0 4 (0 : Int32)) a1 z8 hc9) cv_X12_150 (w_recv (k := 0) (ci := 12) hE hM (by decide) rfl rfl) hM hS hAB (fun _ h => h.elim) rfl hl.1 rfl (by decide) (Nat.le_of_ble_eq_true rfl) ⟨Nat.le_refl _, Nat.le_refl _⟩ dX12_speaker_41 (fun H locs hM _ hu hS => ?_)
        have hre := Option.some.inj hf
        subst hre
        exact mu_i (v := z8) hx hb hrt hlocks hM hS dX12_speaker_44
      · rw [if_neg c7] at hf
        refine lv_iconst (v := 0) hx hb dX12_speaker_35 (by decide) ?_
        refine lv_goto (tgt := 44) hx hb dX12_speaker_36 (by decide) ?_
        have hre := Option.some.inj hf
        subst hre
        exact mu_i (v := 0) hx hb hrt hlocks hM hS dX12_speaker_44
    · rw [if_neg c6] at hf
      refine lv_iconst (v := 2) hx hb dX12_speaker_20 (by decide) ?_
      refine lv_goto (tgt := 25) hx hb dX12_speaker_21 (by decide) ?_
      refine w_put (k := 0) (v := .int 2) hx hb hw hown hE fl_X12_22 fw_X12_4 hM (by decide) rfl rfl (2 : Int32) rfl rfl rfl hS (iv_mem (by decide)) dX12_speaker_25 (fun H locs hM _ hu hS => ?_)
      refine lv_aload_n hx hb dX12_speaker_28 rfl (lv_at hl 0 rfl) ?_
      refine w_get (k := 0) (v := .int ((up2 M 0 4 (2 : Int32)) 0 4)) hx hb hw hown hE fl_X12_22 hM (by decide) rfl rfl rfl dX12_speaker_29 ?_
      refine lv_if_le (tgt := 39) hx hb dX12_speaker_32 (by decide) (fun c10 => ?_) (fun c10 => ?_)
      · rw [if_pos c10] at hf
        refine lv_aload_n hx hb dX12_speaker_39 rfl (lv_at hl 0 rfl) ?_
        refine lv_iload_n hx hb dX12_speaker_40 rfl (lv_at hl 1 rfl) ?_
        obtain ⟨z11, hc12, hf⟩ := br_some hf
        refine mu_cV (As := [.int a1]) (rest := []) hx hb hml hown hts hE (mX12_speakerOn l E B0 b (by omega) (up2 M 0 4 (2 : Int32)) a1 z11 hc12) cv_X12_150 (w_recv (k := 0) (ci := 12) hE hM (by decide) rfl rfl) hM hS hAB (fun _ h => h.elim) rfl hl.1 rfl (by decide) (Nat.le_of_ble_eq_true rfl) ⟨Nat.le_refl _, Nat.le_refl _⟩ dX12_speaker_41 (fun H locs hM _ hu hS => ?_)
        have hre := Option.some.inj hf
        subst hre
        exact mu_i (v := z11) hx hb hrt hlocks hM hS dX12_speaker_44
      · rw [if_neg c10] at hf
        refine lv_iconst (v := 0) hx hb dX12_speaker_35 (by decide) ?_
        refine lv_goto (tgt := 44) hx hb dX12_speaker_36 (by decide) ?_
        have hre := Option.some.inj hf
        subst hre
        exact mu_i (v := 0) hx hb hrt hlocks hM hS dX12_speaker_44
  · rw [if_pos c3] at hf
    refine lv_iconst (v := 1) hx hb dX12_speaker_8 (by decide) ?_
    refine lv_goto (tgt := 25) hx hb dX12_speaker_9 (by decide) ?_
    refine w_put (k := 0) (v := .int 1) hx hb hw hown hE fl_X12_22 fw_X12_4 hM (by decide) rfl rfl (1 : Int32) rfl rfl rfl hS (iv_mem (by decide)) dX12_speaker_25 (fun H locs hM _ hu hS => ?_)
    refine lv_aload_n hx hb dX12_speaker_28 rfl (lv_at hl 0 rfl) ?_
    refine w_get (k := 0) (v := .int ((up2 M 0 4 (1 : Int32)) 0 4)) hx hb hw hown hE fl_X12_22 hM (by decide) rfl rfl rfl dX12_speaker_29 ?_
    refine lv_if_le (tgt := 39) hx hb dX12_speaker_32 (by decide) (fun c13 => ?_) (fun c13 => ?_)
    · rw [if_pos c13] at hf
      refine lv_aload_n hx hb dX12_speaker_39 rfl (lv_at hl 0 rfl) ?_
      refine lv_iload_n hx hb dX12_speaker_40 rfl (lv_at hl 1 rfl) ?_
      obtain ⟨z14, hc15, hf⟩ := br_some hf
      refine mu_cV (As := [.int a1]) (rest := []) hx hb hml hown hts hE (mX12_speakerOn l E B0 b (by omega) (up2 M 0 4 (1 : Int32)) a1 z14 hc15) cv_X12_150 (w_recv (k := 0) (ci := 12) hE hM (by decide) rfl rfl) hM hS hAB (fun _ h => h.elim) rfl hl.1 rfl (by decide) (Nat.le_of_ble_eq_true rfl) ⟨Nat.le_refl _, Nat.le_refl _⟩ dX12_speaker_41 (fun H locs hM _ hu hS => ?_)
      have hre := Option.some.inj hf
      subst hre
      exact mu_i (v := z14) hx hb hrt hlocks hM hS dX12_speaker_44
    · rw [if_neg c13] at hf
      refine lv_iconst (v := 0) hx hb dX12_speaker_35 (by decide) ?_
      refine lv_goto (tgt := 44) hx hb dX12_speaker_36 (by decide) ?_
      have hre := Option.some.inj hf
      subst hre
      exact mu_i (v := 0) hx hb hrt hlocks hM hS dX12_speaker_44
noncomputable def fX12_lineLength (M : Mem) (a1 : Int32) : Option (Int32 × Mem) := (fX12_isChannel a1).bind fun z1 => (if z1 = 0 then (if ((up2 M 0 4 (1 : Int32)) 0 4) ≤ 0 then (fX12_lineOf (up2 M 0 4 (1 : Int32)) a1).bind fun z5 => some (z5, (up2 M 0 4 (1 : Int32))) else some (0, (up2 M 0 4 (1 : Int32)))) else (if ((up2 M 0 4 (0 : Int32)) 0 4) ≤ 0 then (fX12_lineOf (up2 M 0 4 (0 : Int32)) a1).bind fun z8 => some (z8, (up2 M 0 4 (0 : Int32))) else some (0, (up2 M 0 4 (0 : Int32)))))
set_option maxHeartbeats 4000000 in
set_option maxRecDepth 100000 in
theorem mX12_lineLength (l : Launch) (E : EP) (B0 : Nat) (b : Nat) (hb0 : B0 ≤ b) (M : Mem) (a1 : Int32) (r : Int32 × Mem) (hf : fX12_lineLength M a1 = some r) : MU l E B0 yX12_lineLength cX12_lineLength 2 (some .int) 3 0 0 [.ref (b + 0), .int a1] (Blk E b modSh 10 M) (some (.int r.1)) (Blk E b modSh 10 r.2) (iv b 10) := by
  refine mu_of (by decide +kernel) (Nat.le_of_ble_eq_true rfl) ?_
  intro p e s m args below meth c hx hb hml hown hts hrt hlocks hE H hM hS ls hl
  have hown : s.vm.findClass RX12 = some m.cls := hown
  have hl : lv_has ls 2 [(0, .ref (b + 0)), (1, .int a1)] := hl
  have hw : ∀ w ∈ WA, w.before args s = true := fun w h => hts w (List.mem_cons_of_mem _ h)
  have hAB : ∀ q, (iv b 10) q → B0 ≤ q := (iv_ge (by omega))
  unfold fX12_lineLength at hf
  refine lv_aload_n hx hb dX12_lineLength_0 rfl (lv_at hl 0 rfl) ?_
  refine lv_iload_n hx hb dX12_lineLength_1 rfl (lv_at hl 1 rfl) ?_
  obtain ⟨z1, hc2, hf⟩ := br_some hf
  refine mu_cS (As := [.int a1]) (rest := [.ref (b + 0)]) hx hb hml hown hts hE (mX12_isChannel l E B0 a1 z1 hc2) cs_X12_101 trivial hS hAB (fun _ h => h.elim) rfl hl.1 rfl (by decide) (Nat.le_of_ble_eq_true rfl) ⟨Nat.le_refl _, Nat.le_refl _⟩ dX12_lineLength_2 (fun H locs _ _ hu hS => ?_)
  have hM := Blk.off hM hu (fun _ _ _ h => h)
  refine lv_if_eq (tgt := 12) hx hb dX12_lineLength_5 (by decide) (fun c3 => ?_) (fun c3 => ?_)
  · rw [if_pos c3] at hf
    refine lv_iconst (v := 1) hx hb dX12_lineLength_12 (by decide) ?_
    refine w_put (k := 0) (v := .int 1) hx hb hw hown hE fl_X12_22 fw_X12_4 hM (by decide) rfl rfl (1 : Int32) rfl rfl rfl hS (iv_mem (by decide)) dX12_lineLength_13 (fun H locs hM _ hu hS => ?_)
    refine lv_aload_n hx hb dX12_lineLength_16 rfl (lv_at hl 0 rfl) ?_
    refine w_get (k := 0) (v := .int ((up2 M 0 4 (1 : Int32)) 0 4)) hx hb hw hown hE fl_X12_22 hM (by decide) rfl rfl rfl dX12_lineLength_17 ?_
    refine lv_if_le (tgt := 27) hx hb dX12_lineLength_20 (by decide) (fun c4 => ?_) (fun c4 => ?_)
    · rw [if_pos c4] at hf
      refine lv_aload_n hx hb dX12_lineLength_27 rfl (lv_at hl 0 rfl) ?_
      refine lv_iload_n hx hb dX12_lineLength_28 rfl (lv_at hl 1 rfl) ?_
      obtain ⟨z5, hc6, hf⟩ := br_some hf
      refine mu_cV (As := [.int a1]) (rest := []) hx hb hml hown hts hE (mX12_lineOf l E B0 b (by omega) (up2 M 0 4 (1 : Int32)) a1 z5 hc6) cv_X12_172 (w_recv (k := 0) (ci := 12) hE hM (by decide) rfl rfl) hM hS hAB (fun _ h => h.elim) rfl hl.1 rfl (by decide) (Nat.le_of_ble_eq_true rfl) ⟨Nat.le_refl _, Nat.le_refl _⟩ dX12_lineLength_29 (fun H locs hM _ hu hS => ?_)
      have hre := Option.some.inj hf
      subst hre
      exact mu_i (v := z5) hx hb hrt hlocks hM hS dX12_lineLength_32
    · rw [if_neg c4] at hf
      refine lv_iconst (v := 0) hx hb dX12_lineLength_23 (by decide) ?_
      refine lv_goto (tgt := 32) hx hb dX12_lineLength_24 (by decide) ?_
      have hre := Option.some.inj hf
      subst hre
      exact mu_i (v := 0) hx hb hrt hlocks hM hS dX12_lineLength_32
  · rw [if_neg c3] at hf
    refine lv_iconst (v := 0) hx hb dX12_lineLength_8 (by decide) ?_
    refine lv_goto (tgt := 13) hx hb dX12_lineLength_9 (by decide) ?_
    refine w_put (k := 0) (v := .int 0) hx hb hw hown hE fl_X12_22 fw_X12_4 hM (by decide) rfl rfl (0 : Int32) rfl rfl rfl hS (iv_mem (by decide)) dX12_lineLength_13 (fun H locs hM _ hu hS => ?_)
    refine lv_aload_n hx hb dX12_lineLength_16 rfl (lv_at hl 0 rfl) ?_
    refine w_get (k := 0) (v := .int ((up2 M 0 4 (0 : Int32)) 0 4)) hx hb hw hown hE fl_X12_22 hM (by decide) rfl rfl rfl dX12_lineLength_17 ?_
    refine lv_if_le (tgt := 27) hx hb dX12_lineLength_20 (by decide) (fun c7 => ?_) (fun c7 => ?_)
    · rw [if_pos c7] at hf
      refine lv_aload_n hx hb dX12_lineLength_27 rfl (lv_at hl 0 rfl) ?_
      refine lv_iload_n hx hb dX12_lineLength_28 rfl (lv_at hl 1 rfl) ?_
      obtain ⟨z8, hc9, hf⟩ := br_some hf
      refine mu_cV (As := [.int a1]) (rest := []) hx hb hml hown hts hE (mX12_lineOf l E B0 b (by omega) (up2 M 0 4 (0 : Int32)) a1 z8 hc9) cv_X12_172 (w_recv (k := 0) (ci := 12) hE hM (by decide) rfl rfl) hM hS hAB (fun _ h => h.elim) rfl hl.1 rfl (by decide) (Nat.le_of_ble_eq_true rfl) ⟨Nat.le_refl _, Nat.le_refl _⟩ dX12_lineLength_29 (fun H locs hM _ hu hS => ?_)
      have hre := Option.some.inj hf
      subst hre
      exact mu_i (v := z8) hx hb hrt hlocks hM hS dX12_lineLength_32
    · rw [if_neg c7] at hf
      refine lv_iconst (v := 0) hx hb dX12_lineLength_23 (by decide) ?_
      refine lv_goto (tgt := 32) hx hb dX12_lineLength_24 (by decide) ?_
      have hre := Option.some.inj hf
      subst hre
      exact mu_i (v := 0) hx hb hrt hlocks hM hS dX12_lineLength_32
noncomputable def fX12_waiting (M : Mem) (a1 : Int32) (a2 : Int32) : Option (Int32 × Mem) := (fX12_isChannel a1).bind fun z1 => (if z1 = 0 then (if ((up2 M 0 4 (1 : Int32)) 0 4) ≤ 0 then (fX12_inLine (up2 M 0 4 (1 : Int32)) a1 a2).bind fun z14 => some (z14, (up2 M 0 4 (1 : Int32))) else some (0, (up2 M 0 4 (1 : Int32)))) else (fX12_inLine M a1 a2).bind fun z4 => (if 0 ≤ z4 then (if ((up2 M 0 4 (0 : Int32)) 0 4) ≤ 0 then (fX12_inLine (up2 M 0 4 (0 : Int32)) a1 a2).bind fun z8 => some (z8, (up2 M 0 4 (0 : Int32))) else some (0, (up2 M 0 4 (0 : Int32)))) else (if ((up2 M 0 4 (2 : Int32)) 0 4) ≤ 0 then (fX12_inLine (up2 M 0 4 (2 : Int32)) a1 a2).bind fun z11 => some (z11, (up2 M 0 4 (2 : Int32))) else some (0, (up2 M 0 4 (2 : Int32))))))
set_option maxHeartbeats 4000000 in
set_option maxRecDepth 100000 in
theorem mX12_waiting (l : Launch) (E : EP) (B0 : Nat) (b : Nat) (hb0 : B0 ≤ b) (M : Mem) (a1 : Int32) (a2 : Int32) (r : Int32 × Mem) (hf : fX12_waiting M a1 a2 = some r) : MU l E B0 yX12_waiting cX12_waiting 3 (some .int) 4 0 0 [.ref (b + 0), .int a1, .int a2] (Blk E b modSh 10 M) (some (.int r.1)) (Blk E b modSh 10 r.2) (iv b 10) := by
  refine mu_of (by decide +kernel) (Nat.le_of_ble_eq_true rfl) ?_
  intro p e s m args below meth c hx hb hml hown hts hrt hlocks hE H hM hS ls hl
  have hown : s.vm.findClass RX12 = some m.cls := hown
  have hl : lv_has ls 3 [(0, .ref (b + 0)), (1, .int a1), (2, .int a2)] := hl
  have hw : ∀ w ∈ WA, w.before args s = true := fun w h => hts w (List.mem_cons_of_mem _ h)
  have hAB : ∀ q, (iv b 10) q → B0 ≤ q := (iv_ge (by omega))
  unfold fX12_waiting at hf
  refine lv_aload_n hx hb dX12_waiting_0 rfl (lv_at hl 0 rfl) ?_
  refine lv_iload_n hx hb dX12_waiting_1 rfl (lv_at hl 1 rfl) ?_
  obtain ⟨z1, hc2, hf⟩ := br_some hf
  refine mu_cS (As := [.int a1]) (rest := [.ref (b + 0)]) hx hb hml hown hts hE (mX12_isChannel l E B0 a1 z1 hc2) cs_X12_101 trivial hS hAB (fun _ h => h.elim) rfl hl.1 rfl (by decide) (Nat.le_of_ble_eq_true rfl) ⟨Nat.le_refl _, Nat.le_refl _⟩ dX12_waiting_2 (fun H locs _ _ hu hS => ?_)
  have hM := Blk.off hM hu (fun _ _ _ h => h)
  refine lv_if_ne (tgt := 12) hx hb dX12_waiting_5 (by decide) (fun c3 => ?_) (fun c3 => ?_)
  · rw [if_neg c3] at hf
    refine lv_aload_n hx hb dX12_waiting_12 rfl (lv_at hl 0 rfl) ?_
    refine lv_iload_n hx hb dX12_waiting_13 rfl (lv_at hl 1 rfl) ?_
    refine lv_iload_n hx hb dX12_waiting_14 rfl (lv_at hl 2 rfl) ?_
    obtain ⟨z4, hc5, hf⟩ := br_some hf
    refine mu_cV (As := [.int a1, .int a2]) (rest := [.ref (b + 0)]) hx hb hml hown hts hE (mX12_inLine l E B0 b (by omega) M a1 a2 z4 hc5) cv_X12_166 (w_recv (k := 0) (ci := 12) hE hM (by decide) rfl rfl) hM hS hAB (fun _ h => h.elim) rfl hl.1 rfl (by decide) (Nat.le_of_ble_eq_true rfl) ⟨Nat.le_refl _, Nat.le_refl _⟩ dX12_waiting_15 (fun H locs hM _ hu hS => ?_)
    refine lv_if_ge (tgt := 25) hx hb dX12_waiting_18 (by decide) (fun c6 => ?_) (fun c6 => ?_)
    · rw [if_pos c6] at hf
      refine lv_iconst (v := 0) hx hb dX12_waiting_25 (by decide) ?_
      refine w_put (k := 0) (v := .int 0) hx hb hw hown hE fl_X12_22 fw_X12_4 hM (by decide) rfl rfl (0 : Int32) rfl rfl rfl hS (iv_mem (by decide)) dX12_waiting_26 (fun H locs hM _ hu hS => ?_)
      refine lv_aload_n hx hb dX12_waiting_29 rfl (lv_at hl 0 rfl) ?_
      refine w_get (k := 0) (v := .int ((up2 M 0 4 (0 : Int32)) 0 4)) hx hb hw hown hE fl_X12_22 hM (by decide) rfl rfl rfl dX12_waiting_30 ?_
      refine lv_if_le (tgt := 40) hx hb dX12_waiting_33 (by decide) (fun c7 => ?_) (fun c7 => ?_)
      · rw [if_pos c7] at hf
        refine lv_aload_n hx hb dX12_waiting_40 rfl (lv_at hl 0 rfl) ?_
        refine lv_iload_n hx hb dX12_waiting_41 rfl (lv_at hl 1 rfl) ?_
        refine lv_iload_n hx hb dX12_waiting_42 rfl (lv_at hl 2 rfl) ?_
        obtain ⟨z8, hc9, hf⟩ := br_some hf
        refine mu_cV (As := [.int a1, .int a2]) (rest := []) hx hb hml hown hts hE (mX12_inLine l E B0 b (by omega) (up2 M 0 4 (0 : Int32)) a1 a2 z8 hc9) cv_X12_166 (w_recv (k := 0) (ci := 12) hE hM (by decide) rfl rfl) hM hS hAB (fun _ h => h.elim) rfl hl.1 rfl (by decide) (Nat.le_of_ble_eq_true rfl) ⟨Nat.le_refl _, Nat.le_refl _⟩ dX12_waiting_43 (fun H locs hM _ hu hS => ?_)
        have hre := Option.some.inj hf
        subst hre
        exact mu_i (v := z8) hx hb hrt hlocks hM hS dX12_waiting_46
      · rw [if_neg c7] at hf
        refine lv_iconst (v := 0) hx hb dX12_waiting_36 (by decide) ?_
        refine lv_goto (tgt := 46) hx hb dX12_waiting_37 (by decide) ?_
        have hre := Option.some.inj hf
        subst hre
        exact mu_i (v := 0) hx hb hrt hlocks hM hS dX12_waiting_46
    · rw [if_neg c6] at hf
      refine lv_iconst (v := 2) hx hb dX12_waiting_21 (by decide) ?_
      refine lv_goto (tgt := 26) hx hb dX12_waiting_22 (by decide) ?_
      refine w_put (k := 0) (v := .int 2) hx hb hw hown hE fl_X12_22 fw_X12_4 hM (by decide) rfl rfl (2 : Int32) rfl rfl rfl hS (iv_mem (by decide)) dX12_waiting_26 (fun H locs hM _ hu hS => ?_)
      refine lv_aload_n hx hb dX12_waiting_29 rfl (lv_at hl 0 rfl) ?_
      refine w_get (k := 0) (v := .int ((up2 M 0 4 (2 : Int32)) 0 4)) hx hb hw hown hE fl_X12_22 hM (by decide) rfl rfl rfl dX12_waiting_30 ?_
      refine lv_if_le (tgt := 40) hx hb dX12_waiting_33 (by decide) (fun c10 => ?_) (fun c10 => ?_)
      · rw [if_pos c10] at hf
        refine lv_aload_n hx hb dX12_waiting_40 rfl (lv_at hl 0 rfl) ?_
        refine lv_iload_n hx hb dX12_waiting_41 rfl (lv_at hl 1 rfl) ?_
        refine lv_iload_n hx hb dX12_waiting_42 rfl (lv_at hl 2 rfl) ?_
        obtain ⟨z11, hc12, hf⟩ := br_some hf
        refine mu_cV (As := [.int a1, .int a2]) (rest := []) hx hb hml hown hts hE (mX12_inLine l E B0 b (by omega) (up2 M 0 4 (2 : Int32)) a1 a2 z11 hc12) cv_X12_166 (w_recv (k := 0) (ci := 12) hE hM (by decide) rfl rfl) hM hS hAB (fun _ h => h.elim) rfl hl.1 rfl (by decide) (Nat.le_of_ble_eq_true rfl) ⟨Nat.le_refl _, Nat.le_refl _⟩ dX12_waiting_43 (fun H locs hM _ hu hS => ?_)
        have hre := Option.some.inj hf
        subst hre
        exact mu_i (v := z11) hx hb hrt hlocks hM hS dX12_waiting_46
      · rw [if_neg c10] at hf
        refine lv_iconst (v := 0) hx hb dX12_waiting_36 (by decide) ?_
        refine lv_goto (tgt := 46) hx hb dX12_waiting_37 (by decide) ?_
        have hre := Option.some.inj hf
        subst hre
        exact mu_i (v := 0) hx hb hrt hlocks hM hS dX12_waiting_46
  · rw [if_pos c3] at hf
    refine lv_iconst (v := 1) hx hb dX12_waiting_8 (by decide) ?_
    refine lv_goto (tgt := 26) hx hb dX12_waiting_9 (by decide) ?_
    refine w_put (k := 0) (v := .int 1) hx hb hw hown hE fl_X12_22 fw_X12_4 hM (by decide) rfl rfl (1 : Int32) rfl rfl rfl hS (iv_mem (by decide)) dX12_waiting_26 (fun H locs hM _ hu hS => ?_)
    refine lv_aload_n hx hb dX12_waiting_29 rfl (lv_at hl 0 rfl) ?_
    refine w_get (k := 0) (v := .int ((up2 M 0 4 (1 : Int32)) 0 4)) hx hb hw hown hE fl_X12_22 hM (by decide) rfl rfl rfl dX12_waiting_30 ?_
    refine lv_if_le (tgt := 40) hx hb dX12_waiting_33 (by decide) (fun c13 => ?_) (fun c13 => ?_)
    · rw [if_pos c13] at hf
      refine lv_aload_n hx hb dX12_waiting_40 rfl (lv_at hl 0 rfl) ?_
      refine lv_iload_n hx hb dX12_waiting_41 rfl (lv_at hl 1 rfl) ?_
      refine lv_iload_n hx hb dX12_waiting_42 rfl (lv_at hl 2 rfl) ?_
      obtain ⟨z14, hc15, hf⟩ := br_some hf
      refine mu_cV (As := [.int a1, .int a2]) (rest := []) hx hb hml hown hts hE (mX12_inLine l E B0 b (by omega) (up2 M 0 4 (1 : Int32)) a1 a2 z14 hc15) cv_X12_166 (w_recv (k := 0) (ci := 12) hE hM (by decide) rfl rfl) hM hS hAB (fun _ h => h.elim) rfl hl.1 rfl (by decide) (Nat.le_of_ble_eq_true rfl) ⟨Nat.le_refl _, Nat.le_refl _⟩ dX12_waiting_43 (fun H locs hM _ hu hS => ?_)
      have hre := Option.some.inj hf
      subst hre
      exact mu_i (v := z14) hx hb hrt hlocks hM hS dX12_waiting_46
    · rw [if_neg c13] at hf
      refine lv_iconst (v := 0) hx hb dX12_waiting_36 (by decide) ?_
      refine lv_goto (tgt := 46) hx hb dX12_waiting_37 (by decide) ?_
      have hre := Option.some.inj hf
      subst hre
      exact mu_i (v := 0) hx hb hrt hlocks hM hS dX12_waiting_46
noncomputable def fX12_untilTurn (M : Mem) (a1 : Int32) : Option (Int32 × Mem) := (fX12_unless M a1 (2 : Int32)).bind fun z1 => (if ((up2 M 0 4 z1) 0 4) ≤ 0 then (fX12_t (up2 M 0 4 z1) a1 (5 : Int32)).bind fun z4 => (fX12_speakerOn (up2 M 0 4 z1) z4).bind fun z6 => (fX12_t (up2 M 0 4 z1) z6 (8 : Int32)).bind fun z8 => (if (1 : Int32) ≤ (((up2 M 0 4 z1) 1 2) - z8) then (fX12_positionOf (up2 M 0 4 z1) a1).bind fun z11 => some (((((up2 M 0 4 z1) 1 2) - z8) + ((z11 - 1) * ((up2 M 0 4 z1) 1 2))), (up2 M 0 4 z1)) else (fX12_positionOf (up2 M 0 4 z1) a1).bind fun z13 => some (((1 : Int32) + ((z13 - 1) * ((up2 M 0 4 z1) 1 2))), (up2 M 0 4 z1))) else some (0, (up2 M 0 4 z1)))
set_option maxHeartbeats 4000000 in
set_option maxRecDepth 100000 in
theorem mX12_untilTurn (l : Launch) (E : EP) (B0 : Nat) (b : Nat) (hb0 : B0 ≤ b) (M : Mem) (a1 : Int32) (r : Int32 × Mem) (hf : fX12_untilTurn M a1 = some r) : MU l E B0 yX12_untilTurn cX12_untilTurn 3 (some .int) 3 0 0 [.ref (b + 0), .int a1] (Blk E b modSh 10 M) (some (.int r.1)) (Blk E b modSh 10 r.2) (iv b 10) := by
  refine mu_of (by decide +kernel) (Nat.le_of_ble_eq_true rfl) ?_
  intro p e s m args below meth c hx hb hml hown hts hrt hlocks hE H hM hS ls hl
  have hown : s.vm.findClass RX12 = some m.cls := hown
  have hl : lv_has ls 3 [(0, .ref (b + 0)), (1, .int a1)] := hl
  have hw : ∀ w ∈ WA, w.before args s = true := fun w h => hts w (List.mem_cons_of_mem _ h)
  have hAB : ∀ q, (iv b 10) q → B0 ≤ q := (iv_ge (by omega))
  unfold fX12_untilTurn at hf
  refine lv_aload_n hx hb dX12_untilTurn_0 rfl (lv_at hl 0 rfl) ?_
  refine lv_aload_n hx hb dX12_untilTurn_1 rfl (lv_at hl 0 rfl) ?_
  refine lv_iload_n hx hb dX12_untilTurn_2 rfl (lv_at hl 1 rfl) ?_
  refine lv_iconst (v := 2) hx hb dX12_untilTurn_3 (by decide) ?_
  obtain ⟨z1, hc2, hf⟩ := br_some hf
  refine mu_cV (As := [.int a1, .int 2]) (rest := [.ref (b + 0)]) hx hb hml hown hts hE (mX12_unless l E B0 b (by omega) M a1 (2 : Int32) z1 hc2) cv_X12_157 (w_recv (k := 0) (ci := 12) hE hM (by decide) rfl rfl) hM hS hAB (fun _ h => h.elim) rfl hl.1 rfl (by decide) (Nat.le_of_ble_eq_true rfl) ⟨Nat.le_refl _, Nat.le_refl _⟩ dX12_untilTurn_4 (fun H locs hM _ hu hS => ?_)
  refine w_put (k := 0) (v := .int z1) hx hb hw hown hE fl_X12_22 fw_X12_4 hM (by decide) rfl rfl z1 rfl rfl rfl hS (iv_mem (by decide)) dX12_untilTurn_7 (fun H locs hM _ hu hS => ?_)
  refine lv_aload_n hx hb dX12_untilTurn_10 rfl (lv_at hl 0 rfl) ?_
  refine w_get (k := 0) (v := .int ((up2 M 0 4 z1) 0 4)) hx hb hw hown hE fl_X12_22 hM (by decide) rfl rfl rfl dX12_untilTurn_11 ?_
  refine lv_if_le (tgt := 19) hx hb dX12_untilTurn_14 (by decide) (fun c3 => ?_) (fun c3 => ?_)
  · rw [if_pos c3] at hf
    refine lv_aload_n hx hb dX12_untilTurn_19 rfl (lv_at hl 0 rfl) ?_
    refine w_get (k := 0) (v := .ref (b + 1)) hx hb hw hown hE fl_X12_7 hM (by decide) rfl rfl rfl dX12_untilTurn_20 ?_
    refine lv_iconst (v := 2) hx hb dX12_untilTurn_23 (by decide) ?_
    refine w_iald (k := 1) (x9 := 2) hx hb hE hM (by decide) rfl (by decide) (by decide) dX12_untilTurn_24 ?_
    refine lv_aload_n hx hb dX12_untilTurn_25 rfl (lv_at hl 0 rfl) ?_
    refine lv_aload_n hx hb dX12_untilTurn_26 rfl (lv_at hl 0 rfl) ?_
    refine lv_aload_n hx hb dX12_untilTurn_27 rfl (lv_at hl 0 rfl) ?_
    refine lv_iload_n hx hb dX12_untilTurn_28 rfl (lv_at hl 1 rfl) ?_
    refine lv_iconst (v := 5) hx hb dX12_untilTurn_29 (by decide) ?_
    obtain ⟨z4, hc5, hf⟩ := br_some hf
    refine mu_cV (As := [.int a1, .int 5]) (rest := [.ref (b + 0), .ref (b + 0), .int ((up2 M 0 4 z1) 1 2)]) hx hb hml hown hts hE (mX12_t l E B0 b (by omega) (up2 M 0 4 z1) a1 (5 : Int32) z4 hc5) cv_X12_80 (w_recv (k := 0) (ci := 12) hE hM (by decide) rfl rfl) hM hS hAB (fun _ h => h.elim) rfl hl.1 rfl (by decide) (Nat.le_of_ble_eq_true rfl) ⟨Nat.le_refl _, Nat.le_refl _⟩ dX12_untilTurn_30 (fun H locs hM _ hu hS => ?_)
    obtain ⟨z6, hc7, hf⟩ := br_some hf
    refine mu_cV (As := [.int z4]) (rest := [.ref (b + 0), .int ((up2 M 0 4 z1) 1 2)]) hx hb hml hown hts hE (mX12_speakerOn l E B0 b (by omega) (up2 M 0 4 z1) z4 z6 hc7) cv_X12_150 (w_recv (k := 0) (ci := 12) hE hM (by decide) rfl rfl) hM hS hAB (fun _ h => h.elim) rfl hl.1 rfl (by decide) (Nat.le_of_ble_eq_true rfl) ⟨Nat.le_refl _, Nat.le_refl _⟩ dX12_untilTurn_33 (fun H locs hM _ hu hS => ?_)
    refine lv_bipush (v := 8) hx hb dX12_untilTurn_36 (by decide) ?_
    obtain ⟨z8, hc9, hf⟩ := br_some hf
    refine mu_cV (As := [.int z6, .int 8]) (rest := [.int ((up2 M 0 4 z1) 1 2)]) hx hb hml hown hts hE (mX12_t l E B0 b (by omega) (up2 M 0 4 z1) z6 (8 : Int32) z8 hc9) cv_X12_80 (w_recv (k := 0) (ci := 12) hE hM (by decide) rfl rfl) hM hS hAB (fun _ h => h.elim) rfl hl.1 rfl (by decide) (Nat.le_of_ble_eq_true rfl) ⟨Nat.le_refl _, Nat.le_refl _⟩ dX12_untilTurn_38 (fun H locs hM _ hu hS => ?_)
    refine lv_isub hx hb dX12_untilTurn_41 ?_
    refine lv_istore_n (lv' := [(2, .int (((up2 M 0 4 z1) 1 2) - z8)), (0, .ref (b + 0)), (1, .int a1)]) hx hb dX12_untilTurn_42 rfl hl (by decide) rfl (fun ls hl => ?_)
    refine lv_iload_n hx hb dX12_untilTurn_43 rfl (lv_at hl 0 rfl) ?_
    refine lv_iconst (v := 1) hx hb dX12_untilTurn_44 (by decide) ?_
    refine lv_icmp_ge (tgt := 52) hx hb dX12_untilTurn_45 (by decide) (fun c10 => ?_) (fun c10 => ?_)
    · rw [if_pos c10] at hf
      refine lv_iload_n hx hb dX12_untilTurn_52 rfl (lv_at hl 0 rfl) ?_
      refine lv_aload_n hx hb dX12_untilTurn_53 rfl (lv_at hl 1 rfl) ?_
      refine lv_iload_n hx hb dX12_untilTurn_54 rfl (lv_at hl 2 rfl) ?_
      obtain ⟨z11, hc12, hf⟩ := br_some hf
      refine mu_cV (As := [.int a1]) (rest := [.int (((up2 M 0 4 z1) 1 2) - z8)]) hx hb hml hown hts hE (mX12_positionOf l E B0 b (by omega) (up2 M 0 4 z1) a1 z11 hc12) cv_X12_94 (w_recv (k := 0) (ci := 12) hE hM (by decide) rfl rfl) hM hS hAB (fun _ h => h.elim) rfl hl.1 rfl (by decide) (Nat.le_of_ble_eq_true rfl) ⟨Nat.le_refl _, Nat.le_refl _⟩ dX12_untilTurn_55 (fun H locs hM _ hu hS => ?_)
      refine lv_iconst (v := 1) hx hb dX12_untilTurn_58 (by decide) ?_
      refine lv_isub hx hb dX12_untilTurn_59 ?_
      refine lv_aload_n hx hb dX12_untilTurn_60 rfl (lv_at hl 1 rfl) ?_
      refine w_get (k := 0) (v := .ref (b + 1)) hx hb hw hown hE fl_X12_7 hM (by decide) rfl rfl rfl dX12_untilTurn_61 ?_
      refine lv_iconst (v := 2) hx hb dX12_untilTurn_64 (by decide) ?_
      refine w_iald (k := 1) (x9 := 2) hx hb hE hM (by decide) rfl (by decide) (by decide) dX12_untilTurn_65 ?_
      refine lv_imul hx hb dX12_untilTurn_66 ?_
      refine lv_iadd hx hb dX12_untilTurn_67 ?_
      have hre := Option.some.inj hf
      subst hre
      exact mu_i (v := ((((up2 M 0 4 z1) 1 2) - z8) + ((z11 - 1) * ((up2 M 0 4 z1) 1 2)))) hx hb hrt hlocks hM hS dX12_untilTurn_68
    · rw [if_neg c10] at hf
      refine lv_iconst (v := 1) hx hb dX12_untilTurn_48 (by decide) ?_
      refine lv_goto (tgt := 53) hx hb dX12_untilTurn_49 (by decide) ?_
      refine lv_aload_n hx hb dX12_untilTurn_53 rfl (lv_at hl 1 rfl) ?_
      refine lv_iload_n hx hb dX12_untilTurn_54 rfl (lv_at hl 2 rfl) ?_
      obtain ⟨z13, hc14, hf⟩ := br_some hf
      refine mu_cV (As := [.int a1]) (rest := [.int 1]) hx hb hml hown hts hE (mX12_positionOf l E B0 b (by omega) (up2 M 0 4 z1) a1 z13 hc14) cv_X12_94 (w_recv (k := 0) (ci := 12) hE hM (by decide) rfl rfl) hM hS hAB (fun _ h => h.elim) rfl hl.1 rfl (by decide) (Nat.le_of_ble_eq_true rfl) ⟨Nat.le_refl _, Nat.le_refl _⟩ dX12_untilTurn_55 (fun H locs hM _ hu hS => ?_)
      refine lv_iconst (v := 1) hx hb dX12_untilTurn_58 (by decide) ?_
      refine lv_isub hx hb dX12_untilTurn_59 ?_
      refine lv_aload_n hx hb dX12_untilTurn_60 rfl (lv_at hl 1 rfl) ?_
      refine w_get (k := 0) (v := .ref (b + 1)) hx hb hw hown hE fl_X12_7 hM (by decide) rfl rfl rfl dX12_untilTurn_61 ?_
      refine lv_iconst (v := 2) hx hb dX12_untilTurn_64 (by decide) ?_
      refine w_iald (k := 1) (x9 := 2) hx hb hE hM (by decide) rfl (by decide) (by decide) dX12_untilTurn_65 ?_
      refine lv_imul hx hb dX12_untilTurn_66 ?_
      refine lv_iadd hx hb dX12_untilTurn_67 ?_
      have hre := Option.some.inj hf
      subst hre
      exact mu_i (v := ((1 : Int32) + ((z13 - 1) * ((up2 M 0 4 z1) 1 2)))) hx hb hrt hlocks hM hS dX12_untilTurn_68
  · rw [if_neg c3] at hf
    refine lv_iconst (v := 0) hx hb dX12_untilTurn_17 (by decide) ?_
    have hre := Option.some.inj hf
    subst hre
    exact mu_i (v := 0) hx hb hrt hlocks hM hS dX12_untilTurn_18
noncomputable def fX12_minutesUntilTurn (M : Mem) (a1 : Int32) : Option (Int32 × Mem) := (fX12_untilTurn M a1).bind fun z1 => some (z1.1, z1.2)
set_option maxHeartbeats 4000000 in
set_option maxRecDepth 100000 in
theorem mX12_minutesUntilTurn (l : Launch) (E : EP) (B0 : Nat) (b : Nat) (hb0 : B0 ≤ b) (M : Mem) (a1 : Int32) (r : Int32 × Mem) (hf : fX12_minutesUntilTurn M a1 = some r) : MU l E B0 yX12_minutesUntilTurn cX12_minutesUntilTurn 2 (some .int) 4 0 0 [.ref (b + 0), .int a1] (Blk E b modSh 10 M) (some (.int r.1)) (Blk E b modSh 10 r.2) (iv b 10) := by
  refine mu_of (by decide +kernel) (Nat.le_of_ble_eq_true rfl) ?_
  intro p e s m args below meth c hx hb hml hown hts hrt hlocks hE H hM hS ls hl
  have hown : s.vm.findClass RX12 = some m.cls := hown
  have hl : lv_has ls 2 [(0, .ref (b + 0)), (1, .int a1)] := hl
  have hw : ∀ w ∈ WA, w.before args s = true := fun w h => hts w (List.mem_cons_of_mem _ h)
  have hAB : ∀ q, (iv b 10) q → B0 ≤ q := (iv_ge (by omega))
  unfold fX12_minutesUntilTurn at hf
  refine lv_aload_n hx hb dX12_minutesUntilTurn_0 rfl (lv_at hl 0 rfl) ?_
  refine lv_iload_n hx hb dX12_minutesUntilTurn_1 rfl (lv_at hl 1 rfl) ?_
  obtain ⟨z1, hc2, hf⟩ := br_some hf
  refine mu_cV (As := [.int a1]) (rest := []) hx hb hml hown hts hE (mX12_untilTurn l E B0 b (by omega) M a1 z1 hc2) cv_X12_203 (w_recv (k := 0) (ci := 12) hE hM (by decide) rfl rfl) hM hS hAB (fun _ h => h) rfl hl.1 rfl (by decide) (Nat.le_of_ble_eq_true rfl) ⟨Nat.le_refl _, Nat.le_refl _⟩ dX12_minutesUntilTurn_2 (fun H locs hM _ hu hS => ?_)
  have hre := Option.some.inj hf
  subst hre
  exact mu_i (v := z1.1) hx hb hrt hlocks hM hS dX12_minutesUntilTurn_5
noncomputable def fX12_minutesUntilTurnBySimulation (M : Mem) (a1 : Int32) : Option (Int32 × Mem) := (fX12_untilTurn M a1).bind fun z1 => some (z1.1, z1.2)
set_option maxHeartbeats 4000000 in
set_option maxRecDepth 100000 in
theorem mX12_minutesUntilTurnBySimulation (l : Launch) (E : EP) (B0 : Nat) (b : Nat) (hb0 : B0 ≤ b) (M : Mem) (a1 : Int32) (r : Int32 × Mem) (hf : fX12_minutesUntilTurnBySimulation M a1 = some r) : MU l E B0 yX12_minutesUntilTurnBySimulation cX12_minutesUntilTurnBySimulation 2 (some .int) 4 0 0 [.ref (b + 0), .int a1] (Blk E b modSh 10 M) (some (.int r.1)) (Blk E b modSh 10 r.2) (iv b 10) := by
  refine mu_of (by decide +kernel) (Nat.le_of_ble_eq_true rfl) ?_
  intro p e s m args below meth c hx hb hml hown hts hrt hlocks hE H hM hS ls hl
  have hown : s.vm.findClass RX12 = some m.cls := hown
  have hl : lv_has ls 2 [(0, .ref (b + 0)), (1, .int a1)] := hl
  have hw : ∀ w ∈ WA, w.before args s = true := fun w h => hts w (List.mem_cons_of_mem _ h)
  have hAB : ∀ q, (iv b 10) q → B0 ≤ q := (iv_ge (by omega))
  unfold fX12_minutesUntilTurnBySimulation at hf
  refine lv_aload_n hx hb dX12_minutesUntilTurnBySimulation_0 rfl (lv_at hl 0 rfl) ?_
  refine lv_iload_n hx hb dX12_minutesUntilTurnBySimulation_1 rfl (lv_at hl 1 rfl) ?_
  obtain ⟨z1, hc2, hf⟩ := br_some hf
  refine mu_cV (As := [.int a1]) (rest := []) hx hb hml hown hts hE (mX12_untilTurn l E B0 b (by omega) M a1 z1 hc2) cv_X12_203 (w_recv (k := 0) (ci := 12) hE hM (by decide) rfl rfl) hM hS hAB (fun _ h => h) rfl hl.1 rfl (by decide) (Nat.le_of_ble_eq_true rfl) ⟨Nat.le_refl _, Nat.le_refl _⟩ dX12_minutesUntilTurnBySimulation_2 (fun H locs hM _ hu hS => ?_)
  have hre := Option.some.inj hf
  subst hre
  exact mu_i (v := z1.1) hx hb hrt hlocks hM hS dX12_minutesUntilTurnBySimulation_5
def fX12_areStations (M : Mem) (a1 : Int32) (a2 : Int32) : Option (Int32 × Mem) := (fX12_isStation M a1).bind fun z1 => (if z1 = 0 then (if ((up2 M 0 4 (1 : Int32)) 0 4) = 0 then some (1, (up2 M 0 4 (1 : Int32))) else some (0, (up2 M 0 4 (1 : Int32)))) else (fX12_isStation M a2).bind fun z5 => (if z5 = 0 then (if ((up2 M 0 4 (1 : Int32)) 0 4) = 0 then some (1, (up2 M 0 4 (1 : Int32))) else some (0, (up2 M 0 4 (1 : Int32)))) else (if ((up2 M 0 4 (0 : Int32)) 0 4) = 0 then some (1, (up2 M 0 4 (0 : Int32))) else some (0, (up2 M 0 4 (0 : Int32))))))
set_option maxHeartbeats 4000000 in
set_option maxRecDepth 100000 in
theorem mX12_areStations (l : Launch) (E : EP) (B0 : Nat) (b : Nat) (hb0 : B0 ≤ b) (M : Mem) (a1 : Int32) (a2 : Int32) (r : Int32 × Mem) (hf : fX12_areStations M a1 a2 = some r) : MU l E B0 yX12_areStations cX12_areStations 3 (some .boolean) 2 0 0 [.ref (b + 0), .int a1, .int a2] (Blk E b modSh 10 M) (some (.int r.1)) (Blk E b modSh 10 r.2) (iv b 10) := by
  refine mu_of (by decide +kernel) (Nat.le_of_ble_eq_true rfl) ?_
  intro p e s m args below meth c hx hb hml hown hts hrt hlocks hE H hM hS ls hl
  have hown : s.vm.findClass RX12 = some m.cls := hown
  have hl : lv_has ls 3 [(0, .ref (b + 0)), (1, .int a1), (2, .int a2)] := hl
  have hw : ∀ w ∈ WA, w.before args s = true := fun w h => hts w (List.mem_cons_of_mem _ h)
  have hAB : ∀ q, (iv b 10) q → B0 ≤ q := (iv_ge (by omega))
  unfold fX12_areStations at hf
  refine lv_aload_n hx hb dX12_areStations_0 rfl (lv_at hl 0 rfl) ?_
  refine lv_aload_n hx hb dX12_areStations_1 rfl (lv_at hl 0 rfl) ?_
  refine lv_iload_n hx hb dX12_areStations_2 rfl (lv_at hl 1 rfl) ?_
  obtain ⟨z1, hc2, hf⟩ := br_some hf
  refine mu_cV (As := [.int a1]) (rest := [.ref (b + 0)]) hx hb hml hown hts hE (mX12_isStation l E B0 b (by omega) M a1 z1 hc2) cv_X12_131 (w_recv (k := 0) (ci := 12) hE hM (by decide) rfl rfl) hM hS hAB (fun _ h => h.elim) rfl hl.1 rfl (by decide) (Nat.le_of_ble_eq_true rfl) ⟨Nat.le_refl _, Nat.le_refl _⟩ dX12_areStations_3 (fun H locs hM _ hu hS => ?_)
  refine lv_if_eq (tgt := 21) hx hb dX12_areStations_6 (by decide) (fun c3 => ?_) (fun c3 => ?_)
  · rw [if_pos c3] at hf
    refine lv_iconst (v := 1) hx hb dX12_areStations_21 (by decide) ?_
    refine w_put (k := 0) (v := .int 1) hx hb hw hown hE fl_X12_22 fw_X12_4 hM (by decide) rfl rfl (1 : Int32) rfl rfl rfl hS (iv_mem (by decide)) dX12_areStations_22 (fun H locs hM _ hu hS => ?_)
    refine lv_aload_n hx hb dX12_areStations_25 rfl (lv_at hl 0 rfl) ?_
    refine w_get (k := 0) (v := .int ((up2 M 0 4 (1 : Int32)) 0 4)) hx hb hw hown hE fl_X12_22 hM (by decide) rfl rfl rfl dX12_areStations_26 ?_
    refine lv_if_ne (tgt := 36) hx hb dX12_areStations_29 (by decide) (fun c4 => ?_) (fun c4 => ?_)
    · rw [if_neg c4] at hf
      refine lv_iconst (v := 0) hx hb dX12_areStations_36 (by decide) ?_
      have hre := Option.some.inj hf
      subst hre
      exact mu_z (v := 0) hx hb hrt rfl hlocks hM hS dX12_areStations_37
    · rw [if_pos c4] at hf
      refine lv_iconst (v := 1) hx hb dX12_areStations_32 (by decide) ?_
      refine lv_goto (tgt := 37) hx hb dX12_areStations_33 (by decide) ?_
      have hre := Option.some.inj hf
      subst hre
      exact mu_z (v := 1) hx hb hrt rfl hlocks hM hS dX12_areStations_37
  · rw [if_neg c3] at hf
    refine lv_aload_n hx hb dX12_areStations_9 rfl (lv_at hl 0 rfl) ?_
    refine lv_iload_n hx hb dX12_areStations_10 rfl (lv_at hl 2 rfl) ?_
    obtain ⟨z5, hc6, hf⟩ := br_some hf
    refine mu_cV (As := [.int a2]) (rest := [.ref (b + 0)]) hx hb hml hown hts hE (mX12_isStation l E B0 b (by omega) M a2 z5 hc6) cv_X12_131 (w_recv (k := 0) (ci := 12) hE hM (by decide) rfl rfl) hM hS hAB (fun _ h => h.elim) rfl hl.1 rfl (by decide) (Nat.le_of_ble_eq_true rfl) ⟨Nat.le_refl _, Nat.le_refl _⟩ dX12_areStations_11 (fun H locs hM _ hu hS => ?_)
    refine lv_if_eq (tgt := 21) hx hb dX12_areStations_14 (by decide) (fun c7 => ?_) (fun c7 => ?_)
    · rw [if_pos c7] at hf
      refine lv_iconst (v := 1) hx hb dX12_areStations_21 (by decide) ?_
      refine w_put (k := 0) (v := .int 1) hx hb hw hown hE fl_X12_22 fw_X12_4 hM (by decide) rfl rfl (1 : Int32) rfl rfl rfl hS (iv_mem (by decide)) dX12_areStations_22 (fun H locs hM _ hu hS => ?_)
      refine lv_aload_n hx hb dX12_areStations_25 rfl (lv_at hl 0 rfl) ?_
      refine w_get (k := 0) (v := .int ((up2 M 0 4 (1 : Int32)) 0 4)) hx hb hw hown hE fl_X12_22 hM (by decide) rfl rfl rfl dX12_areStations_26 ?_
      refine lv_if_ne (tgt := 36) hx hb dX12_areStations_29 (by decide) (fun c8 => ?_) (fun c8 => ?_)
      · rw [if_neg c8] at hf
        refine lv_iconst (v := 0) hx hb dX12_areStations_36 (by decide) ?_
        have hre := Option.some.inj hf
        subst hre
        exact mu_z (v := 0) hx hb hrt rfl hlocks hM hS dX12_areStations_37
      · rw [if_pos c8] at hf
        refine lv_iconst (v := 1) hx hb dX12_areStations_32 (by decide) ?_
        refine lv_goto (tgt := 37) hx hb dX12_areStations_33 (by decide) ?_
        have hre := Option.some.inj hf
        subst hre
        exact mu_z (v := 1) hx hb hrt rfl hlocks hM hS dX12_areStations_37
    · rw [if_neg c7] at hf
      refine lv_iconst (v := 0) hx hb dX12_areStations_17 (by decide) ?_
      refine lv_goto (tgt := 22) hx hb dX12_areStations_18 (by decide) ?_
      refine w_put (k := 0) (v := .int 0) hx hb hw hown hE fl_X12_22 fw_X12_4 hM (by decide) rfl rfl (0 : Int32) rfl rfl rfl hS (iv_mem (by decide)) dX12_areStations_22 (fun H locs hM _ hu hS => ?_)
      refine lv_aload_n hx hb dX12_areStations_25 rfl (lv_at hl 0 rfl) ?_
      refine w_get (k := 0) (v := .int ((up2 M 0 4 (0 : Int32)) 0 4)) hx hb hw hown hE fl_X12_22 hM (by decide) rfl rfl rfl dX12_areStations_26 ?_
      refine lv_if_ne (tgt := 36) hx hb dX12_areStations_29 (by decide) (fun c9 => ?_) (fun c9 => ?_)
      · rw [if_neg c9] at hf
        refine lv_iconst (v := 0) hx hb dX12_areStations_36 (by decide) ?_
        have hre := Option.some.inj hf
        subst hre
        exact mu_z (v := 0) hx hb hrt rfl hlocks hM hS dX12_areStations_37
      · rw [if_pos c9] at hf
        refine lv_iconst (v := 1) hx hb dX12_areStations_32 (by decide) ?_
        refine lv_goto (tgt := 37) hx hb dX12_areStations_33 (by decide) ?_
        have hre := Option.some.inj hf
        subst hre
        exact mu_z (v := 1) hx hb hrt rfl hlocks hM hS dX12_areStations_37
def fX12_canHear (M : Mem) (a1 : Int32) (a2 : Int32) : Option (Int32 × Mem) := (fX12_areStations M a1 a2).bind fun z1 => (if z1.1 = 0 then some (0, z1.2) else (fX12_hears z1.2 a1 a2).bind fun z4 => (if z4 = 0 then some (0, z1.2) else some (1, z1.2)))
set_option maxHeartbeats 4000000 in
set_option maxRecDepth 100000 in
theorem mX12_canHear (l : Launch) (E : EP) (B0 : Nat) (b : Nat) (hb0 : B0 ≤ b) (M : Mem) (a1 : Int32) (a2 : Int32) (r : Int32 × Mem) (hf : fX12_canHear M a1 a2 = some r) : MU l E B0 yX12_canHear cX12_canHear 3 (some .boolean) 3 0 0 [.ref (b + 0), .int a1, .int a2] (Blk E b modSh 10 M) (some (.int r.1)) (Blk E b modSh 10 r.2) (iv b 10) := by
  refine mu_of (by decide +kernel) (Nat.le_of_ble_eq_true rfl) ?_
  intro p e s m args below meth c hx hb hml hown hts hrt hlocks hE H hM hS ls hl
  have hown : s.vm.findClass RX12 = some m.cls := hown
  have hl : lv_has ls 3 [(0, .ref (b + 0)), (1, .int a1), (2, .int a2)] := hl
  have hw : ∀ w ∈ WA, w.before args s = true := fun w h => hts w (List.mem_cons_of_mem _ h)
  have hAB : ∀ q, (iv b 10) q → B0 ≤ q := (iv_ge (by omega))
  unfold fX12_canHear at hf
  refine lv_aload_n hx hb dX12_canHear_0 rfl (lv_at hl 0 rfl) ?_
  refine lv_iload_n hx hb dX12_canHear_1 rfl (lv_at hl 1 rfl) ?_
  refine lv_iload_n hx hb dX12_canHear_2 rfl (lv_at hl 2 rfl) ?_
  obtain ⟨z1, hc2, hf⟩ := br_some hf
  refine mu_cV (As := [.int a1, .int a2]) (rest := []) hx hb hml hown hts hE (mX12_areStations l E B0 b (by omega) M a1 a2 z1 hc2) cv_X12_206 (w_recv (k := 0) (ci := 12) hE hM (by decide) rfl rfl) hM hS hAB (fun _ h => h) rfl hl.1 rfl (by decide) (Nat.le_of_ble_eq_true rfl) ⟨Nat.le_refl _, Nat.le_refl _⟩ dX12_canHear_3 (fun H locs hM _ hu hS => ?_)
  refine lv_if_eq (tgt := 22) hx hb dX12_canHear_6 (by decide) (fun c3 => ?_) (fun c3 => ?_)
  · rw [if_pos c3] at hf
    refine lv_iconst (v := 0) hx hb dX12_canHear_22 (by decide) ?_
    have hre := Option.some.inj hf
    subst hre
    exact mu_z (v := 0) hx hb hrt rfl hlocks hM hS dX12_canHear_23
  · rw [if_neg c3] at hf
    refine lv_aload_n hx hb dX12_canHear_9 rfl (lv_at hl 0 rfl) ?_
    refine lv_iload_n hx hb dX12_canHear_10 rfl (lv_at hl 1 rfl) ?_
    refine lv_iload_n hx hb dX12_canHear_11 rfl (lv_at hl 2 rfl) ?_
    obtain ⟨z4, hc5, hf⟩ := br_some hf
    refine mu_cV (As := [.int a1, .int a2]) (rest := []) hx hb hml hown hts hE (mX12_hears l E B0 b (by omega) z1.2 a1 a2 z4 hc5) cv_X12_128 (w_recv (k := 0) (ci := 12) hE hM (by decide) rfl rfl) hM hS hAB (fun _ h => h.elim) rfl hl.1 rfl (by decide) (Nat.le_of_ble_eq_true rfl) ⟨Nat.le_refl _, Nat.le_refl _⟩ dX12_canHear_12 (fun H locs hM _ hu hS => ?_)
    refine lv_if_eq (tgt := 22) hx hb dX12_canHear_15 (by decide) (fun c6 => ?_) (fun c6 => ?_)
    · rw [if_pos c6] at hf
      refine lv_iconst (v := 0) hx hb dX12_canHear_22 (by decide) ?_
      have hre := Option.some.inj hf
      subst hre
      exact mu_z (v := 0) hx hb hrt rfl hlocks hM hS dX12_canHear_23
    · rw [if_neg c6] at hf
      refine lv_iconst (v := 1) hx hb dX12_canHear_18 (by decide) ?_
      refine lv_goto (tgt := 23) hx hb dX12_canHear_19 (by decide) ?_
      have hre := Option.some.inj hf
      subst hre
      exact mu_z (v := 1) hx hb hrt rfl hlocks hM hS dX12_canHear_23
noncomputable def fX12_isJammed (M : Mem) (a1 : Int32) : Option (Int32 × Mem) := (fX12_areStations M a1 a1).bind fun z1 => (if z1.1 = 0 then some (0, z1.2) else (fX12_isDisturbed z1.2 a1).bind fun z4 => (if z4 = 0 then some (0, z1.2) else some (1, z1.2)))
set_option maxHeartbeats 4000000 in
set_option maxRecDepth 100000 in
theorem mX12_isJammed (l : Launch) (E : EP) (B0 : Nat) (b : Nat) (hb0 : B0 ≤ b) (M : Mem) (a1 : Int32) (r : Int32 × Mem) (hf : fX12_isJammed M a1 = some r) : MU l E B0 yX12_isJammed cX12_isJammed 2 (some .boolean) 4 0 0 [.ref (b + 0), .int a1] (Blk E b modSh 10 M) (some (.int r.1)) (Blk E b modSh 10 r.2) (iv b 10) := by
  refine mu_of (by decide +kernel) (Nat.le_of_ble_eq_true rfl) ?_
  intro p e s m args below meth c hx hb hml hown hts hrt hlocks hE H hM hS ls hl
  have hown : s.vm.findClass RX12 = some m.cls := hown
  have hl : lv_has ls 2 [(0, .ref (b + 0)), (1, .int a1)] := hl
  have hw : ∀ w ∈ WA, w.before args s = true := fun w h => hts w (List.mem_cons_of_mem _ h)
  have hAB : ∀ q, (iv b 10) q → B0 ≤ q := (iv_ge (by omega))
  unfold fX12_isJammed at hf
  refine lv_aload_n hx hb dX12_isJammed_0 rfl (lv_at hl 0 rfl) ?_
  refine lv_iload_n hx hb dX12_isJammed_1 rfl (lv_at hl 1 rfl) ?_
  refine lv_iload_n hx hb dX12_isJammed_2 rfl (lv_at hl 1 rfl) ?_
  obtain ⟨z1, hc2, hf⟩ := br_some hf
  refine mu_cV (As := [.int a1, .int a1]) (rest := []) hx hb hml hown hts hE (mX12_areStations l E B0 b (by omega) M a1 a1 z1 hc2) cv_X12_206 (w_recv (k := 0) (ci := 12) hE hM (by decide) rfl rfl) hM hS hAB (fun _ h => h) rfl hl.1 rfl (by decide) (Nat.le_of_ble_eq_true rfl) ⟨Nat.le_refl _, Nat.le_refl _⟩ dX12_isJammed_3 (fun H locs hM _ hu hS => ?_)
  refine lv_if_eq (tgt := 21) hx hb dX12_isJammed_6 (by decide) (fun c3 => ?_) (fun c3 => ?_)
  · rw [if_pos c3] at hf
    refine lv_iconst (v := 0) hx hb dX12_isJammed_21 (by decide) ?_
    have hre := Option.some.inj hf
    subst hre
    exact mu_z (v := 0) hx hb hrt rfl hlocks hM hS dX12_isJammed_22
  · rw [if_neg c3] at hf
    refine lv_aload_n hx hb dX12_isJammed_9 rfl (lv_at hl 0 rfl) ?_
    refine lv_iload_n hx hb dX12_isJammed_10 rfl (lv_at hl 1 rfl) ?_
    obtain ⟨z4, hc5, hf⟩ := br_some hf
    refine mu_cV (As := [.int a1]) (rest := []) hx hb hml hown hts hE (mX12_isDisturbed l E B0 b (by omega) z1.2 a1 z4 hc5) cv_X12_181 (w_recv (k := 0) (ci := 12) hE hM (by decide) rfl rfl) hM hS hAB (fun _ h => h.elim) rfl hl.1 rfl (by decide) (Nat.le_of_ble_eq_true rfl) ⟨Nat.le_refl _, Nat.le_refl _⟩ dX12_isJammed_11 (fun H locs hM _ hu hS => ?_)
    refine lv_if_eq (tgt := 21) hx hb dX12_isJammed_14 (by decide) (fun c6 => ?_) (fun c6 => ?_)
    · rw [if_pos c6] at hf
      refine lv_iconst (v := 0) hx hb dX12_isJammed_21 (by decide) ?_
      have hre := Option.some.inj hf
      subst hre
      exact mu_z (v := 0) hx hb hrt rfl hlocks hM hS dX12_isJammed_22
    · rw [if_neg c6] at hf
      refine lv_iconst (v := 1) hx hb dX12_isJammed_17 (by decide) ?_
      refine lv_goto (tgt := 22) hx hb dX12_isJammed_18 (by decide) ?_
      have hre := Option.some.inj hf
      subst hre
      exact mu_z (v := 1) hx hb hrt rfl hlocks hM hS dX12_isJammed_22
def fX12_pairs_s (M : Mem) (z : Nat × Int32 × Int32 × Int32) : Option ((Nat × Int32 × Int32 × Int32) ⊕ (Int32)) := (if z.1 = 0 then (if (M 1 0) ≤ z.2.2.1 then some (.inr z.2.1) else some (.inl (1, z.2.1, z.2.2.1, 0))) else (if (M 1 0) ≤ z.2.2.2 then some (.inl (0, z.2.1, (z.2.2.1 + 1), 0)) else (fX12_disturbs M z.2.2.1 z.2.2.2).bind fun z3 => (if z3 = 0 then some (.inl (1, (z.2.1 + 0), z.2.2.1, (z.2.2.2 + 1))) else some (.inl (1, (z.2.1 + 1), z.2.2.1, (z.2.2.2 + 1))))))
noncomputable def fX12_pairs (M : Mem) : Option (Int32) := lp (fX12_pairs_s M) (0, 0, 0, 0)
set_option maxHeartbeats 4000000 in
set_option maxRecDepth 100000 in
theorem mX12_pairs (l : Launch) (E : EP) (B0 : Nat) (b : Nat) (hb0 : B0 ≤ b) (M : Mem) (r : Int32) (hf : fX12_pairs M = some r) : MU l E B0 yX12_pairs cX12_pairs 4 (some .int) 3 0 0 [.ref (b + 0)] (Blk E b modSh 10 M) (some (.int r)) (Blk E b modSh 10 M) nv := by
  refine mu_of (by decide +kernel) (Nat.le_of_ble_eq_true rfl) ?_
  intro p e s m args below meth c hx hb hml hown hts hrt hlocks hE H hM hS ls hl
  have hown : s.vm.findClass RX12 = some m.cls := hown
  have hl : lv_has ls 4 [(0, .ref (b + 0))] := hl
  have hw : ∀ w ∈ WA, w.before args s = true := fun w h => hts w (List.mem_cons_of_mem _ h)
  have hAB : ∀ q, nv q → B0 ≤ q := fun _ h => h.elim
  unfold fX12_pairs at hf
  have loop : ∀ (fu : Nat) (z : Nat × Int32 × Int32 × Int32), lpI (fX12_pairs_s M) fu z = some r → (∀ (H : Heap) (locs : List Loc) (ls : Array Slot), z.1 = 0 → Blk E b modSh 10 M H → va_S nv s.heap H locs → lv_has ls 4 [(0, .ref (b + 0)), (1, .int z.2.1), (2, .int z.2.2.1)] → W p l e (rmD 3 0 0) s m args below meth c H locs 0 0 (MQ below (QU (some (.int r)) (Blk E b modSh 10 M) nv) args s 0 0 nv) (F0 m 4 ls [])) ∧ (∀ (H : Heap) (locs : List Loc) (ls : Array Slot), z.1 = 1 → Blk E b modSh 10 M H → va_S nv s.heap H locs → lv_has ls 4 [(0, .ref (b + 0)), (1, .int z.2.1), (2, .int z.2.2.1), (3, .int z.2.2.2)] → W p l e (rmD 3 0 0) s m args below meth c H locs 0 0 (MQ below (QU (some (.int r)) (Blk E b modSh 10 M) nv) args s 0 0 nv) (F0 m 16 ls [])) := by
    intro fu
    induction fu with
    | zero =>
      intro z hn
      exact nomatch hn
    | succ fu ih =>
      intro z hn
      obtain ⟨y, hf, hy⟩ := lpI_succ hn
      refine ⟨?_, ?_⟩
      · intro H locs ls hz hM hS hl
        unfold fX12_pairs_s at hf
        rw [if_pos hz] at hf
        refine lv_iload_n hx hb dX12_pairs_4 rfl (lv_at hl 2 rfl) ?_
        refine lv_aload_n hx hb dX12_pairs_5 rfl (lv_at hl 0 rfl) ?_
        refine w_get (k := 0) (v := .ref (b + 1)) hx hb hw hown hE fl_X12_7 hM (by decide) rfl rfl rfl dX12_pairs_6 ?_
        refine lv_iconst (v := 0) hx hb dX12_pairs_9 (by decide) ?_
        refine w_iald (k := 1) (x9 := 0) hx hb hE hM (by decide) rfl (by decide) (by decide) dX12_pairs_10 ?_
        refine lv_icmp_ge (tgt := 55) hx hb dX12_pairs_11 (by decide) (fun c1 => ?_) (fun c1 => ?_)
        · rw [if_pos c1] at hf
          refine lv_iload_n hx hb dX12_pairs_55 rfl (lv_at hl 1 rfl) ?_
          have hre := lp_end hy (Option.some.inj hf).symm
          subst hre
          exact mu_i (v := z.2.1) hx hb hrt hlocks hM hS dX12_pairs_56
        · rw [if_neg c1] at hf
          refine lv_iconst (v := 0) hx hb dX12_pairs_14 (by decide) ?_
          refine lv_istore_n (lv' := [(3, .int 0), (0, .ref (b + 0)), (1, .int z.2.1), (2, .int z.2.2.1)]) hx hb dX12_pairs_15 rfl hl (by decide) rfl (fun ls hl => ?_)
          exact (ih (1, z.2.1, z.2.2.1, 0) (lp_back hy (Option.some.inj hf).symm)).2 _ _ _ rfl hM hS (lv_sub hl [1, 2, 3, 0] rfl)
      · intro H locs ls hz hM hS hl
        unfold fX12_pairs_s at hf
        rw [if_neg (by rw [hz]; decide)] at hf
        refine lv_iload_n hx hb dX12_pairs_16 rfl (lv_at hl 3 rfl) ?_
        refine lv_aload_n hx hb dX12_pairs_17 rfl (lv_at hl 0 rfl) ?_
        refine w_get (k := 0) (v := .ref (b + 1)) hx hb hw hown hE fl_X12_7 hM (by decide) rfl rfl rfl dX12_pairs_18 ?_
        refine lv_iconst (v := 0) hx hb dX12_pairs_21 (by decide) ?_
        refine w_iald (k := 1) (x9 := 0) hx hb hE hM (by decide) rfl (by decide) (by decide) dX12_pairs_22 ?_
        refine lv_icmp_ge (tgt := 49) hx hb dX12_pairs_23 (by decide) (fun c2 => ?_) (fun c2 => ?_)
        · rw [if_pos c2] at hf
          refine lv_iinc (v := (z.2.2.1 + 1)) (lv' := [(2, .int (z.2.2.1 + 1)), (0, .ref (b + 0)), (1, .int z.2.1), (3, .int z.2.2.2)]) hx hb dX12_pairs_49 hl (k := 2) rfl rfl (by decide) rfl (fun ls hl => ?_)
          refine lv_goto (tgt := 4) hx hb dX12_pairs_52 (by decide) ?_
          exact (ih (0, z.2.1, (z.2.2.1 + 1), 0) (lp_back hy (Option.some.inj hf).symm)).1 _ _ _ rfl hM hS (lv_sub hl [1, 2, 0] rfl)
        · rw [if_neg c2] at hf
          refine lv_iload_n hx hb dX12_pairs_26 rfl (lv_at hl 1 rfl) ?_
          refine lv_aload_n hx hb dX12_pairs_27 rfl (lv_at hl 0 rfl) ?_
          refine lv_iload_n hx hb dX12_pairs_28 rfl (lv_at hl 2 rfl) ?_
          refine lv_iload_n hx hb dX12_pairs_29 rfl (lv_at hl 3 rfl) ?_
          obtain ⟨z3, hc4, hf⟩ := br_some hf
          refine mu_cV (As := [.int z.2.2.1, .int z.2.2.2]) (rest := [.int z.2.1]) hx hb hml hown hts hE (mX12_disturbs l E B0 b (by omega) M z.2.2.1 z.2.2.2 z3 hc4) cv_X12_87 (w_recv (k := 0) (ci := 12) hE hM (by decide) rfl rfl) hM hS hAB (fun _ h => h.elim) rfl hl.1 rfl (by decide) (Nat.le_of_ble_eq_true rfl) ⟨Nat.le_refl _, Nat.le_refl _⟩ dX12_pairs_30 (fun H locs hM _ hu hS => ?_)
          refine lv_if_eq (tgt := 40) hx hb dX12_pairs_33 (by decide) (fun c5 => ?_) (fun c5 => ?_)
          · rw [if_pos c5] at hf
            refine lv_iconst (v := 0) hx hb dX12_pairs_40 (by decide) ?_
            refine lv_iadd hx hb dX12_pairs_41 ?_
            refine lv_istore_n (lv' := [(1, .int (z.2.1 + 0)), (0, .ref (b + 0)), (2, .int z.2.2.1), (3, .int z.2.2.2)]) hx hb dX12_pairs_42 rfl hl (by decide) rfl (fun ls hl => ?_)
            refine lv_iinc (v := (z.2.2.2 + 1)) (lv' := [(3, .int (z.2.2.2 + 1)), (1, .int (z.2.1 + 0)), (0, .ref (b + 0)), (2, .int z.2.2.1)]) hx hb dX12_pairs_43 hl (k := 3) rfl rfl (by decide) rfl (fun ls hl => ?_)
            refine lv_goto (tgt := 16) hx hb dX12_pairs_46 (by decide) ?_
            exact (ih (1, (z.2.1 + 0), z.2.2.1, (z.2.2.2 + 1)) (lp_back hy (Option.some.inj hf).symm)).2 _ _ _ rfl hM hS (lv_sub hl [2, 1, 3, 0] rfl)
          · rw [if_neg c5] at hf
            refine lv_iconst (v := 1) hx hb dX12_pairs_36 (by decide) ?_
            refine lv_goto (tgt := 41) hx hb dX12_pairs_37 (by decide) ?_
            refine lv_iadd hx hb dX12_pairs_41 ?_
            refine lv_istore_n (lv' := [(1, .int (z.2.1 + 1)), (0, .ref (b + 0)), (2, .int z.2.2.1), (3, .int z.2.2.2)]) hx hb dX12_pairs_42 rfl hl (by decide) rfl (fun ls hl => ?_)
            refine lv_iinc (v := (z.2.2.2 + 1)) (lv' := [(3, .int (z.2.2.2 + 1)), (1, .int (z.2.1 + 1)), (0, .ref (b + 0)), (2, .int z.2.2.1)]) hx hb dX12_pairs_43 hl (k := 3) rfl rfl (by decide) rfl (fun ls hl => ?_)
            refine lv_goto (tgt := 16) hx hb dX12_pairs_46 (by decide) ?_
            exact (ih (1, (z.2.1 + 1), z.2.2.1, (z.2.2.2 + 1)) (lp_back hy (Option.some.inj hf).symm)).2 _ _ _ rfl hM hS (lv_sub hl [2, 1, 3, 0] rfl)
  refine lv_iconst (v := 0) hx hb dX12_pairs_0 (by decide) ?_
  refine lv_istore_n (lv' := [(1, .int 0), (0, .ref (b + 0))]) hx hb dX12_pairs_1 rfl hl (by decide) rfl (fun ls hl => ?_)
  refine lv_iconst (v := 0) hx hb dX12_pairs_2 (by decide) ?_
  refine lv_istore_n (lv' := [(2, .int 0), (1, .int 0), (0, .ref (b + 0))]) hx hb dX12_pairs_3 rfl hl (by decide) rfl (fun ls hl => ?_)
  obtain ⟨fu, hfu⟩ := lp_some hf
  exact (loop fu (0, 0, 0, 0) hfu).1 _ _ _ rfl hM hS (lv_sub hl [2, 1, 0] rfl)
noncomputable def fX12_jams (M : Mem) : Option (Int32 × Mem) := (fX12_pairs M).bind fun z1 => (fX12_plain M z1).bind fun z3 => some (z3.1, z3.2)
set_option maxHeartbeats 4000000 in
set_option maxRecDepth 100000 in
theorem mX12_jams (l : Launch) (E : EP) (B0 : Nat) (b : Nat) (hb0 : B0 ≤ b) (M : Mem) (r : Int32 × Mem) (hf : fX12_jams M = some r) : MU l E B0 yX12_jams cX12_jams 1 (some .int) 4 0 0 [.ref (b + 0)] (Blk E b modSh 10 M) (some (.int r.1)) (Blk E b modSh 10 r.2) (iv b 10) := by
  refine mu_of (by decide +kernel) (Nat.le_of_ble_eq_true rfl) ?_
  intro p e s m args below meth c hx hb hml hown hts hrt hlocks hE H hM hS ls hl
  have hown : s.vm.findClass RX12 = some m.cls := hown
  have hl : lv_has ls 1 [(0, .ref (b + 0))] := hl
  have hw : ∀ w ∈ WA, w.before args s = true := fun w h => hts w (List.mem_cons_of_mem _ h)
  have hAB : ∀ q, (iv b 10) q → B0 ≤ q := (iv_ge (by omega))
  unfold fX12_jams at hf
  refine lv_aload_n hx hb dX12_jams_0 rfl (lv_at hl 0 rfl) ?_
  refine lv_aload_n hx hb dX12_jams_1 rfl (lv_at hl 0 rfl) ?_
  obtain ⟨z1, hc2, hf⟩ := br_some hf
  refine mu_cV (As := []) (rest := [.ref (b + 0)]) hx hb hml hown hts hE (mX12_pairs l E B0 b (by omega) M z1 hc2) cv_X12_209 (w_recv (k := 0) (ci := 12) hE hM (by decide) rfl rfl) hM hS hAB (fun _ h => h.elim) rfl hl.1 rfl (by decide) (Nat.le_of_ble_eq_true rfl) ⟨Nat.le_refl _, Nat.le_refl _⟩ dX12_jams_2 (fun H locs hM _ hu hS => ?_)
  obtain ⟨z3, hc4, hf⟩ := br_some hf
  refine mu_cV (As := [.int z1]) (rest := []) hx hb hml hown hts hE (mX12_plain l E B0 b (by omega) M z1 z3 hc4) cv_X12_194 (w_recv (k := 0) (ci := 12) hE hM (by decide) rfl rfl) hM hS hAB (fun _ h => h) rfl hl.1 rfl (by decide) (Nat.le_of_ble_eq_true rfl) ⟨Nat.le_refl _, Nat.le_refl _⟩ dX12_jams_5 (fun H locs hM _ hu hS => ?_)
  have hre := Option.some.inj hf
  subst hre
  exact mu_i (v := z3.1) hx hb hrt hlocks hM hS dX12_jams_8
noncomputable def fX12_jamsByChannels (M : Mem) : Option (Int32 × Mem) := (fX12_pairs M).bind fun z1 => (fX12_plain M z1).bind fun z3 => some (z3.1, z3.2)
set_option maxHeartbeats 4000000 in
set_option maxRecDepth 100000 in
theorem mX12_jamsByChannels (l : Launch) (E : EP) (B0 : Nat) (b : Nat) (hb0 : B0 ≤ b) (M : Mem) (r : Int32 × Mem) (hf : fX12_jamsByChannels M = some r) : MU l E B0 yX12_jamsByChannels cX12_jamsByChannels 1 (some .int) 4 0 0 [.ref (b + 0)] (Blk E b modSh 10 M) (some (.int r.1)) (Blk E b modSh 10 r.2) (iv b 10) := by
  refine mu_of (by decide +kernel) (Nat.le_of_ble_eq_true rfl) ?_
  intro p e s m args below meth c hx hb hml hown hts hrt hlocks hE H hM hS ls hl
  have hown : s.vm.findClass RX12 = some m.cls := hown
  have hl : lv_has ls 1 [(0, .ref (b + 0))] := hl
  have hw : ∀ w ∈ WA, w.before args s = true := fun w h => hts w (List.mem_cons_of_mem _ h)
  have hAB : ∀ q, (iv b 10) q → B0 ≤ q := (iv_ge (by omega))
  unfold fX12_jamsByChannels at hf
  refine lv_aload_n hx hb dX12_jamsByChannels_0 rfl (lv_at hl 0 rfl) ?_
  refine lv_aload_n hx hb dX12_jamsByChannels_1 rfl (lv_at hl 0 rfl) ?_
  obtain ⟨z1, hc2, hf⟩ := br_some hf
  refine mu_cV (As := []) (rest := [.ref (b + 0)]) hx hb hml hown hts hE (mX12_pairs l E B0 b (by omega) M z1 hc2) cv_X12_209 (w_recv (k := 0) (ci := 12) hE hM (by decide) rfl rfl) hM hS hAB (fun _ h => h.elim) rfl hl.1 rfl (by decide) (Nat.le_of_ble_eq_true rfl) ⟨Nat.le_refl _, Nat.le_refl _⟩ dX12_jamsByChannels_2 (fun H locs hM _ hu hS => ?_)
  obtain ⟨z3, hc4, hf⟩ := br_some hf
  refine mu_cV (As := [.int z1]) (rest := []) hx hb hml hown hts hE (mX12_plain l E B0 b (by omega) M z1 z3 hc4) cv_X12_194 (w_recv (k := 0) (ci := 12) hE hM (by decide) rfl rfl) hM hS hAB (fun _ h => h) rfl hl.1 rfl (by decide) (Nat.le_of_ble_eq_true rfl) ⟨Nat.le_refl _, Nat.le_refl _⟩ dX12_jamsByChannels_5 (fun H locs hM _ hu hS => ?_)
  have hre := Option.some.inj hf
  subst hre
  exact mu_i (v := z3.1) hx hb hrt hlocks hM hS dX12_jamsByChannels_8
def fX12_relayed_s (M : Mem) (a1 : Int32) (z : Nat × Int32 × Int32 × Int32) : Option ((Nat × Int32 × Int32 × Int32) ⊕ (Int32)) := (if z.1 = 0 then (if (M 1 0) ≤ z.2.2.1 then some (.inr z.2.1) else some (.inl (1, z.2.1, z.2.2.1, 0))) else (if (M 1 0) ≤ z.2.2.2 then some (.inl (0, z.2.1, (z.2.2.1 + 1), 0)) else (if ((a1 >>> (z.2.2.1 &&& 31)) &&& 1) = (1 : Int32) then (fX12_hears M z.2.2.2 z.2.2.1).bind fun z4 => (if z4 = 0 then some (.inl (1, (z.2.1 ||| 0), z.2.2.1, (z.2.2.2 + 1))) else some (.inl (1, (z.2.1 ||| ((1 : Int32) <<< (z.2.2.2 &&& 31))), z.2.2.1, (z.2.2.2 + 1)))) else some (.inl (1, (z.2.1 ||| 0), z.2.2.1, (z.2.2.2 + 1))))))
noncomputable def fX12_relayed (M : Mem) (a1 : Int32) : Option (Int32) := lp (fX12_relayed_s M a1) (0, a1, 0, 0)
set_option maxHeartbeats 4000000 in
set_option maxRecDepth 100000 in
theorem mX12_relayed (l : Launch) (E : EP) (B0 : Nat) (b : Nat) (hb0 : B0 ≤ b) (M : Mem) (a1 : Int32) (r : Int32) (hf : fX12_relayed M a1 = some r) : MU l E B0 yX12_relayed cX12_relayed 5 (some .int) 3 0 0 [.ref (b + 0), .int a1] (Blk E b modSh 10 M) (some (.int r)) (Blk E b modSh 10 M) nv := by
  refine mu_of (by decide +kernel) (Nat.le_of_ble_eq_true rfl) ?_
  intro p e s m args below meth c hx hb hml hown hts hrt hlocks hE H hM hS ls hl
  have hown : s.vm.findClass RX12 = some m.cls := hown
  have hl : lv_has ls 5 [(0, .ref (b + 0)), (1, .int a1)] := hl
  have hw : ∀ w ∈ WA, w.before args s = true := fun w h => hts w (List.mem_cons_of_mem _ h)
  have hAB : ∀ q, nv q → B0 ≤ q := fun _ h => h.elim
  unfold fX12_relayed at hf
  have loop : ∀ (fu : Nat) (z : Nat × Int32 × Int32 × Int32), lpI (fX12_relayed_s M a1) fu z = some r → (∀ (H : Heap) (locs : List Loc) (ls : Array Slot), z.1 = 0 → Blk E b modSh 10 M H → va_S nv s.heap H locs → lv_has ls 5 [(0, .ref (b + 0)), (1, .int a1), (2, .int z.2.1), (3, .int z.2.2.1)] → W p l e (rmD 3 0 0) s m args below meth c H locs 0 0 (MQ below (QU (some (.int r)) (Blk E b modSh 10 M) nv) args s 0 0 nv) (F0 m 4 ls [])) ∧ (∀ (H : Heap) (locs : List Loc) (ls : Array Slot), z.1 = 1 → Blk E b modSh 10 M H → va_S nv s.heap H locs → lv_has ls 5 [(0, .ref (b + 0)), (1, .int a1), (2, .int z.2.1), (3, .int z.2.2.1), (4, .int z.2.2.2)] → W p l e (rmD 3 0 0) s m args below meth c H locs 0 0 (MQ below (QU (some (.int r)) (Blk E b modSh 10 M) nv) args s 0 0 nv) (F0 m 17 ls [])) := by
    intro fu
    induction fu with
    | zero =>
      intro z hn
      exact nomatch hn
    | succ fu ih =>
      intro z hn
      obtain ⟨y, hf, hy⟩ := lpI_succ hn
      refine ⟨?_, ?_⟩
      · intro H locs ls hz hM hS hl
        unfold fX12_relayed_s at hf
        rw [if_pos hz] at hf
        refine lv_iload_n hx hb dX12_relayed_4 rfl (lv_at hl 3 rfl) ?_
        refine lv_aload_n hx hb dX12_relayed_5 rfl (lv_at hl 0 rfl) ?_
        refine w_get (k := 0) (v := .ref (b + 1)) hx hb hw hown hE fl_X12_7 hM (by decide) rfl rfl rfl dX12_relayed_6 ?_
        refine lv_iconst (v := 0) hx hb dX12_relayed_9 (by decide) ?_
        refine w_iald (k := 1) (x9 := 0) hx hb hE hM (by decide) rfl (by decide) (by decide) dX12_relayed_10 ?_
        refine lv_icmp_ge (tgt := 70) hx hb dX12_relayed_11 (by decide) (fun c1 => ?_) (fun c1 => ?_)
        · rw [if_pos c1] at hf
          refine lv_iload_n hx hb dX12_relayed_70 rfl (lv_at hl 2 rfl) ?_
          have hre := lp_end hy (Option.some.inj hf).symm
          subst hre
          exact mu_i (v := z.2.1) hx hb hrt hlocks hM hS dX12_relayed_71
        · rw [if_neg c1] at hf
          refine lv_iconst (v := 0) hx hb dX12_relayed_14 (by decide) ?_
          refine lv_istore (lv' := [(4, .int 0), (0, .ref (b + 0)), (1, .int a1), (2, .int z.2.1), (3, .int z.2.2.1)]) hx hb dX12_relayed_15 hl (by decide) rfl (fun ls hl => ?_)
          exact (ih (1, z.2.1, z.2.2.1, 0) (lp_back hy (Option.some.inj hf).symm)).2 _ _ _ rfl hM hS (lv_sub hl [1, 2, 3, 4, 0] rfl)
      · intro H locs ls hz hM hS hl
        unfold fX12_relayed_s at hf
        rw [if_neg (by rw [hz]; decide)] at hf
        refine lv_iload hx hb dX12_relayed_17 (lv_at hl 4 rfl) ?_
        refine lv_aload_n hx hb dX12_relayed_19 rfl (lv_at hl 0 rfl) ?_
        refine w_get (k := 0) (v := .ref (b + 1)) hx hb hw hown hE fl_X12_7 hM (by decide) rfl rfl rfl dX12_relayed_20 ?_
        refine lv_iconst (v := 0) hx hb dX12_relayed_23 (by decide) ?_
        refine w_iald (k := 1) (x9 := 0) hx hb hE hM (by decide) rfl (by decide) (by decide) dX12_relayed_24 ?_
        refine lv_icmp_ge (tgt := 64) hx hb dX12_relayed_25 (by decide) (fun c2 => ?_) (fun c2 => ?_)
        · rw [if_pos c2] at hf
          refine lv_iinc (v := (z.2.2.1 + 1)) (lv' := [(3, .int (z.2.2.1 + 1)), (0, .ref (b + 0)), (1, .int a1), (2, .int z.2.1), (4, .int z.2.2.2)]) hx hb dX12_relayed_64 hl (k := 3) rfl rfl (by decide) rfl (fun ls hl => ?_)
          refine lv_goto (tgt := 4) hx hb dX12_relayed_67 (by decide) ?_
          exact (ih (0, z.2.1, (z.2.2.1 + 1), 0) (lp_back hy (Option.some.inj hf).symm)).1 _ _ _ rfl hM hS (lv_sub hl [1, 2, 3, 0] rfl)
        · rw [if_neg c2] at hf
          refine lv_iload_n hx hb dX12_relayed_28 rfl (lv_at hl 2 rfl) ?_
          refine lv_iload_n hx hb dX12_relayed_29 rfl (lv_at hl 1 rfl) ?_
          refine lv_iload_n hx hb dX12_relayed_30 rfl (lv_at hl 3 rfl) ?_
          refine lv_ishr hx hb dX12_relayed_31 ?_
          refine lv_iconst (v := 1) hx hb dX12_relayed_32 (by decide) ?_
          refine lv_iand hx hb dX12_relayed_33 ?_
          refine lv_iconst (v := 1) hx hb dX12_relayed_34 (by decide) ?_
          refine lv_icmp_ne (tgt := 55) hx hb dX12_relayed_35 (by decide) (fun c3 => ?_) (fun c3 => ?_)
          · rw [if_neg c3] at hf
            refine lv_iconst (v := 0) hx hb dX12_relayed_55 (by decide) ?_
            refine lv_ior hx hb dX12_relayed_56 ?_
            refine lv_istore_n (lv' := [(2, .int (z.2.1 ||| 0)), (0, .ref (b + 0)), (1, .int a1), (3, .int z.2.2.1), (4, .int z.2.2.2)]) hx hb dX12_relayed_57 rfl hl (by decide) rfl (fun ls hl => ?_)
            refine lv_iinc (v := (z.2.2.2 + 1)) (lv' := [(4, .int (z.2.2.2 + 1)), (2, .int (z.2.1 ||| 0)), (0, .ref (b + 0)), (1, .int a1), (3, .int z.2.2.1)]) hx hb dX12_relayed_58 hl (k := 4) rfl rfl (by decide) rfl (fun ls hl => ?_)
            refine lv_goto (tgt := 17) hx hb dX12_relayed_61 (by decide) ?_
            exact (ih (1, (z.2.1 ||| 0), z.2.2.1, (z.2.2.2 + 1)) (lp_back hy (Option.some.inj hf).symm)).2 _ _ _ rfl hM hS (lv_sub hl [2, 3, 1, 4, 0] rfl)
          · rw [if_pos c3] at hf
            refine lv_aload_n hx hb dX12_relayed_38 rfl (lv_at hl 0 rfl) ?_
            refine lv_iload hx hb dX12_relayed_39 (lv_at hl 4 rfl) ?_
            refine lv_iload_n hx hb dX12_relayed_41 rfl (lv_at hl 3 rfl) ?_
            obtain ⟨z4, hc5, hf⟩ := br_some hf
            refine mu_cV (As := [.int z.2.2.2, .int z.2.2.1]) (rest := [.int z.2.1]) hx hb hml hown hts hE (mX12_hears l E B0 b (by omega) M z.2.2.2 z.2.2.1 z4 hc5) cv_X12_128 (w_recv (k := 0) (ci := 12) hE hM (by decide) rfl rfl) hM hS hAB (fun _ h => h.elim) rfl hl.1 rfl (by decide) (Nat.le_of_ble_eq_true rfl) ⟨Nat.le_refl _, Nat.le_refl _⟩ dX12_relayed_42 (fun H locs hM _ hu hS => ?_)
            refine lv_if_eq (tgt := 55) hx hb dX12_relayed_45 (by decide) (fun c6 => ?_) (fun c6 => ?_)
            · rw [if_pos c6] at hf
              refine lv_iconst (v := 0) hx hb dX12_relayed_55 (by decide) ?_
              refine lv_ior hx hb dX12_relayed_56 ?_
              refine lv_istore_n (lv' := [(2, .int (z.2.1 ||| 0)), (0, .ref (b + 0)), (1, .int a1), (3, .int z.2.2.1), (4, .int z.2.2.2)]) hx hb dX12_relayed_57 rfl hl (by decide) rfl (fun ls hl => ?_)
              refine lv_iinc (v := (z.2.2.2 + 1)) (lv' := [(4, .int (z.2.2.2 + 1)), (2, .int (z.2.1 ||| 0)), (0, .ref (b + 0)), (1, .int a1), (3, .int z.2.2.1)]) hx hb dX12_relayed_58 hl (k := 4) rfl rfl (by decide) rfl (fun ls hl => ?_)
              refine lv_goto (tgt := 17) hx hb dX12_relayed_61 (by decide) ?_
              exact (ih (1, (z.2.1 ||| 0), z.2.2.1, (z.2.2.2 + 1)) (lp_back hy (Option.some.inj hf).symm)).2 _ _ _ rfl hM hS (lv_sub hl [2, 3, 1, 4, 0] rfl)
            · rw [if_neg c6] at hf
              refine lv_iconst (v := 1) hx hb dX12_relayed_48 (by decide) ?_
              refine lv_iload hx hb dX12_relayed_49 (lv_at hl 4 rfl) ?_
              refine lv_ishl hx hb dX12_relayed_51 ?_
              refine lv_goto (tgt := 56) hx hb dX12_relayed_52 (by decide) ?_
              refine lv_ior hx hb dX12_relayed_56 ?_
              refine lv_istore_n (lv' := [(2, .int (z.2.1 ||| ((1 : Int32) <<< (z.2.2.2 &&& 31)))), (0, .ref (b + 0)), (1, .int a1), (3, .int z.2.2.1), (4, .int z.2.2.2)]) hx hb dX12_relayed_57 rfl hl (by decide) rfl (fun ls hl => ?_)
              refine lv_iinc (v := (z.2.2.2 + 1)) (lv' := [(4, .int (z.2.2.2 + 1)), (2, .int (z.2.1 ||| ((1 : Int32) <<< (z.2.2.2 &&& 31)))), (0, .ref (b + 0)), (1, .int a1), (3, .int z.2.2.1)]) hx hb dX12_relayed_58 hl (k := 4) rfl rfl (by decide) rfl (fun ls hl => ?_)
              refine lv_goto (tgt := 17) hx hb dX12_relayed_61 (by decide) ?_
              exact (ih (1, (z.2.1 ||| ((1 : Int32) <<< (z.2.2.2 &&& 31))), z.2.2.1, (z.2.2.2 + 1)) (lp_back hy (Option.some.inj hf).symm)).2 _ _ _ rfl hM hS (lv_sub hl [2, 3, 1, 4, 0] rfl)
  refine lv_iload_n hx hb dX12_relayed_0 rfl (lv_at hl 1 rfl) ?_
  refine lv_istore_n (lv' := [(2, .int a1), (0, .ref (b + 0)), (1, .int a1)]) hx hb dX12_relayed_1 rfl hl (by decide) rfl (fun ls hl => ?_)
  refine lv_iconst (v := 0) hx hb dX12_relayed_2 (by decide) ?_
  refine lv_istore_n (lv' := [(3, .int 0), (2, .int a1), (0, .ref (b + 0)), (1, .int a1)]) hx hb dX12_relayed_3 rfl hl (by decide) rfl (fun ls hl => ?_)
  obtain ⟨fu, hfu⟩ := lp_some hf
  exact (loop fu (0, a1, 0, 0) hfu).1 _ _ _ rfl hM hS (lv_sub hl [2, 3, 1, 0] rfl)
noncomputable def fX12_hopsOf_s (a1 : Int32) (a2 : Int32) (z : Int32 × Int32 × Mem) : Option ((Int32 × Int32 × Mem) ⊕ (Int32 × Mem)) := (if (8 : Int32) < z.2.1 then (fX12_fail z.2.2 (2 : Int32)).bind fun z2 => some (.inr (z2.1, z2.2)) else (if ((z.1 >>> (a2 &&& 31)) &&& 1) = (1 : Int32) then some (.inr (z.2.1, z.2.2)) else (fX12_relayed z.2.2 z.1).bind fun z5 => some (.inl (z5, (z.2.1 + 1), z.2.2))))
noncomputable def fX12_hopsOf (M : Mem) (a1 : Int32) (a2 : Int32) : Option (Int32 × Mem) := (fX12_areStations M a1 a2).bind fun z7 => (if z7.1 = 0 then some (0, z7.2) else lp (fX12_hopsOf_s a1 a2) (((1 : Int32) <<< (a1 &&& 31)), 0, z7.2))
set_option maxHeartbeats 4000000 in
set_option maxRecDepth 100000 in
theorem mX12_hopsOf (l : Launch) (E : EP) (B0 : Nat) (b : Nat) (hb0 : B0 ≤ b) (M : Mem) (a1 : Int32) (a2 : Int32) (r : Int32 × Mem) (hf : fX12_hopsOf M a1 a2 = some r) : MU l E B0 yX12_hopsOf cX12_hopsOf 5 (some .int) 4 0 0 [.ref (b + 0), .int a1, .int a2] (Blk E b modSh 10 M) (some (.int r.1)) (Blk E b modSh 10 r.2) (iv b 10) := by
  refine mu_of (by decide +kernel) (Nat.le_of_ble_eq_true rfl) ?_
  intro p e s m args below meth c hx hb hml hown hts hrt hlocks hE H hM hS ls hl
  have hown : s.vm.findClass RX12 = some m.cls := hown
  have hl : lv_has ls 5 [(0, .ref (b + 0)), (1, .int a1), (2, .int a2)] := hl
  have hw : ∀ w ∈ WA, w.before args s = true := fun w h => hts w (List.mem_cons_of_mem _ h)
  have hAB : ∀ q, (iv b 10) q → B0 ≤ q := (iv_ge (by omega))
  unfold fX12_hopsOf at hf
  have loop : ∀ (fu : Nat) (z : Int32 × Int32 × Mem), lpI (fX12_hopsOf_s a1 a2) fu z = some r → (∀ (H : Heap) (locs : List Loc) (ls : Array Slot), Blk E b modSh 10 z.2.2 H → va_S (iv b 10) s.heap H locs → lv_has ls 5 [(0, .ref (b + 0)), (1, .int a1), (2, .int a2), (3, .int z.1), (4, .int z.2.1)] → W p l e (rmD 4 0 0) s m args below meth c H locs 0 0 (MQ below (QU (some (.int r.1)) (Blk E b modSh 10 r.2) (iv b 10)) args s 0 0 (iv b 10)) (F0 m 18 ls [])) := by
    intro fu
    induction fu with
    | zero =>
      intro z hn
      exact nomatch hn
    | succ fu ih =>
      intro z hn
      obtain ⟨y, hf, hy⟩ := lpI_succ hn
      intro H locs ls hM hS hl
      unfold fX12_hopsOf_s at hf
      refine lv_iload hx hb dX12_hopsOf_18 (lv_at hl 4 rfl) ?_
      refine lv_bipush (v := 8) hx hb dX12_hopsOf_20 (by decide) ?_
      refine lv_icmp_gt (tgt := 49) hx hb dX12_hopsOf_22 (by decide) (fun c1 => ?_) (fun c1 => ?_)
      · rw [if_pos c1] at hf
        refine lv_aload_n hx hb dX12_hopsOf_49 rfl (lv_at hl 0 rfl) ?_
        refine lv_iconst (v := 2) hx hb dX12_hopsOf_50 (by decide) ?_
        obtain ⟨z2, hc3, hf⟩ := br_some hf
        refine mu_cV (As := [.int 2]) (rest := []) hx hb hml hown hts hE (mX12_fail l E B0 b (by omega) z.2.2 (2 : Int32) z2 hc3) cv_X12_119 (w_recv (k := 0) (ci := 12) hE hM (by decide) rfl rfl) hM hS hAB (fun _ h => h) rfl hl.1 rfl (by decide) (Nat.le_of_ble_eq_true rfl) ⟨Nat.le_refl _, Nat.le_refl _⟩ dX12_hopsOf_51 (fun H locs hM _ hu hS => ?_)
        have hre := lp_end hy (Option.some.inj hf).symm
        subst hre
        exact mu_i (v := z2.1) hx hb hrt hlocks hM hS dX12_hopsOf_54
      · rw [if_neg c1] at hf
        refine lv_iload_n hx hb dX12_hopsOf_25 rfl (lv_at hl 3 rfl) ?_
        refine lv_iload_n hx hb dX12_hopsOf_26 rfl (lv_at hl 2 rfl) ?_
        refine lv_ishr hx hb dX12_hopsOf_27 ?_
        refine lv_iconst (v := 1) hx hb dX12_hopsOf_28 (by decide) ?_
        refine lv_iand hx hb dX12_hopsOf_29 ?_
        refine lv_iconst (v := 1) hx hb dX12_hopsOf_30 (by decide) ?_
        refine lv_icmp_ne (tgt := 37) hx hb dX12_hopsOf_31 (by decide) (fun c4 => ?_) (fun c4 => ?_)
        · rw [if_neg c4] at hf
          refine lv_aload_n hx hb dX12_hopsOf_37 rfl (lv_at hl 0 rfl) ?_
          refine lv_iload_n hx hb dX12_hopsOf_38 rfl (lv_at hl 3 rfl) ?_
          obtain ⟨z5, hc6, hf⟩ := br_some hf
          refine mu_cV (As := [.int z.1]) (rest := []) hx hb hml hown hts hE (mX12_relayed l E B0 b (by omega) z.2.2 z.1 z5 hc6) cv_X12_212 (w_recv (k := 0) (ci := 12) hE hM (by decide) rfl rfl) hM hS hAB (fun _ h => h.elim) rfl hl.1 rfl (by decide) (Nat.le_of_ble_eq_true rfl) ⟨Nat.le_refl _, Nat.le_refl _⟩ dX12_hopsOf_39 (fun H locs hM _ hu hS => ?_)
          refine lv_istore_n (lv' := [(3, .int z5), (0, .ref (b + 0)), (1, .int a1), (2, .int a2), (4, .int z.2.1)]) hx hb dX12_hopsOf_42 rfl hl (by decide) rfl (fun ls hl => ?_)
          refine lv_iinc (v := (z.2.1 + 1)) (lv' := [(4, .int (z.2.1 + 1)), (3, .int z5), (0, .ref (b + 0)), (1, .int a1), (2, .int a2)]) hx hb dX12_hopsOf_43 hl (k := 4) rfl rfl (by decide) rfl (fun ls hl => ?_)
          refine lv_goto (tgt := 18) hx hb dX12_hopsOf_46 (by decide) ?_
          exact ih (z5, (z.2.1 + 1), z.2.2) (lp_back hy (Option.some.inj hf).symm) _ _ _ hM hS (lv_sub hl [2, 3, 4, 1, 0] rfl)
        · rw [if_pos c4] at hf
          refine lv_iload hx hb dX12_hopsOf_34 (lv_at hl 4 rfl) ?_
          have hre := lp_end hy (Option.some.inj hf).symm
          subst hre
          exact mu_i (v := z.2.1) hx hb hrt hlocks hM hS dX12_hopsOf_36
  refine lv_aload_n hx hb dX12_hopsOf_0 rfl (lv_at hl 0 rfl) ?_
  refine lv_iload_n hx hb dX12_hopsOf_1 rfl (lv_at hl 1 rfl) ?_
  refine lv_iload_n hx hb dX12_hopsOf_2 rfl (lv_at hl 2 rfl) ?_
  obtain ⟨z7, hc8, hf⟩ := br_some hf
  refine mu_cV (As := [.int a1, .int a2]) (rest := []) hx hb hml hown hts hE (mX12_areStations l E B0 b (by omega) M a1 a2 z7 hc8) cv_X12_206 (w_recv (k := 0) (ci := 12) hE hM (by decide) rfl rfl) hM hS hAB (fun _ h => h) rfl hl.1 rfl (by decide) (Nat.le_of_ble_eq_true rfl) ⟨Nat.le_refl _, Nat.le_refl _⟩ dX12_hopsOf_3 (fun H locs hM _ hu hS => ?_)
  refine lv_if_ne (tgt := 11) hx hb dX12_hopsOf_6 (by decide) (fun c9 => ?_) (fun c9 => ?_)
  · rw [if_neg c9] at hf
    refine lv_iconst (v := 1) hx hb dX12_hopsOf_11 (by decide) ?_
    refine lv_iload_n hx hb dX12_hopsOf_12 rfl (lv_at hl 1 rfl) ?_
    refine lv_ishl hx hb dX12_hopsOf_13 ?_
    refine lv_istore_n (lv' := [(3, .int ((1 : Int32) <<< (a1 &&& 31))), (0, .ref (b + 0)), (1, .int a1), (2, .int a2)]) hx hb dX12_hopsOf_14 rfl hl (by decide) rfl (fun ls hl => ?_)
    refine lv_iconst (v := 0) hx hb dX12_hopsOf_15 (by decide) ?_
    refine lv_istore (lv' := [(4, .int 0), (3, .int ((1 : Int32) <<< (a1 &&& 31))), (0, .ref (b + 0)), (1, .int a1), (2, .int a2)]) hx hb dX12_hopsOf_16 hl (by decide) rfl (fun ls hl => ?_)
    obtain ⟨fu, hfu⟩ := lp_some hf
    exact (loop fu (((1 : Int32) <<< (a1 &&& 31)), 0, z7.2) hfu) _ _ _ hM hS (lv_sub hl [2, 3, 4, 1, 0] rfl)
  · rw [if_pos c9] at hf
    refine lv_iconst (v := 0) hx hb dX12_hopsOf_9 (by decide) ?_
    have hre := Option.some.inj hf
    subst hre
    exact mu_i (v := 0) hx hb hrt hlocks hM hS dX12_hopsOf_10
noncomputable def fX12_hops (M : Mem) (a1 : Int32) (a2 : Int32) : Option (Int32 × Mem) := (fX12_hopsOf M a1 a2).bind fun z1 => some (z1.1, z1.2)
set_option maxHeartbeats 4000000 in
set_option maxRecDepth 100000 in
theorem mX12_hops (l : Launch) (E : EP) (B0 : Nat) (b : Nat) (hb0 : B0 ≤ b) (M : Mem) (a1 : Int32) (a2 : Int32) (r : Int32 × Mem) (hf : fX12_hops M a1 a2 = some r) : MU l E B0 yX12_hops cX12_hops 3 (some .int) 5 0 0 [.ref (b + 0), .int a1, .int a2] (Blk E b modSh 10 M) (some (.int r.1)) (Blk E b modSh 10 r.2) (iv b 10) := by
  refine mu_of (by decide +kernel) (Nat.le_of_ble_eq_true rfl) ?_
  intro p e s m args below meth c hx hb hml hown hts hrt hlocks hE H hM hS ls hl
  have hown : s.vm.findClass RX12 = some m.cls := hown
  have hl : lv_has ls 3 [(0, .ref (b + 0)), (1, .int a1), (2, .int a2)] := hl
  have hw : ∀ w ∈ WA, w.before args s = true := fun w h => hts w (List.mem_cons_of_mem _ h)
  have hAB : ∀ q, (iv b 10) q → B0 ≤ q := (iv_ge (by omega))
  unfold fX12_hops at hf
  refine lv_aload_n hx hb dX12_hops_0 rfl (lv_at hl 0 rfl) ?_
  refine lv_iload_n hx hb dX12_hops_1 rfl (lv_at hl 1 rfl) ?_
  refine lv_iload_n hx hb dX12_hops_2 rfl (lv_at hl 2 rfl) ?_
  obtain ⟨z1, hc2, hf⟩ := br_some hf
  refine mu_cV (As := [.int a1, .int a2]) (rest := []) hx hb hml hown hts hE (mX12_hopsOf l E B0 b (by omega) M a1 a2 z1 hc2) cv_X12_215 (w_recv (k := 0) (ci := 12) hE hM (by decide) rfl rfl) hM hS hAB (fun _ h => h) rfl hl.1 rfl (by decide) (Nat.le_of_ble_eq_true rfl) ⟨Nat.le_refl _, Nat.le_refl _⟩ dX12_hops_3 (fun H locs hM _ hu hS => ?_)
  have hre := Option.some.inj hf
  subst hre
  exact mu_i (v := z1.1) hx hb hrt hlocks hM hS dX12_hops_6
noncomputable def fX12_hopsBySets (M : Mem) (a1 : Int32) (a2 : Int32) : Option (Int32 × Mem) := (fX12_hopsOf M a1 a2).bind fun z1 => some (z1.1, z1.2)
set_option maxHeartbeats 4000000 in
set_option maxRecDepth 100000 in
theorem mX12_hopsBySets (l : Launch) (E : EP) (B0 : Nat) (b : Nat) (hb0 : B0 ≤ b) (M : Mem) (a1 : Int32) (a2 : Int32) (r : Int32 × Mem) (hf : fX12_hopsBySets M a1 a2 = some r) : MU l E B0 yX12_hopsBySets cX12_hopsBySets 3 (some .int) 5 0 0 [.ref (b + 0), .int a1, .int a2] (Blk E b modSh 10 M) (some (.int r.1)) (Blk E b modSh 10 r.2) (iv b 10) := by
  refine mu_of (by decide +kernel) (Nat.le_of_ble_eq_true rfl) ?_
  intro p e s m args below meth c hx hb hml hown hts hrt hlocks hE H hM hS ls hl
  have hown : s.vm.findClass RX12 = some m.cls := hown
  have hl : lv_has ls 3 [(0, .ref (b + 0)), (1, .int a1), (2, .int a2)] := hl
  have hw : ∀ w ∈ WA, w.before args s = true := fun w h => hts w (List.mem_cons_of_mem _ h)
  have hAB : ∀ q, (iv b 10) q → B0 ≤ q := (iv_ge (by omega))
  unfold fX12_hopsBySets at hf
  refine lv_aload_n hx hb dX12_hopsBySets_0 rfl (lv_at hl 0 rfl) ?_
  refine lv_iload_n hx hb dX12_hopsBySets_1 rfl (lv_at hl 1 rfl) ?_
  refine lv_iload_n hx hb dX12_hopsBySets_2 rfl (lv_at hl 2 rfl) ?_
  obtain ⟨z1, hc2, hf⟩ := br_some hf
  refine mu_cV (As := [.int a1, .int a2]) (rest := []) hx hb hml hown hts hE (mX12_hopsOf l E B0 b (by omega) M a1 a2 z1 hc2) cv_X12_215 (w_recv (k := 0) (ci := 12) hE hM (by decide) rfl rfl) hM hS hAB (fun _ h => h) rfl hl.1 rfl (by decide) (Nat.le_of_ble_eq_true rfl) ⟨Nat.le_refl _, Nat.le_refl _⟩ dX12_hopsBySets_3 (fun H locs hM _ hu hS => ?_)
  have hre := Option.some.inj hf
  subst hre
  exact mu_i (v := z1.1) hx hb hrt hlocks hM hS dX12_hopsBySets_6
noncomputable def fX12_reachable_s (a1 : Int32) (z : Nat × Int32 × Int32 × Int32 × Mem) : Option ((Nat × Int32 × Int32 × Int32 × Mem) ⊕ (Int32 × Mem)) := (if z.1 = 0 then (if (8 : Int32) ≤ z.2.2.1 then some (.inl (1, z.2.1, 0, 0, z.2.2.2.2)) else (fX12_relayed z.2.2.2.2 z.2.1).bind fun z2 => some (.inl (0, z2, (z.2.2.1 + 1), 0, z.2.2.2.2))) else (if (8 : Int32) ≤ z.2.2.2.1 then some (.inr (z.2.2.1, z.2.2.2.2)) else some (.inl (1, z.2.1, (z.2.2.1 + ((z.2.1 >>> (z.2.2.2.1 &&& 31)) &&& 1)), (z.2.2.2.1 + 1), z.2.2.2.2))))
noncomputable def fX12_reachable (M : Mem) (a1 : Int32) : Option (Int32 × Mem) := (fX12_areStations M a1 a1).bind fun z5 => (if z5.1 = 0 then some (0, z5.2) else lp (fX12_reachable_s a1) (0, ((1 : Int32) <<< (a1 &&& 31)), 0, 0, z5.2))
set_option maxHeartbeats 4000000 in
set_option maxRecDepth 100000 in
theorem mX12_reachable (l : Launch) (E : EP) (B0 : Nat) (b : Nat) (hb0 : B0 ≤ b) (M : Mem) (a1 : Int32) (r : Int32 × Mem) (hf : fX12_reachable M a1 = some r) : MU l E B0 yX12_reachable cX12_reachable 5 (some .int) 4 0 0 [.ref (b + 0), .int a1] (Blk E b modSh 10 M) (some (.int r.1)) (Blk E b modSh 10 r.2) (iv b 10) := by
  refine mu_of (by decide +kernel) (Nat.le_of_ble_eq_true rfl) ?_
  intro p e s m args below meth c hx hb hml hown hts hrt hlocks hE H hM hS ls hl
  have hown : s.vm.findClass RX12 = some m.cls := hown
  have hl : lv_has ls 5 [(0, .ref (b + 0)), (1, .int a1)] := hl
  have hw : ∀ w ∈ WA, w.before args s = true := fun w h => hts w (List.mem_cons_of_mem _ h)
  have hAB : ∀ q, (iv b 10) q → B0 ≤ q := (iv_ge (by omega))
  unfold fX12_reachable at hf
  have loop : ∀ (fu : Nat) (z : Nat × Int32 × Int32 × Int32 × Mem), lpI (fX12_reachable_s a1) fu z = some r → (∀ (H : Heap) (locs : List Loc) (ls : Array Slot), z.1 = 0 → Blk E b modSh 10 z.2.2.2.2 H → va_S (iv b 10) s.heap H locs → lv_has ls 5 [(0, .ref (b + 0)), (1, .int a1), (2, .int z.2.1), (3, .int z.2.2.1)] → W p l e (rmD 4 0 0) s m args below meth c H locs 0 0 (MQ below (QU (some (.int r.1)) (Blk E b modSh 10 r.2) (iv b 10)) args s 0 0 (iv b 10)) (F0 m 17 ls [])) ∧ (∀ (H : Heap) (locs : List Loc) (ls : Array Slot), z.1 = 1 → Blk E b modSh 10 z.2.2.2.2 H → va_S (iv b 10) s.heap H locs → lv_has ls 5 [(0, .ref (b + 0)), (1, .int a1), (2, .int z.2.1), (3, .int z.2.2.1), (4, .int z.2.2.2.1)] → W p l e (rmD 4 0 0) s m args below meth c H locs 0 0 (MQ below (QU (some (.int r.1)) (Blk E b modSh 10 r.2) (iv b 10)) args s 0 0 (iv b 10)) (F0 m 40 ls [])) := by
    intro fu
    induction fu with
    | zero =>
      intro z hn
      exact nomatch hn
    | succ fu ih =>
      intro z hn
      obtain ⟨y, hf, hy⟩ := lpI_succ hn
      refine ⟨?_, ?_⟩
      · intro H locs ls hz hM hS hl
        unfold fX12_reachable_s at hf
        rw [if_pos hz] at hf
        refine lv_iload_n hx hb dX12_reachable_17 rfl (lv_at hl 3 rfl) ?_
        refine lv_bipush (v := 8) hx hb dX12_reachable_18 (by decide) ?_
        refine lv_icmp_ge (tgt := 35) hx hb dX12_reachable_20 (by decide) (fun c1 => ?_) (fun c1 => ?_)
        · rw [if_pos c1] at hf
          refine lv_iconst (v := 0) hx hb dX12_reachable_35 (by decide) ?_
          refine lv_istore_n (lv' := [(3, .int 0), (0, .ref (b + 0)), (1, .int a1), (2, .int z.2.1)]) hx hb dX12_reachable_36 rfl hl (by decide) rfl (fun ls hl => ?_)
          refine lv_iconst (v := 0) hx hb dX12_reachable_37 (by decide) ?_
          refine lv_istore (lv' := [(4, .int 0), (3, .int 0), (0, .ref (b + 0)), (1, .int a1), (2, .int z.2.1)]) hx hb dX12_reachable_38 hl (by decide) rfl (fun ls hl => ?_)
          exact (ih (1, z.2.1, 0, 0, z.2.2.2.2) (lp_back hy (Option.some.inj hf).symm)).2 _ _ _ rfl hM hS (lv_sub hl [2, 3, 4, 1, 0] rfl)
        · rw [if_neg c1] at hf
          refine lv_aload_n hx hb dX12_reachable_23 rfl (lv_at hl 0 rfl) ?_
          refine lv_iload_n hx hb dX12_reachable_24 rfl (lv_at hl 2 rfl) ?_
          obtain ⟨z2, hc3, hf⟩ := br_some hf
          refine mu_cV (As := [.int z.2.1]) (rest := []) hx hb hml hown hts hE (mX12_relayed l E B0 b (by omega) z.2.2.2.2 z.2.1 z2 hc3) cv_X12_212 (w_recv (k := 0) (ci := 12) hE hM (by decide) rfl rfl) hM hS hAB (fun _ h => h.elim) rfl hl.1 rfl (by decide) (Nat.le_of_ble_eq_true rfl) ⟨Nat.le_refl _, Nat.le_refl _⟩ dX12_reachable_25 (fun H locs hM _ hu hS => ?_)
          refine lv_istore_n (lv' := [(2, .int z2), (0, .ref (b + 0)), (1, .int a1), (3, .int z.2.2.1)]) hx hb dX12_reachable_28 rfl hl (by decide) rfl (fun ls hl => ?_)
          refine lv_iinc (v := (z.2.2.1 + 1)) (lv' := [(3, .int (z.2.2.1 + 1)), (2, .int z2), (0, .ref (b + 0)), (1, .int a1)]) hx hb dX12_reachable_29 hl (k := 3) rfl rfl (by decide) rfl (fun ls hl => ?_)
          refine lv_goto (tgt := 17) hx hb dX12_reachable_32 (by decide) ?_
          exact (ih (0, z2, (z.2.2.1 + 1), 0, z.2.2.2.2) (lp_back hy (Option.some.inj hf).symm)).1 _ _ _ rfl hM hS (lv_sub hl [2, 3, 1, 0] rfl)
      · intro H locs ls hz hM hS hl
        unfold fX12_reachable_s at hf
        rw [if_neg (by rw [hz]; decide)] at hf
        refine lv_iload hx hb dX12_reachable_40 (lv_at hl 4 rfl) ?_
        refine lv_bipush (v := 8) hx hb dX12_reachable_42 (by decide) ?_
        refine lv_icmp_ge (tgt := 62) hx hb dX12_reachable_44 (by decide) (fun c4 => ?_) (fun c4 => ?_)
        · rw [if_pos c4] at hf
          refine lv_iload_n hx hb dX12_reachable_62 rfl (lv_at hl 3 rfl) ?_
          have hre := lp_end hy (Option.some.inj hf).symm
          subst hre
          exact mu_i (v := z.2.2.1) hx hb hrt hlocks hM hS dX12_reachable_63
        · rw [if_neg c4] at hf
          refine lv_iload_n hx hb dX12_reachable_47 rfl (lv_at hl 3 rfl) ?_
          refine lv_iload_n hx hb dX12_reachable_48 rfl (lv_at hl 2 rfl) ?_
          refine lv_iload hx hb dX12_reachable_49 (lv_at hl 4 rfl) ?_
          refine lv_ishr hx hb dX12_reachable_51 ?_
          refine lv_iconst (v := 1) hx hb dX12_reachable_52 (by decide) ?_
          refine lv_iand hx hb dX12_reachable_53 ?_
          refine lv_iadd hx hb dX12_reachable_54 ?_
          refine lv_istore_n (lv' := [(3, .int (z.2.2.1 + ((z.2.1 >>> (z.2.2.2.1 &&& 31)) &&& 1))), (0, .ref (b + 0)), (1, .int a1), (2, .int z.2.1), (4, .int z.2.2.2.1)]) hx hb dX12_reachable_55 rfl hl (by decide) rfl (fun ls hl => ?_)
          refine lv_iinc (v := (z.2.2.2.1 + 1)) (lv' := [(4, .int (z.2.2.2.1 + 1)), (3, .int (z.2.2.1 + ((z.2.1 >>> (z.2.2.2.1 &&& 31)) &&& 1))), (0, .ref (b + 0)), (1, .int a1), (2, .int z.2.1)]) hx hb dX12_reachable_56 hl (k := 4) rfl rfl (by decide) rfl (fun ls hl => ?_)
          refine lv_goto (tgt := 40) hx hb dX12_reachable_59 (by decide) ?_
          exact (ih (1, z.2.1, (z.2.2.1 + ((z.2.1 >>> (z.2.2.2.1 &&& 31)) &&& 1)), (z.2.2.2.1 + 1), z.2.2.2.2) (lp_back hy (Option.some.inj hf).symm)).2 _ _ _ rfl hM hS (lv_sub hl [2, 3, 4, 1, 0] rfl)
  refine lv_aload_n hx hb dX12_reachable_0 rfl (lv_at hl 0 rfl) ?_
  refine lv_iload_n hx hb dX12_reachable_1 rfl (lv_at hl 1 rfl) ?_
  refine lv_iload_n hx hb dX12_reachable_2 rfl (lv_at hl 1 rfl) ?_
  obtain ⟨z5, hc6, hf⟩ := br_some hf
  refine mu_cV (As := [.int a1, .int a1]) (rest := []) hx hb hml hown hts hE (mX12_areStations l E B0 b (by omega) M a1 a1 z5 hc6) cv_X12_206 (w_recv (k := 0) (ci := 12) hE hM (by decide) rfl rfl) hM hS hAB (fun _ h => h) rfl hl.1 rfl (by decide) (Nat.le_of_ble_eq_true rfl) ⟨Nat.le_refl _, Nat.le_refl _⟩ dX12_reachable_3 (fun H locs hM _ hu hS => ?_)
  refine lv_if_ne (tgt := 11) hx hb dX12_reachable_6 (by decide) (fun c7 => ?_) (fun c7 => ?_)
  · rw [if_neg c7] at hf
    refine lv_iconst (v := 1) hx hb dX12_reachable_11 (by decide) ?_
    refine lv_iload_n hx hb dX12_reachable_12 rfl (lv_at hl 1 rfl) ?_
    refine lv_ishl hx hb dX12_reachable_13 ?_
    refine lv_istore_n (lv' := [(2, .int ((1 : Int32) <<< (a1 &&& 31))), (0, .ref (b + 0)), (1, .int a1)]) hx hb dX12_reachable_14 rfl hl (by decide) rfl (fun ls hl => ?_)
    refine lv_iconst (v := 0) hx hb dX12_reachable_15 (by decide) ?_
    refine lv_istore_n (lv' := [(3, .int 0), (2, .int ((1 : Int32) <<< (a1 &&& 31))), (0, .ref (b + 0)), (1, .int a1)]) hx hb dX12_reachable_16 rfl hl (by decide) rfl (fun ls hl => ?_)
    obtain ⟨fu, hfu⟩ := lp_some hf
    exact (loop fu (0, ((1 : Int32) <<< (a1 &&& 31)), 0, 0, z5.2) hfu).1 _ _ _ rfl hM hS (lv_sub hl [2, 3, 1, 0] rfl)
  · rw [if_pos c7] at hf
    refine lv_iconst (v := 0) hx hb dX12_reachable_9 (by decide) ?_
    have hre := Option.some.inj hf
    subst hre
    exact mu_i (v := 0) hx hb hrt hlocks hM hS dX12_reachable_10
def fX12_logLength (M : Mem) : Option (Int32 × Mem) := (fX12_plain M (M 1 4)).bind fun z1 => some (z1.1, z1.2)
set_option maxHeartbeats 4000000 in
set_option maxRecDepth 100000 in
theorem mX12_logLength (l : Launch) (E : EP) (B0 : Nat) (b : Nat) (hb0 : B0 ≤ b) (M : Mem) (r : Int32 × Mem) (hf : fX12_logLength M = some r) : MU l E B0 yX12_logLength cX12_logLength 1 (some .int) 1 0 0 [.ref (b + 0)] (Blk E b modSh 10 M) (some (.int r.1)) (Blk E b modSh 10 r.2) (iv b 10) := by
  refine mu_of (by decide +kernel) (Nat.le_of_ble_eq_true rfl) ?_
  intro p e s m args below meth c hx hb hml hown hts hrt hlocks hE H hM hS ls hl
  have hown : s.vm.findClass RX12 = some m.cls := hown
  have hl : lv_has ls 1 [(0, .ref (b + 0))] := hl
  have hw : ∀ w ∈ WA, w.before args s = true := fun w h => hts w (List.mem_cons_of_mem _ h)
  have hAB : ∀ q, (iv b 10) q → B0 ≤ q := (iv_ge (by omega))
  unfold fX12_logLength at hf
  refine lv_aload_n hx hb dX12_logLength_0 rfl (lv_at hl 0 rfl) ?_
  refine lv_aload_n hx hb dX12_logLength_1 rfl (lv_at hl 0 rfl) ?_
  refine w_get (k := 0) (v := .ref (b + 1)) hx hb hw hown hE fl_X12_7 hM (by decide) rfl rfl rfl dX12_logLength_2 ?_
  refine lv_iconst (v := 4) hx hb dX12_logLength_5 (by decide) ?_
  refine w_iald (k := 1) (x9 := 4) hx hb hE hM (by decide) rfl (by decide) (by decide) dX12_logLength_6 ?_
  obtain ⟨z1, hc2, hf⟩ := br_some hf
  refine mu_cV (As := [.int (M 1 4)]) (rest := []) hx hb hml hown hts hE (mX12_plain l E B0 b (by omega) M (M 1 4) z1 hc2) cv_X12_194 (w_recv (k := 0) (ci := 12) hE hM (by decide) rfl rfl) hM hS hAB (fun _ h => h) rfl hl.1 rfl (by decide) (Nat.le_of_ble_eq_true rfl) ⟨Nat.le_refl _, Nat.le_refl _⟩ dX12_logLength_7 (fun H locs hM _ hu hS => ?_)
  have hre := Option.some.inj hf
  subst hre
  exact mu_i (v := z1.1) hx hb hrt hlocks hM hS dX12_logLength_10
def fX12_logged (M : Mem) (a1 : Int32) (a2 : Int32) : Option (Int32 × Mem) := (fX12_in a1 (0 : Int32) ((M 1 4) - 1)).bind fun z1 => (if z1 = 0 then (if ((up2 M 0 4 (1 : Int32)) 0 4) ≤ 0 then gd (inb (((108 : Int32) + ((3 : Int32) * a1)) + a2) 160) (some (((up2 M 0 4 (1 : Int32)) 1 ((((108 : Int32) + ((3 : Int32) * a1)) + a2).toNatClampNeg)), (up2 M 0 4 (1 : Int32)))) else some (0, (up2 M 0 4 (1 : Int32)))) else (if ((up2 M 0 4 (0 : Int32)) 0 4) ≤ 0 then gd (inb (((108 : Int32) + ((3 : Int32) * a1)) + a2) 160) (some (((up2 M 0 4 (0 : Int32)) 1 ((((108 : Int32) + ((3 : Int32) * a1)) + a2).toNatClampNeg)), (up2 M 0 4 (0 : Int32)))) else some (0, (up2 M 0 4 (0 : Int32)))))
set_option maxHeartbeats 4000000 in
set_option maxRecDepth 100000 in
theorem mX12_logged (l : Launch) (E : EP) (B0 : Nat) (b : Nat) (hb0 : B0 ≤ b) (M : Mem) (a1 : Int32) (a2 : Int32) (r : Int32 × Mem) (hf : fX12_logged M a1 a2 = some r) : MU l E B0 yX12_logged cX12_logged 3 (some .int) 1 0 0 [.ref (b + 0), .int a1, .int a2] (Blk E b modSh 10 M) (some (.int r.1)) (Blk E b modSh 10 r.2) (iv b 10) := by
  refine mu_of (by decide +kernel) (Nat.le_of_ble_eq_true rfl) ?_
  intro p e s m args below meth c hx hb hml hown hts hrt hlocks hE H hM hS ls hl
  have hown : s.vm.findClass RX12 = some m.cls := hown
  have hl : lv_has ls 3 [(0, .ref (b + 0)), (1, .int a1), (2, .int a2)] := hl
  have hw : ∀ w ∈ WA, w.before args s = true := fun w h => hts w (List.mem_cons_of_mem _ h)
  have hAB : ∀ q, (iv b 10) q → B0 ≤ q := (iv_ge (by omega))
  unfold fX12_logged at hf
  refine lv_aload_n hx hb dX12_logged_0 rfl (lv_at hl 0 rfl) ?_
  refine lv_iload_n hx hb dX12_logged_1 rfl (lv_at hl 1 rfl) ?_
  refine lv_iconst (v := 0) hx hb dX12_logged_2 (by decide) ?_
  refine lv_aload_n hx hb dX12_logged_3 rfl (lv_at hl 0 rfl) ?_
  refine w_get (k := 0) (v := .ref (b + 1)) hx hb hw hown hE fl_X12_7 hM (by decide) rfl rfl rfl dX12_logged_4 ?_
  refine lv_iconst (v := 4) hx hb dX12_logged_7 (by decide) ?_
  refine w_iald (k := 1) (x9 := 4) hx hb hE hM (by decide) rfl (by decide) (by decide) dX12_logged_8 ?_
  refine lv_iconst (v := 1) hx hb dX12_logged_9 (by decide) ?_
  refine lv_isub hx hb dX12_logged_10 ?_
  obtain ⟨z1, hc2, hf⟩ := br_some hf
  refine mu_cS (As := [.int a1, .int 0, .int ((M 1 4) - 1)]) (rest := [.ref (b + 0)]) hx hb hml hown hts hE (mX12_in l E B0 a1 (0 : Int32) ((M 1 4) - 1) z1 hc2) cs_X12_76 trivial hS hAB (fun _ h => h.elim) rfl hl.1 rfl (by decide) (Nat.le_of_ble_eq_true rfl) ⟨Nat.le_refl _, Nat.le_refl _⟩ dX12_logged_11 (fun H locs _ _ hu hS => ?_)
  have hM := Blk.off hM hu (fun _ _ _ h => h)
  refine lv_if_eq (tgt := 21) hx hb dX12_logged_14 (by decide) (fun c3 => ?_) (fun c3 => ?_)
  · rw [if_pos c3] at hf
    refine lv_iconst (v := 1) hx hb dX12_logged_21 (by decide) ?_
    refine w_put (k := 0) (v := .int 1) hx hb hw hown hE fl_X12_22 fw_X12_4 hM (by decide) rfl rfl (1 : Int32) rfl rfl rfl hS (iv_mem (by decide)) dX12_logged_22 (fun H locs hM _ hu hS => ?_)
    refine lv_aload_n hx hb dX12_logged_25 rfl (lv_at hl 0 rfl) ?_
    refine w_get (k := 0) (v := .int ((up2 M 0 4 (1 : Int32)) 0 4)) hx hb hw hown hE fl_X12_22 hM (by decide) rfl rfl rfl dX12_logged_26 ?_
    refine lv_if_le (tgt := 36) hx hb dX12_logged_29 (by decide) (fun c4 => ?_) (fun c4 => ?_)
    · rw [if_pos c4] at hf
      refine lv_aload_n hx hb dX12_logged_36 rfl (lv_at hl 0 rfl) ?_
      refine w_get (k := 0) (v := .ref (b + 1)) hx hb hw hown hE fl_X12_7 hM (by decide) rfl rfl rfl dX12_logged_37 ?_
      refine lv_bipush (v := 108) hx hb dX12_logged_40 (by decide) ?_
      refine lv_iconst (v := 3) hx hb dX12_logged_42 (by decide) ?_
      refine lv_iload_n hx hb dX12_logged_43 rfl (lv_at hl 1 rfl) ?_
      refine lv_imul hx hb dX12_logged_44 ?_
      refine lv_iadd hx hb dX12_logged_45 ?_
      refine lv_iload_n hx hb dX12_logged_46 rfl (lv_at hl 2 rfl) ?_
      refine lv_iadd hx hb dX12_logged_47 ?_
      obtain ⟨h5, hf⟩ := gd_some hf
      refine w_iald (k := 1) (x9 := (((108 : Int32) + ((3 : Int32) * a1)) + a2).toNatClampNeg) hx hb hE hM (by decide) rfl rfl h5 dX12_logged_48 ?_
      have hre := Option.some.inj hf
      subst hre
      exact mu_i (v := ((up2 M 0 4 (1 : Int32)) 1 ((((108 : Int32) + ((3 : Int32) * a1)) + a2).toNatClampNeg))) hx hb hrt hlocks hM hS dX12_logged_49
    · rw [if_neg c4] at hf
      refine lv_iconst (v := 0) hx hb dX12_logged_32 (by decide) ?_
      refine lv_goto (tgt := 49) hx hb dX12_logged_33 (by decide) ?_
      have hre := Option.some.inj hf
      subst hre
      exact mu_i (v := 0) hx hb hrt hlocks hM hS dX12_logged_49
  · rw [if_neg c3] at hf
    refine lv_iconst (v := 0) hx hb dX12_logged_17 (by decide) ?_
    refine lv_goto (tgt := 22) hx hb dX12_logged_18 (by decide) ?_
    refine w_put (k := 0) (v := .int 0) hx hb hw hown hE fl_X12_22 fw_X12_4 hM (by decide) rfl rfl (0 : Int32) rfl rfl rfl hS (iv_mem (by decide)) dX12_logged_22 (fun H locs hM _ hu hS => ?_)
    refine lv_aload_n hx hb dX12_logged_25 rfl (lv_at hl 0 rfl) ?_
    refine w_get (k := 0) (v := .int ((up2 M 0 4 (0 : Int32)) 0 4)) hx hb hw hown hE fl_X12_22 hM (by decide) rfl rfl rfl dX12_logged_26 ?_
    refine lv_if_le (tgt := 36) hx hb dX12_logged_29 (by decide) (fun c6 => ?_) (fun c6 => ?_)
    · rw [if_pos c6] at hf
      refine lv_aload_n hx hb dX12_logged_36 rfl (lv_at hl 0 rfl) ?_
      refine w_get (k := 0) (v := .ref (b + 1)) hx hb hw hown hE fl_X12_7 hM (by decide) rfl rfl rfl dX12_logged_37 ?_
      refine lv_bipush (v := 108) hx hb dX12_logged_40 (by decide) ?_
      refine lv_iconst (v := 3) hx hb dX12_logged_42 (by decide) ?_
      refine lv_iload_n hx hb dX12_logged_43 rfl (lv_at hl 1 rfl) ?_
      refine lv_imul hx hb dX12_logged_44 ?_
      refine lv_iadd hx hb dX12_logged_45 ?_
      refine lv_iload_n hx hb dX12_logged_46 rfl (lv_at hl 2 rfl) ?_
      refine lv_iadd hx hb dX12_logged_47 ?_
      obtain ⟨h7, hf⟩ := gd_some hf
      refine w_iald (k := 1) (x9 := (((108 : Int32) + ((3 : Int32) * a1)) + a2).toNatClampNeg) hx hb hE hM (by decide) rfl rfl h7 dX12_logged_48 ?_
      have hre := Option.some.inj hf
      subst hre
      exact mu_i (v := ((up2 M 0 4 (0 : Int32)) 1 ((((108 : Int32) + ((3 : Int32) * a1)) + a2).toNatClampNeg))) hx hb hrt hlocks hM hS dX12_logged_49
    · rw [if_neg c6] at hf
      refine lv_iconst (v := 0) hx hb dX12_logged_32 (by decide) ?_
      refine lv_goto (tgt := 49) hx hb dX12_logged_33 (by decide) ?_
      have hre := Option.some.inj hf
      subst hre
      exact mu_i (v := 0) hx hb hrt hlocks hM hS dX12_logged_49
def fX12_logStation (M : Mem) (a1 : Int32) : Option (Int32 × Mem) := (fX12_logged M a1 (0 : Int32)).bind fun z1 => some (z1.1, z1.2)
set_option maxHeartbeats 4000000 in
set_option maxRecDepth 100000 in
theorem mX12_logStation (l : Launch) (E : EP) (B0 : Nat) (b : Nat) (hb0 : B0 ≤ b) (M : Mem) (a1 : Int32) (r : Int32 × Mem) (hf : fX12_logStation M a1 = some r) : MU l E B0 yX12_logStation cX12_logStation 2 (some .int) 2 0 0 [.ref (b + 0), .int a1] (Blk E b modSh 10 M) (some (.int r.1)) (Blk E b modSh 10 r.2) (iv b 10) := by
  refine mu_of (by decide +kernel) (Nat.le_of_ble_eq_true rfl) ?_
  intro p e s m args below meth c hx hb hml hown hts hrt hlocks hE H hM hS ls hl
  have hown : s.vm.findClass RX12 = some m.cls := hown
  have hl : lv_has ls 2 [(0, .ref (b + 0)), (1, .int a1)] := hl
  have hw : ∀ w ∈ WA, w.before args s = true := fun w h => hts w (List.mem_cons_of_mem _ h)
  have hAB : ∀ q, (iv b 10) q → B0 ≤ q := (iv_ge (by omega))
  unfold fX12_logStation at hf
  refine lv_aload_n hx hb dX12_logStation_0 rfl (lv_at hl 0 rfl) ?_
  refine lv_iload_n hx hb dX12_logStation_1 rfl (lv_at hl 1 rfl) ?_
  refine lv_iconst (v := 0) hx hb dX12_logStation_2 (by decide) ?_
  obtain ⟨z1, hc2, hf⟩ := br_some hf
  refine mu_cV (As := [.int a1, .int 0]) (rest := []) hx hb hml hown hts hE (mX12_logged l E B0 b (by omega) M a1 (0 : Int32) z1 hc2) cv_X12_218 (w_recv (k := 0) (ci := 12) hE hM (by decide) rfl rfl) hM hS hAB (fun _ h => h) rfl hl.1 rfl (by decide) (Nat.le_of_ble_eq_true rfl) ⟨Nat.le_refl _, Nat.le_refl _⟩ dX12_logStation_3 (fun H locs hM _ hu hS => ?_)
  have hre := Option.some.inj hf
  subst hre
  exact mu_i (v := z1.1) hx hb hrt hlocks hM hS dX12_logStation_6
def fX12_logBegin (M : Mem) (a1 : Int32) : Option (Int32 × Mem) := (fX12_logged M a1 (1 : Int32)).bind fun z1 => some (z1.1, z1.2)
set_option maxHeartbeats 4000000 in
set_option maxRecDepth 100000 in
theorem mX12_logBegin (l : Launch) (E : EP) (B0 : Nat) (b : Nat) (hb0 : B0 ≤ b) (M : Mem) (a1 : Int32) (r : Int32 × Mem) (hf : fX12_logBegin M a1 = some r) : MU l E B0 yX12_logBegin cX12_logBegin 2 (some .int) 2 0 0 [.ref (b + 0), .int a1] (Blk E b modSh 10 M) (some (.int r.1)) (Blk E b modSh 10 r.2) (iv b 10) := by
  refine mu_of (by decide +kernel) (Nat.le_of_ble_eq_true rfl) ?_
  intro p e s m args below meth c hx hb hml hown hts hrt hlocks hE H hM hS ls hl
  have hown : s.vm.findClass RX12 = some m.cls := hown
  have hl : lv_has ls 2 [(0, .ref (b + 0)), (1, .int a1)] := hl
  have hw : ∀ w ∈ WA, w.before args s = true := fun w h => hts w (List.mem_cons_of_mem _ h)
  have hAB : ∀ q, (iv b 10) q → B0 ≤ q := (iv_ge (by omega))
  unfold fX12_logBegin at hf
  refine lv_aload_n hx hb dX12_logBegin_0 rfl (lv_at hl 0 rfl) ?_
  refine lv_iload_n hx hb dX12_logBegin_1 rfl (lv_at hl 1 rfl) ?_
  refine lv_iconst (v := 1) hx hb dX12_logBegin_2 (by decide) ?_
  obtain ⟨z1, hc2, hf⟩ := br_some hf
  refine mu_cV (As := [.int a1, .int 1]) (rest := []) hx hb hml hown hts hE (mX12_logged l E B0 b (by omega) M a1 (1 : Int32) z1 hc2) cv_X12_218 (w_recv (k := 0) (ci := 12) hE hM (by decide) rfl rfl) hM hS hAB (fun _ h => h) rfl hl.1 rfl (by decide) (Nat.le_of_ble_eq_true rfl) ⟨Nat.le_refl _, Nat.le_refl _⟩ dX12_logBegin_3 (fun H locs hM _ hu hS => ?_)
  have hre := Option.some.inj hf
  subst hre
  exact mu_i (v := z1.1) hx hb hrt hlocks hM hS dX12_logBegin_6
def fX12_logMinutes (M : Mem) (a1 : Int32) : Option (Int32 × Mem) := (fX12_logged M a1 (2 : Int32)).bind fun z1 => some (z1.1, z1.2)
set_option maxHeartbeats 4000000 in
set_option maxRecDepth 100000 in
theorem mX12_logMinutes (l : Launch) (E : EP) (B0 : Nat) (b : Nat) (hb0 : B0 ≤ b) (M : Mem) (a1 : Int32) (r : Int32 × Mem) (hf : fX12_logMinutes M a1 = some r) : MU l E B0 yX12_logMinutes cX12_logMinutes 2 (some .int) 2 0 0 [.ref (b + 0), .int a1] (Blk E b modSh 10 M) (some (.int r.1)) (Blk E b modSh 10 r.2) (iv b 10) := by
  refine mu_of (by decide +kernel) (Nat.le_of_ble_eq_true rfl) ?_
  intro p e s m args below meth c hx hb hml hown hts hrt hlocks hE H hM hS ls hl
  have hown : s.vm.findClass RX12 = some m.cls := hown
  have hl : lv_has ls 2 [(0, .ref (b + 0)), (1, .int a1)] := hl
  have hw : ∀ w ∈ WA, w.before args s = true := fun w h => hts w (List.mem_cons_of_mem _ h)
  have hAB : ∀ q, (iv b 10) q → B0 ≤ q := (iv_ge (by omega))
  unfold fX12_logMinutes at hf
  refine lv_aload_n hx hb dX12_logMinutes_0 rfl (lv_at hl 0 rfl) ?_
  refine lv_iload_n hx hb dX12_logMinutes_1 rfl (lv_at hl 1 rfl) ?_
  refine lv_iconst (v := 2) hx hb dX12_logMinutes_2 (by decide) ?_
  obtain ⟨z1, hc2, hf⟩ := br_some hf
  refine mu_cV (As := [.int a1, .int 2]) (rest := []) hx hb hml hown hts hE (mX12_logged l E B0 b (by omega) M a1 (2 : Int32) z1 hc2) cv_X12_218 (w_recv (k := 0) (ci := 12) hE hM (by decide) rfl rfl) hM hS hAB (fun _ h => h) rfl hl.1 rfl (by decide) (Nat.le_of_ble_eq_true rfl) ⟨Nat.le_refl _, Nat.le_refl _⟩ dX12_logMinutes_3 (fun H locs hM _ hu hS => ?_)
  have hre := Option.some.inj hf
  subst hre
  exact mu_i (v := z1.1) hx hb hrt hlocks hM hS dX12_logMinutes_6
def fX12_time (M : Mem) : Option (Int32 × Mem) := (fX12_plain M (M 1 1)).bind fun z1 => some (z1.1, z1.2)
set_option maxHeartbeats 4000000 in
set_option maxRecDepth 100000 in
theorem mX12_time (l : Launch) (E : EP) (B0 : Nat) (b : Nat) (hb0 : B0 ≤ b) (M : Mem) (r : Int32 × Mem) (hf : fX12_time M = some r) : MU l E B0 yX12_time cX12_time 1 (some .int) 1 0 0 [.ref (b + 0)] (Blk E b modSh 10 M) (some (.int r.1)) (Blk E b modSh 10 r.2) (iv b 10) := by
  refine mu_of (by decide +kernel) (Nat.le_of_ble_eq_true rfl) ?_
  intro p e s m args below meth c hx hb hml hown hts hrt hlocks hE H hM hS ls hl
  have hown : s.vm.findClass RX12 = some m.cls := hown
  have hl : lv_has ls 1 [(0, .ref (b + 0))] := hl
  have hw : ∀ w ∈ WA, w.before args s = true := fun w h => hts w (List.mem_cons_of_mem _ h)
  have hAB : ∀ q, (iv b 10) q → B0 ≤ q := (iv_ge (by omega))
  unfold fX12_time at hf
  refine lv_aload_n hx hb dX12_time_0 rfl (lv_at hl 0 rfl) ?_
  refine lv_aload_n hx hb dX12_time_1 rfl (lv_at hl 0 rfl) ?_
  refine w_get (k := 0) (v := .ref (b + 1)) hx hb hw hown hE fl_X12_7 hM (by decide) rfl rfl rfl dX12_time_2 ?_
  refine lv_iconst (v := 1) hx hb dX12_time_5 (by decide) ?_
  refine w_iald (k := 1) (x9 := 1) hx hb hE hM (by decide) rfl (by decide) (by decide) dX12_time_6 ?_
  obtain ⟨z1, hc2, hf⟩ := br_some hf
  refine mu_cV (As := [.int (M 1 1)]) (rest := []) hx hb hml hown hts hE (mX12_plain l E B0 b (by omega) M (M 1 1) z1 hc2) cv_X12_194 (w_recv (k := 0) (ci := 12) hE hM (by decide) rfl rfl) hM hS hAB (fun _ h => h) rfl hl.1 rfl (by decide) (Nat.le_of_ble_eq_true rfl) ⟨Nat.le_refl _, Nat.le_refl _⟩ dX12_time_7 (fun H locs hM _ hu hS => ?_)
  have hre := Option.some.inj hf
  subst hre
  exact mu_i (v := z1.1) hx hb hrt hlocks hM hS dX12_time_10
def fX12_turnLimit (M : Mem) : Option (Int32 × Mem) := (fX12_plain M (M 1 2)).bind fun z1 => some (z1.1, z1.2)
set_option maxHeartbeats 4000000 in
set_option maxRecDepth 100000 in
theorem mX12_turnLimit (l : Launch) (E : EP) (B0 : Nat) (b : Nat) (hb0 : B0 ≤ b) (M : Mem) (r : Int32 × Mem) (hf : fX12_turnLimit M = some r) : MU l E B0 yX12_turnLimit cX12_turnLimit 1 (some .int) 1 0 0 [.ref (b + 0)] (Blk E b modSh 10 M) (some (.int r.1)) (Blk E b modSh 10 r.2) (iv b 10) := by
  refine mu_of (by decide +kernel) (Nat.le_of_ble_eq_true rfl) ?_
  intro p e s m args below meth c hx hb hml hown hts hrt hlocks hE H hM hS ls hl
  have hown : s.vm.findClass RX12 = some m.cls := hown
  have hl : lv_has ls 1 [(0, .ref (b + 0))] := hl
  have hw : ∀ w ∈ WA, w.before args s = true := fun w h => hts w (List.mem_cons_of_mem _ h)
  have hAB : ∀ q, (iv b 10) q → B0 ≤ q := (iv_ge (by omega))
  unfold fX12_turnLimit at hf
  refine lv_aload_n hx hb dX12_turnLimit_0 rfl (lv_at hl 0 rfl) ?_
  refine lv_aload_n hx hb dX12_turnLimit_1 rfl (lv_at hl 0 rfl) ?_
  refine w_get (k := 0) (v := .ref (b + 1)) hx hb hw hown hE fl_X12_7 hM (by decide) rfl rfl rfl dX12_turnLimit_2 ?_
  refine lv_iconst (v := 2) hx hb dX12_turnLimit_5 (by decide) ?_
  refine w_iald (k := 1) (x9 := 2) hx hb hE hM (by decide) rfl (by decide) (by decide) dX12_turnLimit_6 ?_
  obtain ⟨z1, hc2, hf⟩ := br_some hf
  refine mu_cV (As := [.int (M 1 2)]) (rest := []) hx hb hml hown hts hE (mX12_plain l E B0 b (by omega) M (M 1 2) z1 hc2) cv_X12_194 (w_recv (k := 0) (ci := 12) hE hM (by decide) rfl rfl) hM hS hAB (fun _ h => h) rfl hl.1 rfl (by decide) (Nat.le_of_ble_eq_true rfl) ⟨Nat.le_refl _, Nat.le_refl _⟩ dX12_turnLimit_7 (fun H locs hM _ hu hS => ?_)
  have hre := Option.some.inj hf
  subst hre
  exact mu_i (v := z1.1) hx hb hrt hlocks hM hS dX12_turnLimit_10
def fX12_sum_s (M : Mem) (a1 : Int32) (z : Int32 × Int32) : Option ((Int32 × Int32) ⊕ (Int32)) := (if (M 1 0) ≤ z.2 then some (.inr z.1) else (fX12_t M z.2 a1).bind fun z2 => some (.inl ((z.1 + z2), (z.2 + 1))))
noncomputable def fX12_sum (M : Mem) (a1 : Int32) : Option (Int32) := lp (fX12_sum_s M a1) (0, 0)
set_option maxHeartbeats 4000000 in
set_option maxRecDepth 100000 in
theorem mX12_sum (l : Launch) (E : EP) (B0 : Nat) (b : Nat) (hb0 : B0 ≤ b) (M : Mem) (a1 : Int32) (r : Int32) (hf : fX12_sum M a1 = some r) : MU l E B0 yX12_sum cX12_sum 4 (some .int) 1 0 0 [.ref (b + 0), .int a1] (Blk E b modSh 10 M) (some (.int r)) (Blk E b modSh 10 M) nv := by
  refine mu_of (by decide +kernel) (Nat.le_of_ble_eq_true rfl) ?_
  intro p e s m args below meth c hx hb hml hown hts hrt hlocks hE H hM hS ls hl
  have hown : s.vm.findClass RX12 = some m.cls := hown
  have hl : lv_has ls 4 [(0, .ref (b + 0)), (1, .int a1)] := hl
  have hw : ∀ w ∈ WA, w.before args s = true := fun w h => hts w (List.mem_cons_of_mem _ h)
  have hAB : ∀ q, nv q → B0 ≤ q := fun _ h => h.elim
  unfold fX12_sum at hf
  have loop : ∀ (fu : Nat) (z : Int32 × Int32), lpI (fX12_sum_s M a1) fu z = some r → (∀ (H : Heap) (locs : List Loc) (ls : Array Slot), Blk E b modSh 10 M H → va_S nv s.heap H locs → lv_has ls 4 [(0, .ref (b + 0)), (1, .int a1), (2, .int z.1), (3, .int z.2)] → W p l e (rmD 1 0 0) s m args below meth c H locs 0 0 (MQ below (QU (some (.int r)) (Blk E b modSh 10 M) nv) args s 0 0 nv) (F0 m 4 ls [])) := by
    intro fu
    induction fu with
    | zero =>
      intro z hn
      exact nomatch hn
    | succ fu ih =>
      intro z hn
      obtain ⟨y, hf, hy⟩ := lpI_succ hn
      intro H locs ls hM hS hl
      unfold fX12_sum_s at hf
      refine lv_iload_n hx hb dX12_sum_4 rfl (lv_at hl 3 rfl) ?_
      refine lv_aload_n hx hb dX12_sum_5 rfl (lv_at hl 0 rfl) ?_
      refine w_get (k := 0) (v := .ref (b + 1)) hx hb hw hown hE fl_X12_7 hM (by decide) rfl rfl rfl dX12_sum_6 ?_
      refine lv_iconst (v := 0) hx hb dX12_sum_9 (by decide) ?_
      refine w_iald (k := 1) (x9 := 0) hx hb hE hM (by decide) rfl (by decide) (by decide) dX12_sum_10 ?_
      refine lv_icmp_ge (tgt := 29) hx hb dX12_sum_11 (by decide) (fun c1 => ?_) (fun c1 => ?_)
      · rw [if_pos c1] at hf
        refine lv_iload_n hx hb dX12_sum_29 rfl (lv_at hl 2 rfl) ?_
        have hre := lp_end hy (Option.some.inj hf).symm
        subst hre
        exact mu_i (v := z.1) hx hb hrt hlocks hM hS dX12_sum_30
      · rw [if_neg c1] at hf
        refine lv_iload_n hx hb dX12_sum_14 rfl (lv_at hl 2 rfl) ?_
        refine lv_aload_n hx hb dX12_sum_15 rfl (lv_at hl 0 rfl) ?_
        refine lv_iload_n hx hb dX12_sum_16 rfl (lv_at hl 3 rfl) ?_
        refine lv_iload_n hx hb dX12_sum_17 rfl (lv_at hl 1 rfl) ?_
        obtain ⟨z2, hc3, hf⟩ := br_some hf
        refine mu_cV (As := [.int z.2, .int a1]) (rest := [.int z.1]) hx hb hml hown hts hE (mX12_t l E B0 b (by omega) M z.2 a1 z2 hc3) cv_X12_80 (w_recv (k := 0) (ci := 12) hE hM (by decide) rfl rfl) hM hS hAB (fun _ h => h.elim) rfl hl.1 rfl (by decide) (Nat.le_of_ble_eq_true rfl) ⟨Nat.le_refl _, Nat.le_refl _⟩ dX12_sum_18 (fun H locs hM _ hu hS => ?_)
        refine lv_iadd hx hb dX12_sum_21 ?_
        refine lv_istore_n (lv' := [(2, .int (z.1 + z2)), (0, .ref (b + 0)), (1, .int a1), (3, .int z.2)]) hx hb dX12_sum_22 rfl hl (by decide) rfl (fun ls hl => ?_)
        refine lv_iinc (v := (z.2 + 1)) (lv' := [(3, .int (z.2 + 1)), (2, .int (z.1 + z2)), (0, .ref (b + 0)), (1, .int a1)]) hx hb dX12_sum_23 hl (k := 3) rfl rfl (by decide) rfl (fun ls hl => ?_)
        refine lv_goto (tgt := 4) hx hb dX12_sum_26 (by decide) ?_
        exact ih ((z.1 + z2), (z.2 + 1)) (lp_back hy (Option.some.inj hf).symm) _ _ _ hM hS (lv_sub hl [2, 3, 1, 0] rfl)
  refine lv_iconst (v := 0) hx hb dX12_sum_0 (by decide) ?_
  refine lv_istore_n (lv' := [(2, .int 0), (0, .ref (b + 0)), (1, .int a1)]) hx hb dX12_sum_1 rfl hl (by decide) rfl (fun ls hl => ?_)
  refine lv_iconst (v := 0) hx hb dX12_sum_2 (by decide) ?_
  refine lv_istore_n (lv' := [(3, .int 0), (2, .int 0), (0, .ref (b + 0)), (1, .int a1)]) hx hb dX12_sum_3 rfl hl (by decide) rfl (fun ls hl => ?_)
  obtain ⟨fu, hfu⟩ := lp_some hf
  exact (loop fu (0, 0) hfu) _ _ _ hM hS (lv_sub hl [2, 3, 1, 0] rfl)
def fX12_isConsistent (M : Mem) : Option (Int32 × Mem) := (fX12_plain M (1 : Int32)).bind fun z1 => (if z1.1 = (1 : Int32) then some (1, z1.2) else some (0, z1.2))
set_option maxHeartbeats 4000000 in
set_option maxRecDepth 100000 in
theorem mX12_isConsistent (l : Launch) (E : EP) (B0 : Nat) (b : Nat) (hb0 : B0 ≤ b) (M : Mem) (r : Int32 × Mem) (hf : fX12_isConsistent M = some r) : MU l E B0 yX12_isConsistent cX12_isConsistent 1 (some .boolean) 1 0 0 [.ref (b + 0)] (Blk E b modSh 10 M) (some (.int r.1)) (Blk E b modSh 10 r.2) (iv b 10) := by
  refine mu_of (by decide +kernel) (Nat.le_of_ble_eq_true rfl) ?_
  intro p e s m args below meth c hx hb hml hown hts hrt hlocks hE H hM hS ls hl
  have hown : s.vm.findClass RX12 = some m.cls := hown
  have hl : lv_has ls 1 [(0, .ref (b + 0))] := hl
  have hw : ∀ w ∈ WA, w.before args s = true := fun w h => hts w (List.mem_cons_of_mem _ h)
  have hAB : ∀ q, (iv b 10) q → B0 ≤ q := (iv_ge (by omega))
  unfold fX12_isConsistent at hf
  refine lv_aload_n hx hb dX12_isConsistent_0 rfl (lv_at hl 0 rfl) ?_
  refine lv_iconst (v := 1) hx hb dX12_isConsistent_1 (by decide) ?_
  obtain ⟨z1, hc2, hf⟩ := br_some hf
  refine mu_cV (As := [.int 1]) (rest := []) hx hb hml hown hts hE (mX12_plain l E B0 b (by omega) M (1 : Int32) z1 hc2) cv_X12_194 (w_recv (k := 0) (ci := 12) hE hM (by decide) rfl rfl) hM hS hAB (fun _ h => h) rfl hl.1 rfl (by decide) (Nat.le_of_ble_eq_true rfl) ⟨Nat.le_refl _, Nat.le_refl _⟩ dX12_isConsistent_2 (fun H locs hM _ hu hS => ?_)
  refine lv_iconst (v := 1) hx hb dX12_isConsistent_5 (by decide) ?_
  refine lv_icmp_ne (tgt := 13) hx hb dX12_isConsistent_6 (by decide) (fun c3 => ?_) (fun c3 => ?_)
  · rw [if_neg c3] at hf
    refine lv_iconst (v := 0) hx hb dX12_isConsistent_13 (by decide) ?_
    have hre := Option.some.inj hf
    subst hre
    exact mu_z (v := 0) hx hb hrt rfl hlocks hM hS dX12_isConsistent_14
  · rw [if_pos c3] at hf
    refine lv_iconst (v := 1) hx hb dX12_isConsistent_9 (by decide) ?_
    refine lv_goto (tgt := 14) hx hb dX12_isConsistent_10 (by decide) ?_
    have hre := Option.some.inj hf
    subst hre
    exact mu_z (v := 1) hx hb hrt rfl hlocks hM hS dX12_isConsistent_14
def fX12_write (M : Mem) (a1 : Int32) : Option (Mem) := gd (inb (M 0 10) 40) (some (up2 (up2 M 5 ((M 0 10).toNatClampNeg) a1) 0 10 (((up2 M 5 ((M 0 10).toNatClampNeg) a1) 0 10) + 1)))
set_option maxHeartbeats 4000000 in
set_option maxRecDepth 100000 in
theorem mX12_write (l : Launch) (E : EP) (B0 : Nat) (b : Nat) (hb0 : B0 ≤ b) (M : Mem) (a1 : Int32) (r : Mem) (hf : fX12_write M a1 = some r) : MU l E B0 yX12_write cX12_write 2 none 0 0 0 [.ref (b + 0), .int a1] (Blk E b modSh 10 M) none (Blk E b modSh 10 r) (iv b 10) := by
  refine mu_of (by decide +kernel) (Nat.le_of_ble_eq_true rfl) ?_
  intro p e s m args below meth c hx hb hml hown hts hrt hlocks hE H hM hS ls hl
  have hown : s.vm.findClass RX12 = some m.cls := hown
  have hl : lv_has ls 2 [(0, .ref (b + 0)), (1, .int a1)] := hl
  have hw : ∀ w ∈ WA, w.before args s = true := fun w h => hts w (List.mem_cons_of_mem _ h)
  have hAB : ∀ q, (iv b 10) q → B0 ≤ q := (iv_ge (by omega))
  unfold fX12_write at hf
  refine lv_aload_n hx hb dX12_write_0 rfl (lv_at hl 0 rfl) ?_
  refine w_get (k := 0) (v := .ref (b + 5)) hx hb hw hown hE fl_X12_39 hM (by decide) rfl rfl rfl dX12_write_1 ?_
  refine lv_aload_n hx hb dX12_write_4 rfl (lv_at hl 0 rfl) ?_
  refine w_get (k := 0) (v := .int (M 0 10)) hx hb hw hown hE fl_X12_42 hM (by decide) rfl rfl rfl dX12_write_5 ?_
  refine lv_iload_n hx hb dX12_write_8 rfl (lv_at hl 1 rfl) ?_
  obtain ⟨h1, hf⟩ := gd_some hf
  refine w_iast (k := 5) (x9 := (M 0 10).toNatClampNeg) (x := a1) hx hb hE hM (by decide) rfl rfl h1 hS (iv_mem (by decide)) dX12_write_9 (fun H locs hM _ hu hS => ?_)
  refine lv_aload_n hx hb dX12_write_10 rfl (lv_at hl 0 rfl) ?_
  refine lv_dup hx hb dX12_write_11 rfl ?_
  refine w_get (k := 0) (v := .int ((up2 M 5 ((M 0 10).toNatClampNeg) a1) 0 10)) hx hb hw hown hE fl_X12_42 hM (by decide) rfl rfl rfl dX12_write_12 ?_
  refine lv_iconst (v := 1) hx hb dX12_write_15 (by decide) ?_
  refine lv_iadd hx hb dX12_write_16 ?_
  refine w_put (k := 0) (v := .int (((up2 M 5 ((M 0 10).toNatClampNeg) a1) 0 10) + 1)) hx hb hw hown hE fl_X12_42 fw_X12_10 hM (by decide) rfl rfl (((up2 M 5 ((M 0 10).toNatClampNeg) a1) 0 10) + 1) rfl rfl rfl hS (iv_mem (by decide)) dX12_write_17 (fun H locs hM _ hu hS => ?_)
  have hre := Option.some.inj hf
  subst hre
  exact mu_v hx hb hrt hlocks hM hS dX12_write_20
def fX12_writeNumber (M : Mem) (a1 : Int32) : Option (Mem) := (if a1 ≤ (9 : Int32) then (fX12_write M ((48 : Int32) + (a1 - a1 / 10 * 10))).bind fun z2 => some z2 else (fX12_write M ((48 : Int32) + (a1 / 10))).bind fun z4 => (fX12_write z4 ((48 : Int32) + (a1 - a1 / 10 * 10))).bind fun z6 => some z6)
set_option maxHeartbeats 4000000 in
set_option maxRecDepth 100000 in
theorem mX12_writeNumber (l : Launch) (E : EP) (B0 : Nat) (b : Nat) (hb0 : B0 ≤ b) (M : Mem) (a1 : Int32) (r : Mem) (hf : fX12_writeNumber M a1 = some r) : MU l E B0 yX12_writeNumber cX12_writeNumber 2 none 1 0 0 [.ref (b + 0), .int a1] (Blk E b modSh 10 M) none (Blk E b modSh 10 r) (iv b 10) := by
  refine mu_of (by decide +kernel) (Nat.le_of_ble_eq_true rfl) ?_
  intro p e s m args below meth c hx hb hml hown hts hrt hlocks hE H hM hS ls hl
  have hown : s.vm.findClass RX12 = some m.cls := hown
  have hl : lv_has ls 2 [(0, .ref (b + 0)), (1, .int a1)] := hl
  have hw : ∀ w ∈ WA, w.before args s = true := fun w h => hts w (List.mem_cons_of_mem _ h)
  have hAB : ∀ q, (iv b 10) q → B0 ≤ q := (iv_ge (by omega))
  unfold fX12_writeNumber at hf
  refine lv_iload_n hx hb dX12_writeNumber_0 rfl (lv_at hl 1 rfl) ?_
  refine lv_bipush (v := 9) hx hb dX12_writeNumber_1 (by decide) ?_
  refine lv_icmp_le (tgt := 17) hx hb dX12_writeNumber_3 (by decide) (fun c1 => ?_) (fun c1 => ?_)
  · rw [if_pos c1] at hf
    refine lv_aload_n hx hb dX12_writeNumber_17 rfl (lv_at hl 0 rfl) ?_
    refine lv_bipush (v := 48) hx hb dX12_writeNumber_18 (by decide) ?_
    refine lv_iload_n hx hb dX12_writeNumber_20 rfl (lv_at hl 1 rfl) ?_
    refine lv_bipush (v := 10) hx hb dX12_writeNumber_21 (by decide) ?_
    refine lv_irem hx hb dX12_writeNumber_23 (by decide) ?_
    refine lv_iadd hx hb dX12_writeNumber_24 ?_
    obtain ⟨z2, hc3, hf⟩ := br_some hf
    refine mu_cV (As := [.int ((48 : Int32) + (a1 - a1 / 10 * 10))]) (rest := []) hx hb hml hown hts hE (mX12_write l E B0 b (by omega) M ((48 : Int32) + (a1 - a1 / 10 * 10)) z2 hc3) cv_X12_224 (w_recv (k := 0) (ci := 12) hE hM (by decide) rfl rfl) hM hS hAB (fun _ h => h) rfl hl.1 rfl (by decide) (Nat.le_of_ble_eq_true rfl) ⟨Nat.le_refl _, Nat.le_refl _⟩ dX12_writeNumber_25 (fun H locs hM _ hu hS => ?_)
    have hre := Option.some.inj hf
    subst hre
    exact mu_v hx hb hrt hlocks hM hS dX12_writeNumber_28
  · rw [if_neg c1] at hf
    refine lv_aload_n hx hb dX12_writeNumber_6 rfl (lv_at hl 0 rfl) ?_
    refine lv_bipush (v := 48) hx hb dX12_writeNumber_7 (by decide) ?_
    refine lv_iload_n hx hb dX12_writeNumber_9 rfl (lv_at hl 1 rfl) ?_
    refine lv_bipush (v := 10) hx hb dX12_writeNumber_10 (by decide) ?_
    refine lv_idiv hx hb dX12_writeNumber_12 (by decide) ?_
    refine lv_iadd hx hb dX12_writeNumber_13 ?_
    obtain ⟨z4, hc5, hf⟩ := br_some hf
    refine mu_cV (As := [.int ((48 : Int32) + (a1 / 10))]) (rest := []) hx hb hml hown hts hE (mX12_write l E B0 b (by omega) M ((48 : Int32) + (a1 / 10)) z4 hc5) cv_X12_224 (w_recv (k := 0) (ci := 12) hE hM (by decide) rfl rfl) hM hS hAB (fun _ h => h) rfl hl.1 rfl (by decide) (Nat.le_of_ble_eq_true rfl) ⟨Nat.le_refl _, Nat.le_refl _⟩ dX12_writeNumber_14 (fun H locs hM _ hu hS => ?_)
    refine lv_aload_n hx hb dX12_writeNumber_17 rfl (lv_at hl 0 rfl) ?_
    refine lv_bipush (v := 48) hx hb dX12_writeNumber_18 (by decide) ?_
    refine lv_iload_n hx hb dX12_writeNumber_20 rfl (lv_at hl 1 rfl) ?_
    refine lv_bipush (v := 10) hx hb dX12_writeNumber_21 (by decide) ?_
    refine lv_irem hx hb dX12_writeNumber_23 (by decide) ?_
    refine lv_iadd hx hb dX12_writeNumber_24 ?_
    obtain ⟨z6, hc7, hf⟩ := br_some hf
    refine mu_cV (As := [.int ((48 : Int32) + (a1 - a1 / 10 * 10))]) (rest := []) hx hb hml hown hts hE (mX12_write l E B0 b (by omega) z4 ((48 : Int32) + (a1 - a1 / 10 * 10)) z6 hc7) cv_X12_224 (w_recv (k := 0) (ci := 12) hE hM (by decide) rfl rfl) hM hS hAB (fun _ h => h) rfl hl.1 rfl (by decide) (Nat.le_of_ble_eq_true rfl) ⟨Nat.le_refl _, Nat.le_refl _⟩ dX12_writeNumber_25 (fun H locs hM _ hu hS => ?_)
    have hre := Option.some.inj hf
    subst hre
    exact mu_v hx hb hrt hlocks hM hS dX12_writeNumber_28
def fX12_writeSign (M : Mem) (a1 : Int32) : Option (Mem) := (fX12_t M a1 (0 : Int32)).bind fun z1 => (fX12_write M z1).bind fun z3 => (fX12_t z3 a1 (1 : Int32)).bind fun z5 => (fX12_write z3 ((48 : Int32) + z5)).bind fun z7 => some z7
set_option maxHeartbeats 4000000 in
set_option maxRecDepth 100000 in
theorem mX12_writeSign (l : Launch) (E : EP) (B0 : Nat) (b : Nat) (hb0 : B0 ≤ b) (M : Mem) (a1 : Int32) (r : Mem) (hf : fX12_writeSign M a1 = some r) : MU l E B0 yX12_writeSign cX12_writeSign 2 none 1 0 0 [.ref (b + 0), .int a1] (Blk E b modSh 10 M) none (Blk E b modSh 10 r) (iv b 10) := by
  refine mu_of (by decide +kernel) (Nat.le_of_ble_eq_true rfl) ?_
  intro p e s m args below meth c hx hb hml hown hts hrt hlocks hE H hM hS ls hl
  have hown : s.vm.findClass RX12 = some m.cls := hown
  have hl : lv_has ls 2 [(0, .ref (b + 0)), (1, .int a1)] := hl
  have hw : ∀ w ∈ WA, w.before args s = true := fun w h => hts w (List.mem_cons_of_mem _ h)
  have hAB : ∀ q, (iv b 10) q → B0 ≤ q := (iv_ge (by omega))
  unfold fX12_writeSign at hf
  refine lv_aload_n hx hb dX12_writeSign_0 rfl (lv_at hl 0 rfl) ?_
  refine lv_aload_n hx hb dX12_writeSign_1 rfl (lv_at hl 0 rfl) ?_
  refine lv_iload_n hx hb dX12_writeSign_2 rfl (lv_at hl 1 rfl) ?_
  refine lv_iconst (v := 0) hx hb dX12_writeSign_3 (by decide) ?_
  obtain ⟨z1, hc2, hf⟩ := br_some hf
  refine mu_cV (As := [.int a1, .int 0]) (rest := [.ref (b + 0)]) hx hb hml hown hts hE (mX12_t l E B0 b (by omega) M a1 (0 : Int32) z1 hc2) cv_X12_80 (w_recv (k := 0) (ci := 12) hE hM (by decide) rfl rfl) hM hS hAB (fun _ h => h.elim) rfl hl.1 rfl (by decide) (Nat.le_of_ble_eq_true rfl) ⟨Nat.le_refl _, Nat.le_refl _⟩ dX12_writeSign_4 (fun H locs hM _ hu hS => ?_)
  obtain ⟨z3, hc4, hf⟩ := br_some hf
  refine mu_cV (As := [.int z1]) (rest := []) hx hb hml hown hts hE (mX12_write l E B0 b (by omega) M z1 z3 hc4) cv_X12_224 (w_recv (k := 0) (ci := 12) hE hM (by decide) rfl rfl) hM hS hAB (fun _ h => h) rfl hl.1 rfl (by decide) (Nat.le_of_ble_eq_true rfl) ⟨Nat.le_refl _, Nat.le_refl _⟩ dX12_writeSign_7 (fun H locs hM _ hu hS => ?_)
  refine lv_aload_n hx hb dX12_writeSign_10 rfl (lv_at hl 0 rfl) ?_
  refine lv_bipush (v := 48) hx hb dX12_writeSign_11 (by decide) ?_
  refine lv_aload_n hx hb dX12_writeSign_13 rfl (lv_at hl 0 rfl) ?_
  refine lv_iload_n hx hb dX12_writeSign_14 rfl (lv_at hl 1 rfl) ?_
  refine lv_iconst (v := 1) hx hb dX12_writeSign_15 (by decide) ?_
  obtain ⟨z5, hc6, hf⟩ := br_some hf
  refine mu_cV (As := [.int a1, .int 1]) (rest := [.int 48, .ref (b + 0)]) hx hb hml hown hts hE (mX12_t l E B0 b (by omega) z3 a1 (1 : Int32) z5 hc6) cv_X12_80 (w_recv (k := 0) (ci := 12) hE hM (by decide) rfl rfl) hM hS hAB (fun _ h => h.elim) rfl hl.1 rfl (by decide) (Nat.le_of_ble_eq_true rfl) ⟨Nat.le_refl _, Nat.le_refl _⟩ dX12_writeSign_16 (fun H locs hM _ hu hS => ?_)
  refine lv_iadd hx hb dX12_writeSign_19 ?_
  obtain ⟨z7, hc8, hf⟩ := br_some hf
  refine mu_cV (As := [.int ((48 : Int32) + z5)]) (rest := []) hx hb hml hown hts hE (mX12_write l E B0 b (by omega) z3 ((48 : Int32) + z5) z7 hc8) cv_X12_224 (w_recv (k := 0) (ci := 12) hE hM (by decide) rfl rfl) hM hS hAB (fun _ h => h) rfl hl.1 rfl (by decide) (Nat.le_of_ble_eq_true rfl) ⟨Nat.le_refl _, Nat.le_refl _⟩ dX12_writeSign_20 (fun H locs hM _ hu hS => ?_)
  have hre := Option.some.inj hf
  subst hre
  exact mu_v hx hb hrt hlocks hM hS dX12_writeSign_23
def fX12_writeStation (M : Mem) (a1 : Int32) : Option (Int32 × Mem) := (fX12_areStations M a1 a1).bind fun z1 => (if z1.1 = 0 then some (0, z1.2) else (fX12_writeSign (up2 z1.2 0 10 (0 : Int32)) a1).bind fun z4 => (fX12_write z4 (64 : Int32)).bind fun z6 => (fX12_t z6 a1 (2 : Int32)).bind fun z8 => (fX12_writeNumber z6 z8).bind fun z10 => (fX12_write z10 (44 : Int32)).bind fun z12 => (fX12_t z12 a1 (3 : Int32)).bind fun z14 => (fX12_writeNumber z12 z14).bind fun z16 => (fX12_write z16 (35 : Int32)).bind fun z18 => (fX12_t z18 a1 (5 : Int32)).bind fun z20 => (fX12_writeNumber z18 z20).bind fun z22 => (fX12_t z22 a1 (6 : Int32)).bind fun z24 => (if z24 = (1 : Int32) then (fX12_write z22 (33 : Int32)).bind fun z32 => (fX12_t z32 a1 (6 : Int32)).bind fun z34 => (if z34 = (2 : Int32) then (fX12_write z32 (63 : Int32)).bind fun z37 => some ((z37 0 10), z37) else some ((z32 0 10), z32)) else (fX12_t z22 a1 (6 : Int32)).bind fun z27 => (if z27 = (2 : Int32) then (fX12_write z22 (63 : Int32)).bind fun z30 => some ((z30 0 10), z30) else some ((z22 0 10), z22))))
set_option maxHeartbeats 4000000 in
set_option maxRecDepth 100000 in
theorem mX12_writeStation (l : Launch) (E : EP) (B0 : Nat) (b : Nat) (hb0 : B0 ≤ b) (M : Mem) (a1 : Int32) (r : Int32 × Mem) (hf : fX12_writeStation M a1 = some r) : MU l E B0 yX12_writeStation cX12_writeStation 2 (some .int) 3 0 0 [.ref (b + 0), .int a1] (Blk E b modSh 10 M) (some (.int r.1)) (Blk E b modSh 10 r.2) (iv b 10) := by
  refine mu_of (by decide +kernel) (Nat.le_of_ble_eq_true rfl) ?_
  intro p e s m args below meth c hx hb hml hown hts hrt hlocks hE H hM hS ls hl
  have hown : s.vm.findClass RX12 = some m.cls := hown
  have hl : lv_has ls 2 [(0, .ref (b + 0)), (1, .int a1)] := hl
  have hw : ∀ w ∈ WA, w.before args s = true := fun w h => hts w (List.mem_cons_of_mem _ h)
  have hAB : ∀ q, (iv b 10) q → B0 ≤ q := (iv_ge (by omega))
  unfold fX12_writeStation at hf
  refine lv_aload_n hx hb dX12_writeStation_0 rfl (lv_at hl 0 rfl) ?_
  refine lv_iload_n hx hb dX12_writeStation_1 rfl (lv_at hl 1 rfl) ?_
  refine lv_iload_n hx hb dX12_writeStation_2 rfl (lv_at hl 1 rfl) ?_
  obtain ⟨z1, hc2, hf⟩ := br_some hf
  refine mu_cV (As := [.int a1, .int a1]) (rest := []) hx hb hml hown hts hE (mX12_areStations l E B0 b (by omega) M a1 a1 z1 hc2) cv_X12_206 (w_recv (k := 0) (ci := 12) hE hM (by decide) rfl rfl) hM hS hAB (fun _ h => h) rfl hl.1 rfl (by decide) (Nat.le_of_ble_eq_true rfl) ⟨Nat.le_refl _, Nat.le_refl _⟩ dX12_writeStation_3 (fun H locs hM _ hu hS => ?_)
  refine lv_if_ne (tgt := 11) hx hb dX12_writeStation_6 (by decide) (fun c3 => ?_) (fun c3 => ?_)
  · rw [if_neg c3] at hf
    refine lv_aload_n hx hb dX12_writeStation_11 rfl (lv_at hl 0 rfl) ?_
    refine lv_iconst (v := 0) hx hb dX12_writeStation_12 (by decide) ?_
    refine w_put (k := 0) (v := .int 0) hx hb hw hown hE fl_X12_42 fw_X12_10 hM (by decide) rfl rfl (0 : Int32) rfl rfl rfl hS (iv_mem (by decide)) dX12_writeStation_13 (fun H locs hM _ hu hS => ?_)
    refine lv_aload_n hx hb dX12_writeStation_16 rfl (lv_at hl 0 rfl) ?_
    refine lv_iload_n hx hb dX12_writeStation_17 rfl (lv_at hl 1 rfl) ?_
    obtain ⟨z4, hc5, hf⟩ := br_some hf
    refine mu_cV (As := [.int a1]) (rest := []) hx hb hml hown hts hE (mX12_writeSign l E B0 b (by omega) (up2 z1.2 0 10 (0 : Int32)) a1 z4 hc5) cv_X12_227 (w_recv (k := 0) (ci := 12) hE hM (by decide) rfl rfl) hM hS hAB (fun _ h => h) rfl hl.1 rfl (by decide) (Nat.le_of_ble_eq_true rfl) ⟨Nat.le_refl _, Nat.le_refl _⟩ dX12_writeStation_18 (fun H locs hM _ hu hS => ?_)
    refine lv_aload_n hx hb dX12_writeStation_21 rfl (lv_at hl 0 rfl) ?_
    refine lv_bipush (v := 64) hx hb dX12_writeStation_22 (by decide) ?_
    obtain ⟨z6, hc7, hf⟩ := br_some hf
    refine mu_cV (As := [.int 64]) (rest := []) hx hb hml hown hts hE (mX12_write l E B0 b (by omega) z4 (64 : Int32) z6 hc7) cv_X12_224 (w_recv (k := 0) (ci := 12) hE hM (by decide) rfl rfl) hM hS hAB (fun _ h => h) rfl hl.1 rfl (by decide) (Nat.le_of_ble_eq_true rfl) ⟨Nat.le_refl _, Nat.le_refl _⟩ dX12_writeStation_24 (fun H locs hM _ hu hS => ?_)
    refine lv_aload_n hx hb dX12_writeStation_27 rfl (lv_at hl 0 rfl) ?_
    refine lv_aload_n hx hb dX12_writeStation_28 rfl (lv_at hl 0 rfl) ?_
    refine lv_iload_n hx hb dX12_writeStation_29 rfl (lv_at hl 1 rfl) ?_
    refine lv_iconst (v := 2) hx hb dX12_writeStation_30 (by decide) ?_
    obtain ⟨z8, hc9, hf⟩ := br_some hf
    refine mu_cV (As := [.int a1, .int 2]) (rest := [.ref (b + 0)]) hx hb hml hown hts hE (mX12_t l E B0 b (by omega) z6 a1 (2 : Int32) z8 hc9) cv_X12_80 (w_recv (k := 0) (ci := 12) hE hM (by decide) rfl rfl) hM hS hAB (fun _ h => h.elim) rfl hl.1 rfl (by decide) (Nat.le_of_ble_eq_true rfl) ⟨Nat.le_refl _, Nat.le_refl _⟩ dX12_writeStation_31 (fun H locs hM _ hu hS => ?_)
    obtain ⟨z10, hc11, hf⟩ := br_some hf
    refine mu_cV (As := [.int z8]) (rest := []) hx hb hml hown hts hE (mX12_writeNumber l E B0 b (by omega) z6 z8 z10 hc11) cv_X12_230 (w_recv (k := 0) (ci := 12) hE hM (by decide) rfl rfl) hM hS hAB (fun _ h => h) rfl hl.1 rfl (by decide) (Nat.le_of_ble_eq_true rfl) ⟨Nat.le_refl _, Nat.le_refl _⟩ dX12_writeStation_34 (fun H locs hM _ hu hS => ?_)
    refine lv_aload_n hx hb dX12_writeStation_37 rfl (lv_at hl 0 rfl) ?_
    refine lv_bipush (v := 44) hx hb dX12_writeStation_38 (by decide) ?_
    obtain ⟨z12, hc13, hf⟩ := br_some hf
    refine mu_cV (As := [.int 44]) (rest := []) hx hb hml hown hts hE (mX12_write l E B0 b (by omega) z10 (44 : Int32) z12 hc13) cv_X12_224 (w_recv (k := 0) (ci := 12) hE hM (by decide) rfl rfl) hM hS hAB (fun _ h => h) rfl hl.1 rfl (by decide) (Nat.le_of_ble_eq_true rfl) ⟨Nat.le_refl _, Nat.le_refl _⟩ dX12_writeStation_40 (fun H locs hM _ hu hS => ?_)
    refine lv_aload_n hx hb dX12_writeStation_43 rfl (lv_at hl 0 rfl) ?_
    refine lv_aload_n hx hb dX12_writeStation_44 rfl (lv_at hl 0 rfl) ?_
    refine lv_iload_n hx hb dX12_writeStation_45 rfl (lv_at hl 1 rfl) ?_
    refine lv_iconst (v := 3) hx hb dX12_writeStation_46 (by decide) ?_
    obtain ⟨z14, hc15, hf⟩ := br_some hf
    refine mu_cV (As := [.int a1, .int 3]) (rest := [.ref (b + 0)]) hx hb hml hown hts hE (mX12_t l E B0 b (by omega) z12 a1 (3 : Int32) z14 hc15) cv_X12_80 (w_recv (k := 0) (ci := 12) hE hM (by decide) rfl rfl) hM hS hAB (fun _ h => h.elim) rfl hl.1 rfl (by decide) (Nat.le_of_ble_eq_true rfl) ⟨Nat.le_refl _, Nat.le_refl _⟩ dX12_writeStation_47 (fun H locs hM _ hu hS => ?_)
    obtain ⟨z16, hc17, hf⟩ := br_some hf
    refine mu_cV (As := [.int z14]) (rest := []) hx hb hml hown hts hE (mX12_writeNumber l E B0 b (by omega) z12 z14 z16 hc17) cv_X12_230 (w_recv (k := 0) (ci := 12) hE hM (by decide) rfl rfl) hM hS hAB (fun _ h => h) rfl hl.1 rfl (by decide) (Nat.le_of_ble_eq_true rfl) ⟨Nat.le_refl _, Nat.le_refl _⟩ dX12_writeStation_50 (fun H locs hM _ hu hS => ?_)
    refine lv_aload_n hx hb dX12_writeStation_53 rfl (lv_at hl 0 rfl) ?_
    refine lv_bipush (v := 35) hx hb dX12_writeStation_54 (by decide) ?_
    obtain ⟨z18, hc19, hf⟩ := br_some hf
    refine mu_cV (As := [.int 35]) (rest := []) hx hb hml hown hts hE (mX12_write l E B0 b (by omega) z16 (35 : Int32) z18 hc19) cv_X12_224 (w_recv (k := 0) (ci := 12) hE hM (by decide) rfl rfl) hM hS hAB (fun _ h => h) rfl hl.1 rfl (by decide) (Nat.le_of_ble_eq_true rfl) ⟨Nat.le_refl _, Nat.le_refl _⟩ dX12_writeStation_56 (fun H locs hM _ hu hS => ?_)
    refine lv_aload_n hx hb dX12_writeStation_59 rfl (lv_at hl 0 rfl) ?_
    refine lv_aload_n hx hb dX12_writeStation_60 rfl (lv_at hl 0 rfl) ?_
    refine lv_iload_n hx hb dX12_writeStation_61 rfl (lv_at hl 1 rfl) ?_
    refine lv_iconst (v := 5) hx hb dX12_writeStation_62 (by decide) ?_
    obtain ⟨z20, hc21, hf⟩ := br_some hf
    refine mu_cV (As := [.int a1, .int 5]) (rest := [.ref (b + 0)]) hx hb hml hown hts hE (mX12_t l E B0 b (by omega) z18 a1 (5 : Int32) z20 hc21) cv_X12_80 (w_recv (k := 0) (ci := 12) hE hM (by decide) rfl rfl) hM hS hAB (fun _ h => h.elim) rfl hl.1 rfl (by decide) (Nat.le_of_ble_eq_true rfl) ⟨Nat.le_refl _, Nat.le_refl _⟩ dX12_writeStation_63 (fun H locs hM _ hu hS => ?_)
    obtain ⟨z22, hc23, hf⟩ := br_some hf
    refine mu_cV (As := [.int z20]) (rest := []) hx hb hml hown hts hE (mX12_writeNumber l E B0 b (by omega) z18 z20 z22 hc23) cv_X12_230 (w_recv (k := 0) (ci := 12) hE hM (by decide) rfl rfl) hM hS hAB (fun _ h => h) rfl hl.1 rfl (by decide) (Nat.le_of_ble_eq_true rfl) ⟨Nat.le_refl _, Nat.le_refl _⟩ dX12_writeStation_66 (fun H locs hM _ hu hS => ?_)
    refine lv_aload_n hx hb dX12_writeStation_69 rfl (lv_at hl 0 rfl) ?_
    refine lv_iload_n hx hb dX12_writeStation_70 rfl (lv_at hl 1 rfl) ?_
    refine lv_bipush (v := 6) hx hb dX12_writeStation_71 (by decide) ?_
    obtain ⟨z24, hc25, hf⟩ := br_some hf
    refine mu_cV (As := [.int a1, .int 6]) (rest := []) hx hb hml hown hts hE (mX12_t l E B0 b (by omega) z22 a1 (6 : Int32) z24 hc25) cv_X12_80 (w_recv (k := 0) (ci := 12) hE hM (by decide) rfl rfl) hM hS hAB (fun _ h => h.elim) rfl hl.1 rfl (by decide) (Nat.le_of_ble_eq_true rfl) ⟨Nat.le_refl _, Nat.le_refl _⟩ dX12_writeStation_73 (fun H locs hM _ hu hS => ?_)
    refine lv_iconst (v := 1) hx hb dX12_writeStation_76 (by decide) ?_
    refine lv_icmp_ne (tgt := 86) hx hb dX12_writeStation_77 (by decide) (fun c26 => ?_) (fun c26 => ?_)
    · rw [if_neg c26] at hf
      refine lv_aload_n hx hb dX12_writeStation_86 rfl (lv_at hl 0 rfl) ?_
      refine lv_iload_n hx hb dX12_writeStation_87 rfl (lv_at hl 1 rfl) ?_
      refine lv_bipush (v := 6) hx hb dX12_writeStation_88 (by decide) ?_
      obtain ⟨z27, hc28, hf⟩ := br_some hf
      refine mu_cV (As := [.int a1, .int 6]) (rest := []) hx hb hml hown hts hE (mX12_t l E B0 b (by omega) z22 a1 (6 : Int32) z27 hc28) cv_X12_80 (w_recv (k := 0) (ci := 12) hE hM (by decide) rfl rfl) hM hS hAB (fun _ h => h.elim) rfl hl.1 rfl (by decide) (Nat.le_of_ble_eq_true rfl) ⟨Nat.le_refl _, Nat.le_refl _⟩ dX12_writeStation_90 (fun H locs hM _ hu hS => ?_)
      refine lv_iconst (v := 2) hx hb dX12_writeStation_93 (by decide) ?_
      refine lv_icmp_ne (tgt := 103) hx hb dX12_writeStation_94 (by decide) (fun c29 => ?_) (fun c29 => ?_)
      · rw [if_neg c29] at hf
        refine lv_aload_n hx hb dX12_writeStation_103 rfl (lv_at hl 0 rfl) ?_
        refine w_get (k := 0) (v := .int (z22 0 10)) hx hb hw hown hE fl_X12_42 hM (by decide) rfl rfl rfl dX12_writeStation_104 ?_
        have hre := Option.some.inj hf
        subst hre
        exact mu_i (v := (z22 0 10)) hx hb hrt hlocks hM hS dX12_writeStation_107
      · rw [if_pos c29] at hf
        refine lv_aload_n hx hb dX12_writeStation_97 rfl (lv_at hl 0 rfl) ?_
        refine lv_bipush (v := 63) hx hb dX12_writeStation_98 (by decide) ?_
        obtain ⟨z30, hc31, hf⟩ := br_some hf
        refine mu_cV (As := [.int 63]) (rest := []) hx hb hml hown hts hE (mX12_write l E B0 b (by omega) z22 (63 : Int32) z30 hc31) cv_X12_224 (w_recv (k := 0) (ci := 12) hE hM (by decide) rfl rfl) hM hS hAB (fun _ h => h) rfl hl.1 rfl (by decide) (Nat.le_of_ble_eq_true rfl) ⟨Nat.le_refl _, Nat.le_refl _⟩ dX12_writeStation_100 (fun H locs hM _ hu hS => ?_)
        refine lv_aload_n hx hb dX12_writeStation_103 rfl (lv_at hl 0 rfl) ?_
        refine w_get (k := 0) (v := .int (z30 0 10)) hx hb hw hown hE fl_X12_42 hM (by decide) rfl rfl rfl dX12_writeStation_104 ?_
        have hre := Option.some.inj hf
        subst hre
        exact mu_i (v := (z30 0 10)) hx hb hrt hlocks hM hS dX12_writeStation_107
    · rw [if_pos c26] at hf
      refine lv_aload_n hx hb dX12_writeStation_80 rfl (lv_at hl 0 rfl) ?_
      refine lv_bipush (v := 33) hx hb dX12_writeStation_81 (by decide) ?_
      obtain ⟨z32, hc33, hf⟩ := br_some hf
      refine mu_cV (As := [.int 33]) (rest := []) hx hb hml hown hts hE (mX12_write l E B0 b (by omega) z22 (33 : Int32) z32 hc33) cv_X12_224 (w_recv (k := 0) (ci := 12) hE hM (by decide) rfl rfl) hM hS hAB (fun _ h => h) rfl hl.1 rfl (by decide) (Nat.le_of_ble_eq_true rfl) ⟨Nat.le_refl _, Nat.le_refl _⟩ dX12_writeStation_83 (fun H locs hM _ hu hS => ?_)
      refine lv_aload_n hx hb dX12_writeStation_86 rfl (lv_at hl 0 rfl) ?_
      refine lv_iload_n hx hb dX12_writeStation_87 rfl (lv_at hl 1 rfl) ?_
      refine lv_bipush (v := 6) hx hb dX12_writeStation_88 (by decide) ?_
      obtain ⟨z34, hc35, hf⟩ := br_some hf
      refine mu_cV (As := [.int a1, .int 6]) (rest := []) hx hb hml hown hts hE (mX12_t l E B0 b (by omega) z32 a1 (6 : Int32) z34 hc35) cv_X12_80 (w_recv (k := 0) (ci := 12) hE hM (by decide) rfl rfl) hM hS hAB (fun _ h => h.elim) rfl hl.1 rfl (by decide) (Nat.le_of_ble_eq_true rfl) ⟨Nat.le_refl _, Nat.le_refl _⟩ dX12_writeStation_90 (fun H locs hM _ hu hS => ?_)
      refine lv_iconst (v := 2) hx hb dX12_writeStation_93 (by decide) ?_
      refine lv_icmp_ne (tgt := 103) hx hb dX12_writeStation_94 (by decide) (fun c36 => ?_) (fun c36 => ?_)
      · rw [if_neg c36] at hf
        refine lv_aload_n hx hb dX12_writeStation_103 rfl (lv_at hl 0 rfl) ?_
        refine w_get (k := 0) (v := .int (z32 0 10)) hx hb hw hown hE fl_X12_42 hM (by decide) rfl rfl rfl dX12_writeStation_104 ?_
        have hre := Option.some.inj hf
        subst hre
        exact mu_i (v := (z32 0 10)) hx hb hrt hlocks hM hS dX12_writeStation_107
      · rw [if_pos c36] at hf
        refine lv_aload_n hx hb dX12_writeStation_97 rfl (lv_at hl 0 rfl) ?_
        refine lv_bipush (v := 63) hx hb dX12_writeStation_98 (by decide) ?_
        obtain ⟨z37, hc38, hf⟩ := br_some hf
        refine mu_cV (As := [.int 63]) (rest := []) hx hb hml hown hts hE (mX12_write l E B0 b (by omega) z32 (63 : Int32) z37 hc38) cv_X12_224 (w_recv (k := 0) (ci := 12) hE hM (by decide) rfl rfl) hM hS hAB (fun _ h => h) rfl hl.1 rfl (by decide) (Nat.le_of_ble_eq_true rfl) ⟨Nat.le_refl _, Nat.le_refl _⟩ dX12_writeStation_100 (fun H locs hM _ hu hS => ?_)
        refine lv_aload_n hx hb dX12_writeStation_103 rfl (lv_at hl 0 rfl) ?_
        refine w_get (k := 0) (v := .int (z37 0 10)) hx hb hw hown hE fl_X12_42 hM (by decide) rfl rfl rfl dX12_writeStation_104 ?_
        have hre := Option.some.inj hf
        subst hre
        exact mu_i (v := (z37 0 10)) hx hb hrt hlocks hM hS dX12_writeStation_107
  · rw [if_pos c3] at hf
    refine lv_iconst (v := 0) hx hb dX12_writeStation_9 (by decide) ?_
    have hre := Option.some.inj hf
    subst hre
    exact mu_i (v := 0) hx hb hrt hlocks hM hS dX12_writeStation_10
noncomputable def fX12_writeChannel_s (a1 : Int32) (z : Int32 × Mem) : Option ((Int32 × Mem) ⊕ (Int32 × Mem)) := (fX12_lineOf z.2 a1).bind fun z1 => (if z1 < z.1 then some (.inr ((z.2 0 10), z.2)) else (fX12_write z.2 (60 : Int32)).bind fun z4 => (fX12_inLine z4 a1 z.1).bind fun z6 => (fX12_writeSign z4 z6).bind fun z8 => some (.inl ((z.1 + 1), z8)))
noncomputable def fX12_writeChannel (M : Mem) (a1 : Int32) : Option (Int32 × Mem) := (fX12_isChannel a1).bind fun z10 => (if z10 = 0 then (if ((up2 M 0 4 (1 : Int32)) 0 4) ≤ 0 then (fX12_speakerOn (up2 (up2 M 0 4 (1 : Int32)) 0 10 (0 : Int32)) a1).bind fun z14 => (if 0 ≤ z14 then (fX12_speakerOn (up2 (up2 M 0 4 (1 : Int32)) 0 10 (0 : Int32)) a1).bind fun z17 => (fX12_writeSign (up2 (up2 M 0 4 (1 : Int32)) 0 10 (0 : Int32)) z17).bind fun z19 => lp (fX12_writeChannel_s a1) (1, z19) else some (0, (up2 (up2 M 0 4 (1 : Int32)) 0 10 (0 : Int32)))) else some (0, (up2 M 0 4 (1 : Int32)))) else (if ((up2 M 0 4 (0 : Int32)) 0 4) ≤ 0 then (fX12_speakerOn (up2 (up2 M 0 4 (0 : Int32)) 0 10 (0 : Int32)) a1).bind fun z22 => (if 0 ≤ z22 then (fX12_speakerOn (up2 (up2 M 0 4 (0 : Int32)) 0 10 (0 : Int32)) a1).bind fun z25 => (fX12_writeSign (up2 (up2 M 0 4 (0 : Int32)) 0 10 (0 : Int32)) z25).bind fun z27 => lp (fX12_writeChannel_s a1) (1, z27) else some (0, (up2 (up2 M 0 4 (0 : Int32)) 0 10 (0 : Int32)))) else some (0, (up2 M 0 4 (0 : Int32)))))
set_option maxHeartbeats 4000000 in
set_option maxRecDepth 100000 in
theorem mX12_writeChannel (l : Launch) (E : EP) (B0 : Nat) (b : Nat) (hb0 : B0 ≤ b) (M : Mem) (a1 : Int32) (r : Int32 × Mem) (hf : fX12_writeChannel M a1 = some r) : MU l E B0 yX12_writeChannel cX12_writeChannel 3 (some .int) 4 0 0 [.ref (b + 0), .int a1] (Blk E b modSh 10 M) (some (.int r.1)) (Blk E b modSh 10 r.2) (iv b 10) := by
  refine mu_of (by decide +kernel) (Nat.le_of_ble_eq_true rfl) ?_
  intro p e s m args below meth c hx hb hml hown hts hrt hlocks hE H hM hS ls hl
  have hown : s.vm.findClass RX12 = some m.cls := hown
  have hl : lv_has ls 3 [(0, .ref (b + 0)), (1, .int a1)] := hl
  have hw : ∀ w ∈ WA, w.before args s = true := fun w h => hts w (List.mem_cons_of_mem _ h)
  have hAB : ∀ q, (iv b 10) q → B0 ≤ q := (iv_ge (by omega))
  unfold fX12_writeChannel at hf
  have loop : ∀ (fu : Nat) (z : Int32 × Mem), lpI (fX12_writeChannel_s a1) fu z = some r → (∀ (H : Heap) (locs : List Loc) (ls : Array Slot), Blk E b modSh 10 z.2 H → va_S (iv b 10) s.heap H locs → lv_has ls 3 [(0, .ref (b + 0)), (1, .int a1), (2, .int z.1)] → W p l e (rmD 4 0 0) s m args below meth c H locs 0 0 (MQ below (QU (some (.int r.1)) (Blk E b modSh 10 r.2) (iv b 10)) args s 0 0 (iv b 10)) (F0 m 51 ls [])) := by
    intro fu
    induction fu with
    | zero =>
      intro z hn
      exact nomatch hn
    | succ fu ih =>
      intro z hn
      obtain ⟨y, hf, hy⟩ := lpI_succ hn
      intro H locs ls hM hS hl
      unfold fX12_writeChannel_s at hf
      refine lv_iload_n hx hb dX12_writeChannel_51 rfl (lv_at hl 2 rfl) ?_
      refine lv_aload_n hx hb dX12_writeChannel_52 rfl (lv_at hl 0 rfl) ?_
      refine lv_iload_n hx hb dX12_writeChannel_53 rfl (lv_at hl 1 rfl) ?_
      obtain ⟨z1, hc2, hf⟩ := br_some hf
      refine mu_cV (As := [.int a1]) (rest := [.int z.1]) hx hb hml hown hts hE (mX12_lineOf l E B0 b (by omega) z.2 a1 z1 hc2) cv_X12_172 (w_recv (k := 0) (ci := 12) hE hM (by decide) rfl rfl) hM hS hAB (fun _ h => h.elim) rfl hl.1 rfl (by decide) (Nat.le_of_ble_eq_true rfl) ⟨Nat.le_refl _, Nat.le_refl _⟩ dX12_writeChannel_54 (fun H locs hM _ hu hS => ?_)
      refine lv_icmp_gt (tgt := 82) hx hb dX12_writeChannel_57 (by decide) (fun c3 => ?_) (fun c3 => ?_)
      · rw [if_pos c3] at hf
        refine lv_aload_n hx hb dX12_writeChannel_82 rfl (lv_at hl 0 rfl) ?_
        refine w_get (k := 0) (v := .int (z.2 0 10)) hx hb hw hown hE fl_X12_42 hM (by decide) rfl rfl rfl dX12_writeChannel_83 ?_
        have hre := lp_end hy (Option.some.inj hf).symm
        subst hre
        exact mu_i (v := (z.2 0 10)) hx hb hrt hlocks hM hS dX12_writeChannel_86
      · rw [if_neg c3] at hf
        refine lv_aload_n hx hb dX12_writeChannel_60 rfl (lv_at hl 0 rfl) ?_
        refine lv_bipush (v := 60) hx hb dX12_writeChannel_61 (by decide) ?_
        obtain ⟨z4, hc5, hf⟩ := br_some hf
        refine mu_cV (As := [.int 60]) (rest := []) hx hb hml hown hts hE (mX12_write l E B0 b (by omega) z.2 (60 : Int32) z4 hc5) cv_X12_224 (w_recv (k := 0) (ci := 12) hE hM (by decide) rfl rfl) hM hS hAB (fun _ h => h) rfl hl.1 rfl (by decide) (Nat.le_of_ble_eq_true rfl) ⟨Nat.le_refl _, Nat.le_refl _⟩ dX12_writeChannel_63 (fun H locs hM _ hu hS => ?_)
        refine lv_aload_n hx hb dX12_writeChannel_66 rfl (lv_at hl 0 rfl) ?_
        refine lv_aload_n hx hb dX12_writeChannel_67 rfl (lv_at hl 0 rfl) ?_
        refine lv_iload_n hx hb dX12_writeChannel_68 rfl (lv_at hl 1 rfl) ?_
        refine lv_iload_n hx hb dX12_writeChannel_69 rfl (lv_at hl 2 rfl) ?_
        obtain ⟨z6, hc7, hf⟩ := br_some hf
        refine mu_cV (As := [.int a1, .int z.1]) (rest := [.ref (b + 0)]) hx hb hml hown hts hE (mX12_inLine l E B0 b (by omega) z4 a1 z.1 z6 hc7) cv_X12_166 (w_recv (k := 0) (ci := 12) hE hM (by decide) rfl rfl) hM hS hAB (fun _ h => h.elim) rfl hl.1 rfl (by decide) (Nat.le_of_ble_eq_true rfl) ⟨Nat.le_refl _, Nat.le_refl _⟩ dX12_writeChannel_70 (fun H locs hM _ hu hS => ?_)
        obtain ⟨z8, hc9, hf⟩ := br_some hf
        refine mu_cV (As := [.int z6]) (rest := []) hx hb hml hown hts hE (mX12_writeSign l E B0 b (by omega) z4 z6 z8 hc9) cv_X12_227 (w_recv (k := 0) (ci := 12) hE hM (by decide) rfl rfl) hM hS hAB (fun _ h => h) rfl hl.1 rfl (by decide) (Nat.le_of_ble_eq_true rfl) ⟨Nat.le_refl _, Nat.le_refl _⟩ dX12_writeChannel_73 (fun H locs hM _ hu hS => ?_)
        refine lv_iinc (v := (z.1 + 1)) (lv' := [(2, .int (z.1 + 1)), (0, .ref (b + 0)), (1, .int a1)]) hx hb dX12_writeChannel_76 hl (k := 2) rfl rfl (by decide) rfl (fun ls hl => ?_)
        refine lv_goto (tgt := 51) hx hb dX12_writeChannel_79 (by decide) ?_
        exact ih ((z.1 + 1), z8) (lp_back hy (Option.some.inj hf).symm) _ _ _ hM hS (lv_sub hl [1, 2, 0] rfl)
  refine lv_aload_n hx hb dX12_writeChannel_0 rfl (lv_at hl 0 rfl) ?_
  refine lv_iload_n hx hb dX12_writeChannel_1 rfl (lv_at hl 1 rfl) ?_
  obtain ⟨z10, hc11, hf⟩ := br_some hf
  refine mu_cS (As := [.int a1]) (rest := [.ref (b + 0)]) hx hb hml hown hts hE (mX12_isChannel l E B0 a1 z10 hc11) cs_X12_101 trivial hS hAB (fun _ h => h.elim) rfl hl.1 rfl (by decide) (Nat.le_of_ble_eq_true rfl) ⟨Nat.le_refl _, Nat.le_refl _⟩ dX12_writeChannel_2 (fun H locs _ _ hu hS => ?_)
  have hM := Blk.off hM hu (fun _ _ _ h => h)
  refine lv_if_eq (tgt := 12) hx hb dX12_writeChannel_5 (by decide) (fun c12 => ?_) (fun c12 => ?_)
  · rw [if_pos c12] at hf
    refine lv_iconst (v := 1) hx hb dX12_writeChannel_12 (by decide) ?_
    refine w_put (k := 0) (v := .int 1) hx hb hw hown hE fl_X12_22 fw_X12_4 hM (by decide) rfl rfl (1 : Int32) rfl rfl rfl hS (iv_mem (by decide)) dX12_writeChannel_13 (fun H locs hM _ hu hS => ?_)
    refine lv_aload_n hx hb dX12_writeChannel_16 rfl (lv_at hl 0 rfl) ?_
    refine w_get (k := 0) (v := .int ((up2 M 0 4 (1 : Int32)) 0 4)) hx hb hw hown hE fl_X12_22 hM (by decide) rfl rfl rfl dX12_writeChannel_17 ?_
    refine lv_if_le (tgt := 25) hx hb dX12_writeChannel_20 (by decide) (fun c13 => ?_) (fun c13 => ?_)
    · rw [if_pos c13] at hf
      refine lv_aload_n hx hb dX12_writeChannel_25 rfl (lv_at hl 0 rfl) ?_
      refine lv_iconst (v := 0) hx hb dX12_writeChannel_26 (by decide) ?_
      refine w_put (k := 0) (v := .int 0) hx hb hw hown hE fl_X12_42 fw_X12_10 hM (by decide) rfl rfl (0 : Int32) rfl rfl rfl hS (iv_mem (by decide)) dX12_writeChannel_27 (fun H locs hM _ hu hS => ?_)
      refine lv_aload_n hx hb dX12_writeChannel_30 rfl (lv_at hl 0 rfl) ?_
      refine lv_iload_n hx hb dX12_writeChannel_31 rfl (lv_at hl 1 rfl) ?_
      obtain ⟨z14, hc15, hf⟩ := br_some hf
      refine mu_cV (As := [.int a1]) (rest := []) hx hb hml hown hts hE (mX12_speakerOn l E B0 b (by omega) (up2 (up2 M 0 4 (1 : Int32)) 0 10 (0 : Int32)) a1 z14 hc15) cv_X12_150 (w_recv (k := 0) (ci := 12) hE hM (by decide) rfl rfl) hM hS hAB (fun _ h => h.elim) rfl hl.1 rfl (by decide) (Nat.le_of_ble_eq_true rfl) ⟨Nat.le_refl _, Nat.le_refl _⟩ dX12_writeChannel_32 (fun H locs hM _ hu hS => ?_)
      refine lv_if_ge (tgt := 40) hx hb dX12_writeChannel_35 (by decide) (fun c16 => ?_) (fun c16 => ?_)
      · rw [if_pos c16] at hf
        refine lv_aload_n hx hb dX12_writeChannel_40 rfl (lv_at hl 0 rfl) ?_
        refine lv_aload_n hx hb dX12_writeChannel_41 rfl (lv_at hl 0 rfl) ?_
        refine lv_iload_n hx hb dX12_writeChannel_42 rfl (lv_at hl 1 rfl) ?_
        obtain ⟨z17, hc18, hf⟩ := br_some hf
        refine mu_cV (As := [.int a1]) (rest := [.ref (b + 0)]) hx hb hml hown hts hE (mX12_speakerOn l E B0 b (by omega) (up2 (up2 M 0 4 (1 : Int32)) 0 10 (0 : Int32)) a1 z17 hc18) cv_X12_150 (w_recv (k := 0) (ci := 12) hE hM (by decide) rfl rfl) hM hS hAB (fun _ h => h.elim) rfl hl.1 rfl (by decide) (Nat.le_of_ble_eq_true rfl) ⟨Nat.le_refl _, Nat.le_refl _⟩ dX12_writeChannel_43 (fun H locs hM _ hu hS => ?_)
        obtain ⟨z19, hc20, hf⟩ := br_some hf
        refine mu_cV (As := [.int z17]) (rest := []) hx hb hml hown hts hE (mX12_writeSign l E B0 b (by omega) (up2 (up2 M 0 4 (1 : Int32)) 0 10 (0 : Int32)) z17 z19 hc20) cv_X12_227 (w_recv (k := 0) (ci := 12) hE hM (by decide) rfl rfl) hM hS hAB (fun _ h => h) rfl hl.1 rfl (by decide) (Nat.le_of_ble_eq_true rfl) ⟨Nat.le_refl _, Nat.le_refl _⟩ dX12_writeChannel_46 (fun H locs hM _ hu hS => ?_)
        refine lv_iconst (v := 1) hx hb dX12_writeChannel_49 (by decide) ?_
        refine lv_istore_n (lv' := [(2, .int 1), (0, .ref (b + 0)), (1, .int a1)]) hx hb dX12_writeChannel_50 rfl hl (by decide) rfl (fun ls hl => ?_)
        obtain ⟨fu, hfu⟩ := lp_some hf
        exact (loop fu (1, z19) hfu) _ _ _ hM hS (lv_sub hl [1, 2, 0] rfl)
      · rw [if_neg c16] at hf
        refine lv_iconst (v := 0) hx hb dX12_writeChannel_38 (by decide) ?_
        have hre := Option.some.inj hf
        subst hre
        exact mu_i (v := 0) hx hb hrt hlocks hM hS dX12_writeChannel_39
    · rw [if_neg c13] at hf
      refine lv_iconst (v := 0) hx hb dX12_writeChannel_23 (by decide) ?_
      have hre := Option.some.inj hf
      subst hre
      exact mu_i (v := 0) hx hb hrt hlocks hM hS dX12_writeChannel_24
  · rw [if_neg c12] at hf
    refine lv_iconst (v := 0) hx hb dX12_writeChannel_8 (by decide) ?_
    refine lv_goto (tgt := 13) hx hb dX12_writeChannel_9 (by decide) ?_
    refine w_put (k := 0) (v := .int 0) hx hb hw hown hE fl_X12_22 fw_X12_4 hM (by decide) rfl rfl (0 : Int32) rfl rfl rfl hS (iv_mem (by decide)) dX12_writeChannel_13 (fun H locs hM _ hu hS => ?_)
    refine lv_aload_n hx hb dX12_writeChannel_16 rfl (lv_at hl 0 rfl) ?_
    refine w_get (k := 0) (v := .int ((up2 M 0 4 (0 : Int32)) 0 4)) hx hb hw hown hE fl_X12_22 hM (by decide) rfl rfl rfl dX12_writeChannel_17 ?_
    refine lv_if_le (tgt := 25) hx hb dX12_writeChannel_20 (by decide) (fun c21 => ?_) (fun c21 => ?_)
    · rw [if_pos c21] at hf
      refine lv_aload_n hx hb dX12_writeChannel_25 rfl (lv_at hl 0 rfl) ?_
      refine lv_iconst (v := 0) hx hb dX12_writeChannel_26 (by decide) ?_
      refine w_put (k := 0) (v := .int 0) hx hb hw hown hE fl_X12_42 fw_X12_10 hM (by decide) rfl rfl (0 : Int32) rfl rfl rfl hS (iv_mem (by decide)) dX12_writeChannel_27 (fun H locs hM _ hu hS => ?_)
      refine lv_aload_n hx hb dX12_writeChannel_30 rfl (lv_at hl 0 rfl) ?_
      refine lv_iload_n hx hb dX12_writeChannel_31 rfl (lv_at hl 1 rfl) ?_
      obtain ⟨z22, hc23, hf⟩ := br_some hf
      refine mu_cV (As := [.int a1]) (rest := []) hx hb hml hown hts hE (mX12_speakerOn l E B0 b (by omega) (up2 (up2 M 0 4 (0 : Int32)) 0 10 (0 : Int32)) a1 z22 hc23) cv_X12_150 (w_recv (k := 0) (ci := 12) hE hM (by decide) rfl rfl) hM hS hAB (fun _ h => h.elim) rfl hl.1 rfl (by decide) (Nat.le_of_ble_eq_true rfl) ⟨Nat.le_refl _, Nat.le_refl _⟩ dX12_writeChannel_32 (fun H locs hM _ hu hS => ?_)
      refine lv_if_ge (tgt := 40) hx hb dX12_writeChannel_35 (by decide) (fun c24 => ?_) (fun c24 => ?_)
      · rw [if_pos c24] at hf
        refine lv_aload_n hx hb dX12_writeChannel_40 rfl (lv_at hl 0 rfl) ?_
        refine lv_aload_n hx hb dX12_writeChannel_41 rfl (lv_at hl 0 rfl) ?_
        refine lv_iload_n hx hb dX12_writeChannel_42 rfl (lv_at hl 1 rfl) ?_
        obtain ⟨z25, hc26, hf⟩ := br_some hf
        refine mu_cV (As := [.int a1]) (rest := [.ref (b + 0)]) hx hb hml hown hts hE (mX12_speakerOn l E B0 b (by omega) (up2 (up2 M 0 4 (0 : Int32)) 0 10 (0 : Int32)) a1 z25 hc26) cv_X12_150 (w_recv (k := 0) (ci := 12) hE hM (by decide) rfl rfl) hM hS hAB (fun _ h => h.elim) rfl hl.1 rfl (by decide) (Nat.le_of_ble_eq_true rfl) ⟨Nat.le_refl _, Nat.le_refl _⟩ dX12_writeChannel_43 (fun H locs hM _ hu hS => ?_)
        obtain ⟨z27, hc28, hf⟩ := br_some hf
        refine mu_cV (As := [.int z25]) (rest := []) hx hb hml hown hts hE (mX12_writeSign l E B0 b (by omega) (up2 (up2 M 0 4 (0 : Int32)) 0 10 (0 : Int32)) z25 z27 hc28) cv_X12_227 (w_recv (k := 0) (ci := 12) hE hM (by decide) rfl rfl) hM hS hAB (fun _ h => h) rfl hl.1 rfl (by decide) (Nat.le_of_ble_eq_true rfl) ⟨Nat.le_refl _, Nat.le_refl _⟩ dX12_writeChannel_46 (fun H locs hM _ hu hS => ?_)
        refine lv_iconst (v := 1) hx hb dX12_writeChannel_49 (by decide) ?_
        refine lv_istore_n (lv' := [(2, .int 1), (0, .ref (b + 0)), (1, .int a1)]) hx hb dX12_writeChannel_50 rfl hl (by decide) rfl (fun ls hl => ?_)
        obtain ⟨fu, hfu⟩ := lp_some hf
        exact (loop fu (1, z27) hfu) _ _ _ hM hS (lv_sub hl [1, 2, 0] rfl)
      · rw [if_neg c24] at hf
        refine lv_iconst (v := 0) hx hb dX12_writeChannel_38 (by decide) ?_
        have hre := Option.some.inj hf
        subst hre
        exact mu_i (v := 0) hx hb hrt hlocks hM hS dX12_writeChannel_39
    · rw [if_neg c21] at hf
      refine lv_iconst (v := 0) hx hb dX12_writeChannel_23 (by decide) ?_
      have hre := Option.some.inj hf
      subst hre
      exact mu_i (v := 0) hx hb hrt hlocks hM hS dX12_writeChannel_24
def fX12_charAt (M : Mem) (a1 : Int32) : Option (Int32 × Mem) := (fX12_in a1 (0 : Int32) ((M 0 10) - 1)).bind fun z1 => (if z1 = 0 then (if ((up2 M 0 4 (1 : Int32)) 0 4) ≤ 0 then gd (inb a1 40) (gd (isC ((((up2 M 0 4 (1 : Int32)) 5 a1.toNatClampNeg).toUInt32 % 65536).toInt32)) (some (((((up2 M 0 4 (1 : Int32)) 5 a1.toNatClampNeg).toUInt32 % 65536).toInt32), (up2 M 0 4 (1 : Int32))))) else some (32, (up2 M 0 4 (1 : Int32)))) else (if ((up2 M 0 4 (0 : Int32)) 0 4) ≤ 0 then gd (inb a1 40) (gd (isC ((((up2 M 0 4 (0 : Int32)) 5 a1.toNatClampNeg).toUInt32 % 65536).toInt32)) (some (((((up2 M 0 4 (0 : Int32)) 5 a1.toNatClampNeg).toUInt32 % 65536).toInt32), (up2 M 0 4 (0 : Int32))))) else some (32, (up2 M 0 4 (0 : Int32)))))
set_option maxHeartbeats 4000000 in
set_option maxRecDepth 100000 in
theorem mX12_charAt (l : Launch) (E : EP) (B0 : Nat) (b : Nat) (hb0 : B0 ≤ b) (M : Mem) (a1 : Int32) (r : Int32 × Mem) (hf : fX12_charAt M a1 = some r) : MU l E B0 yX12_charAt cX12_charAt 2 (some .char) 1 0 0 [.ref (b + 0), .int a1] (Blk E b modSh 10 M) (some (.int r.1)) (Blk E b modSh 10 r.2) (iv b 10) := by
  refine mu_of (by decide +kernel) (Nat.le_of_ble_eq_true rfl) ?_
  intro p e s m args below meth c hx hb hml hown hts hrt hlocks hE H hM hS ls hl
  have hown : s.vm.findClass RX12 = some m.cls := hown
  have hl : lv_has ls 2 [(0, .ref (b + 0)), (1, .int a1)] := hl
  have hw : ∀ w ∈ WA, w.before args s = true := fun w h => hts w (List.mem_cons_of_mem _ h)
  have hAB : ∀ q, (iv b 10) q → B0 ≤ q := (iv_ge (by omega))
  unfold fX12_charAt at hf
  refine lv_aload_n hx hb dX12_charAt_0 rfl (lv_at hl 0 rfl) ?_
  refine lv_iload_n hx hb dX12_charAt_1 rfl (lv_at hl 1 rfl) ?_
  refine lv_iconst (v := 0) hx hb dX12_charAt_2 (by decide) ?_
  refine lv_aload_n hx hb dX12_charAt_3 rfl (lv_at hl 0 rfl) ?_
  refine w_get (k := 0) (v := .int (M 0 10)) hx hb hw hown hE fl_X12_42 hM (by decide) rfl rfl rfl dX12_charAt_4 ?_
  refine lv_iconst (v := 1) hx hb dX12_charAt_7 (by decide) ?_
  refine lv_isub hx hb dX12_charAt_8 ?_
  obtain ⟨z1, hc2, hf⟩ := br_some hf
  refine mu_cS (As := [.int a1, .int 0, .int ((M 0 10) - 1)]) (rest := [.ref (b + 0)]) hx hb hml hown hts hE (mX12_in l E B0 a1 (0 : Int32) ((M 0 10) - 1) z1 hc2) cs_X12_76 trivial hS hAB (fun _ h => h.elim) rfl hl.1 rfl (by decide) (Nat.le_of_ble_eq_true rfl) ⟨Nat.le_refl _, Nat.le_refl _⟩ dX12_charAt_9 (fun H locs _ _ hu hS => ?_)
  have hM := Blk.off hM hu (fun _ _ _ h => h)
  refine lv_if_eq (tgt := 19) hx hb dX12_charAt_12 (by decide) (fun c3 => ?_) (fun c3 => ?_)
  · rw [if_pos c3] at hf
    refine lv_iconst (v := 1) hx hb dX12_charAt_19 (by decide) ?_
    refine w_put (k := 0) (v := .int 1) hx hb hw hown hE fl_X12_22 fw_X12_4 hM (by decide) rfl rfl (1 : Int32) rfl rfl rfl hS (iv_mem (by decide)) dX12_charAt_20 (fun H locs hM _ hu hS => ?_)
    refine lv_aload_n hx hb dX12_charAt_23 rfl (lv_at hl 0 rfl) ?_
    refine w_get (k := 0) (v := .int ((up2 M 0 4 (1 : Int32)) 0 4)) hx hb hw hown hE fl_X12_22 hM (by decide) rfl rfl rfl dX12_charAt_24 ?_
    refine lv_if_le (tgt := 35) hx hb dX12_charAt_27 (by decide) (fun c4 => ?_) (fun c4 => ?_)
    · rw [if_pos c4] at hf
      refine lv_aload_n hx hb dX12_charAt_35 rfl (lv_at hl 0 rfl) ?_
      refine w_get (k := 0) (v := .ref (b + 5)) hx hb hw hown hE fl_X12_39 hM (by decide) rfl rfl rfl dX12_charAt_36 ?_
      refine lv_iload_n hx hb dX12_charAt_39 rfl (lv_at hl 1 rfl) ?_
      obtain ⟨h5, hf⟩ := gd_some hf
      refine w_iald (k := 5) (x9 := a1.toNatClampNeg) hx hb hE hM (by decide) rfl rfl h5 dX12_charAt_40 ?_
      refine lv_i2c (v := (((up2 M 0 4 (1 : Int32)) 5 a1.toNatClampNeg).toUInt32 % 65536).toInt32) hx hb dX12_charAt_41 rfl ?_
      obtain ⟨h6, hf⟩ := gd_some hf
      have hre := Option.some.inj hf
      subst hre
      exact mu_z (v := ((((up2 M 0 4 (1 : Int32)) 5 a1.toNatClampNeg).toUInt32 % 65536).toInt32)) hx hb hrt (isC_n h6) hlocks hM hS dX12_charAt_42
    · rw [if_neg c4] at hf
      refine lv_bipush (v := 32) hx hb dX12_charAt_30 (by decide) ?_
      refine lv_goto (tgt := 42) hx hb dX12_charAt_32 (by decide) ?_
      have hre := Option.some.inj hf
      subst hre
      exact mu_z (v := 32) hx hb hrt rfl hlocks hM hS dX12_charAt_42
  · rw [if_neg c3] at hf
    refine lv_iconst (v := 0) hx hb dX12_charAt_15 (by decide) ?_
    refine lv_goto (tgt := 20) hx hb dX12_charAt_16 (by decide) ?_
    refine w_put (k := 0) (v := .int 0) hx hb hw hown hE fl_X12_22 fw_X12_4 hM (by decide) rfl rfl (0 : Int32) rfl rfl rfl hS (iv_mem (by decide)) dX12_charAt_20 (fun H locs hM _ hu hS => ?_)
    refine lv_aload_n hx hb dX12_charAt_23 rfl (lv_at hl 0 rfl) ?_
    refine w_get (k := 0) (v := .int ((up2 M 0 4 (0 : Int32)) 0 4)) hx hb hw hown hE fl_X12_22 hM (by decide) rfl rfl rfl dX12_charAt_24 ?_
    refine lv_if_le (tgt := 35) hx hb dX12_charAt_27 (by decide) (fun c7 => ?_) (fun c7 => ?_)
    · rw [if_pos c7] at hf
      refine lv_aload_n hx hb dX12_charAt_35 rfl (lv_at hl 0 rfl) ?_
      refine w_get (k := 0) (v := .ref (b + 5)) hx hb hw hown hE fl_X12_39 hM (by decide) rfl rfl rfl dX12_charAt_36 ?_
      refine lv_iload_n hx hb dX12_charAt_39 rfl (lv_at hl 1 rfl) ?_
      obtain ⟨h8, hf⟩ := gd_some hf
      refine w_iald (k := 5) (x9 := a1.toNatClampNeg) hx hb hE hM (by decide) rfl rfl h8 dX12_charAt_40 ?_
      refine lv_i2c (v := (((up2 M 0 4 (0 : Int32)) 5 a1.toNatClampNeg).toUInt32 % 65536).toInt32) hx hb dX12_charAt_41 rfl ?_
      obtain ⟨h9, hf⟩ := gd_some hf
      have hre := Option.some.inj hf
      subst hre
      exact mu_z (v := ((((up2 M 0 4 (0 : Int32)) 5 a1.toNatClampNeg).toUInt32 % 65536).toInt32)) hx hb hrt (isC_n h9) hlocks hM hS dX12_charAt_42
    · rw [if_neg c7] at hf
      refine lv_bipush (v := 32) hx hb dX12_charAt_30 (by decide) ?_
      refine lv_goto (tgt := 42) hx hb dX12_charAt_32 (by decide) ?_
      have hre := Option.some.inj hf
      subst hre
      exact mu_z (v := 32) hx hb hrt rfl hlocks hM hS dX12_charAt_42
def fX12_type (M : Mem) (a1 : Int32) : Option (Int32 × Mem) := (if (M 0 15) = (60 : Int32) then (if ((up2 M 0 4 (1 : Int32)) 0 4) ≤ 0 then gd (inb ((up2 M 0 4 (1 : Int32)) 0 15) 60) (some (((up2 (up2 (up2 M 0 4 (1 : Int32)) 6 (((up2 M 0 4 (1 : Int32)) 0 15).toNatClampNeg) a1) 0 15 (((up2 (up2 M 0 4 (1 : Int32)) 6 (((up2 M 0 4 (1 : Int32)) 0 15).toNatClampNeg) a1) 0 15) + 1)) 0 15), (up2 (up2 (up2 M 0 4 (1 : Int32)) 6 (((up2 M 0 4 (1 : Int32)) 0 15).toNatClampNeg) a1) 0 15 (((up2 (up2 M 0 4 (1 : Int32)) 6 (((up2 M 0 4 (1 : Int32)) 0 15).toNatClampNeg) a1) 0 15) + 1)))) else some (0, (up2 M 0 4 (1 : Int32)))) else (if ((up2 M 0 4 (0 : Int32)) 0 4) ≤ 0 then gd (inb ((up2 M 0 4 (0 : Int32)) 0 15) 60) (some (((up2 (up2 (up2 M 0 4 (0 : Int32)) 6 (((up2 M 0 4 (0 : Int32)) 0 15).toNatClampNeg) a1) 0 15 (((up2 (up2 M 0 4 (0 : Int32)) 6 (((up2 M 0 4 (0 : Int32)) 0 15).toNatClampNeg) a1) 0 15) + 1)) 0 15), (up2 (up2 (up2 M 0 4 (0 : Int32)) 6 (((up2 M 0 4 (0 : Int32)) 0 15).toNatClampNeg) a1) 0 15 (((up2 (up2 M 0 4 (0 : Int32)) 6 (((up2 M 0 4 (0 : Int32)) 0 15).toNatClampNeg) a1) 0 15) + 1)))) else some (0, (up2 M 0 4 (0 : Int32)))))
set_option maxHeartbeats 4000000 in
set_option maxRecDepth 100000 in
theorem mX12_type (l : Launch) (E : EP) (B0 : Nat) (b : Nat) (hb0 : B0 ≤ b) (M : Mem) (a1 : Int32) (r : Int32 × Mem) (hf : fX12_type M a1 = some r) : MU l E B0 yX12_type cX12_type 2 (some .int) 0 0 0 [.ref (b + 0), .int a1] (Blk E b modSh 10 M) (some (.int r.1)) (Blk E b modSh 10 r.2) (iv b 10) := by
  refine mu_of (by decide +kernel) (Nat.le_of_ble_eq_true rfl) ?_
  intro p e s m args below meth c hx hb hml hown hts hrt hlocks hE H hM hS ls hl
  have hown : s.vm.findClass RX12 = some m.cls := hown
  have hl : lv_has ls 2 [(0, .ref (b + 0)), (1, .int a1)] := hl
  have hw : ∀ w ∈ WA, w.before args s = true := fun w h => hts w (List.mem_cons_of_mem _ h)
  have hAB : ∀ q, (iv b 10) q → B0 ≤ q := (iv_ge (by omega))
  unfold fX12_type at hf
  refine lv_aload_n hx hb dX12_type_0 rfl (lv_at hl 0 rfl) ?_
  refine lv_aload_n hx hb dX12_type_1 rfl (lv_at hl 0 rfl) ?_
  refine w_get (k := 0) (v := .int (M 0 15)) hx hb hw hown hE fl_X12_57 hM (by decide) rfl rfl rfl dX12_type_2 ?_
  refine lv_bipush (v := 60) hx hb dX12_type_5 (by decide) ?_
  refine lv_icmp_ne (tgt := 14) hx hb dX12_type_7 (by decide) (fun c1 => ?_) (fun c1 => ?_)
  · rw [if_neg c1] at hf
    refine lv_iconst (v := 0) hx hb dX12_type_14 (by decide) ?_
    refine w_put (k := 0) (v := .int 0) hx hb hw hown hE fl_X12_22 fw_X12_4 hM (by decide) rfl rfl (0 : Int32) rfl rfl rfl hS (iv_mem (by decide)) dX12_type_15 (fun H locs hM _ hu hS => ?_)
    refine lv_aload_n hx hb dX12_type_18 rfl (lv_at hl 0 rfl) ?_
    refine w_get (k := 0) (v := .int ((up2 M 0 4 (0 : Int32)) 0 4)) hx hb hw hown hE fl_X12_22 hM (by decide) rfl rfl rfl dX12_type_19 ?_
    refine lv_if_le (tgt := 27) hx hb dX12_type_22 (by decide) (fun c2 => ?_) (fun c2 => ?_)
    · rw [if_pos c2] at hf
      refine lv_aload_n hx hb dX12_type_27 rfl (lv_at hl 0 rfl) ?_
      refine w_get (k := 0) (v := .ref (b + 6)) hx hb hw hown hE fl_X12_45 hM (by decide) rfl rfl rfl dX12_type_28 ?_
      refine lv_aload_n hx hb dX12_type_31 rfl (lv_at hl 0 rfl) ?_
      refine w_get (k := 0) (v := .int ((up2 M 0 4 (0 : Int32)) 0 15)) hx hb hw hown hE fl_X12_57 hM (by decide) rfl rfl rfl dX12_type_32 ?_
      refine lv_iload_n hx hb dX12_type_35 rfl (lv_at hl 1 rfl) ?_
      obtain ⟨h3, hf⟩ := gd_some hf
      refine w_iast (k := 6) (x9 := ((up2 M 0 4 (0 : Int32)) 0 15).toNatClampNeg) (x := a1) hx hb hE hM (by decide) rfl rfl h3 hS (iv_mem (by decide)) dX12_type_36 (fun H locs hM _ hu hS => ?_)
      refine lv_aload_n hx hb dX12_type_37 rfl (lv_at hl 0 rfl) ?_
      refine lv_dup hx hb dX12_type_38 rfl ?_
      refine w_get (k := 0) (v := .int ((up2 (up2 M 0 4 (0 : Int32)) 6 (((up2 M 0 4 (0 : Int32)) 0 15).toNatClampNeg) a1) 0 15)) hx hb hw hown hE fl_X12_57 hM (by decide) rfl rfl rfl dX12_type_39 ?_
      refine lv_iconst (v := 1) hx hb dX12_type_42 (by decide) ?_
      refine lv_iadd hx hb dX12_type_43 ?_
      refine w_put (k := 0) (v := .int (((up2 (up2 M 0 4 (0 : Int32)) 6 (((up2 M 0 4 (0 : Int32)) 0 15).toNatClampNeg) a1) 0 15) + 1)) hx hb hw hown hE fl_X12_57 fw_X12_15 hM (by decide) rfl rfl (((up2 (up2 M 0 4 (0 : Int32)) 6 (((up2 M 0 4 (0 : Int32)) 0 15).toNatClampNeg) a1) 0 15) + 1) rfl rfl rfl hS (iv_mem (by decide)) dX12_type_44 (fun H locs hM _ hu hS => ?_)
      refine lv_aload_n hx hb dX12_type_47 rfl (lv_at hl 0 rfl) ?_
      refine w_get (k := 0) (v := .int ((up2 (up2 (up2 M 0 4 (0 : Int32)) 6 (((up2 M 0 4 (0 : Int32)) 0 15).toNatClampNeg) a1) 0 15 (((up2 (up2 M 0 4 (0 : Int32)) 6 (((up2 M 0 4 (0 : Int32)) 0 15).toNatClampNeg) a1) 0 15) + 1)) 0 15)) hx hb hw hown hE fl_X12_57 hM (by decide) rfl rfl rfl dX12_type_48 ?_
      have hre := Option.some.inj hf
      subst hre
      exact mu_i (v := ((up2 (up2 (up2 M 0 4 (0 : Int32)) 6 (((up2 M 0 4 (0 : Int32)) 0 15).toNatClampNeg) a1) 0 15 (((up2 (up2 M 0 4 (0 : Int32)) 6 (((up2 M 0 4 (0 : Int32)) 0 15).toNatClampNeg) a1) 0 15) + 1)) 0 15)) hx hb hrt hlocks hM hS dX12_type_51
    · rw [if_neg c2] at hf
      refine lv_iconst (v := 0) hx hb dX12_type_25 (by decide) ?_
      have hre := Option.some.inj hf
      subst hre
      exact mu_i (v := 0) hx hb hrt hlocks hM hS dX12_type_26
  · rw [if_pos c1] at hf
    refine lv_iconst (v := 1) hx hb dX12_type_10 (by decide) ?_
    refine lv_goto (tgt := 15) hx hb dX12_type_11 (by decide) ?_
    refine w_put (k := 0) (v := .int 1) hx hb hw hown hE fl_X12_22 fw_X12_4 hM (by decide) rfl rfl (1 : Int32) rfl rfl rfl hS (iv_mem (by decide)) dX12_type_15 (fun H locs hM _ hu hS => ?_)
    refine lv_aload_n hx hb dX12_type_18 rfl (lv_at hl 0 rfl) ?_
    refine w_get (k := 0) (v := .int ((up2 M 0 4 (1 : Int32)) 0 4)) hx hb hw hown hE fl_X12_22 hM (by decide) rfl rfl rfl dX12_type_19 ?_
    refine lv_if_le (tgt := 27) hx hb dX12_type_22 (by decide) (fun c4 => ?_) (fun c4 => ?_)
    · rw [if_pos c4] at hf
      refine lv_aload_n hx hb dX12_type_27 rfl (lv_at hl 0 rfl) ?_
      refine w_get (k := 0) (v := .ref (b + 6)) hx hb hw hown hE fl_X12_45 hM (by decide) rfl rfl rfl dX12_type_28 ?_
      refine lv_aload_n hx hb dX12_type_31 rfl (lv_at hl 0 rfl) ?_
      refine w_get (k := 0) (v := .int ((up2 M 0 4 (1 : Int32)) 0 15)) hx hb hw hown hE fl_X12_57 hM (by decide) rfl rfl rfl dX12_type_32 ?_
      refine lv_iload_n hx hb dX12_type_35 rfl (lv_at hl 1 rfl) ?_
      obtain ⟨h5, hf⟩ := gd_some hf
      refine w_iast (k := 6) (x9 := ((up2 M 0 4 (1 : Int32)) 0 15).toNatClampNeg) (x := a1) hx hb hE hM (by decide) rfl rfl h5 hS (iv_mem (by decide)) dX12_type_36 (fun H locs hM _ hu hS => ?_)
      refine lv_aload_n hx hb dX12_type_37 rfl (lv_at hl 0 rfl) ?_
      refine lv_dup hx hb dX12_type_38 rfl ?_
      refine w_get (k := 0) (v := .int ((up2 (up2 M 0 4 (1 : Int32)) 6 (((up2 M 0 4 (1 : Int32)) 0 15).toNatClampNeg) a1) 0 15)) hx hb hw hown hE fl_X12_57 hM (by decide) rfl rfl rfl dX12_type_39 ?_
      refine lv_iconst (v := 1) hx hb dX12_type_42 (by decide) ?_
      refine lv_iadd hx hb dX12_type_43 ?_
      refine w_put (k := 0) (v := .int (((up2 (up2 M 0 4 (1 : Int32)) 6 (((up2 M 0 4 (1 : Int32)) 0 15).toNatClampNeg) a1) 0 15) + 1)) hx hb hw hown hE fl_X12_57 fw_X12_15 hM (by decide) rfl rfl (((up2 (up2 M 0 4 (1 : Int32)) 6 (((up2 M 0 4 (1 : Int32)) 0 15).toNatClampNeg) a1) 0 15) + 1) rfl rfl rfl hS (iv_mem (by decide)) dX12_type_44 (fun H locs hM _ hu hS => ?_)
      refine lv_aload_n hx hb dX12_type_47 rfl (lv_at hl 0 rfl) ?_
      refine w_get (k := 0) (v := .int ((up2 (up2 (up2 M 0 4 (1 : Int32)) 6 (((up2 M 0 4 (1 : Int32)) 0 15).toNatClampNeg) a1) 0 15 (((up2 (up2 M 0 4 (1 : Int32)) 6 (((up2 M 0 4 (1 : Int32)) 0 15).toNatClampNeg) a1) 0 15) + 1)) 0 15)) hx hb hw hown hE fl_X12_57 hM (by decide) rfl rfl rfl dX12_type_48 ?_
      have hre := Option.some.inj hf
      subst hre
      exact mu_i (v := ((up2 (up2 (up2 M 0 4 (1 : Int32)) 6 (((up2 M 0 4 (1 : Int32)) 0 15).toNatClampNeg) a1) 0 15 (((up2 (up2 M 0 4 (1 : Int32)) 6 (((up2 M 0 4 (1 : Int32)) 0 15).toNatClampNeg) a1) 0 15) + 1)) 0 15)) hx hb hrt hlocks hM hS dX12_type_51
    · rw [if_neg c4] at hf
      refine lv_iconst (v := 0) hx hb dX12_type_25 (by decide) ?_
      have hre := Option.some.inj hf
      subst hre
      exact mu_i (v := 0) hx hb hrt hlocks hM hS dX12_type_26
def fX12_mark (M : Mem) : Option (Int32) := (if (M 0 19) = 0 then (if (M 0 16) ≤ (M 0 17) then some (-1) else gd (inb (M 0 17) 60) (some (M 6 ((M 0 17).toNatClampNeg)))) else some (-1))
set_option maxHeartbeats 4000000 in
set_option maxRecDepth 100000 in
theorem mX12_mark (l : Launch) (E : EP) (B0 : Nat) (b : Nat) (hb0 : B0 ≤ b) (M : Mem) (r : Int32) (hf : fX12_mark M = some r) : MU l E B0 yX12_mark cX12_mark 1 (some .int) 0 0 0 [.ref (b + 0)] (Blk E b modSh 10 M) (some (.int r)) (Blk E b modSh 10 M) nv := by
  refine mu_of (by decide +kernel) (Nat.le_of_ble_eq_true rfl) ?_
  intro p e s m args below meth c hx hb hml hown hts hrt hlocks hE H hM hS ls hl
  have hown : s.vm.findClass RX12 = some m.cls := hown
  have hl : lv_has ls 1 [(0, .ref (b + 0))] := hl
  have hw : ∀ w ∈ WA, w.before args s = true := fun w h => hts w (List.mem_cons_of_mem _ h)
  have hAB : ∀ q, nv q → B0 ≤ q := fun _ h => h.elim
  unfold fX12_mark at hf
  refine lv_aload_n hx hb dX12_mark_0 rfl (lv_at hl 0 rfl) ?_
  refine w_get (k := 0) (v := .int (M 0 19)) hx hb hw hown hE fl_X12_69 hM (by decide) rfl rfl rfl dX12_mark_1 ?_
  refine lv_if_ne (tgt := 30) hx hb dX12_mark_4 (by decide) (fun c1 => ?_) (fun c1 => ?_)
  · rw [if_neg c1] at hf
    refine lv_iconst (v := -1) hx hb dX12_mark_30 (by decide) ?_
    have hre := Option.some.inj hf
    subst hre
    exact mu_i (v := -1) hx hb hrt hlocks hM hS dX12_mark_31
  · rw [if_pos c1] at hf
    refine lv_aload_n hx hb dX12_mark_7 rfl (lv_at hl 0 rfl) ?_
    refine w_get (k := 0) (v := .int (M 0 17)) hx hb hw hown hE fl_X12_63 hM (by decide) rfl rfl rfl dX12_mark_8 ?_
    refine lv_aload_n hx hb dX12_mark_11 rfl (lv_at hl 0 rfl) ?_
    refine w_get (k := 0) (v := .int (M 0 16)) hx hb hw hown hE fl_X12_60 hM (by decide) rfl rfl rfl dX12_mark_12 ?_
    refine lv_icmp_ge (tgt := 30) hx hb dX12_mark_15 (by decide) (fun c2 => ?_) (fun c2 => ?_)
    · rw [if_pos c2] at hf
      refine lv_iconst (v := -1) hx hb dX12_mark_30 (by decide) ?_
      have hre := Option.some.inj hf
      subst hre
      exact mu_i (v := -1) hx hb hrt hlocks hM hS dX12_mark_31
    · rw [if_neg c2] at hf
      refine lv_aload_n hx hb dX12_mark_18 rfl (lv_at hl 0 rfl) ?_
      refine w_get (k := 0) (v := .ref (b + 6)) hx hb hw hown hE fl_X12_45 hM (by decide) rfl rfl rfl dX12_mark_19 ?_
      refine lv_aload_n hx hb dX12_mark_22 rfl (lv_at hl 0 rfl) ?_
      refine w_get (k := 0) (v := .int (M 0 17)) hx hb hw hown hE fl_X12_63 hM (by decide) rfl rfl rfl dX12_mark_23 ?_
      obtain ⟨h3, hf⟩ := gd_some hf
      refine w_iald (k := 6) (x9 := (M 0 17).toNatClampNeg) hx hb hE hM (by decide) rfl rfl h3 dX12_mark_26 ?_
      refine lv_goto (tgt := 31) hx hb dX12_mark_27 (by decide) ?_
      have hre := Option.some.inj hf
      subst hre
      exact mu_i (v := (M 6 ((M 0 17).toNatClampNeg))) hx hb hrt hlocks hM hS dX12_mark_31
def fX12_expect (M : Mem) (a1 : Int32) : Option (Mem) := (fX12_mark M).bind fun z1 => (if z1 = a1 then gd (isZ ((M 0 19) ||| 0)) ((if ((up2 M 0 19 ((M 0 19) ||| 0)) 0 19) = 0 then some (up2 (up2 M 0 19 ((M 0 19) ||| 0)) 0 17 (((up2 M 0 19 ((M 0 19) ||| 0)) 0 17) + 1)) else some (up2 (up2 M 0 19 ((M 0 19) ||| 0)) 0 17 (((up2 M 0 19 ((M 0 19) ||| 0)) 0 17) + 0)))) else gd (isZ ((M 0 19) ||| 1)) ((if ((up2 M 0 19 ((M 0 19) ||| 1)) 0 19) = 0 then some (up2 (up2 M 0 19 ((M 0 19) ||| 1)) 0 17 (((up2 M 0 19 ((M 0 19) ||| 1)) 0 17) + 1)) else some (up2 (up2 M 0 19 ((M 0 19) ||| 1)) 0 17 (((up2 M 0 19 ((M 0 19) ||| 1)) 0 17) + 0)))))
set_option maxHeartbeats 4000000 in
set_option maxRecDepth 100000 in
theorem mX12_expect (l : Launch) (E : EP) (B0 : Nat) (b : Nat) (hb0 : B0 ≤ b) (M : Mem) (a1 : Int32) (r : Mem) (hf : fX12_expect M a1 = some r) : MU l E B0 yX12_expect cX12_expect 2 none 1 0 0 [.ref (b + 0), .int a1] (Blk E b modSh 10 M) none (Blk E b modSh 10 r) (iv b 10) := by
  refine mu_of (by decide +kernel) (Nat.le_of_ble_eq_true rfl) ?_
  intro p e s m args below meth c hx hb hml hown hts hrt hlocks hE H hM hS ls hl
  have hown : s.vm.findClass RX12 = some m.cls := hown
  have hl : lv_has ls 2 [(0, .ref (b + 0)), (1, .int a1)] := hl
  have hw : ∀ w ∈ WA, w.before args s = true := fun w h => hts w (List.mem_cons_of_mem _ h)
  have hAB : ∀ q, (iv b 10) q → B0 ≤ q := (iv_ge (by omega))
  unfold fX12_expect at hf
  refine lv_aload_n hx hb dX12_expect_0 rfl (lv_at hl 0 rfl) ?_
  refine lv_dup hx hb dX12_expect_1 rfl ?_
  refine w_get (k := 0) (v := .int (M 0 19)) hx hb hw hown hE fl_X12_69 hM (by decide) rfl rfl rfl dX12_expect_2 ?_
  refine lv_aload_n hx hb dX12_expect_5 rfl (lv_at hl 0 rfl) ?_
  obtain ⟨z1, hc2, hf⟩ := br_some hf
  refine mu_cV (As := []) (rest := [.int (M 0 19), .ref (b + 0)]) hx hb hml hown hts hE (mX12_mark l E B0 b (by omega) M z1 hc2) cv_X12_233 (w_recv (k := 0) (ci := 12) hE hM (by decide) rfl rfl) hM hS hAB (fun _ h => h.elim) rfl hl.1 rfl (by decide) (Nat.le_of_ble_eq_true rfl) ⟨Nat.le_refl _, Nat.le_refl _⟩ dX12_expect_6 (fun H locs hM _ hu hS => ?_)
  refine lv_iload_n hx hb dX12_expect_9 rfl (lv_at hl 1 rfl) ?_
  refine lv_icmp_eq (tgt := 17) hx hb dX12_expect_10 (by decide) (fun c3 => ?_) (fun c3 => ?_)
  · rw [if_pos c3] at hf
    refine lv_iconst (v := 0) hx hb dX12_expect_17 (by decide) ?_
    refine lv_ior hx hb dX12_expect_18 ?_
    obtain ⟨h4, hf⟩ := gd_some hf
    refine w_put (k := 0) (v := .int ((M 0 19) ||| 0)) hx hb hw hown hE fl_X12_69 fw_X12_19 hM (by decide) rfl rfl ((M 0 19) ||| 0) rfl (isZ_n h4) (isZ_f h4) hS (iv_mem (by decide)) dX12_expect_19 (fun H locs hM _ hu hS => ?_)
    refine lv_aload_n hx hb dX12_expect_22 rfl (lv_at hl 0 rfl) ?_
    refine lv_dup hx hb dX12_expect_23 rfl ?_
    refine w_get (k := 0) (v := .int ((up2 M 0 19 ((M 0 19) ||| 0)) 0 17)) hx hb hw hown hE fl_X12_63 hM (by decide) rfl rfl rfl dX12_expect_24 ?_
    refine lv_aload_n hx hb dX12_expect_27 rfl (lv_at hl 0 rfl) ?_
    refine w_get (k := 0) (v := .int ((up2 M 0 19 ((M 0 19) ||| 0)) 0 19)) hx hb hw hown hE fl_X12_69 hM (by decide) rfl rfl rfl dX12_expect_28 ?_
    refine lv_if_eq (tgt := 38) hx hb dX12_expect_31 (by decide) (fun c5 => ?_) (fun c5 => ?_)
    · rw [if_pos c5] at hf
      refine lv_iconst (v := 1) hx hb dX12_expect_38 (by decide) ?_
      refine lv_iadd hx hb dX12_expect_39 ?_
      refine w_put (k := 0) (v := .int (((up2 M 0 19 ((M 0 19) ||| 0)) 0 17) + 1)) hx hb hw hown hE fl_X12_63 fw_X12_17 hM (by decide) rfl rfl (((up2 M 0 19 ((M 0 19) ||| 0)) 0 17) + 1) rfl rfl rfl hS (iv_mem (by decide)) dX12_expect_40 (fun H locs hM _ hu hS => ?_)
      have hre := Option.some.inj hf
      subst hre
      exact mu_v hx hb hrt hlocks hM hS dX12_expect_43
    · rw [if_neg c5] at hf
      refine lv_iconst (v := 0) hx hb dX12_expect_34 (by decide) ?_
      refine lv_goto (tgt := 39) hx hb dX12_expect_35 (by decide) ?_
      refine lv_iadd hx hb dX12_expect_39 ?_
      refine w_put (k := 0) (v := .int (((up2 M 0 19 ((M 0 19) ||| 0)) 0 17) + 0)) hx hb hw hown hE fl_X12_63 fw_X12_17 hM (by decide) rfl rfl (((up2 M 0 19 ((M 0 19) ||| 0)) 0 17) + 0) rfl rfl rfl hS (iv_mem (by decide)) dX12_expect_40 (fun H locs hM _ hu hS => ?_)
      have hre := Option.some.inj hf
      subst hre
      exact mu_v hx hb hrt hlocks hM hS dX12_expect_43
  · rw [if_neg c3] at hf
    refine lv_iconst (v := 1) hx hb dX12_expect_13 (by decide) ?_
    refine lv_goto (tgt := 18) hx hb dX12_expect_14 (by decide) ?_
    refine lv_ior hx hb dX12_expect_18 ?_
    obtain ⟨h6, hf⟩ := gd_some hf
    refine w_put (k := 0) (v := .int ((M 0 19) ||| 1)) hx hb hw hown hE fl_X12_69 fw_X12_19 hM (by decide) rfl rfl ((M 0 19) ||| 1) rfl (isZ_n h6) (isZ_f h6) hS (iv_mem (by decide)) dX12_expect_19 (fun H locs hM _ hu hS => ?_)
    refine lv_aload_n hx hb dX12_expect_22 rfl (lv_at hl 0 rfl) ?_
    refine lv_dup hx hb dX12_expect_23 rfl ?_
    refine w_get (k := 0) (v := .int ((up2 M 0 19 ((M 0 19) ||| 1)) 0 17)) hx hb hw hown hE fl_X12_63 hM (by decide) rfl rfl rfl dX12_expect_24 ?_
    refine lv_aload_n hx hb dX12_expect_27 rfl (lv_at hl 0 rfl) ?_
    refine w_get (k := 0) (v := .int ((up2 M 0 19 ((M 0 19) ||| 1)) 0 19)) hx hb hw hown hE fl_X12_69 hM (by decide) rfl rfl rfl dX12_expect_28 ?_
    refine lv_if_eq (tgt := 38) hx hb dX12_expect_31 (by decide) (fun c7 => ?_) (fun c7 => ?_)
    · rw [if_pos c7] at hf
      refine lv_iconst (v := 1) hx hb dX12_expect_38 (by decide) ?_
      refine lv_iadd hx hb dX12_expect_39 ?_
      refine w_put (k := 0) (v := .int (((up2 M 0 19 ((M 0 19) ||| 1)) 0 17) + 1)) hx hb hw hown hE fl_X12_63 fw_X12_17 hM (by decide) rfl rfl (((up2 M 0 19 ((M 0 19) ||| 1)) 0 17) + 1) rfl rfl rfl hS (iv_mem (by decide)) dX12_expect_40 (fun H locs hM _ hu hS => ?_)
      have hre := Option.some.inj hf
      subst hre
      exact mu_v hx hb hrt hlocks hM hS dX12_expect_43
    · rw [if_neg c7] at hf
      refine lv_iconst (v := 0) hx hb dX12_expect_34 (by decide) ?_
      refine lv_goto (tgt := 39) hx hb dX12_expect_35 (by decide) ?_
      refine lv_iadd hx hb dX12_expect_39 ?_
      refine w_put (k := 0) (v := .int (((up2 M 0 19 ((M 0 19) ||| 1)) 0 17) + 0)) hx hb hw hown hE fl_X12_63 fw_X12_17 hM (by decide) rfl rfl (((up2 M 0 19 ((M 0 19) ||| 1)) 0 17) + 0) rfl rfl rfl hS (iv_mem (by decide)) dX12_expect_40 (fun H locs hM _ hu hS => ?_)
      have hre := Option.some.inj hf
      subst hre
      exact mu_v hx hb hrt hlocks hM hS dX12_expect_43
def fX12_number_s (a1 : Int32) (z : Int32 × Int32 × Mem) : Option ((Int32 × Int32 × Mem) ⊕ (Int32 × Mem)) := (if a1 ≤ z.2.1 then some (.inr (z.1, z.2.2)) else (fX12_mark z.2.2).bind fun z2 => (fX12_in z2 (48 : Int32) (57 : Int32)).bind fun z4 => (if z4 = 0 then some (.inr (z.1, z.2.2)) else gd (inb (z.2.2 0 17) 60) (some (.inl (((((10 : Int32) * z.1) + (z.2.2 6 ((z.2.2 0 17).toNatClampNeg))) - 48), (z.2.1 + 1), (up2 z.2.2 0 17 ((z.2.2 0 17) + 1)))))))
noncomputable def fX12_number (M : Mem) (a1 : Int32) : Option (Int32 × Mem) := (fX12_mark M).bind fun z8 => (fX12_in z8 (48 : Int32) (57 : Int32)).bind fun z10 => (if z10 = 0 then gd (isZ ((M 0 19) ||| 1)) (lp (fX12_number_s a1) (0, 0, (up2 M 0 19 ((M 0 19) ||| 1)))) else gd (isZ ((M 0 19) ||| 0)) (lp (fX12_number_s a1) (0, 0, (up2 M 0 19 ((M 0 19) ||| 0)))))
set_option maxHeartbeats 4000000 in
set_option maxRecDepth 100000 in
theorem mX12_number (l : Launch) (E : EP) (B0 : Nat) (b : Nat) (hb0 : B0 ≤ b) (M : Mem) (a1 : Int32) (r : Int32 × Mem) (hf : fX12_number M a1 = some r) : MU l E B0 yX12_number cX12_number 4 (some .int) 1 0 0 [.ref (b + 0), .int a1] (Blk E b modSh 10 M) (some (.int r.1)) (Blk E b modSh 10 r.2) (iv b 10) := by
  refine mu_of (by decide +kernel) (Nat.le_of_ble_eq_true rfl) ?_
  intro p e s m args below meth c hx hb hml hown hts hrt hlocks hE H hM hS ls hl
  have hown : s.vm.findClass RX12 = some m.cls := hown
  have hl : lv_has ls 4 [(0, .ref (b + 0)), (1, .int a1)] := hl
  have hw : ∀ w ∈ WA, w.before args s = true := fun w h => hts w (List.mem_cons_of_mem _ h)
  have hAB : ∀ q, (iv b 10) q → B0 ≤ q := (iv_ge (by omega))
  unfold fX12_number at hf
  have loop : ∀ (fu : Nat) (z : Int32 × Int32 × Mem), lpI (fX12_number_s a1) fu z = some r → (∀ (H : Heap) (locs : List Loc) (ls : Array Slot), Blk E b modSh 10 z.2.2 H → va_S (iv b 10) s.heap H locs → lv_has ls 4 [(0, .ref (b + 0)), (1, .int a1), (2, .int z.1), (3, .int z.2.1)] → W p l e (rmD 1 0 0) s m args below meth c H locs 0 0 (MQ below (QU (some (.int r.1)) (Blk E b modSh 10 r.2) (iv b 10)) args s 0 0 (iv b 10)) (F0 m 32 ls [])) := by
    intro fu
    induction fu with
    | zero =>
      intro z hn
      exact nomatch hn
    | succ fu ih =>
      intro z hn
      obtain ⟨y, hf, hy⟩ := lpI_succ hn
      intro H locs ls hM hS hl
      unfold fX12_number_s at hf
      refine lv_iload_n hx hb dX12_number_32 rfl (lv_at hl 3 rfl) ?_
      refine lv_iload_n hx hb dX12_number_33 rfl (lv_at hl 1 rfl) ?_
      refine lv_icmp_ge (tgt := 85) hx hb dX12_number_34 (by decide) (fun c1 => ?_) (fun c1 => ?_)
      · rw [if_pos c1] at hf
        refine lv_iload_n hx hb dX12_number_85 rfl (lv_at hl 2 rfl) ?_
        have hre := lp_end hy (Option.some.inj hf).symm
        subst hre
        exact mu_i (v := z.1) hx hb hrt hlocks hM hS dX12_number_86
      · rw [if_neg c1] at hf
        refine lv_aload_n hx hb dX12_number_37 rfl (lv_at hl 0 rfl) ?_
        obtain ⟨z2, hc3, hf⟩ := br_some hf
        refine mu_cV (As := []) (rest := []) hx hb hml hown hts hE (mX12_mark l E B0 b (by omega) z.2.2 z2 hc3) cv_X12_233 (w_recv (k := 0) (ci := 12) hE hM (by decide) rfl rfl) hM hS hAB (fun _ h => h.elim) rfl hl.1 rfl (by decide) (Nat.le_of_ble_eq_true rfl) ⟨Nat.le_refl _, Nat.le_refl _⟩ dX12_number_38 (fun H locs hM _ hu hS => ?_)
        refine lv_bipush (v := 48) hx hb dX12_number_41 (by decide) ?_
        refine lv_bipush (v := 57) hx hb dX12_number_43 (by decide) ?_
        obtain ⟨z4, hc5, hf⟩ := br_some hf
        refine mu_cS (As := [.int z2, .int 48, .int 57]) (rest := []) hx hb hml hown hts hE (mX12_in l E B0 z2 (48 : Int32) (57 : Int32) z4 hc5) cs_X12_76 trivial hS hAB (fun _ h => h.elim) rfl hl.1 rfl (by decide) (Nat.le_of_ble_eq_true rfl) ⟨Nat.le_refl _, Nat.le_refl _⟩ dX12_number_45 (fun H locs _ _ hu hS => ?_)
        have hM := Blk.off hM hu (fun _ _ _ h => h)
        refine lv_if_eq (tgt := 85) hx hb dX12_number_48 (by decide) (fun c6 => ?_) (fun c6 => ?_)
        · rw [if_pos c6] at hf
          refine lv_iload_n hx hb dX12_number_85 rfl (lv_at hl 2 rfl) ?_
          have hre := lp_end hy (Option.some.inj hf).symm
          subst hre
          exact mu_i (v := z.1) hx hb hrt hlocks hM hS dX12_number_86
        · rw [if_neg c6] at hf
          refine lv_bipush (v := 10) hx hb dX12_number_51 (by decide) ?_
          refine lv_iload_n hx hb dX12_number_53 rfl (lv_at hl 2 rfl) ?_
          refine lv_imul hx hb dX12_number_54 ?_
          refine lv_aload_n hx hb dX12_number_55 rfl (lv_at hl 0 rfl) ?_
          refine w_get (k := 0) (v := .ref (b + 6)) hx hb hw hown hE fl_X12_45 hM (by decide) rfl rfl rfl dX12_number_56 ?_
          refine lv_aload_n hx hb dX12_number_59 rfl (lv_at hl 0 rfl) ?_
          refine w_get (k := 0) (v := .int (z.2.2 0 17)) hx hb hw hown hE fl_X12_63 hM (by decide) rfl rfl rfl dX12_number_60 ?_
          obtain ⟨h7, hf⟩ := gd_some hf
          refine w_iald (k := 6) (x9 := (z.2.2 0 17).toNatClampNeg) hx hb hE hM (by decide) rfl rfl h7 dX12_number_63 ?_
          refine lv_iadd hx hb dX12_number_64 ?_
          refine lv_bipush (v := 48) hx hb dX12_number_65 (by decide) ?_
          refine lv_isub hx hb dX12_number_67 ?_
          refine lv_istore_n (lv' := [(2, .int ((((10 : Int32) * z.1) + (z.2.2 6 ((z.2.2 0 17).toNatClampNeg))) - 48)), (0, .ref (b + 0)), (1, .int a1), (3, .int z.2.1)]) hx hb dX12_number_68 rfl hl (by decide) rfl (fun ls hl => ?_)
          refine lv_aload_n hx hb dX12_number_69 rfl (lv_at hl 1 rfl) ?_
          refine lv_dup hx hb dX12_number_70 rfl ?_
          refine w_get (k := 0) (v := .int (z.2.2 0 17)) hx hb hw hown hE fl_X12_63 hM (by decide) rfl rfl rfl dX12_number_71 ?_
          refine lv_iconst (v := 1) hx hb dX12_number_74 (by decide) ?_
          refine lv_iadd hx hb dX12_number_75 ?_
          refine w_put (k := 0) (v := .int ((z.2.2 0 17) + 1)) hx hb hw hown hE fl_X12_63 fw_X12_17 hM (by decide) rfl rfl ((z.2.2 0 17) + 1) rfl rfl rfl hS (iv_mem (by decide)) dX12_number_76 (fun H locs hM _ hu hS => ?_)
          refine lv_iinc (v := (z.2.1 + 1)) (lv' := [(3, .int (z.2.1 + 1)), (2, .int ((((10 : Int32) * z.1) + (z.2.2 6 ((z.2.2 0 17).toNatClampNeg))) - 48)), (0, .ref (b + 0)), (1, .int a1)]) hx hb dX12_number_79 hl (k := 3) rfl rfl (by decide) rfl (fun ls hl => ?_)
          refine lv_goto (tgt := 32) hx hb dX12_number_82 (by decide) ?_
          exact ih (((((10 : Int32) * z.1) + (z.2.2 6 ((z.2.2 0 17).toNatClampNeg))) - 48), (z.2.1 + 1), (up2 z.2.2 0 17 ((z.2.2 0 17) + 1))) (lp_back hy (Option.some.inj hf).symm) _ _ _ hM hS (lv_sub hl [2, 3, 1, 0] rfl)
  refine lv_aload_n hx hb dX12_number_0 rfl (lv_at hl 0 rfl) ?_
  refine lv_dup hx hb dX12_number_1 rfl ?_
  refine w_get (k := 0) (v := .int (M 0 19)) hx hb hw hown hE fl_X12_69 hM (by decide) rfl rfl rfl dX12_number_2 ?_
  refine lv_aload_n hx hb dX12_number_5 rfl (lv_at hl 0 rfl) ?_
  obtain ⟨z8, hc9, hf⟩ := br_some hf
  refine mu_cV (As := []) (rest := [.int (M 0 19), .ref (b + 0)]) hx hb hml hown hts hE (mX12_mark l E B0 b (by omega) M z8 hc9) cv_X12_233 (w_recv (k := 0) (ci := 12) hE hM (by decide) rfl rfl) hM hS hAB (fun _ h => h.elim) rfl hl.1 rfl (by decide) (Nat.le_of_ble_eq_true rfl) ⟨Nat.le_refl _, Nat.le_refl _⟩ dX12_number_6 (fun H locs hM _ hu hS => ?_)
  refine lv_bipush (v := 48) hx hb dX12_number_9 (by decide) ?_
  refine lv_bipush (v := 57) hx hb dX12_number_11 (by decide) ?_
  obtain ⟨z10, hc11, hf⟩ := br_some hf
  refine mu_cS (As := [.int z8, .int 48, .int 57]) (rest := [.int (M 0 19), .ref (b + 0)]) hx hb hml hown hts hE (mX12_in l E B0 z8 (48 : Int32) (57 : Int32) z10 hc11) cs_X12_76 trivial hS hAB (fun _ h => h.elim) rfl hl.1 rfl (by decide) (Nat.le_of_ble_eq_true rfl) ⟨Nat.le_refl _, Nat.le_refl _⟩ dX12_number_13 (fun H locs _ _ hu hS => ?_)
  have hM := Blk.off hM hu (fun _ _ _ h => h)
  refine lv_if_ne (tgt := 23) hx hb dX12_number_16 (by decide) (fun c12 => ?_) (fun c12 => ?_)
  · rw [if_neg c12] at hf
    refine lv_iconst (v := 0) hx hb dX12_number_23 (by decide) ?_
    refine lv_ior hx hb dX12_number_24 ?_
    obtain ⟨h13, hf⟩ := gd_some hf
    refine w_put (k := 0) (v := .int ((M 0 19) ||| 0)) hx hb hw hown hE fl_X12_69 fw_X12_19 hM (by decide) rfl rfl ((M 0 19) ||| 0) rfl (isZ_n h13) (isZ_f h13) hS (iv_mem (by decide)) dX12_number_25 (fun H locs hM _ hu hS => ?_)
    refine lv_iconst (v := 0) hx hb dX12_number_28 (by decide) ?_
    refine lv_istore_n (lv' := [(2, .int 0), (0, .ref (b + 0)), (1, .int a1)]) hx hb dX12_number_29 rfl hl (by decide) rfl (fun ls hl => ?_)
    refine lv_iconst (v := 0) hx hb dX12_number_30 (by decide) ?_
    refine lv_istore_n (lv' := [(3, .int 0), (2, .int 0), (0, .ref (b + 0)), (1, .int a1)]) hx hb dX12_number_31 rfl hl (by decide) rfl (fun ls hl => ?_)
    obtain ⟨fu, hfu⟩ := lp_some hf
    exact (loop fu (0, 0, (up2 M 0 19 ((M 0 19) ||| 0))) hfu) _ _ _ hM hS (lv_sub hl [2, 3, 1, 0] rfl)
  · rw [if_pos c12] at hf
    refine lv_iconst (v := 1) hx hb dX12_number_19 (by decide) ?_
    refine lv_goto (tgt := 24) hx hb dX12_number_20 (by decide) ?_
    refine lv_ior hx hb dX12_number_24 ?_
    obtain ⟨h14, hf⟩ := gd_some hf
    refine w_put (k := 0) (v := .int ((M 0 19) ||| 1)) hx hb hw hown hE fl_X12_69 fw_X12_19 hM (by decide) rfl rfl ((M 0 19) ||| 1) rfl (isZ_n h14) (isZ_f h14) hS (iv_mem (by decide)) dX12_number_25 (fun H locs hM _ hu hS => ?_)
    refine lv_iconst (v := 0) hx hb dX12_number_28 (by decide) ?_
    refine lv_istore_n (lv' := [(2, .int 0), (0, .ref (b + 0)), (1, .int a1)]) hx hb dX12_number_29 rfl hl (by decide) rfl (fun ls hl => ?_)
    refine lv_iconst (v := 0) hx hb dX12_number_30 (by decide) ?_
    refine lv_istore_n (lv' := [(3, .int 0), (2, .int 0), (0, .ref (b + 0)), (1, .int a1)]) hx hb dX12_number_31 rfl hl (by decide) rfl (fun ls hl => ?_)
    obtain ⟨fu, hfu⟩ := lp_some hf
    exact (loop fu (0, 0, (up2 M 0 19 ((M 0 19) ||| 1))) hfu) _ _ _ hM hS (lv_sub hl [2, 3, 1, 0] rfl)
def fX12_capital (M : Mem) : Option (Int32 × Mem) := (fX12_mark M).bind fun z1 => (fX12_in z1 (65 : Int32) (90 : Int32)).bind fun z3 => (if z3 = 0 then gd (isZ ((M 0 19) ||| 1)) ((if ((up2 M 0 19 ((M 0 19) ||| 1)) 0 19) = 0 then some (z1, (up2 (up2 M 0 19 ((M 0 19) ||| 1)) 0 17 (((up2 M 0 19 ((M 0 19) ||| 1)) 0 17) + 1))) else some (z1, (up2 (up2 M 0 19 ((M 0 19) ||| 1)) 0 17 (((up2 M 0 19 ((M 0 19) ||| 1)) 0 17) + 0))))) else gd (isZ ((M 0 19) ||| 0)) ((if ((up2 M 0 19 ((M 0 19) ||| 0)) 0 19) = 0 then some (z1, (up2 (up2 M 0 19 ((M 0 19) ||| 0)) 0 17 (((up2 M 0 19 ((M 0 19) ||| 0)) 0 17) + 1))) else some (z1, (up2 (up2 M 0 19 ((M 0 19) ||| 0)) 0 17 (((up2 M 0 19 ((M 0 19) ||| 0)) 0 17) + 0))))))
set_option maxHeartbeats 4000000 in
set_option maxRecDepth 100000 in
theorem mX12_capital (l : Launch) (E : EP) (B0 : Nat) (b : Nat) (hb0 : B0 ≤ b) (M : Mem) (r : Int32 × Mem) (hf : fX12_capital M = some r) : MU l E B0 yX12_capital cX12_capital 2 (some .int) 1 0 0 [.ref (b + 0)] (Blk E b modSh 10 M) (some (.int r.1)) (Blk E b modSh 10 r.2) (iv b 10) := by
  refine mu_of (by decide +kernel) (Nat.le_of_ble_eq_true rfl) ?_
  intro p e s m args below meth c hx hb hml hown hts hrt hlocks hE H hM hS ls hl
  have hown : s.vm.findClass RX12 = some m.cls := hown
  have hl : lv_has ls 2 [(0, .ref (b + 0))] := hl
  have hw : ∀ w ∈ WA, w.before args s = true := fun w h => hts w (List.mem_cons_of_mem _ h)
  have hAB : ∀ q, (iv b 10) q → B0 ≤ q := (iv_ge (by omega))
  unfold fX12_capital at hf
  refine lv_aload_n hx hb dX12_capital_0 rfl (lv_at hl 0 rfl) ?_
  obtain ⟨z1, hc2, hf⟩ := br_some hf
  refine mu_cV (As := []) (rest := []) hx hb hml hown hts hE (mX12_mark l E B0 b (by omega) M z1 hc2) cv_X12_233 (w_recv (k := 0) (ci := 12) hE hM (by decide) rfl rfl) hM hS hAB (fun _ h => h.elim) rfl hl.1 rfl (by decide) (Nat.le_of_ble_eq_true rfl) ⟨Nat.le_refl _, Nat.le_refl _⟩ dX12_capital_1 (fun H locs hM _ hu hS => ?_)
  refine lv_istore_n (lv' := [(1, .int z1), (0, .ref (b + 0))]) hx hb dX12_capital_4 rfl hl (by decide) rfl (fun ls hl => ?_)
  refine lv_aload_n hx hb dX12_capital_5 rfl (lv_at hl 1 rfl) ?_
  refine lv_dup hx hb dX12_capital_6 rfl ?_
  refine w_get (k := 0) (v := .int (M 0 19)) hx hb hw hown hE fl_X12_69 hM (by decide) rfl rfl rfl dX12_capital_7 ?_
  refine lv_iload_n hx hb dX12_capital_10 rfl (lv_at hl 0 rfl) ?_
  refine lv_bipush (v := 65) hx hb dX12_capital_11 (by decide) ?_
  refine lv_bipush (v := 90) hx hb dX12_capital_13 (by decide) ?_
  obtain ⟨z3, hc4, hf⟩ := br_some hf
  refine mu_cS (As := [.int z1, .int 65, .int 90]) (rest := [.int (M 0 19), .ref (b + 0)]) hx hb hml hown hts hE (mX12_in l E B0 z1 (65 : Int32) (90 : Int32) z3 hc4) cs_X12_76 trivial hS hAB (fun _ h => h.elim) rfl hl.1 rfl (by decide) (Nat.le_of_ble_eq_true rfl) ⟨Nat.le_refl _, Nat.le_refl _⟩ dX12_capital_15 (fun H locs _ _ hu hS => ?_)
  have hM := Blk.off hM hu (fun _ _ _ h => h)
  refine lv_if_ne (tgt := 25) hx hb dX12_capital_18 (by decide) (fun c5 => ?_) (fun c5 => ?_)
  · rw [if_neg c5] at hf
    refine lv_iconst (v := 0) hx hb dX12_capital_25 (by decide) ?_
    refine lv_ior hx hb dX12_capital_26 ?_
    obtain ⟨h6, hf⟩ := gd_some hf
    refine w_put (k := 0) (v := .int ((M 0 19) ||| 0)) hx hb hw hown hE fl_X12_69 fw_X12_19 hM (by decide) rfl rfl ((M 0 19) ||| 0) rfl (isZ_n h6) (isZ_f h6) hS (iv_mem (by decide)) dX12_capital_27 (fun H locs hM _ hu hS => ?_)
    refine lv_aload_n hx hb dX12_capital_30 rfl (lv_at hl 1 rfl) ?_
    refine lv_dup hx hb dX12_capital_31 rfl ?_
    refine w_get (k := 0) (v := .int ((up2 M 0 19 ((M 0 19) ||| 0)) 0 17)) hx hb hw hown hE fl_X12_63 hM (by decide) rfl rfl rfl dX12_capital_32 ?_
    refine lv_aload_n hx hb dX12_capital_35 rfl (lv_at hl 1 rfl) ?_
    refine w_get (k := 0) (v := .int ((up2 M 0 19 ((M 0 19) ||| 0)) 0 19)) hx hb hw hown hE fl_X12_69 hM (by decide) rfl rfl rfl dX12_capital_36 ?_
    refine lv_if_eq (tgt := 46) hx hb dX12_capital_39 (by decide) (fun c7 => ?_) (fun c7 => ?_)
    · rw [if_pos c7] at hf
      refine lv_iconst (v := 1) hx hb dX12_capital_46 (by decide) ?_
      refine lv_iadd hx hb dX12_capital_47 ?_
      refine w_put (k := 0) (v := .int (((up2 M 0 19 ((M 0 19) ||| 0)) 0 17) + 1)) hx hb hw hown hE fl_X12_63 fw_X12_17 hM (by decide) rfl rfl (((up2 M 0 19 ((M 0 19) ||| 0)) 0 17) + 1) rfl rfl rfl hS (iv_mem (by decide)) dX12_capital_48 (fun H locs hM _ hu hS => ?_)
      refine lv_iload_n hx hb dX12_capital_51 rfl (lv_at hl 0 rfl) ?_
      have hre := Option.some.inj hf
      subst hre
      exact mu_i (v := z1) hx hb hrt hlocks hM hS dX12_capital_52
    · rw [if_neg c7] at hf
      refine lv_iconst (v := 0) hx hb dX12_capital_42 (by decide) ?_
      refine lv_goto (tgt := 47) hx hb dX12_capital_43 (by decide) ?_
      refine lv_iadd hx hb dX12_capital_47 ?_
      refine w_put (k := 0) (v := .int (((up2 M 0 19 ((M 0 19) ||| 0)) 0 17) + 0)) hx hb hw hown hE fl_X12_63 fw_X12_17 hM (by decide) rfl rfl (((up2 M 0 19 ((M 0 19) ||| 0)) 0 17) + 0) rfl rfl rfl hS (iv_mem (by decide)) dX12_capital_48 (fun H locs hM _ hu hS => ?_)
      refine lv_iload_n hx hb dX12_capital_51 rfl (lv_at hl 0 rfl) ?_
      have hre := Option.some.inj hf
      subst hre
      exact mu_i (v := z1) hx hb hrt hlocks hM hS dX12_capital_52
  · rw [if_pos c5] at hf
    refine lv_iconst (v := 1) hx hb dX12_capital_21 (by decide) ?_
    refine lv_goto (tgt := 26) hx hb dX12_capital_22 (by decide) ?_
    refine lv_ior hx hb dX12_capital_26 ?_
    obtain ⟨h8, hf⟩ := gd_some hf
    refine w_put (k := 0) (v := .int ((M 0 19) ||| 1)) hx hb hw hown hE fl_X12_69 fw_X12_19 hM (by decide) rfl rfl ((M 0 19) ||| 1) rfl (isZ_n h8) (isZ_f h8) hS (iv_mem (by decide)) dX12_capital_27 (fun H locs hM _ hu hS => ?_)
    refine lv_aload_n hx hb dX12_capital_30 rfl (lv_at hl 1 rfl) ?_
    refine lv_dup hx hb dX12_capital_31 rfl ?_
    refine w_get (k := 0) (v := .int ((up2 M 0 19 ((M 0 19) ||| 1)) 0 17)) hx hb hw hown hE fl_X12_63 hM (by decide) rfl rfl rfl dX12_capital_32 ?_
    refine lv_aload_n hx hb dX12_capital_35 rfl (lv_at hl 1 rfl) ?_
    refine w_get (k := 0) (v := .int ((up2 M 0 19 ((M 0 19) ||| 1)) 0 19)) hx hb hw hown hE fl_X12_69 hM (by decide) rfl rfl rfl dX12_capital_36 ?_
    refine lv_if_eq (tgt := 46) hx hb dX12_capital_39 (by decide) (fun c9 => ?_) (fun c9 => ?_)
    · rw [if_pos c9] at hf
      refine lv_iconst (v := 1) hx hb dX12_capital_46 (by decide) ?_
      refine lv_iadd hx hb dX12_capital_47 ?_
      refine w_put (k := 0) (v := .int (((up2 M 0 19 ((M 0 19) ||| 1)) 0 17) + 1)) hx hb hw hown hE fl_X12_63 fw_X12_17 hM (by decide) rfl rfl (((up2 M 0 19 ((M 0 19) ||| 1)) 0 17) + 1) rfl rfl rfl hS (iv_mem (by decide)) dX12_capital_48 (fun H locs hM _ hu hS => ?_)
      refine lv_iload_n hx hb dX12_capital_51 rfl (lv_at hl 0 rfl) ?_
      have hre := Option.some.inj hf
      subst hre
      exact mu_i (v := z1) hx hb hrt hlocks hM hS dX12_capital_52
    · rw [if_neg c9] at hf
      refine lv_iconst (v := 0) hx hb dX12_capital_42 (by decide) ?_
      refine lv_goto (tgt := 47) hx hb dX12_capital_43 (by decide) ?_
      refine lv_iadd hx hb dX12_capital_47 ?_
      refine w_put (k := 0) (v := .int (((up2 M 0 19 ((M 0 19) ||| 1)) 0 17) + 0)) hx hb hw hown hE fl_X12_63 fw_X12_17 hM (by decide) rfl rfl (((up2 M 0 19 ((M 0 19) ||| 1)) 0 17) + 0) rfl rfl rfl hS (iv_mem (by decide)) dX12_capital_48 (fun H locs hM _ hu hS => ?_)
      refine lv_iload_n hx hb dX12_capital_51 rfl (lv_at hl 0 rfl) ?_
      have hre := Option.some.inj hf
      subst hre
      exact mu_i (v := z1) hx hb hrt hlocks hM hS dX12_capital_52
def fX12_pick (a1 : Int32) (a2 : Int32) (a3 : Int32) (a4 : Int32) (a5 : Int32) (a6 : Int32) (a7 : Int32) (a8 : Int32) : Option (Int32) := (if a1 = 0 then some a2 else (if a1 = 1 then some a3 else (if a1 = 2 then some a4 else (if a1 = 3 then some a5 else (if a1 = 4 then some a6 else (if a1 = 5 then some a7 else (if a1 = 6 then some a8 else some 0)))))))
set_option maxHeartbeats 4000000 in
set_option maxRecDepth 100000 in
theorem mX12_pick (l : Launch) (E : EP) (B0 : Nat) (a1 : Int32) (a2 : Int32) (a3 : Int32) (a4 : Int32) (a5 : Int32) (a6 : Int32) (a7 : Int32) (a8 : Int32) (r : Int32) (hf : fX12_pick a1 a2 a3 a4 a5 a6 a7 a8 = some r) : MU l E B0 yX12_pick cX12_pick 8 (some .int) 0 0 0 [.int a1, .int a2, .int a3, .int a4, .int a5, .int a6, .int a7, .int a8] (fun _ => True) (some (.int r)) (fun _ => True) nv := by
  refine mu_of (by decide +kernel) (Nat.le_of_ble_eq_true rfl) ?_
  intro p e s m args below meth c hx hb hml hown hts hrt hlocks hE H _ hS ls hl
  have hown : s.vm.findClass RX12 = some m.cls := hown
  have hl : lv_has ls 8 [(0, .int a1), (1, .int a2), (2, .int a3), (3, .int a4), (4, .int a5), (5, .int a6), (6, .int a7), (7, .int a8)] := hl
  have hw : ∀ w ∈ WA, w.before args s = true := fun w h => hts w (List.mem_cons_of_mem _ h)
  have hAB : ∀ q, nv q → B0 ≤ q := fun _ h => h.elim
  unfold fX12_pick at hf
  refine lv_iload_n hx hb dX12_pick_0 rfl (lv_at hl 0 rfl) ?_
  by_cases c1 : a1 = 0
  · rw [if_pos c1] at hf
    refine lv_tableIn (off := 43) (tgt := 44) hx hb dX12_pick_1 (by rw [c1]; decide) (by rw [c1]; decide) (by rw [c1]; rfl) (by decide) ?_
    refine lv_iload_n hx hb dX12_pick_44 rfl (lv_at hl 1 rfl) ?_
    have hre := Option.some.inj hf
    subst hre
    exact mu_i (v := a2) hx hb hrt hlocks trivial hS dX12_pick_45
  rw [if_neg c1] at hf
  by_cases c2 : a1 = 1
  · rw [if_pos c2] at hf
    refine lv_tableIn (off := 45) (tgt := 46) hx hb dX12_pick_1 (by rw [c2]; decide) (by rw [c2]; decide) (by rw [c2]; rfl) (by decide) ?_
    refine lv_iload_n hx hb dX12_pick_46 rfl (lv_at hl 2 rfl) ?_
    have hre := Option.some.inj hf
    subst hre
    exact mu_i (v := a3) hx hb hrt hlocks trivial hS dX12_pick_47
  rw [if_neg c2] at hf
  by_cases c3 : a1 = 2
  · rw [if_pos c3] at hf
    refine lv_tableIn (off := 47) (tgt := 48) hx hb dX12_pick_1 (by rw [c3]; decide) (by rw [c3]; decide) (by rw [c3]; rfl) (by decide) ?_
    refine lv_iload_n hx hb dX12_pick_48 rfl (lv_at hl 3 rfl) ?_
    have hre := Option.some.inj hf
    subst hre
    exact mu_i (v := a4) hx hb hrt hlocks trivial hS dX12_pick_49
  rw [if_neg c3] at hf
  by_cases c4 : a1 = 3
  · rw [if_pos c4] at hf
    refine lv_tableIn (off := 49) (tgt := 50) hx hb dX12_pick_1 (by rw [c4]; decide) (by rw [c4]; decide) (by rw [c4]; rfl) (by decide) ?_
    refine lv_iload hx hb dX12_pick_50 (lv_at hl 4 rfl) ?_
    have hre := Option.some.inj hf
    subst hre
    exact mu_i (v := a5) hx hb hrt hlocks trivial hS dX12_pick_52
  rw [if_neg c4] at hf
  by_cases c5 : a1 = 4
  · rw [if_pos c5] at hf
    refine lv_tableIn (off := 52) (tgt := 53) hx hb dX12_pick_1 (by rw [c5]; decide) (by rw [c5]; decide) (by rw [c5]; rfl) (by decide) ?_
    refine lv_iload hx hb dX12_pick_53 (lv_at hl 5 rfl) ?_
    have hre := Option.some.inj hf
    subst hre
    exact mu_i (v := a6) hx hb hrt hlocks trivial hS dX12_pick_55
  rw [if_neg c5] at hf
  by_cases c6 : a1 = 5
  · rw [if_pos c6] at hf
    refine lv_tableIn (off := 55) (tgt := 56) hx hb dX12_pick_1 (by rw [c6]; decide) (by rw [c6]; decide) (by rw [c6]; rfl) (by decide) ?_
    refine lv_iload hx hb dX12_pick_56 (lv_at hl 6 rfl) ?_
    have hre := Option.some.inj hf
    subst hre
    exact mu_i (v := a7) hx hb hrt hlocks trivial hS dX12_pick_58
  rw [if_neg c6] at hf
  by_cases c7 : a1 = 6
  · rw [if_pos c7] at hf
    refine lv_tableIn (off := 58) (tgt := 59) hx hb dX12_pick_1 (by rw [c7]; decide) (by rw [c7]; decide) (by rw [c7]; rfl) (by decide) ?_
    refine lv_iload hx hb dX12_pick_59 (lv_at hl 7 rfl) ?_
    have hre := Option.some.inj hf
    subst hre
    exact mu_i (v := a8) hx hb hrt hlocks trivial hS dX12_pick_61
  rw [if_neg c7] at hf
  refine lv_tableOut (tgt := 62) hx hb dX12_pick_1 (by have q0 := i32ne (k := 0) c1 (by decide); have q1 := i32ne (k := 1) c2 (by decide); have q2 := i32ne (k := 2) c3 (by decide); have q3 := i32ne (k := 3) c4 (by decide); have q4 := i32ne (k := 4) c5 (by decide); have q5 := i32ne (k := 5) c6 (by decide); have q6 := i32ne (k := 6) c7 (by decide); omega) (by decide) ?_
  refine lv_iconst (v := 0) hx hb dX12_pick_62 (by decide) ?_
  have hre := Option.some.inj hf
  subst hre
  exact mu_i (v := 0) hx hb hrt hlocks trivial hS dX12_pick_63
def fX12_spelled (a1 : Int32) (a2 : Int32) : Option (Int32) := (if a1 = 0 then (fX12_pick a2 (115 : Int32) (116 : Int32) (97 : Int32) (116 : Int32) (105 : Int32) (111 : Int32) (110 : Int32)).bind fun z2 => some z2 else (if a1 = 1 then (fX12_pick a2 (109 : Int32) (111 : Int32) (118 : Int32) (101 : Int32) (0 : Int32) (0 : Int32) (0 : Int32)).bind fun z5 => some z5 else (if a1 = 2 then (fX12_pick a2 (112 : Int32) (111 : Int32) (119 : Int32) (101 : Int32) (114 : Int32) (0 : Int32) (0 : Int32)).bind fun z8 => some z8 else (if a1 = 3 then (fX12_pick a2 (116 : Int32) (117 : Int32) (110 : Int32) (101 : Int32) (0 : Int32) (0 : Int32) (0 : Int32)).bind fun z11 => some z11 else (if a1 = 4 then (fX12_pick a2 (99 : Int32) (97 : Int32) (108 : Int32) (108 : Int32) (0 : Int32) (0 : Int32) (0 : Int32)).bind fun z14 => some z14 else (if a1 = 5 then (fX12_pick a2 (111 : Int32) (118 : Int32) (101 : Int32) (114 : Int32) (0 : Int32) (0 : Int32) (0 : Int32)).bind fun z17 => some z17 else (if a1 = 6 then (fX12_pick a2 (99 : Int32) (97 : Int32) (110 : Int32) (99 : Int32) (101 : Int32) (108 : Int32) (0 : Int32)).bind fun z20 => some z20 else (if a1 = 7 then (fX12_pick a2 (108 : Int32) (105 : Int32) (109 : Int32) (105 : Int32) (116 : Int32) (0 : Int32) (0 : Int32)).bind fun z23 => some z23 else (fX12_pick a2 (119 : Int32) (97 : Int32) (105 : Int32) (116 : Int32) (0 : Int32) (0 : Int32) (0 : Int32)).bind fun z25 => some z25))))))))
set_option maxHeartbeats 4000000 in
set_option maxRecDepth 100000 in
theorem mX12_spelled (l : Launch) (E : EP) (B0 : Nat) (a1 : Int32) (a2 : Int32) (r : Int32) (hf : fX12_spelled a1 a2 = some r) : MU l E B0 yX12_spelled cX12_spelled 2 (some .int) 1 0 0 [.int a1, .int a2] (fun _ => True) (some (.int r)) (fun _ => True) nv := by
  refine mu_of (by decide +kernel) (Nat.le_of_ble_eq_true rfl) ?_
  intro p e s m args below meth c hx hb hml hown hts hrt hlocks hE H _ hS ls hl
  have hown : s.vm.findClass RX12 = some m.cls := hown
  have hl : lv_has ls 2 [(0, .int a1), (1, .int a2)] := hl
  have hw : ∀ w ∈ WA, w.before args s = true := fun w h => hts w (List.mem_cons_of_mem _ h)
  have hAB : ∀ q, nv q → B0 ≤ q := fun _ h => h.elim
  unfold fX12_spelled at hf
  refine lv_iload_n hx hb dX12_spelled_0 rfl (lv_at hl 0 rfl) ?_
  by_cases c1 : a1 = 0
  · rw [if_pos c1] at hf
    refine lv_tableIn (off := 47) (tgt := 48) hx hb dX12_spelled_1 (by rw [c1]; decide) (by rw [c1]; decide) (by rw [c1]; rfl) (by decide) ?_
    refine lv_iload_n hx hb dX12_spelled_48 rfl (lv_at hl 1 rfl) ?_
    refine lv_bipush (v := 115) hx hb dX12_spelled_49 (by decide) ?_
    refine lv_bipush (v := 116) hx hb dX12_spelled_51 (by decide) ?_
    refine lv_bipush (v := 97) hx hb dX12_spelled_53 (by decide) ?_
    refine lv_bipush (v := 116) hx hb dX12_spelled_55 (by decide) ?_
    refine lv_bipush (v := 105) hx hb dX12_spelled_57 (by decide) ?_
    refine lv_bipush (v := 111) hx hb dX12_spelled_59 (by decide) ?_
    refine lv_bipush (v := 110) hx hb dX12_spelled_61 (by decide) ?_
    obtain ⟨z2, hc3, hf⟩ := br_some hf
    refine mu_cS (As := [.int a2, .int 115, .int 116, .int 97, .int 116, .int 105, .int 111, .int 110]) (rest := []) hx hb hml hown hts hE (mX12_pick l E B0 a2 (115 : Int32) (116 : Int32) (97 : Int32) (116 : Int32) (105 : Int32) (111 : Int32) (110 : Int32) z2 hc3) cs_X12_236 trivial hS hAB (fun _ h => h.elim) rfl hl.1 rfl (by decide) (Nat.le_of_ble_eq_true rfl) ⟨Nat.le_refl _, Nat.le_refl _⟩ dX12_spelled_63 (fun H locs _ _ hu hS => ?_)
    have hre := Option.some.inj hf
    subst hre
    exact mu_i (v := z2) hx hb hrt hlocks trivial hS dX12_spelled_66
  rw [if_neg c1] at hf
  by_cases c4 : a1 = 1
  · rw [if_pos c4] at hf
    refine lv_tableIn (off := 66) (tgt := 67) hx hb dX12_spelled_1 (by rw [c4]; decide) (by rw [c4]; decide) (by rw [c4]; rfl) (by decide) ?_
    refine lv_iload_n hx hb dX12_spelled_67 rfl (lv_at hl 1 rfl) ?_
    refine lv_bipush (v := 109) hx hb dX12_spelled_68 (by decide) ?_
    refine lv_bipush (v := 111) hx hb dX12_spelled_70 (by decide) ?_
    refine lv_bipush (v := 118) hx hb dX12_spelled_72 (by decide) ?_
    refine lv_bipush (v := 101) hx hb dX12_spelled_74 (by decide) ?_
    refine lv_iconst (v := 0) hx hb dX12_spelled_76 (by decide) ?_
    refine lv_iconst (v := 0) hx hb dX12_spelled_77 (by decide) ?_
    refine lv_iconst (v := 0) hx hb dX12_spelled_78 (by decide) ?_
    obtain ⟨z5, hc6, hf⟩ := br_some hf
    refine mu_cS (As := [.int a2, .int 109, .int 111, .int 118, .int 101, .int 0, .int 0, .int 0]) (rest := []) hx hb hml hown hts hE (mX12_pick l E B0 a2 (109 : Int32) (111 : Int32) (118 : Int32) (101 : Int32) (0 : Int32) (0 : Int32) (0 : Int32) z5 hc6) cs_X12_236 trivial hS hAB (fun _ h => h.elim) rfl hl.1 rfl (by decide) (Nat.le_of_ble_eq_true rfl) ⟨Nat.le_refl _, Nat.le_refl _⟩ dX12_spelled_79 (fun H locs _ _ hu hS => ?_)
    have hre := Option.some.inj hf
    subst hre
    exact mu_i (v := z5) hx hb hrt hlocks trivial hS dX12_spelled_82
  rw [if_neg c4] at hf
  by_cases c7 : a1 = 2
  · rw [if_pos c7] at hf
    refine lv_tableIn (off := 82) (tgt := 83) hx hb dX12_spelled_1 (by rw [c7]; decide) (by rw [c7]; decide) (by rw [c7]; rfl) (by decide) ?_
    refine lv_iload_n hx hb dX12_spelled_83 rfl (lv_at hl 1 rfl) ?_
    refine lv_bipush (v := 112) hx hb dX12_spelled_84 (by decide) ?_
    refine lv_bipush (v := 111) hx hb dX12_spelled_86 (by decide) ?_
    refine lv_bipush (v := 119) hx hb dX12_spelled_88 (by decide) ?_
    refine lv_bipush (v := 101) hx hb dX12_spelled_90 (by decide) ?_
    refine lv_bipush (v := 114) hx hb dX12_spelled_92 (by decide) ?_
    refine lv_iconst (v := 0) hx hb dX12_spelled_94 (by decide) ?_
    refine lv_iconst (v := 0) hx hb dX12_spelled_95 (by decide) ?_
    obtain ⟨z8, hc9, hf⟩ := br_some hf
    refine mu_cS (As := [.int a2, .int 112, .int 111, .int 119, .int 101, .int 114, .int 0, .int 0]) (rest := []) hx hb hml hown hts hE (mX12_pick l E B0 a2 (112 : Int32) (111 : Int32) (119 : Int32) (101 : Int32) (114 : Int32) (0 : Int32) (0 : Int32) z8 hc9) cs_X12_236 trivial hS hAB (fun _ h => h.elim) rfl hl.1 rfl (by decide) (Nat.le_of_ble_eq_true rfl) ⟨Nat.le_refl _, Nat.le_refl _⟩ dX12_spelled_96 (fun H locs _ _ hu hS => ?_)
    have hre := Option.some.inj hf
    subst hre
    exact mu_i (v := z8) hx hb hrt hlocks trivial hS dX12_spelled_99
  rw [if_neg c7] at hf
  by_cases c10 : a1 = 3
  · rw [if_pos c10] at hf
    refine lv_tableIn (off := 99) (tgt := 100) hx hb dX12_spelled_1 (by rw [c10]; decide) (by rw [c10]; decide) (by rw [c10]; rfl) (by decide) ?_
    refine lv_iload_n hx hb dX12_spelled_100 rfl (lv_at hl 1 rfl) ?_
    refine lv_bipush (v := 116) hx hb dX12_spelled_101 (by decide) ?_
    refine lv_bipush (v := 117) hx hb dX12_spelled_103 (by decide) ?_
    refine lv_bipush (v := 110) hx hb dX12_spelled_105 (by decide) ?_
    refine lv_bipush (v := 101) hx hb dX12_spelled_107 (by decide) ?_
    refine lv_iconst (v := 0) hx hb dX12_spelled_109 (by decide) ?_
    refine lv_iconst (v := 0) hx hb dX12_spelled_110 (by decide) ?_
    refine lv_iconst (v := 0) hx hb dX12_spelled_111 (by decide) ?_
    obtain ⟨z11, hc12, hf⟩ := br_some hf
    refine mu_cS (As := [.int a2, .int 116, .int 117, .int 110, .int 101, .int 0, .int 0, .int 0]) (rest := []) hx hb hml hown hts hE (mX12_pick l E B0 a2 (116 : Int32) (117 : Int32) (110 : Int32) (101 : Int32) (0 : Int32) (0 : Int32) (0 : Int32) z11 hc12) cs_X12_236 trivial hS hAB (fun _ h => h.elim) rfl hl.1 rfl (by decide) (Nat.le_of_ble_eq_true rfl) ⟨Nat.le_refl _, Nat.le_refl _⟩ dX12_spelled_112 (fun H locs _ _ hu hS => ?_)
    have hre := Option.some.inj hf
    subst hre
    exact mu_i (v := z11) hx hb hrt hlocks trivial hS dX12_spelled_115
  rw [if_neg c10] at hf
  by_cases c13 : a1 = 4
  · rw [if_pos c13] at hf
    refine lv_tableIn (off := 115) (tgt := 116) hx hb dX12_spelled_1 (by rw [c13]; decide) (by rw [c13]; decide) (by rw [c13]; rfl) (by decide) ?_
    refine lv_iload_n hx hb dX12_spelled_116 rfl (lv_at hl 1 rfl) ?_
    refine lv_bipush (v := 99) hx hb dX12_spelled_117 (by decide) ?_
    refine lv_bipush (v := 97) hx hb dX12_spelled_119 (by decide) ?_
    refine lv_bipush (v := 108) hx hb dX12_spelled_121 (by decide) ?_
    refine lv_bipush (v := 108) hx hb dX12_spelled_123 (by decide) ?_
    refine lv_iconst (v := 0) hx hb dX12_spelled_125 (by decide) ?_
    refine lv_iconst (v := 0) hx hb dX12_spelled_126 (by decide) ?_
    refine lv_iconst (v := 0) hx hb dX12_spelled_127 (by decide) ?_
    obtain ⟨z14, hc15, hf⟩ := br_some hf
    refine mu_cS (As := [.int a2, .int 99, .int 97, .int 108, .int 108, .int 0, .int 0, .int 0]) (rest := []) hx hb hml hown hts hE (mX12_pick l E B0 a2 (99 : Int32) (97 : Int32) (108 : Int32) (108 : Int32) (0 : Int32) (0 : Int32) (0 : Int32) z14 hc15) cs_X12_236 trivial hS hAB (fun _ h => h.elim) rfl hl.1 rfl (by decide) (Nat.le_of_ble_eq_true rfl) ⟨Nat.le_refl _, Nat.le_refl _⟩ dX12_spelled_128 (fun H locs _ _ hu hS => ?_)
    have hre := Option.some.inj hf
    subst hre
    exact mu_i (v := z14) hx hb hrt hlocks trivial hS dX12_spelled_131
  rw [if_neg c13] at hf
  by_cases c16 : a1 = 5
  · rw [if_pos c16] at hf
    refine lv_tableIn (off := 131) (tgt := 132) hx hb dX12_spelled_1 (by rw [c16]; decide) (by rw [c16]; decide) (by rw [c16]; rfl) (by decide) ?_
    refine lv_iload_n hx hb dX12_spelled_132 rfl (lv_at hl 1 rfl) ?_
    refine lv_bipush (v := 111) hx hb dX12_spelled_133 (by decide) ?_
    refine lv_bipush (v := 118) hx hb dX12_spelled_135 (by decide) ?_
    refine lv_bipush (v := 101) hx hb dX12_spelled_137 (by decide) ?_
    refine lv_bipush (v := 114) hx hb dX12_spelled_139 (by decide) ?_
    refine lv_iconst (v := 0) hx hb dX12_spelled_141 (by decide) ?_
    refine lv_iconst (v := 0) hx hb dX12_spelled_142 (by decide) ?_
    refine lv_iconst (v := 0) hx hb dX12_spelled_143 (by decide) ?_
    obtain ⟨z17, hc18, hf⟩ := br_some hf
    refine mu_cS (As := [.int a2, .int 111, .int 118, .int 101, .int 114, .int 0, .int 0, .int 0]) (rest := []) hx hb hml hown hts hE (mX12_pick l E B0 a2 (111 : Int32) (118 : Int32) (101 : Int32) (114 : Int32) (0 : Int32) (0 : Int32) (0 : Int32) z17 hc18) cs_X12_236 trivial hS hAB (fun _ h => h.elim) rfl hl.1 rfl (by decide) (Nat.le_of_ble_eq_true rfl) ⟨Nat.le_refl _, Nat.le_refl _⟩ dX12_spelled_144 (fun H locs _ _ hu hS => ?_)
    have hre := Option.some.inj hf
    subst hre
    exact mu_i (v := z17) hx hb hrt hlocks trivial hS dX12_spelled_147
  rw [if_neg c16] at hf
  by_cases c19 : a1 = 6
  · rw [if_pos c19] at hf
    refine lv_tableIn (off := 147) (tgt := 148) hx hb dX12_spelled_1 (by rw [c19]; decide) (by rw [c19]; decide) (by rw [c19]; rfl) (by decide) ?_
    refine lv_iload_n hx hb dX12_spelled_148 rfl (lv_at hl 1 rfl) ?_
    refine lv_bipush (v := 99) hx hb dX12_spelled_149 (by decide) ?_
    refine lv_bipush (v := 97) hx hb dX12_spelled_151 (by decide) ?_
    refine lv_bipush (v := 110) hx hb dX12_spelled_153 (by decide) ?_
    refine lv_bipush (v := 99) hx hb dX12_spelled_155 (by decide) ?_
    refine lv_bipush (v := 101) hx hb dX12_spelled_157 (by decide) ?_
    refine lv_bipush (v := 108) hx hb dX12_spelled_159 (by decide) ?_
    refine lv_iconst (v := 0) hx hb dX12_spelled_161 (by decide) ?_
    obtain ⟨z20, hc21, hf⟩ := br_some hf
    refine mu_cS (As := [.int a2, .int 99, .int 97, .int 110, .int 99, .int 101, .int 108, .int 0]) (rest := []) hx hb hml hown hts hE (mX12_pick l E B0 a2 (99 : Int32) (97 : Int32) (110 : Int32) (99 : Int32) (101 : Int32) (108 : Int32) (0 : Int32) z20 hc21) cs_X12_236 trivial hS hAB (fun _ h => h.elim) rfl hl.1 rfl (by decide) (Nat.le_of_ble_eq_true rfl) ⟨Nat.le_refl _, Nat.le_refl _⟩ dX12_spelled_162 (fun H locs _ _ hu hS => ?_)
    have hre := Option.some.inj hf
    subst hre
    exact mu_i (v := z20) hx hb hrt hlocks trivial hS dX12_spelled_165
  rw [if_neg c19] at hf
  by_cases c22 : a1 = 7
  · rw [if_pos c22] at hf
    refine lv_tableIn (off := 165) (tgt := 166) hx hb dX12_spelled_1 (by rw [c22]; decide) (by rw [c22]; decide) (by rw [c22]; rfl) (by decide) ?_
    refine lv_iload_n hx hb dX12_spelled_166 rfl (lv_at hl 1 rfl) ?_
    refine lv_bipush (v := 108) hx hb dX12_spelled_167 (by decide) ?_
    refine lv_bipush (v := 105) hx hb dX12_spelled_169 (by decide) ?_
    refine lv_bipush (v := 109) hx hb dX12_spelled_171 (by decide) ?_
    refine lv_bipush (v := 105) hx hb dX12_spelled_173 (by decide) ?_
    refine lv_bipush (v := 116) hx hb dX12_spelled_175 (by decide) ?_
    refine lv_iconst (v := 0) hx hb dX12_spelled_177 (by decide) ?_
    refine lv_iconst (v := 0) hx hb dX12_spelled_178 (by decide) ?_
    obtain ⟨z23, hc24, hf⟩ := br_some hf
    refine mu_cS (As := [.int a2, .int 108, .int 105, .int 109, .int 105, .int 116, .int 0, .int 0]) (rest := []) hx hb hml hown hts hE (mX12_pick l E B0 a2 (108 : Int32) (105 : Int32) (109 : Int32) (105 : Int32) (116 : Int32) (0 : Int32) (0 : Int32) z23 hc24) cs_X12_236 trivial hS hAB (fun _ h => h.elim) rfl hl.1 rfl (by decide) (Nat.le_of_ble_eq_true rfl) ⟨Nat.le_refl _, Nat.le_refl _⟩ dX12_spelled_179 (fun H locs _ _ hu hS => ?_)
    have hre := Option.some.inj hf
    subst hre
    exact mu_i (v := z23) hx hb hrt hlocks trivial hS dX12_spelled_182
  rw [if_neg c22] at hf
  refine lv_tableOut (tgt := 183) hx hb dX12_spelled_1 (by have q0 := i32ne (k := 0) c1 (by decide); have q1 := i32ne (k := 1) c4 (by decide); have q2 := i32ne (k := 2) c7 (by decide); have q3 := i32ne (k := 3) c10 (by decide); have q4 := i32ne (k := 4) c13 (by decide); have q5 := i32ne (k := 5) c16 (by decide); have q6 := i32ne (k := 6) c19 (by decide); have q7 := i32ne (k := 7) c22 (by decide); omega) (by decide) ?_
  refine lv_iload_n hx hb dX12_spelled_183 rfl (lv_at hl 1 rfl) ?_
  refine lv_bipush (v := 119) hx hb dX12_spelled_184 (by decide) ?_
  refine lv_bipush (v := 97) hx hb dX12_spelled_186 (by decide) ?_
  refine lv_bipush (v := 105) hx hb dX12_spelled_188 (by decide) ?_
  refine lv_bipush (v := 116) hx hb dX12_spelled_190 (by decide) ?_
  refine lv_iconst (v := 0) hx hb dX12_spelled_192 (by decide) ?_
  refine lv_iconst (v := 0) hx hb dX12_spelled_193 (by decide) ?_
  refine lv_iconst (v := 0) hx hb dX12_spelled_194 (by decide) ?_
  obtain ⟨z25, hc26, hf⟩ := br_some hf
  refine mu_cS (As := [.int a2, .int 119, .int 97, .int 105, .int 116, .int 0, .int 0, .int 0]) (rest := []) hx hb hml hown hts hE (mX12_pick l E B0 a2 (119 : Int32) (97 : Int32) (105 : Int32) (116 : Int32) (0 : Int32) (0 : Int32) (0 : Int32) z25 hc26) cs_X12_236 trivial hS hAB (fun _ h => h.elim) rfl hl.1 rfl (by decide) (Nat.le_of_ble_eq_true rfl) ⟨Nat.le_refl _, Nat.le_refl _⟩ dX12_spelled_195 (fun H locs _ _ hu hS => ?_)
  have hre := Option.some.inj hf
  subst hre
  exact mu_i (v := z25) hx hb hrt hlocks trivial hS dX12_spelled_198
def fX12_word_s  (z : Nat × Int32 × Int32 × Int32 × Mem) : Option ((Nat × Int32 × Int32 × Int32 × Mem) ⊕ (Int32 × Mem)) := (if z.1 = 0 then (if (9 : Int32) ≤ z.2.2.1 then some (.inr (0, (up2 (up2 z.2.2.2.2 0 17 ((z.2.2.2.2 0 17) + z.2.1)) 0 19 (1 : Int32)))) else some (.inl (1, z.2.1, z.2.2.1, 0, z.2.2.2.2))) else (fX12_spelled z.2.2.1 z.2.2.2.1).bind fun z2 => (if z2 ≤ 0 then (fX12_spelled z.2.2.1 z.2.2.2.1).bind fun z5 => (if z5 = 0 then some (.inr (z.2.2.1, (up2 z.2.2.2.2 0 17 ((z.2.2.2.2 0 17) + z.2.2.2.1)))) else (if z.2.2.2.1 ≤ z.2.1 then some (.inl (0, z.2.1, (z.2.2.1 + 1), 0, z.2.2.2.2)) else some (.inl (0, z.2.2.2.1, (z.2.2.1 + 1), 0, z.2.2.2.2)))) else (if (z.2.2.2.2 0 16) ≤ ((z.2.2.2.2 0 17) + z.2.2.2.1) then (fX12_spelled z.2.2.1 z.2.2.2.1).bind fun z10 => (if z10 = 0 then some (.inr (z.2.2.1, (up2 z.2.2.2.2 0 17 ((z.2.2.2.2 0 17) + z.2.2.2.1)))) else (if z.2.2.2.1 ≤ z.2.1 then some (.inl (0, z.2.1, (z.2.2.1 + 1), 0, z.2.2.2.2)) else some (.inl (0, z.2.2.2.1, (z.2.2.1 + 1), 0, z.2.2.2.2)))) else gd (inb ((z.2.2.2.2 0 17) + z.2.2.2.1) 60) ((fX12_spelled z.2.2.1 z.2.2.2.1).bind fun z15 => (if (z.2.2.2.2 6 (((z.2.2.2.2 0 17) + z.2.2.2.1).toNatClampNeg)) = z15 then some (.inl (1, z.2.1, z.2.2.1, (z.2.2.2.1 + 1), z.2.2.2.2)) else (fX12_spelled z.2.2.1 z.2.2.2.1).bind fun z18 => (if z18 = 0 then some (.inr (z.2.2.1, (up2 z.2.2.2.2 0 17 ((z.2.2.2.2 0 17) + z.2.2.2.1)))) else (if z.2.2.2.1 ≤ z.2.1 then some (.inl (0, z.2.1, (z.2.2.1 + 1), 0, z.2.2.2.2)) else some (.inl (0, z.2.2.2.1, (z.2.2.1 + 1), 0, z.2.2.2.2)))))))))
noncomputable def fX12_word (M : Mem) : Option (Int32 × Mem) := lp (fX12_word_s) (0, 0, 0, 0, M)
set_option maxHeartbeats 4000000 in
set_option maxRecDepth 100000 in
theorem mX12_word (l : Launch) (E : EP) (B0 : Nat) (b : Nat) (hb0 : B0 ≤ b) (M : Mem) (r : Int32 × Mem) (hf : fX12_word M = some r) : MU l E B0 yX12_word cX12_word 4 (some .int) 2 0 0 [.ref (b + 0)] (Blk E b modSh 10 M) (some (.int r.1)) (Blk E b modSh 10 r.2) (iv b 10) := by
  refine mu_of (by decide +kernel) (Nat.le_of_ble_eq_true rfl) ?_
  intro p e s m args below meth c hx hb hml hown hts hrt hlocks hE H hM hS ls hl
  have hown : s.vm.findClass RX12 = some m.cls := hown
  have hl : lv_has ls 4 [(0, .ref (b + 0))] := hl
  have hw : ∀ w ∈ WA, w.before args s = true := fun w h => hts w (List.mem_cons_of_mem _ h)
  have hAB : ∀ q, (iv b 10) q → B0 ≤ q := (iv_ge (by omega))
  unfold fX12_word at hf
  have loop : ∀ (fu : Nat) (z : Nat × Int32 × Int32 × Int32 × Mem), lpI (fX12_word_s) fu z = some r → (∀ (H : Heap) (locs : List Loc) (ls : Array Slot), z.1 = 0 → Blk E b modSh 10 z.2.2.2.2 H → va_S (iv b 10) s.heap H locs → lv_has ls 4 [(0, .ref (b + 0)), (1, .int z.2.1), (2, .int z.2.2.1)] → W p l e (rmD 2 0 0) s m args below meth c H locs 0 0 (MQ below (QU (some (.int r.1)) (Blk E b modSh 10 r.2) (iv b 10)) args s 0 0 (iv b 10)) (F0 m 4 ls [])) ∧ (∀ (H : Heap) (locs : List Loc) (ls : Array Slot), z.1 = 1 → Blk E b modSh 10 z.2.2.2.2 H → va_S (iv b 10) s.heap H locs → lv_has ls 4 [(0, .ref (b + 0)), (1, .int z.2.1), (2, .int z.2.2.1), (3, .int z.2.2.2.1)] → W p l e (rmD 2 0 0) s m args below meth c H locs 0 0 (MQ below (QU (some (.int r.1)) (Blk E b modSh 10 r.2) (iv b 10)) args s 0 0 (iv b 10)) (F0 m 12 ls [])) := by
    intro fu
    induction fu with
    | zero =>
      intro z hn
      exact nomatch hn
    | succ fu ih =>
      intro z hn
      obtain ⟨y, hf, hy⟩ := lpI_succ hn
      refine ⟨?_, ?_⟩
      · intro H locs ls hz hM hS hl
        unfold fX12_word_s at hf
        rw [if_pos hz] at hf
        refine lv_iload_n hx hb dX12_word_4 rfl (lv_at hl 2 rfl) ?_
        refine lv_bipush (v := 9) hx hb dX12_word_5 (by decide) ?_
        refine lv_icmp_ge (tgt := 95) hx hb dX12_word_7 (by decide) (fun c1 => ?_) (fun c1 => ?_)
        · rw [if_pos c1] at hf
          refine lv_aload_n hx hb dX12_word_95 rfl (lv_at hl 0 rfl) ?_
          refine lv_dup hx hb dX12_word_96 rfl ?_
          refine w_get (k := 0) (v := .int (z.2.2.2.2 0 17)) hx hb hw hown hE fl_X12_63 hM (by decide) rfl rfl rfl dX12_word_97 ?_
          refine lv_iload_n hx hb dX12_word_100 rfl (lv_at hl 1 rfl) ?_
          refine lv_iadd hx hb dX12_word_101 ?_
          refine w_put (k := 0) (v := .int ((z.2.2.2.2 0 17) + z.2.1)) hx hb hw hown hE fl_X12_63 fw_X12_17 hM (by decide) rfl rfl ((z.2.2.2.2 0 17) + z.2.1) rfl rfl rfl hS (iv_mem (by decide)) dX12_word_102 (fun H locs hM _ hu hS => ?_)
          refine lv_aload_n hx hb dX12_word_105 rfl (lv_at hl 0 rfl) ?_
          refine lv_iconst (v := 1) hx hb dX12_word_106 (by decide) ?_
          refine w_put (k := 0) (v := .int 1) hx hb hw hown hE fl_X12_69 fw_X12_19 hM (by decide) rfl rfl (1 : Int32) rfl rfl rfl hS (iv_mem (by decide)) dX12_word_107 (fun H locs hM _ hu hS => ?_)
          refine lv_iconst (v := 0) hx hb dX12_word_110 (by decide) ?_
          have hre := lp_end hy (Option.some.inj hf).symm
          subst hre
          exact mu_i (v := 0) hx hb hrt hlocks hM hS dX12_word_111
        · rw [if_neg c1] at hf
          refine lv_iconst (v := 0) hx hb dX12_word_10 (by decide) ?_
          refine lv_istore_n (lv' := [(3, .int 0), (0, .ref (b + 0)), (1, .int z.2.1), (2, .int z.2.2.1)]) hx hb dX12_word_11 rfl hl (by decide) rfl (fun ls hl => ?_)
          exact (ih (1, z.2.1, z.2.2.1, 0, z.2.2.2.2) (lp_back hy (Option.some.inj hf).symm)).2 _ _ _ rfl hM hS (lv_sub hl [1, 2, 3, 0] rfl)
      · intro H locs ls hz hM hS hl
        unfold fX12_word_s at hf
        rw [if_neg (by rw [hz]; decide)] at hf
        refine lv_iload_n hx hb dX12_word_12 rfl (lv_at hl 2 rfl) ?_
        refine lv_iload_n hx hb dX12_word_13 rfl (lv_at hl 3 rfl) ?_
        obtain ⟨z2, hc3, hf⟩ := br_some hf
        refine mu_cS (As := [.int z.2.2.1, .int z.2.2.2.1]) (rest := []) hx hb hml hown hts hE (mX12_spelled l E B0 z.2.2.1 z.2.2.2.1 z2 hc3) cs_X12_240 trivial hS hAB (fun _ h => h.elim) rfl hl.1 rfl (by decide) (Nat.le_of_ble_eq_true rfl) ⟨Nat.le_refl _, Nat.le_refl _⟩ dX12_word_14 (fun H locs _ _ hu hS => ?_)
        have hM := Blk.off hM hu (fun _ _ _ h => h)
        refine lv_if_le (tgt := 58) hx hb dX12_word_17 (by decide) (fun c4 => ?_) (fun c4 => ?_)
        · rw [if_pos c4] at hf
          refine lv_iload_n hx hb dX12_word_58 rfl (lv_at hl 2 rfl) ?_
          refine lv_iload_n hx hb dX12_word_59 rfl (lv_at hl 3 rfl) ?_
          obtain ⟨z5, hc6, hf⟩ := br_some hf
          refine mu_cS (As := [.int z.2.2.1, .int z.2.2.2.1]) (rest := []) hx hb hml hown hts hE (mX12_spelled l E B0 z.2.2.1 z.2.2.2.1 z5 hc6) cs_X12_240 trivial hS hAB (fun _ h => h.elim) rfl hl.1 rfl (by decide) (Nat.le_of_ble_eq_true rfl) ⟨Nat.le_refl _, Nat.le_refl _⟩ dX12_word_60 (fun H locs _ _ hu hS => ?_)
          have hM := Blk.off hM hu (fun _ _ _ h => h)
          refine lv_if_ne (tgt := 78) hx hb dX12_word_63 (by decide) (fun c7 => ?_) (fun c7 => ?_)
          · rw [if_neg c7] at hf
            refine lv_iload_n hx hb dX12_word_78 rfl (lv_at hl 3 rfl) ?_
            refine lv_iload_n hx hb dX12_word_79 rfl (lv_at hl 1 rfl) ?_
            refine lv_icmp_le (tgt := 87) hx hb dX12_word_80 (by decide) (fun c8 => ?_) (fun c8 => ?_)
            · rw [if_pos c8] at hf
              refine lv_iload_n hx hb dX12_word_87 rfl (lv_at hl 1 rfl) ?_
              refine lv_istore_n (lv' := [(1, .int z.2.1), (0, .ref (b + 0)), (2, .int z.2.2.1), (3, .int z.2.2.2.1)]) hx hb dX12_word_88 rfl hl (by decide) rfl (fun ls hl => ?_)
              refine lv_iinc (v := (z.2.2.1 + 1)) (lv' := [(2, .int (z.2.2.1 + 1)), (1, .int z.2.1), (0, .ref (b + 0)), (3, .int z.2.2.2.1)]) hx hb dX12_word_89 hl (k := 2) rfl rfl (by decide) rfl (fun ls hl => ?_)
              refine lv_goto (tgt := 4) hx hb dX12_word_92 (by decide) ?_
              exact (ih (0, z.2.1, (z.2.2.1 + 1), 0, z.2.2.2.2) (lp_back hy (Option.some.inj hf).symm)).1 _ _ _ rfl hM hS (lv_sub hl [2, 1, 0] rfl)
            · rw [if_neg c8] at hf
              refine lv_iload_n hx hb dX12_word_83 rfl (lv_at hl 3 rfl) ?_
              refine lv_goto (tgt := 88) hx hb dX12_word_84 (by decide) ?_
              refine lv_istore_n (lv' := [(1, .int z.2.2.2.1), (0, .ref (b + 0)), (2, .int z.2.2.1), (3, .int z.2.2.2.1)]) hx hb dX12_word_88 rfl hl (by decide) rfl (fun ls hl => ?_)
              refine lv_iinc (v := (z.2.2.1 + 1)) (lv' := [(2, .int (z.2.2.1 + 1)), (1, .int z.2.2.2.1), (0, .ref (b + 0)), (3, .int z.2.2.2.1)]) hx hb dX12_word_89 hl (k := 2) rfl rfl (by decide) rfl (fun ls hl => ?_)
              refine lv_goto (tgt := 4) hx hb dX12_word_92 (by decide) ?_
              exact (ih (0, z.2.2.2.1, (z.2.2.1 + 1), 0, z.2.2.2.2) (lp_back hy (Option.some.inj hf).symm)).1 _ _ _ rfl hM hS (lv_sub hl [2, 1, 0] rfl)
          · rw [if_pos c7] at hf
            refine lv_aload_n hx hb dX12_word_66 rfl (lv_at hl 0 rfl) ?_
            refine lv_dup hx hb dX12_word_67 rfl ?_
            refine w_get (k := 0) (v := .int (z.2.2.2.2 0 17)) hx hb hw hown hE fl_X12_63 hM (by decide) rfl rfl rfl dX12_word_68 ?_
            refine lv_iload_n hx hb dX12_word_71 rfl (lv_at hl 3 rfl) ?_
            refine lv_iadd hx hb dX12_word_72 ?_
            refine w_put (k := 0) (v := .int ((z.2.2.2.2 0 17) + z.2.2.2.1)) hx hb hw hown hE fl_X12_63 fw_X12_17 hM (by decide) rfl rfl ((z.2.2.2.2 0 17) + z.2.2.2.1) rfl rfl rfl hS (iv_mem (by decide)) dX12_word_73 (fun H locs hM _ hu hS => ?_)
            refine lv_iload_n hx hb dX12_word_76 rfl (lv_at hl 2 rfl) ?_
            have hre := lp_end hy (Option.some.inj hf).symm
            subst hre
            exact mu_i (v := z.2.2.1) hx hb hrt hlocks hM hS dX12_word_77
        · rw [if_neg c4] at hf
          refine lv_aload_n hx hb dX12_word_20 rfl (lv_at hl 0 rfl) ?_
          refine w_get (k := 0) (v := .int (z.2.2.2.2 0 17)) hx hb hw hown hE fl_X12_63 hM (by decide) rfl rfl rfl dX12_word_21 ?_
          refine lv_iload_n hx hb dX12_word_24 rfl (lv_at hl 3 rfl) ?_
          refine lv_iadd hx hb dX12_word_25 ?_
          refine lv_aload_n hx hb dX12_word_26 rfl (lv_at hl 0 rfl) ?_
          refine w_get (k := 0) (v := .int (z.2.2.2.2 0 16)) hx hb hw hown hE fl_X12_60 hM (by decide) rfl rfl rfl dX12_word_27 ?_
          refine lv_icmp_ge (tgt := 58) hx hb dX12_word_30 (by decide) (fun c9 => ?_) (fun c9 => ?_)
          · rw [if_pos c9] at hf
            refine lv_iload_n hx hb dX12_word_58 rfl (lv_at hl 2 rfl) ?_
            refine lv_iload_n hx hb dX12_word_59 rfl (lv_at hl 3 rfl) ?_
            obtain ⟨z10, hc11, hf⟩ := br_some hf
            refine mu_cS (As := [.int z.2.2.1, .int z.2.2.2.1]) (rest := []) hx hb hml hown hts hE (mX12_spelled l E B0 z.2.2.1 z.2.2.2.1 z10 hc11) cs_X12_240 trivial hS hAB (fun _ h => h.elim) rfl hl.1 rfl (by decide) (Nat.le_of_ble_eq_true rfl) ⟨Nat.le_refl _, Nat.le_refl _⟩ dX12_word_60 (fun H locs _ _ hu hS => ?_)
            have hM := Blk.off hM hu (fun _ _ _ h => h)
            refine lv_if_ne (tgt := 78) hx hb dX12_word_63 (by decide) (fun c12 => ?_) (fun c12 => ?_)
            · rw [if_neg c12] at hf
              refine lv_iload_n hx hb dX12_word_78 rfl (lv_at hl 3 rfl) ?_
              refine lv_iload_n hx hb dX12_word_79 rfl (lv_at hl 1 rfl) ?_
              refine lv_icmp_le (tgt := 87) hx hb dX12_word_80 (by decide) (fun c13 => ?_) (fun c13 => ?_)
              · rw [if_pos c13] at hf
                refine lv_iload_n hx hb dX12_word_87 rfl (lv_at hl 1 rfl) ?_
                refine lv_istore_n (lv' := [(1, .int z.2.1), (0, .ref (b + 0)), (2, .int z.2.2.1), (3, .int z.2.2.2.1)]) hx hb dX12_word_88 rfl hl (by decide) rfl (fun ls hl => ?_)
                refine lv_iinc (v := (z.2.2.1 + 1)) (lv' := [(2, .int (z.2.2.1 + 1)), (1, .int z.2.1), (0, .ref (b + 0)), (3, .int z.2.2.2.1)]) hx hb dX12_word_89 hl (k := 2) rfl rfl (by decide) rfl (fun ls hl => ?_)
                refine lv_goto (tgt := 4) hx hb dX12_word_92 (by decide) ?_
                exact (ih (0, z.2.1, (z.2.2.1 + 1), 0, z.2.2.2.2) (lp_back hy (Option.some.inj hf).symm)).1 _ _ _ rfl hM hS (lv_sub hl [2, 1, 0] rfl)
              · rw [if_neg c13] at hf
                refine lv_iload_n hx hb dX12_word_83 rfl (lv_at hl 3 rfl) ?_
                refine lv_goto (tgt := 88) hx hb dX12_word_84 (by decide) ?_
                refine lv_istore_n (lv' := [(1, .int z.2.2.2.1), (0, .ref (b + 0)), (2, .int z.2.2.1), (3, .int z.2.2.2.1)]) hx hb dX12_word_88 rfl hl (by decide) rfl (fun ls hl => ?_)
                refine lv_iinc (v := (z.2.2.1 + 1)) (lv' := [(2, .int (z.2.2.1 + 1)), (1, .int z.2.2.2.1), (0, .ref (b + 0)), (3, .int z.2.2.2.1)]) hx hb dX12_word_89 hl (k := 2) rfl rfl (by decide) rfl (fun ls hl => ?_)
                refine lv_goto (tgt := 4) hx hb dX12_word_92 (by decide) ?_
                exact (ih (0, z.2.2.2.1, (z.2.2.1 + 1), 0, z.2.2.2.2) (lp_back hy (Option.some.inj hf).symm)).1 _ _ _ rfl hM hS (lv_sub hl [2, 1, 0] rfl)
            · rw [if_pos c12] at hf
              refine lv_aload_n hx hb dX12_word_66 rfl (lv_at hl 0 rfl) ?_
              refine lv_dup hx hb dX12_word_67 rfl ?_
              refine w_get (k := 0) (v := .int (z.2.2.2.2 0 17)) hx hb hw hown hE fl_X12_63 hM (by decide) rfl rfl rfl dX12_word_68 ?_
              refine lv_iload_n hx hb dX12_word_71 rfl (lv_at hl 3 rfl) ?_
              refine lv_iadd hx hb dX12_word_72 ?_
              refine w_put (k := 0) (v := .int ((z.2.2.2.2 0 17) + z.2.2.2.1)) hx hb hw hown hE fl_X12_63 fw_X12_17 hM (by decide) rfl rfl ((z.2.2.2.2 0 17) + z.2.2.2.1) rfl rfl rfl hS (iv_mem (by decide)) dX12_word_73 (fun H locs hM _ hu hS => ?_)
              refine lv_iload_n hx hb dX12_word_76 rfl (lv_at hl 2 rfl) ?_
              have hre := lp_end hy (Option.some.inj hf).symm
              subst hre
              exact mu_i (v := z.2.2.1) hx hb hrt hlocks hM hS dX12_word_77
          · rw [if_neg c9] at hf
            refine lv_aload_n hx hb dX12_word_33 rfl (lv_at hl 0 rfl) ?_
            refine w_get (k := 0) (v := .ref (b + 6)) hx hb hw hown hE fl_X12_45 hM (by decide) rfl rfl rfl dX12_word_34 ?_
            refine lv_aload_n hx hb dX12_word_37 rfl (lv_at hl 0 rfl) ?_
            refine w_get (k := 0) (v := .int (z.2.2.2.2 0 17)) hx hb hw hown hE fl_X12_63 hM (by decide) rfl rfl rfl dX12_word_38 ?_
            refine lv_iload_n hx hb dX12_word_41 rfl (lv_at hl 3 rfl) ?_
            refine lv_iadd hx hb dX12_word_42 ?_
            obtain ⟨h14, hf⟩ := gd_some hf
            refine w_iald (k := 6) (x9 := ((z.2.2.2.2 0 17) + z.2.2.2.1).toNatClampNeg) hx hb hE hM (by decide) rfl rfl h14 dX12_word_43 ?_
            refine lv_iload_n hx hb dX12_word_44 rfl (lv_at hl 2 rfl) ?_
            refine lv_iload_n hx hb dX12_word_45 rfl (lv_at hl 3 rfl) ?_
            obtain ⟨z15, hc16, hf⟩ := br_some hf
            refine mu_cS (As := [.int z.2.2.1, .int z.2.2.2.1]) (rest := [.int (z.2.2.2.2 6 (((z.2.2.2.2 0 17) + z.2.2.2.1).toNatClampNeg))]) hx hb hml hown hts hE (mX12_spelled l E B0 z.2.2.1 z.2.2.2.1 z15 hc16) cs_X12_240 trivial hS hAB (fun _ h => h.elim) rfl hl.1 rfl (by decide) (Nat.le_of_ble_eq_true rfl) ⟨Nat.le_refl _, Nat.le_refl _⟩ dX12_word_46 (fun H locs _ _ hu hS => ?_)
            have hM := Blk.off hM hu (fun _ _ _ h => h)
            refine lv_icmp_ne (tgt := 58) hx hb dX12_word_49 (by decide) (fun c17 => ?_) (fun c17 => ?_)
            · rw [if_neg c17] at hf
              refine lv_iload_n hx hb dX12_word_58 rfl (lv_at hl 2 rfl) ?_
              refine lv_iload_n hx hb dX12_word_59 rfl (lv_at hl 3 rfl) ?_
              obtain ⟨z18, hc19, hf⟩ := br_some hf
              refine mu_cS (As := [.int z.2.2.1, .int z.2.2.2.1]) (rest := []) hx hb hml hown hts hE (mX12_spelled l E B0 z.2.2.1 z.2.2.2.1 z18 hc19) cs_X12_240 trivial hS hAB (fun _ h => h.elim) rfl hl.1 rfl (by decide) (Nat.le_of_ble_eq_true rfl) ⟨Nat.le_refl _, Nat.le_refl _⟩ dX12_word_60 (fun H locs _ _ hu hS => ?_)
              have hM := Blk.off hM hu (fun _ _ _ h => h)
              refine lv_if_ne (tgt := 78) hx hb dX12_word_63 (by decide) (fun c20 => ?_) (fun c20 => ?_)
              · rw [if_neg c20] at hf
                refine lv_iload_n hx hb dX12_word_78 rfl (lv_at hl 3 rfl) ?_
                refine lv_iload_n hx hb dX12_word_79 rfl (lv_at hl 1 rfl) ?_
                refine lv_icmp_le (tgt := 87) hx hb dX12_word_80 (by decide) (fun c21 => ?_) (fun c21 => ?_)
                · rw [if_pos c21] at hf
                  refine lv_iload_n hx hb dX12_word_87 rfl (lv_at hl 1 rfl) ?_
                  refine lv_istore_n (lv' := [(1, .int z.2.1), (0, .ref (b + 0)), (2, .int z.2.2.1), (3, .int z.2.2.2.1)]) hx hb dX12_word_88 rfl hl (by decide) rfl (fun ls hl => ?_)
                  refine lv_iinc (v := (z.2.2.1 + 1)) (lv' := [(2, .int (z.2.2.1 + 1)), (1, .int z.2.1), (0, .ref (b + 0)), (3, .int z.2.2.2.1)]) hx hb dX12_word_89 hl (k := 2) rfl rfl (by decide) rfl (fun ls hl => ?_)
                  refine lv_goto (tgt := 4) hx hb dX12_word_92 (by decide) ?_
                  exact (ih (0, z.2.1, (z.2.2.1 + 1), 0, z.2.2.2.2) (lp_back hy (Option.some.inj hf).symm)).1 _ _ _ rfl hM hS (lv_sub hl [2, 1, 0] rfl)
                · rw [if_neg c21] at hf
                  refine lv_iload_n hx hb dX12_word_83 rfl (lv_at hl 3 rfl) ?_
                  refine lv_goto (tgt := 88) hx hb dX12_word_84 (by decide) ?_
                  refine lv_istore_n (lv' := [(1, .int z.2.2.2.1), (0, .ref (b + 0)), (2, .int z.2.2.1), (3, .int z.2.2.2.1)]) hx hb dX12_word_88 rfl hl (by decide) rfl (fun ls hl => ?_)
                  refine lv_iinc (v := (z.2.2.1 + 1)) (lv' := [(2, .int (z.2.2.1 + 1)), (1, .int z.2.2.2.1), (0, .ref (b + 0)), (3, .int z.2.2.2.1)]) hx hb dX12_word_89 hl (k := 2) rfl rfl (by decide) rfl (fun ls hl => ?_)
                  refine lv_goto (tgt := 4) hx hb dX12_word_92 (by decide) ?_
                  exact (ih (0, z.2.2.2.1, (z.2.2.1 + 1), 0, z.2.2.2.2) (lp_back hy (Option.some.inj hf).symm)).1 _ _ _ rfl hM hS (lv_sub hl [2, 1, 0] rfl)
              · rw [if_pos c20] at hf
                refine lv_aload_n hx hb dX12_word_66 rfl (lv_at hl 0 rfl) ?_
                refine lv_dup hx hb dX12_word_67 rfl ?_
                refine w_get (k := 0) (v := .int (z.2.2.2.2 0 17)) hx hb hw hown hE fl_X12_63 hM (by decide) rfl rfl rfl dX12_word_68 ?_
                refine lv_iload_n hx hb dX12_word_71 rfl (lv_at hl 3 rfl) ?_
                refine lv_iadd hx hb dX12_word_72 ?_
                refine w_put (k := 0) (v := .int ((z.2.2.2.2 0 17) + z.2.2.2.1)) hx hb hw hown hE fl_X12_63 fw_X12_17 hM (by decide) rfl rfl ((z.2.2.2.2 0 17) + z.2.2.2.1) rfl rfl rfl hS (iv_mem (by decide)) dX12_word_73 (fun H locs hM _ hu hS => ?_)
                refine lv_iload_n hx hb dX12_word_76 rfl (lv_at hl 2 rfl) ?_
                have hre := lp_end hy (Option.some.inj hf).symm
                subst hre
                exact mu_i (v := z.2.2.1) hx hb hrt hlocks hM hS dX12_word_77
            · rw [if_pos c17] at hf
              refine lv_iinc (v := (z.2.2.2.1 + 1)) (lv' := [(3, .int (z.2.2.2.1 + 1)), (0, .ref (b + 0)), (1, .int z.2.1), (2, .int z.2.2.1)]) hx hb dX12_word_52 hl (k := 3) rfl rfl (by decide) rfl (fun ls hl => ?_)
              refine lv_goto (tgt := 12) hx hb dX12_word_55 (by decide) ?_
              exact (ih (1, z.2.1, z.2.2.1, (z.2.2.2.1 + 1), z.2.2.2.2) (lp_back hy (Option.some.inj hf).symm)).2 _ _ _ rfl hM hS (lv_sub hl [1, 2, 3, 0] rfl)
  refine lv_iconst (v := 0) hx hb dX12_word_0 (by decide) ?_
  refine lv_istore_n (lv' := [(1, .int 0), (0, .ref (b + 0))]) hx hb dX12_word_1 rfl hl (by decide) rfl (fun ls hl => ?_)
  refine lv_iconst (v := 0) hx hb dX12_word_2 (by decide) ?_
  refine lv_istore_n (lv' := [(2, .int 0), (1, .int 0), (0, .ref (b + 0))]) hx hb dX12_word_3 rfl hl (by decide) rfl (fun ls hl => ?_)
  obtain ⟨fu, hfu⟩ := lp_some hf
  exact (loop fu (0, 0, 0, 0, M) hfu).1 _ _ _ rfl hM hS (lv_sub hl [2, 1, 0] rfl)
noncomputable def fX12_readsStation (M : Mem) : Option (Mem) := (fX12_capital M).bind fun z1 => (fX12_number (up2 z1.2 9 0 z1.1) (1 : Int32)).bind fun z3 => (fX12_expect (up2 z3.2 9 1 z3.1) (32 : Int32)).bind fun z5 => (fX12_number z5 (2 : Int32)).bind fun z7 => (fX12_expect (up2 z7.2 9 2 z7.1) (44 : Int32)).bind fun z9 => (fX12_number z9 (2 : Int32)).bind fun z11 => (fX12_expect (up2 z11.2 9 3 z11.1) (32 : Int32)).bind fun z13 => (fX12_number z13 (2 : Int32)).bind fun z15 => (fX12_expect (up2 z15.2 9 4 z15.1) (32 : Int32)).bind fun z17 => (fX12_number z17 (1 : Int32)).bind fun z19 => some (up2 z19.2 9 5 z19.1)
set_option maxHeartbeats 4000000 in
set_option maxRecDepth 100000 in
theorem mX12_readsStation (l : Launch) (E : EP) (B0 : Nat) (b : Nat) (hb0 : B0 ≤ b) (M : Mem) (r : Mem) (hf : fX12_readsStation M = some r) : MU l E B0 yX12_readsStation cX12_readsStation 1 none 2 0 0 [.ref (b + 0)] (Blk E b modSh 10 M) none (Blk E b modSh 10 r) (iv b 10) := by
  refine mu_of (by decide +kernel) (Nat.le_of_ble_eq_true rfl) ?_
  intro p e s m args below meth c hx hb hml hown hts hrt hlocks hE H hM hS ls hl
  have hown : s.vm.findClass RX12 = some m.cls := hown
  have hl : lv_has ls 1 [(0, .ref (b + 0))] := hl
  have hw : ∀ w ∈ WA, w.before args s = true := fun w h => hts w (List.mem_cons_of_mem _ h)
  have hAB : ∀ q, (iv b 10) q → B0 ≤ q := (iv_ge (by omega))
  unfold fX12_readsStation at hf
  refine lv_aload_n hx hb dX12_readsStation_0 rfl (lv_at hl 0 rfl) ?_
  refine w_get (k := 0) (v := .ref (b + 9)) hx hb hw hown hE fl_X12_54 hM (by decide) rfl rfl rfl dX12_readsStation_1 ?_
  refine lv_iconst (v := 0) hx hb dX12_readsStation_4 (by decide) ?_
  refine lv_aload_n hx hb dX12_readsStation_5 rfl (lv_at hl 0 rfl) ?_
  obtain ⟨z1, hc2, hf⟩ := br_some hf
  refine mu_cV (As := []) (rest := [.int 0, .ref (b + 9)]) hx hb hml hown hts hE (mX12_capital l E B0 b (by omega) M z1 hc2) cv_X12_243 (w_recv (k := 0) (ci := 12) hE hM (by decide) rfl rfl) hM hS hAB (fun _ h => h) rfl hl.1 rfl (by decide) (Nat.le_of_ble_eq_true rfl) ⟨Nat.le_refl _, Nat.le_refl _⟩ dX12_readsStation_6 (fun H locs hM _ hu hS => ?_)
  refine w_iast (k := 9) (x9 := 0) (x := z1.1) hx hb hE hM (by decide) rfl (by decide) (by decide) hS (iv_mem (by decide)) dX12_readsStation_9 (fun H locs hM _ hu hS => ?_)
  refine lv_aload_n hx hb dX12_readsStation_10 rfl (lv_at hl 0 rfl) ?_
  refine w_get (k := 0) (v := .ref (b + 9)) hx hb hw hown hE fl_X12_54 hM (by decide) rfl rfl rfl dX12_readsStation_11 ?_
  refine lv_iconst (v := 1) hx hb dX12_readsStation_14 (by decide) ?_
  refine lv_aload_n hx hb dX12_readsStation_15 rfl (lv_at hl 0 rfl) ?_
  refine lv_iconst (v := 1) hx hb dX12_readsStation_16 (by decide) ?_
  obtain ⟨z3, hc4, hf⟩ := br_some hf
  refine mu_cV (As := [.int 1]) (rest := [.int 1, .ref (b + 9)]) hx hb hml hown hts hE (mX12_number l E B0 b (by omega) (up2 z1.2 9 0 z1.1) (1 : Int32) z3 hc4) cv_X12_246 (w_recv (k := 0) (ci := 12) hE hM (by decide) rfl rfl) hM hS hAB (fun _ h => h) rfl hl.1 rfl (by decide) (Nat.le_of_ble_eq_true rfl) ⟨Nat.le_refl _, Nat.le_refl _⟩ dX12_readsStation_17 (fun H locs hM _ hu hS => ?_)
  refine w_iast (k := 9) (x9 := 1) (x := z3.1) hx hb hE hM (by decide) rfl (by decide) (by decide) hS (iv_mem (by decide)) dX12_readsStation_20 (fun H locs hM _ hu hS => ?_)
  refine lv_aload_n hx hb dX12_readsStation_21 rfl (lv_at hl 0 rfl) ?_
  refine lv_bipush (v := 32) hx hb dX12_readsStation_22 (by decide) ?_
  obtain ⟨z5, hc6, hf⟩ := br_some hf
  refine mu_cV (As := [.int 32]) (rest := []) hx hb hml hown hts hE (mX12_expect l E B0 b (by omega) (up2 z3.2 9 1 z3.1) (32 : Int32) z5 hc6) cv_X12_249 (w_recv (k := 0) (ci := 12) hE hM (by decide) rfl rfl) hM hS hAB (fun _ h => h) rfl hl.1 rfl (by decide) (Nat.le_of_ble_eq_true rfl) ⟨Nat.le_refl _, Nat.le_refl _⟩ dX12_readsStation_24 (fun H locs hM _ hu hS => ?_)
  refine lv_aload_n hx hb dX12_readsStation_27 rfl (lv_at hl 0 rfl) ?_
  refine w_get (k := 0) (v := .ref (b + 9)) hx hb hw hown hE fl_X12_54 hM (by decide) rfl rfl rfl dX12_readsStation_28 ?_
  refine lv_iconst (v := 2) hx hb dX12_readsStation_31 (by decide) ?_
  refine lv_aload_n hx hb dX12_readsStation_32 rfl (lv_at hl 0 rfl) ?_
  refine lv_iconst (v := 2) hx hb dX12_readsStation_33 (by decide) ?_
  obtain ⟨z7, hc8, hf⟩ := br_some hf
  refine mu_cV (As := [.int 2]) (rest := [.int 2, .ref (b + 9)]) hx hb hml hown hts hE (mX12_number l E B0 b (by omega) z5 (2 : Int32) z7 hc8) cv_X12_246 (w_recv (k := 0) (ci := 12) hE hM (by decide) rfl rfl) hM hS hAB (fun _ h => h) rfl hl.1 rfl (by decide) (Nat.le_of_ble_eq_true rfl) ⟨Nat.le_refl _, Nat.le_refl _⟩ dX12_readsStation_34 (fun H locs hM _ hu hS => ?_)
  refine w_iast (k := 9) (x9 := 2) (x := z7.1) hx hb hE hM (by decide) rfl (by decide) (by decide) hS (iv_mem (by decide)) dX12_readsStation_37 (fun H locs hM _ hu hS => ?_)
  refine lv_aload_n hx hb dX12_readsStation_38 rfl (lv_at hl 0 rfl) ?_
  refine lv_bipush (v := 44) hx hb dX12_readsStation_39 (by decide) ?_
  obtain ⟨z9, hc10, hf⟩ := br_some hf
  refine mu_cV (As := [.int 44]) (rest := []) hx hb hml hown hts hE (mX12_expect l E B0 b (by omega) (up2 z7.2 9 2 z7.1) (44 : Int32) z9 hc10) cv_X12_249 (w_recv (k := 0) (ci := 12) hE hM (by decide) rfl rfl) hM hS hAB (fun _ h => h) rfl hl.1 rfl (by decide) (Nat.le_of_ble_eq_true rfl) ⟨Nat.le_refl _, Nat.le_refl _⟩ dX12_readsStation_41 (fun H locs hM _ hu hS => ?_)
  refine lv_aload_n hx hb dX12_readsStation_44 rfl (lv_at hl 0 rfl) ?_
  refine w_get (k := 0) (v := .ref (b + 9)) hx hb hw hown hE fl_X12_54 hM (by decide) rfl rfl rfl dX12_readsStation_45 ?_
  refine lv_iconst (v := 3) hx hb dX12_readsStation_48 (by decide) ?_
  refine lv_aload_n hx hb dX12_readsStation_49 rfl (lv_at hl 0 rfl) ?_
  refine lv_iconst (v := 2) hx hb dX12_readsStation_50 (by decide) ?_
  obtain ⟨z11, hc12, hf⟩ := br_some hf
  refine mu_cV (As := [.int 2]) (rest := [.int 3, .ref (b + 9)]) hx hb hml hown hts hE (mX12_number l E B0 b (by omega) z9 (2 : Int32) z11 hc12) cv_X12_246 (w_recv (k := 0) (ci := 12) hE hM (by decide) rfl rfl) hM hS hAB (fun _ h => h) rfl hl.1 rfl (by decide) (Nat.le_of_ble_eq_true rfl) ⟨Nat.le_refl _, Nat.le_refl _⟩ dX12_readsStation_51 (fun H locs hM _ hu hS => ?_)
  refine w_iast (k := 9) (x9 := 3) (x := z11.1) hx hb hE hM (by decide) rfl (by decide) (by decide) hS (iv_mem (by decide)) dX12_readsStation_54 (fun H locs hM _ hu hS => ?_)
  refine lv_aload_n hx hb dX12_readsStation_55 rfl (lv_at hl 0 rfl) ?_
  refine lv_bipush (v := 32) hx hb dX12_readsStation_56 (by decide) ?_
  obtain ⟨z13, hc14, hf⟩ := br_some hf
  refine mu_cV (As := [.int 32]) (rest := []) hx hb hml hown hts hE (mX12_expect l E B0 b (by omega) (up2 z11.2 9 3 z11.1) (32 : Int32) z13 hc14) cv_X12_249 (w_recv (k := 0) (ci := 12) hE hM (by decide) rfl rfl) hM hS hAB (fun _ h => h) rfl hl.1 rfl (by decide) (Nat.le_of_ble_eq_true rfl) ⟨Nat.le_refl _, Nat.le_refl _⟩ dX12_readsStation_58 (fun H locs hM _ hu hS => ?_)
  refine lv_aload_n hx hb dX12_readsStation_61 rfl (lv_at hl 0 rfl) ?_
  refine w_get (k := 0) (v := .ref (b + 9)) hx hb hw hown hE fl_X12_54 hM (by decide) rfl rfl rfl dX12_readsStation_62 ?_
  refine lv_iconst (v := 4) hx hb dX12_readsStation_65 (by decide) ?_
  refine lv_aload_n hx hb dX12_readsStation_66 rfl (lv_at hl 0 rfl) ?_
  refine lv_iconst (v := 2) hx hb dX12_readsStation_67 (by decide) ?_
  obtain ⟨z15, hc16, hf⟩ := br_some hf
  refine mu_cV (As := [.int 2]) (rest := [.int 4, .ref (b + 9)]) hx hb hml hown hts hE (mX12_number l E B0 b (by omega) z13 (2 : Int32) z15 hc16) cv_X12_246 (w_recv (k := 0) (ci := 12) hE hM (by decide) rfl rfl) hM hS hAB (fun _ h => h) rfl hl.1 rfl (by decide) (Nat.le_of_ble_eq_true rfl) ⟨Nat.le_refl _, Nat.le_refl _⟩ dX12_readsStation_68 (fun H locs hM _ hu hS => ?_)
  refine w_iast (k := 9) (x9 := 4) (x := z15.1) hx hb hE hM (by decide) rfl (by decide) (by decide) hS (iv_mem (by decide)) dX12_readsStation_71 (fun H locs hM _ hu hS => ?_)
  refine lv_aload_n hx hb dX12_readsStation_72 rfl (lv_at hl 0 rfl) ?_
  refine lv_bipush (v := 32) hx hb dX12_readsStation_73 (by decide) ?_
  obtain ⟨z17, hc18, hf⟩ := br_some hf
  refine mu_cV (As := [.int 32]) (rest := []) hx hb hml hown hts hE (mX12_expect l E B0 b (by omega) (up2 z15.2 9 4 z15.1) (32 : Int32) z17 hc18) cv_X12_249 (w_recv (k := 0) (ci := 12) hE hM (by decide) rfl rfl) hM hS hAB (fun _ h => h) rfl hl.1 rfl (by decide) (Nat.le_of_ble_eq_true rfl) ⟨Nat.le_refl _, Nat.le_refl _⟩ dX12_readsStation_75 (fun H locs hM _ hu hS => ?_)
  refine lv_aload_n hx hb dX12_readsStation_78 rfl (lv_at hl 0 rfl) ?_
  refine w_get (k := 0) (v := .ref (b + 9)) hx hb hw hown hE fl_X12_54 hM (by decide) rfl rfl rfl dX12_readsStation_79 ?_
  refine lv_iconst (v := 5) hx hb dX12_readsStation_82 (by decide) ?_
  refine lv_aload_n hx hb dX12_readsStation_83 rfl (lv_at hl 0 rfl) ?_
  refine lv_iconst (v := 1) hx hb dX12_readsStation_84 (by decide) ?_
  obtain ⟨z19, hc20, hf⟩ := br_some hf
  refine mu_cV (As := [.int 1]) (rest := [.int 5, .ref (b + 9)]) hx hb hml hown hts hE (mX12_number l E B0 b (by omega) z17 (1 : Int32) z19 hc20) cv_X12_246 (w_recv (k := 0) (ci := 12) hE hM (by decide) rfl rfl) hM hS hAB (fun _ h => h) rfl hl.1 rfl (by decide) (Nat.le_of_ble_eq_true rfl) ⟨Nat.le_refl _, Nat.le_refl _⟩ dX12_readsStation_85 (fun H locs hM _ hu hS => ?_)
  refine w_iast (k := 9) (x9 := 5) (x := z19.1) hx hb hE hM (by decide) rfl (by decide) (by decide) hS (iv_mem (by decide)) dX12_readsStation_88 (fun H locs hM _ hu hS => ?_)
  have hre := Option.some.inj hf
  subst hre
  exact mu_v hx hb hrt hlocks hM hS dX12_readsStation_89
noncomputable def fX12_readsPlace (M : Mem) : Option (Mem) := (fX12_number M (1 : Int32)).bind fun z1 => (fX12_expect (up2 z1.2 9 0 z1.1) (32 : Int32)).bind fun z3 => (fX12_number z3 (2 : Int32)).bind fun z5 => (fX12_expect (up2 z5.2 9 1 z5.1) (44 : Int32)).bind fun z7 => (fX12_number z7 (2 : Int32)).bind fun z9 => some (up2 z9.2 9 2 z9.1)
set_option maxHeartbeats 4000000 in
set_option maxRecDepth 100000 in
theorem mX12_readsPlace (l : Launch) (E : EP) (B0 : Nat) (b : Nat) (hb0 : B0 ≤ b) (M : Mem) (r : Mem) (hf : fX12_readsPlace M = some r) : MU l E B0 yX12_readsPlace cX12_readsPlace 1 none 2 0 0 [.ref (b + 0)] (Blk E b modSh 10 M) none (Blk E b modSh 10 r) (iv b 10) := by
  refine mu_of (by decide +kernel) (Nat.le_of_ble_eq_true rfl) ?_
  intro p e s m args below meth c hx hb hml hown hts hrt hlocks hE H hM hS ls hl
  have hown : s.vm.findClass RX12 = some m.cls := hown
  have hl : lv_has ls 1 [(0, .ref (b + 0))] := hl
  have hw : ∀ w ∈ WA, w.before args s = true := fun w h => hts w (List.mem_cons_of_mem _ h)
  have hAB : ∀ q, (iv b 10) q → B0 ≤ q := (iv_ge (by omega))
  unfold fX12_readsPlace at hf
  refine lv_aload_n hx hb dX12_readsPlace_0 rfl (lv_at hl 0 rfl) ?_
  refine w_get (k := 0) (v := .ref (b + 9)) hx hb hw hown hE fl_X12_54 hM (by decide) rfl rfl rfl dX12_readsPlace_1 ?_
  refine lv_iconst (v := 0) hx hb dX12_readsPlace_4 (by decide) ?_
  refine lv_aload_n hx hb dX12_readsPlace_5 rfl (lv_at hl 0 rfl) ?_
  refine lv_iconst (v := 1) hx hb dX12_readsPlace_6 (by decide) ?_
  obtain ⟨z1, hc2, hf⟩ := br_some hf
  refine mu_cV (As := [.int 1]) (rest := [.int 0, .ref (b + 9)]) hx hb hml hown hts hE (mX12_number l E B0 b (by omega) M (1 : Int32) z1 hc2) cv_X12_246 (w_recv (k := 0) (ci := 12) hE hM (by decide) rfl rfl) hM hS hAB (fun _ h => h) rfl hl.1 rfl (by decide) (Nat.le_of_ble_eq_true rfl) ⟨Nat.le_refl _, Nat.le_refl _⟩ dX12_readsPlace_7 (fun H locs hM _ hu hS => ?_)
  refine w_iast (k := 9) (x9 := 0) (x := z1.1) hx hb hE hM (by decide) rfl (by decide) (by decide) hS (iv_mem (by decide)) dX12_readsPlace_10 (fun H locs hM _ hu hS => ?_)
  refine lv_aload_n hx hb dX12_readsPlace_11 rfl (lv_at hl 0 rfl) ?_
  refine lv_bipush (v := 32) hx hb dX12_readsPlace_12 (by decide) ?_
  obtain ⟨z3, hc4, hf⟩ := br_some hf
  refine mu_cV (As := [.int 32]) (rest := []) hx hb hml hown hts hE (mX12_expect l E B0 b (by omega) (up2 z1.2 9 0 z1.1) (32 : Int32) z3 hc4) cv_X12_249 (w_recv (k := 0) (ci := 12) hE hM (by decide) rfl rfl) hM hS hAB (fun _ h => h) rfl hl.1 rfl (by decide) (Nat.le_of_ble_eq_true rfl) ⟨Nat.le_refl _, Nat.le_refl _⟩ dX12_readsPlace_14 (fun H locs hM _ hu hS => ?_)
  refine lv_aload_n hx hb dX12_readsPlace_17 rfl (lv_at hl 0 rfl) ?_
  refine w_get (k := 0) (v := .ref (b + 9)) hx hb hw hown hE fl_X12_54 hM (by decide) rfl rfl rfl dX12_readsPlace_18 ?_
  refine lv_iconst (v := 1) hx hb dX12_readsPlace_21 (by decide) ?_
  refine lv_aload_n hx hb dX12_readsPlace_22 rfl (lv_at hl 0 rfl) ?_
  refine lv_iconst (v := 2) hx hb dX12_readsPlace_23 (by decide) ?_
  obtain ⟨z5, hc6, hf⟩ := br_some hf
  refine mu_cV (As := [.int 2]) (rest := [.int 1, .ref (b + 9)]) hx hb hml hown hts hE (mX12_number l E B0 b (by omega) z3 (2 : Int32) z5 hc6) cv_X12_246 (w_recv (k := 0) (ci := 12) hE hM (by decide) rfl rfl) hM hS hAB (fun _ h => h) rfl hl.1 rfl (by decide) (Nat.le_of_ble_eq_true rfl) ⟨Nat.le_refl _, Nat.le_refl _⟩ dX12_readsPlace_24 (fun H locs hM _ hu hS => ?_)
  refine w_iast (k := 9) (x9 := 1) (x := z5.1) hx hb hE hM (by decide) rfl (by decide) (by decide) hS (iv_mem (by decide)) dX12_readsPlace_27 (fun H locs hM _ hu hS => ?_)
  refine lv_aload_n hx hb dX12_readsPlace_28 rfl (lv_at hl 0 rfl) ?_
  refine lv_bipush (v := 44) hx hb dX12_readsPlace_29 (by decide) ?_
  obtain ⟨z7, hc8, hf⟩ := br_some hf
  refine mu_cV (As := [.int 44]) (rest := []) hx hb hml hown hts hE (mX12_expect l E B0 b (by omega) (up2 z5.2 9 1 z5.1) (44 : Int32) z7 hc8) cv_X12_249 (w_recv (k := 0) (ci := 12) hE hM (by decide) rfl rfl) hM hS hAB (fun _ h => h) rfl hl.1 rfl (by decide) (Nat.le_of_ble_eq_true rfl) ⟨Nat.le_refl _, Nat.le_refl _⟩ dX12_readsPlace_31 (fun H locs hM _ hu hS => ?_)
  refine lv_aload_n hx hb dX12_readsPlace_34 rfl (lv_at hl 0 rfl) ?_
  refine w_get (k := 0) (v := .ref (b + 9)) hx hb hw hown hE fl_X12_54 hM (by decide) rfl rfl rfl dX12_readsPlace_35 ?_
  refine lv_iconst (v := 2) hx hb dX12_readsPlace_38 (by decide) ?_
  refine lv_aload_n hx hb dX12_readsPlace_39 rfl (lv_at hl 0 rfl) ?_
  refine lv_iconst (v := 2) hx hb dX12_readsPlace_40 (by decide) ?_
  obtain ⟨z9, hc10, hf⟩ := br_some hf
  refine mu_cV (As := [.int 2]) (rest := [.int 2, .ref (b + 9)]) hx hb hml hown hts hE (mX12_number l E B0 b (by omega) z7 (2 : Int32) z9 hc10) cv_X12_246 (w_recv (k := 0) (ci := 12) hE hM (by decide) rfl rfl) hM hS hAB (fun _ h => h) rfl hl.1 rfl (by decide) (Nat.le_of_ble_eq_true rfl) ⟨Nat.le_refl _, Nat.le_refl _⟩ dX12_readsPlace_41 (fun H locs hM _ hu hS => ?_)
  refine w_iast (k := 9) (x9 := 2) (x := z9.1) hx hb hE hM (by decide) rfl (by decide) (by decide) hS (iv_mem (by decide)) dX12_readsPlace_44 (fun H locs hM _ hu hS => ?_)
  have hre := Option.some.inj hf
  subst hre
  exact mu_v hx hb hrt hlocks hM hS dX12_readsPlace_45
noncomputable def fX12_command_s  (z : Int32 × Int32 × Int32 × Mem) : Option ((Int32 × Int32 × Int32 × Mem) ⊕ (Mem)) := (if (6 : Int32) ≤ z.2.2.1 then some (.inr (up2 z.2.2.2 0 18 ((z.2.2.2 0 18) + 1))) else gd (inb z.2.2.1 6) (gd (inb (((6 : Int32) * (z.2.2.2 0 18)) + z.2.2.1) 192) (some (.inl (z.1, z.2.1, (z.2.2.1 + 1), (up2 z.2.2.2 8 ((((6 : Int32) * (z.2.2.2 0 18)) + z.2.2.1).toNatClampNeg) (z.2.2.2 9 z.2.2.1.toNatClampNeg)))))))
noncomputable def fX12_command_j170 (x1 : Int32) (x2 : Int32) (mM : Mem) : Option (Mem) := (if (mM 0 19) = 0 then gd (inb (mM 0 18) 32) (lp (fX12_command_s) (x1, x2, 0, (up2 mM 7 ((mM 0 18).toNatClampNeg) x1))) else some mM)
noncomputable def fX12_command_j144 (x1 : Int32) (x2 : Int32) (mM : Mem) : Option (Mem) := (fX12_expect mM (61 : Int32)).bind fun z6 => (if x1 = (2 : Int32) then (fX12_number z6 (2 : Int32)).bind fun z11 => fX12_command_j170 x1 x2 (up2 z11.2 9 1 z11.1) else (fX12_number z6 (1 : Int32)).bind fun z9 => fX12_command_j170 x1 x2 (up2 z9.2 9 1 z9.1))
noncomputable def fX12_command_j123 (x1 : Int32) (x2 : Int32) (mM : Mem) : Option (Mem) := (fX12_number mM (2 : Int32)).bind fun z13 => (if x1 = (2 : Int32) then fX12_command_j144 x1 x2 (up2 z13.2 9 0 z13.1) else (if x1 = (3 : Int32) then fX12_command_j144 x1 x2 (up2 z13.2 9 0 z13.1) else fX12_command_j170 x1 x2 (up2 z13.2 9 0 z13.1)))
noncomputable def fX12_command_j107 (x1 : Int32) (x2 : Int32) (mM : Mem) : Option (Mem) := (if x1 = (7 : Int32) then fX12_command_j123 x1 x2 mM else (if x1 = (8 : Int32) then (if x2 = 0 then fX12_command_j123 x1 x2 mM else (if x1 = (2 : Int32) then fX12_command_j144 x1 x2 mM else (if x1 = (3 : Int32) then fX12_command_j144 x1 x2 mM else fX12_command_j170 x1 x2 mM))) else (if x1 = (2 : Int32) then fX12_command_j144 x1 x2 mM else (if x1 = (3 : Int32) then fX12_command_j144 x1 x2 mM else fX12_command_j170 x1 x2 mM))))
noncomputable def fX12_command_j85 (x1 : Int32) (x2 : Int32) (mM : Mem) : Option (Mem) := (if x1 ≤ (1 : Int32) then fX12_command_j107 x1 x2 mM else (if (7 : Int32) ≤ x1 then fX12_command_j107 x1 x2 mM else (fX12_number mM (1 : Int32)).bind fun z26 => fX12_command_j107 x1 x2 (up2 z26.2 9 0 z26.1)))
noncomputable def fX12_command_j67 (x1 : Int32) (s0 : Int32) (mM : Mem) : Option (Mem) := (if x1 = 0 then (fX12_readsStation mM).bind fun z32 => (if x1 = (1 : Int32) then (fX12_readsPlace z32).bind fun z35 => fX12_command_j85 x1 s0 z35 else fX12_command_j85 x1 s0 z32) else (if x1 = (1 : Int32) then (fX12_readsPlace mM).bind fun z30 => fX12_command_j85 x1 s0 z30 else fX12_command_j85 x1 s0 mM))
noncomputable def fX12_command_j33 (x1 : Int32) (mM : Mem) : Option (Mem) := (if x1 = (8 : Int32) then (if (mM 0 17) = 0 then fX12_command_j67 x1 (1 : Int32) mM else gd (inb ((mM 0 17) - 1) 60) ((if (mM 6 (((mM 0 17) - 1).toNatClampNeg)) = (32 : Int32) then fX12_command_j67 x1 (0 : Int32) mM else fX12_command_j67 x1 (1 : Int32) mM))) else fX12_command_j67 x1 (0 : Int32) mM)
noncomputable def fX12_command (M : Mem) : Option (Mem) := (fX12_word M).bind fun z41 => (if z41.1 < (8 : Int32) then (fX12_expect (up2 z41.2 9 0 (1 : Int32)) (32 : Int32)).bind fun z44 => fX12_command_j33 z41.1 z44 else (fX12_mark (up2 z41.2 9 0 (1 : Int32))).bind fun z46 => (if z46 = (32 : Int32) then (fX12_expect (up2 z41.2 9 0 (1 : Int32)) (32 : Int32)).bind fun z49 => fX12_command_j33 z41.1 z49 else fX12_command_j33 z41.1 (up2 z41.2 9 0 (1 : Int32))))
set_option maxHeartbeats 4000000 in
set_option maxRecDepth 100000 in
theorem mX12_command (l : Launch) (E : EP) (B0 : Nat) (b : Nat) (hb0 : B0 ≤ b) (M : Mem) (r : Mem) (hf : fX12_command M = some r) : MU l E B0 yX12_command cX12_command 4 none 3 0 0 [.ref (b + 0)] (Blk E b modSh 10 M) none (Blk E b modSh 10 r) (iv b 10) := by
  refine mu_of (by decide +kernel) (Nat.le_of_ble_eq_true rfl) ?_
  intro p e s m args below meth c hx hb hml hown hts hrt hlocks hE H hM hS ls hl
  have hown : s.vm.findClass RX12 = some m.cls := hown
  have hl : lv_has ls 4 [(0, .ref (b + 0))] := hl
  have hw : ∀ w ∈ WA, w.before args s = true := fun w h => hts w (List.mem_cons_of_mem _ h)
  have hAB : ∀ q, (iv b 10) q → B0 ≤ q := (iv_ge (by omega))
  unfold fX12_command at hf
  have loop : ∀ (fu : Nat) (z : Int32 × Int32 × Int32 × Mem), lpI (fX12_command_s) fu z = some r → (∀ (H : Heap) (locs : List Loc) (ls : Array Slot), Blk E b modSh 10 z.2.2.2 H → va_S (iv b 10) s.heap H locs → lv_has ls 4 [(0, .ref (b + 0)), (1, .int z.1), (2, .int z.2.1), (3, .int z.2.2.1)] → W p l e (rmD 3 0 0) s m args below meth c H locs 0 0 (MQ below (QU none (Blk E b modSh 10 r) (iv b 10)) args s 0 0 (iv b 10)) (F0 m 190 ls [])) := by
    intro fu
    induction fu with
    | zero =>
      intro z hn
      exact nomatch hn
    | succ fu ih =>
      intro z hn
      obtain ⟨y, hf, hy⟩ := lpI_succ hn
      intro H locs ls hM hS hl
      unfold fX12_command_s at hf
      refine lv_iload_n hx hb dX12_command_190 rfl (lv_at hl 3 rfl) ?_
      refine lv_bipush (v := 6) hx hb dX12_command_191 (by decide) ?_
      refine lv_icmp_ge (tgt := 222) hx hb dX12_command_193 (by decide) (fun c1 => ?_) (fun c1 => ?_)
      · rw [if_pos c1] at hf
        refine lv_aload_n hx hb dX12_command_222 rfl (lv_at hl 0 rfl) ?_
        refine lv_dup hx hb dX12_command_223 rfl ?_
        refine w_get (k := 0) (v := .int (z.2.2.2 0 18)) hx hb hw hown hE fl_X12_66 hM (by decide) rfl rfl rfl dX12_command_224 ?_
        refine lv_iconst (v := 1) hx hb dX12_command_227 (by decide) ?_
        refine lv_iadd hx hb dX12_command_228 ?_
        refine w_put (k := 0) (v := .int ((z.2.2.2 0 18) + 1)) hx hb hw hown hE fl_X12_66 fw_X12_18 hM (by decide) rfl rfl ((z.2.2.2 0 18) + 1) rfl rfl rfl hS (iv_mem (by decide)) dX12_command_229 (fun H locs hM _ hu hS => ?_)
        have hre := lp_end hy (Option.some.inj hf).symm
        subst hre
        exact mu_v hx hb hrt hlocks hM hS dX12_command_232
      · rw [if_neg c1] at hf
        refine lv_aload_n hx hb dX12_command_196 rfl (lv_at hl 0 rfl) ?_
        refine w_get (k := 0) (v := .ref (b + 8)) hx hb hw hown hE fl_X12_51 hM (by decide) rfl rfl rfl dX12_command_197 ?_
        refine lv_bipush (v := 6) hx hb dX12_command_200 (by decide) ?_
        refine lv_aload_n hx hb dX12_command_202 rfl (lv_at hl 0 rfl) ?_
        refine w_get (k := 0) (v := .int (z.2.2.2 0 18)) hx hb hw hown hE fl_X12_66 hM (by decide) rfl rfl rfl dX12_command_203 ?_
        refine lv_imul hx hb dX12_command_206 ?_
        refine lv_iload_n hx hb dX12_command_207 rfl (lv_at hl 3 rfl) ?_
        refine lv_iadd hx hb dX12_command_208 ?_
        refine lv_aload_n hx hb dX12_command_209 rfl (lv_at hl 0 rfl) ?_
        refine w_get (k := 0) (v := .ref (b + 9)) hx hb hw hown hE fl_X12_54 hM (by decide) rfl rfl rfl dX12_command_210 ?_
        refine lv_iload_n hx hb dX12_command_213 rfl (lv_at hl 3 rfl) ?_
        obtain ⟨h2, hf⟩ := gd_some hf
        refine w_iald (k := 9) (x9 := z.2.2.1.toNatClampNeg) hx hb hE hM (by decide) rfl rfl h2 dX12_command_214 ?_
        obtain ⟨h3, hf⟩ := gd_some hf
        refine w_iast (k := 8) (x9 := (((6 : Int32) * (z.2.2.2 0 18)) + z.2.2.1).toNatClampNeg) (x := (z.2.2.2 9 z.2.2.1.toNatClampNeg)) hx hb hE hM (by decide) rfl rfl h3 hS (iv_mem (by decide)) dX12_command_215 (fun H locs hM _ hu hS => ?_)
        refine lv_iinc (v := (z.2.2.1 + 1)) (lv' := [(3, .int (z.2.2.1 + 1)), (0, .ref (b + 0)), (1, .int z.1), (2, .int z.2.1)]) hx hb dX12_command_216 hl (k := 3) rfl rfl (by decide) rfl (fun ls hl => ?_)
        refine lv_goto (tgt := 190) hx hb dX12_command_219 (by decide) ?_
        exact ih (z.1, z.2.1, (z.2.2.1 + 1), (up2 z.2.2.2 8 ((((6 : Int32) * (z.2.2.2 0 18)) + z.2.2.1).toNatClampNeg) (z.2.2.2 9 z.2.2.1.toNatClampNeg))) (lp_back hy (Option.some.inj hf).symm) _ _ _ hM hS (lv_sub hl [1, 2, 3, 0] rfl)
  have j170 : ∀ (x1 : Int32) (x2 : Int32) (mM : Mem) (H : Heap) (locs : List Loc) (ls : Array Slot), fX12_command_j170 x1 x2 mM = some r → Blk E b modSh 10 mM H → va_S (iv b 10) s.heap H locs → lv_has ls 4 [(0, .ref (b + 0)), (1, .int x1), (2, .int x2)] → W p l e (rmD 3 0 0) s m args below meth c H locs 0 0 (MQ below (QU none (Blk E b modSh 10 r) (iv b 10)) args s 0 0 (iv b 10)) (F0 m 170 ls []) := by
    intro x1 x2 mM H locs ls hf hM hS hl
    unfold fX12_command_j170 at hf
    refine lv_aload_n hx hb dX12_command_170 rfl (lv_at hl 0 rfl) ?_
    refine w_get (k := 0) (v := .int (mM 0 19)) hx hb hw hown hE fl_X12_69 hM (by decide) rfl rfl rfl dX12_command_171 ?_
    refine lv_if_eq (tgt := 178) hx hb dX12_command_174 (by decide) (fun c4 => ?_) (fun c4 => ?_)
    · rw [if_pos c4] at hf
      refine lv_aload_n hx hb dX12_command_178 rfl (lv_at hl 0 rfl) ?_
      refine w_get (k := 0) (v := .ref (b + 7)) hx hb hw hown hE fl_X12_48 hM (by decide) rfl rfl rfl dX12_command_179 ?_
      refine lv_aload_n hx hb dX12_command_182 rfl (lv_at hl 0 rfl) ?_
      refine w_get (k := 0) (v := .int (mM 0 18)) hx hb hw hown hE fl_X12_66 hM (by decide) rfl rfl rfl dX12_command_183 ?_
      refine lv_iload_n hx hb dX12_command_186 rfl (lv_at hl 1 rfl) ?_
      obtain ⟨h5, hf⟩ := gd_some hf
      refine w_iast (k := 7) (x9 := (mM 0 18).toNatClampNeg) (x := x1) hx hb hE hM (by decide) rfl rfl h5 hS (iv_mem (by decide)) dX12_command_187 (fun H locs hM _ hu hS => ?_)
      refine lv_iconst (v := 0) hx hb dX12_command_188 (by decide) ?_
      refine lv_istore_n (lv' := [(3, .int 0), (0, .ref (b + 0)), (1, .int x1), (2, .int x2)]) hx hb dX12_command_189 rfl hl (by decide) rfl (fun ls hl => ?_)
      obtain ⟨fu, hfu⟩ := lp_some hf
      exact (loop fu (x1, x2, 0, (up2 mM 7 ((mM 0 18).toNatClampNeg) x1)) hfu) _ _ _ hM hS (lv_sub hl [1, 2, 3, 0] rfl)
    · rw [if_neg c4] at hf
      have hre := Option.some.inj hf
      subst hre
      exact mu_v hx hb hrt hlocks hM hS dX12_command_177
  have j144 : ∀ (x1 : Int32) (x2 : Int32) (mM : Mem) (H : Heap) (locs : List Loc) (ls : Array Slot), fX12_command_j144 x1 x2 mM = some r → Blk E b modSh 10 mM H → va_S (iv b 10) s.heap H locs → lv_has ls 4 [(0, .ref (b + 0)), (1, .int x1), (2, .int x2)] → W p l e (rmD 3 0 0) s m args below meth c H locs 0 0 (MQ below (QU none (Blk E b modSh 10 r) (iv b 10)) args s 0 0 (iv b 10)) (F0 m 144 ls []) := by
    intro x1 x2 mM H locs ls hf hM hS hl
    unfold fX12_command_j144 at hf
    refine lv_aload_n hx hb dX12_command_144 rfl (lv_at hl 0 rfl) ?_
    refine lv_bipush (v := 61) hx hb dX12_command_145 (by decide) ?_
    obtain ⟨z6, hc7, hf⟩ := br_some hf
    refine mu_cV (As := [.int 61]) (rest := []) hx hb hml hown hts hE (mX12_expect l E B0 b (by omega) mM (61 : Int32) z6 hc7) cv_X12_249 (w_recv (k := 0) (ci := 12) hE hM (by decide) rfl rfl) hM hS hAB (fun _ h => h) rfl hl.1 rfl (by decide) (Nat.le_of_ble_eq_true rfl) ⟨Nat.le_refl _, Nat.le_refl _⟩ dX12_command_147 (fun H locs hM _ hu hS => ?_)
    refine lv_aload_n hx hb dX12_command_150 rfl (lv_at hl 0 rfl) ?_
    refine w_get (k := 0) (v := .ref (b + 9)) hx hb hw hown hE fl_X12_54 hM (by decide) rfl rfl rfl dX12_command_151 ?_
    refine lv_iconst (v := 1) hx hb dX12_command_154 (by decide) ?_
    refine lv_aload_n hx hb dX12_command_155 rfl (lv_at hl 0 rfl) ?_
    refine lv_iload_n hx hb dX12_command_156 rfl (lv_at hl 1 rfl) ?_
    refine lv_iconst (v := 2) hx hb dX12_command_157 (by decide) ?_
    refine lv_icmp_ne (tgt := 165) hx hb dX12_command_158 (by decide) (fun c8 => ?_) (fun c8 => ?_)
    · rw [if_neg c8] at hf
      refine lv_iconst (v := 1) hx hb dX12_command_165 (by decide) ?_
      obtain ⟨z9, hc10, hf⟩ := br_some hf
      refine mu_cV (As := [.int 1]) (rest := [.int 1, .ref (b + 9)]) hx hb hml hown hts hE (mX12_number l E B0 b (by omega) z6 (1 : Int32) z9 hc10) cv_X12_246 (w_recv (k := 0) (ci := 12) hE hM (by decide) rfl rfl) hM hS hAB (fun _ h => h) rfl hl.1 rfl (by decide) (Nat.le_of_ble_eq_true rfl) ⟨Nat.le_refl _, Nat.le_refl _⟩ dX12_command_166 (fun H locs hM _ hu hS => ?_)
      refine w_iast (k := 9) (x9 := 1) (x := z9.1) hx hb hE hM (by decide) rfl (by decide) (by decide) hS (iv_mem (by decide)) dX12_command_169 (fun H locs hM _ hu hS => ?_)
      exact j170 x1 x2 (up2 z9.2 9 1 z9.1) _ _ _ hf hM hS (lv_sub hl [0, 1, 2] rfl)
    · rw [if_pos c8] at hf
      refine lv_iconst (v := 2) hx hb dX12_command_161 (by decide) ?_
      refine lv_goto (tgt := 166) hx hb dX12_command_162 (by decide) ?_
      obtain ⟨z11, hc12, hf⟩ := br_some hf
      refine mu_cV (As := [.int 2]) (rest := [.int 1, .ref (b + 9)]) hx hb hml hown hts hE (mX12_number l E B0 b (by omega) z6 (2 : Int32) z11 hc12) cv_X12_246 (w_recv (k := 0) (ci := 12) hE hM (by decide) rfl rfl) hM hS hAB (fun _ h => h) rfl hl.1 rfl (by decide) (Nat.le_of_ble_eq_true rfl) ⟨Nat.le_refl _, Nat.le_refl _⟩ dX12_command_166 (fun H locs hM _ hu hS => ?_)
      refine w_iast (k := 9) (x9 := 1) (x := z11.1) hx hb hE hM (by decide) rfl (by decide) (by decide) hS (iv_mem (by decide)) dX12_command_169 (fun H locs hM _ hu hS => ?_)
      exact j170 x1 x2 (up2 z11.2 9 1 z11.1) _ _ _ hf hM hS (lv_sub hl [0, 1, 2] rfl)
  have j123 : ∀ (x1 : Int32) (x2 : Int32) (mM : Mem) (H : Heap) (locs : List Loc) (ls : Array Slot), fX12_command_j123 x1 x2 mM = some r → Blk E b modSh 10 mM H → va_S (iv b 10) s.heap H locs → lv_has ls 4 [(0, .ref (b + 0)), (1, .int x1), (2, .int x2)] → W p l e (rmD 3 0 0) s m args below meth c H locs 0 0 (MQ below (QU none (Blk E b modSh 10 r) (iv b 10)) args s 0 0 (iv b 10)) (F0 m 123 ls []) := by
    intro x1 x2 mM H locs ls hf hM hS hl
    unfold fX12_command_j123 at hf
    refine lv_aload_n hx hb dX12_command_123 rfl (lv_at hl 0 rfl) ?_
    refine w_get (k := 0) (v := .ref (b + 9)) hx hb hw hown hE fl_X12_54 hM (by decide) rfl rfl rfl dX12_command_124 ?_
    refine lv_iconst (v := 0) hx hb dX12_command_127 (by decide) ?_
    refine lv_aload_n hx hb dX12_command_128 rfl (lv_at hl 0 rfl) ?_
    refine lv_iconst (v := 2) hx hb dX12_command_129 (by decide) ?_
    obtain ⟨z13, hc14, hf⟩ := br_some hf
    refine mu_cV (As := [.int 2]) (rest := [.int 0, .ref (b + 9)]) hx hb hml hown hts hE (mX12_number l E B0 b (by omega) mM (2 : Int32) z13 hc14) cv_X12_246 (w_recv (k := 0) (ci := 12) hE hM (by decide) rfl rfl) hM hS hAB (fun _ h => h) rfl hl.1 rfl (by decide) (Nat.le_of_ble_eq_true rfl) ⟨Nat.le_refl _, Nat.le_refl _⟩ dX12_command_130 (fun H locs hM _ hu hS => ?_)
    refine w_iast (k := 9) (x9 := 0) (x := z13.1) hx hb hE hM (by decide) rfl (by decide) (by decide) hS (iv_mem (by decide)) dX12_command_133 (fun H locs hM _ hu hS => ?_)
    refine lv_iload_n hx hb dX12_command_134 rfl (lv_at hl 1 rfl) ?_
    refine lv_iconst (v := 2) hx hb dX12_command_135 (by decide) ?_
    refine lv_icmp_eq (tgt := 144) hx hb dX12_command_136 (by decide) (fun c15 => ?_) (fun c15 => ?_)
    · rw [if_pos c15] at hf
      exact j144 x1 x2 (up2 z13.2 9 0 z13.1) _ _ _ hf hM hS (lv_sub hl [0, 1, 2] rfl)
    · rw [if_neg c15] at hf
      refine lv_iload_n hx hb dX12_command_139 rfl (lv_at hl 1 rfl) ?_
      refine lv_iconst (v := 3) hx hb dX12_command_140 (by decide) ?_
      refine lv_icmp_ne (tgt := 170) hx hb dX12_command_141 (by decide) (fun c16 => ?_) (fun c16 => ?_)
      · rw [if_neg c16] at hf
        exact j170 x1 x2 (up2 z13.2 9 0 z13.1) _ _ _ hf hM hS (lv_sub hl [0, 1, 2] rfl)
      · rw [if_pos c16] at hf
        exact j144 x1 x2 (up2 z13.2 9 0 z13.1) _ _ _ hf hM hS (lv_sub hl [0, 1, 2] rfl)
  have j107 : ∀ (x1 : Int32) (x2 : Int32) (mM : Mem) (H : Heap) (locs : List Loc) (ls : Array Slot), fX12_command_j107 x1 x2 mM = some r → Blk E b modSh 10 mM H → va_S (iv b 10) s.heap H locs → lv_has ls 4 [(0, .ref (b + 0)), (1, .int x1), (2, .int x2)] → W p l e (rmD 3 0 0) s m args below meth c H locs 0 0 (MQ below (QU none (Blk E b modSh 10 r) (iv b 10)) args s 0 0 (iv b 10)) (F0 m 107 ls []) := by
    intro x1 x2 mM H locs ls hf hM hS hl
    unfold fX12_command_j107 at hf
    refine lv_iload_n hx hb dX12_command_107 rfl (lv_at hl 1 rfl) ?_
    refine lv_bipush (v := 7) hx hb dX12_command_108 (by decide) ?_
    refine lv_icmp_eq (tgt := 123) hx hb dX12_command_110 (by decide) (fun c17 => ?_) (fun c17 => ?_)
    · rw [if_pos c17] at hf
      exact j123 x1 x2 mM _ _ _ hf hM hS (lv_sub hl [0, 1, 2] rfl)
    · rw [if_neg c17] at hf
      refine lv_iload_n hx hb dX12_command_113 rfl (lv_at hl 1 rfl) ?_
      refine lv_bipush (v := 8) hx hb dX12_command_114 (by decide) ?_
      refine lv_icmp_ne (tgt := 134) hx hb dX12_command_116 (by decide) (fun c18 => ?_) (fun c18 => ?_)
      · rw [if_neg c18] at hf
        refine lv_iload_n hx hb dX12_command_134 rfl (lv_at hl 1 rfl) ?_
        refine lv_iconst (v := 2) hx hb dX12_command_135 (by decide) ?_
        refine lv_icmp_eq (tgt := 144) hx hb dX12_command_136 (by decide) (fun c19 => ?_) (fun c19 => ?_)
        · rw [if_pos c19] at hf
          exact j144 x1 x2 mM _ _ _ hf hM hS (lv_sub hl [0, 1, 2] rfl)
        · rw [if_neg c19] at hf
          refine lv_iload_n hx hb dX12_command_139 rfl (lv_at hl 1 rfl) ?_
          refine lv_iconst (v := 3) hx hb dX12_command_140 (by decide) ?_
          refine lv_icmp_ne (tgt := 170) hx hb dX12_command_141 (by decide) (fun c20 => ?_) (fun c20 => ?_)
          · rw [if_neg c20] at hf
            exact j170 x1 x2 mM _ _ _ hf hM hS (lv_sub hl [0, 1, 2] rfl)
          · rw [if_pos c20] at hf
            exact j144 x1 x2 mM _ _ _ hf hM hS (lv_sub hl [0, 1, 2] rfl)
      · rw [if_pos c18] at hf
        refine lv_iload_n hx hb dX12_command_119 rfl (lv_at hl 2 rfl) ?_
        refine lv_if_ne (tgt := 134) hx hb dX12_command_120 (by decide) (fun c21 => ?_) (fun c21 => ?_)
        · rw [if_neg c21] at hf
          refine lv_iload_n hx hb dX12_command_134 rfl (lv_at hl 1 rfl) ?_
          refine lv_iconst (v := 2) hx hb dX12_command_135 (by decide) ?_
          refine lv_icmp_eq (tgt := 144) hx hb dX12_command_136 (by decide) (fun c22 => ?_) (fun c22 => ?_)
          · rw [if_pos c22] at hf
            exact j144 x1 x2 mM _ _ _ hf hM hS (lv_sub hl [0, 1, 2] rfl)
          · rw [if_neg c22] at hf
            refine lv_iload_n hx hb dX12_command_139 rfl (lv_at hl 1 rfl) ?_
            refine lv_iconst (v := 3) hx hb dX12_command_140 (by decide) ?_
            refine lv_icmp_ne (tgt := 170) hx hb dX12_command_141 (by decide) (fun c23 => ?_) (fun c23 => ?_)
            · rw [if_neg c23] at hf
              exact j170 x1 x2 mM _ _ _ hf hM hS (lv_sub hl [0, 1, 2] rfl)
            · rw [if_pos c23] at hf
              exact j144 x1 x2 mM _ _ _ hf hM hS (lv_sub hl [0, 1, 2] rfl)
        · rw [if_pos c21] at hf
          exact j123 x1 x2 mM _ _ _ hf hM hS (lv_sub hl [0, 1, 2] rfl)
  have j85 : ∀ (x1 : Int32) (x2 : Int32) (mM : Mem) (H : Heap) (locs : List Loc) (ls : Array Slot), fX12_command_j85 x1 x2 mM = some r → Blk E b modSh 10 mM H → va_S (iv b 10) s.heap H locs → lv_has ls 4 [(0, .ref (b + 0)), (1, .int x1), (2, .int x2)] → W p l e (rmD 3 0 0) s m args below meth c H locs 0 0 (MQ below (QU none (Blk E b modSh 10 r) (iv b 10)) args s 0 0 (iv b 10)) (F0 m 85 ls []) := by
    intro x1 x2 mM H locs ls hf hM hS hl
    unfold fX12_command_j85 at hf
    refine lv_iload_n hx hb dX12_command_85 rfl (lv_at hl 1 rfl) ?_
    refine lv_iconst (v := 1) hx hb dX12_command_86 (by decide) ?_
    refine lv_icmp_le (tgt := 107) hx hb dX12_command_87 (by decide) (fun c24 => ?_) (fun c24 => ?_)
    · rw [if_pos c24] at hf
      exact j107 x1 x2 mM _ _ _ hf hM hS (lv_sub hl [0, 1, 2] rfl)
    · rw [if_neg c24] at hf
      refine lv_iload_n hx hb dX12_command_90 rfl (lv_at hl 1 rfl) ?_
      refine lv_bipush (v := 7) hx hb dX12_command_91 (by decide) ?_
      refine lv_icmp_ge (tgt := 107) hx hb dX12_command_93 (by decide) (fun c25 => ?_) (fun c25 => ?_)
      · rw [if_pos c25] at hf
        exact j107 x1 x2 mM _ _ _ hf hM hS (lv_sub hl [0, 1, 2] rfl)
      · rw [if_neg c25] at hf
        refine lv_aload_n hx hb dX12_command_96 rfl (lv_at hl 0 rfl) ?_
        refine w_get (k := 0) (v := .ref (b + 9)) hx hb hw hown hE fl_X12_54 hM (by decide) rfl rfl rfl dX12_command_97 ?_
        refine lv_iconst (v := 0) hx hb dX12_command_100 (by decide) ?_
        refine lv_aload_n hx hb dX12_command_101 rfl (lv_at hl 0 rfl) ?_
        refine lv_iconst (v := 1) hx hb dX12_command_102 (by decide) ?_
        obtain ⟨z26, hc27, hf⟩ := br_some hf
        refine mu_cV (As := [.int 1]) (rest := [.int 0, .ref (b + 9)]) hx hb hml hown hts hE (mX12_number l E B0 b (by omega) mM (1 : Int32) z26 hc27) cv_X12_246 (w_recv (k := 0) (ci := 12) hE hM (by decide) rfl rfl) hM hS hAB (fun _ h => h) rfl hl.1 rfl (by decide) (Nat.le_of_ble_eq_true rfl) ⟨Nat.le_refl _, Nat.le_refl _⟩ dX12_command_103 (fun H locs hM _ hu hS => ?_)
        refine w_iast (k := 9) (x9 := 0) (x := z26.1) hx hb hE hM (by decide) rfl (by decide) (by decide) hS (iv_mem (by decide)) dX12_command_106 (fun H locs hM _ hu hS => ?_)
        exact j107 x1 x2 (up2 z26.2 9 0 z26.1) _ _ _ hf hM hS (lv_sub hl [0, 1, 2] rfl)
  have j67 : ∀ (x1 : Int32) (s0 : Int32) (mM : Mem) (H : Heap) (locs : List Loc) (ls : Array Slot), fX12_command_j67 x1 s0 mM = some r → Blk E b modSh 10 mM H → va_S (iv b 10) s.heap H locs → lv_has ls 4 [(0, .ref (b + 0)), (1, .int x1)] → W p l e (rmD 3 0 0) s m args below meth c H locs 0 0 (MQ below (QU none (Blk E b modSh 10 r) (iv b 10)) args s 0 0 (iv b 10)) (F0 m 67 ls [.int s0]) := by
    intro x1 s0 mM H locs ls hf hM hS hl
    unfold fX12_command_j67 at hf
    refine lv_istore_n (lv' := [(2, .int s0), (0, .ref (b + 0)), (1, .int x1)]) hx hb dX12_command_67 rfl hl (by decide) rfl (fun ls hl => ?_)
    refine lv_iload_n hx hb dX12_command_68 rfl (lv_at hl 2 rfl) ?_
    refine lv_if_ne (tgt := 76) hx hb dX12_command_69 (by decide) (fun c28 => ?_) (fun c28 => ?_)
    · rw [if_neg c28] at hf
      refine lv_iload_n hx hb dX12_command_76 rfl (lv_at hl 2 rfl) ?_
      refine lv_iconst (v := 1) hx hb dX12_command_77 (by decide) ?_
      refine lv_icmp_ne (tgt := 85) hx hb dX12_command_78 (by decide) (fun c29 => ?_) (fun c29 => ?_)
      · rw [if_neg c29] at hf
        exact j85 x1 s0 mM _ _ _ hf hM hS (lv_sub hl [1, 2, 0] rfl)
      · rw [if_pos c29] at hf
        refine lv_aload_n hx hb dX12_command_81 rfl (lv_at hl 1 rfl) ?_
        obtain ⟨z30, hc31, hf⟩ := br_some hf
        refine mu_cV (As := []) (rest := []) hx hb hml hown hts hE (mX12_readsPlace l E B0 b (by omega) mM z30 hc31) cv_X12_258 (w_recv (k := 0) (ci := 12) hE hM (by decide) rfl rfl) hM hS hAB (fun _ h => h) rfl hl.1 rfl (by decide) (Nat.le_of_ble_eq_true rfl) ⟨Nat.le_refl _, Nat.le_refl _⟩ dX12_command_82 (fun H locs hM _ hu hS => ?_)
        exact j85 x1 s0 z30 _ _ _ hf hM hS (lv_sub hl [1, 2, 0] rfl)
    · rw [if_pos c28] at hf
      refine lv_aload_n hx hb dX12_command_72 rfl (lv_at hl 1 rfl) ?_
      obtain ⟨z32, hc33, hf⟩ := br_some hf
      refine mu_cV (As := []) (rest := []) hx hb hml hown hts hE (mX12_readsStation l E B0 b (by omega) mM z32 hc33) cv_X12_255 (w_recv (k := 0) (ci := 12) hE hM (by decide) rfl rfl) hM hS hAB (fun _ h => h) rfl hl.1 rfl (by decide) (Nat.le_of_ble_eq_true rfl) ⟨Nat.le_refl _, Nat.le_refl _⟩ dX12_command_73 (fun H locs hM _ hu hS => ?_)
      refine lv_iload_n hx hb dX12_command_76 rfl (lv_at hl 2 rfl) ?_
      refine lv_iconst (v := 1) hx hb dX12_command_77 (by decide) ?_
      refine lv_icmp_ne (tgt := 85) hx hb dX12_command_78 (by decide) (fun c34 => ?_) (fun c34 => ?_)
      · rw [if_neg c34] at hf
        exact j85 x1 s0 z32 _ _ _ hf hM hS (lv_sub hl [1, 2, 0] rfl)
      · rw [if_pos c34] at hf
        refine lv_aload_n hx hb dX12_command_81 rfl (lv_at hl 1 rfl) ?_
        obtain ⟨z35, hc36, hf⟩ := br_some hf
        refine mu_cV (As := []) (rest := []) hx hb hml hown hts hE (mX12_readsPlace l E B0 b (by omega) z32 z35 hc36) cv_X12_258 (w_recv (k := 0) (ci := 12) hE hM (by decide) rfl rfl) hM hS hAB (fun _ h => h) rfl hl.1 rfl (by decide) (Nat.le_of_ble_eq_true rfl) ⟨Nat.le_refl _, Nat.le_refl _⟩ dX12_command_82 (fun H locs hM _ hu hS => ?_)
        exact j85 x1 s0 z35 _ _ _ hf hM hS (lv_sub hl [1, 2, 0] rfl)
  have j33 : ∀ (x1 : Int32) (mM : Mem) (H : Heap) (locs : List Loc) (ls : Array Slot), fX12_command_j33 x1 mM = some r → Blk E b modSh 10 mM H → va_S (iv b 10) s.heap H locs → lv_has ls 4 [(0, .ref (b + 0)), (1, .int x1)] → W p l e (rmD 3 0 0) s m args below meth c H locs 0 0 (MQ below (QU none (Blk E b modSh 10 r) (iv b 10)) args s 0 0 (iv b 10)) (F0 m 33 ls []) := by
    intro x1 mM H locs ls hf hM hS hl
    unfold fX12_command_j33 at hf
    refine lv_iload_n hx hb dX12_command_33 rfl (lv_at hl 1 rfl) ?_
    refine lv_bipush (v := 8) hx hb dX12_command_34 (by decide) ?_
    refine lv_icmp_ne (tgt := 66) hx hb dX12_command_36 (by decide) (fun c37 => ?_) (fun c37 => ?_)
    · rw [if_neg c37] at hf
      refine lv_iconst (v := 0) hx hb dX12_command_66 (by decide) ?_
      exact j67 x1 (0 : Int32) mM _ _ _ hf hM hS (lv_sub hl [0, 1] rfl)
    · rw [if_pos c37] at hf
      refine lv_aload_n hx hb dX12_command_39 rfl (lv_at hl 0 rfl) ?_
      refine w_get (k := 0) (v := .int (mM 0 17)) hx hb hw hown hE fl_X12_63 hM (by decide) rfl rfl rfl dX12_command_40 ?_
      refine lv_if_eq (tgt := 62) hx hb dX12_command_43 (by decide) (fun c38 => ?_) (fun c38 => ?_)
      · rw [if_pos c38] at hf
        refine lv_iconst (v := 1) hx hb dX12_command_62 (by decide) ?_
        refine lv_goto (tgt := 67) hx hb dX12_command_63 (by decide) ?_
        exact j67 x1 (1 : Int32) mM _ _ _ hf hM hS (lv_sub hl [0, 1] rfl)
      · rw [if_neg c38] at hf
        refine lv_aload_n hx hb dX12_command_46 rfl (lv_at hl 0 rfl) ?_
        refine w_get (k := 0) (v := .ref (b + 6)) hx hb hw hown hE fl_X12_45 hM (by decide) rfl rfl rfl dX12_command_47 ?_
        refine lv_aload_n hx hb dX12_command_50 rfl (lv_at hl 0 rfl) ?_
        refine w_get (k := 0) (v := .int (mM 0 17)) hx hb hw hown hE fl_X12_63 hM (by decide) rfl rfl rfl dX12_command_51 ?_
        refine lv_iconst (v := 1) hx hb dX12_command_54 (by decide) ?_
        refine lv_isub hx hb dX12_command_55 ?_
        obtain ⟨h39, hf⟩ := gd_some hf
        refine w_iald (k := 6) (x9 := ((mM 0 17) - 1).toNatClampNeg) hx hb hE hM (by decide) rfl rfl h39 dX12_command_56 ?_
        refine lv_bipush (v := 32) hx hb dX12_command_57 (by decide) ?_
        refine lv_icmp_eq (tgt := 66) hx hb dX12_command_59 (by decide) (fun c40 => ?_) (fun c40 => ?_)
        · rw [if_pos c40] at hf
          refine lv_iconst (v := 0) hx hb dX12_command_66 (by decide) ?_
          exact j67 x1 (0 : Int32) mM _ _ _ hf hM hS (lv_sub hl [0, 1] rfl)
        · rw [if_neg c40] at hf
          refine lv_iconst (v := 1) hx hb dX12_command_62 (by decide) ?_
          refine lv_goto (tgt := 67) hx hb dX12_command_63 (by decide) ?_
          exact j67 x1 (1 : Int32) mM _ _ _ hf hM hS (lv_sub hl [0, 1] rfl)
  refine lv_aload_n hx hb dX12_command_0 rfl (lv_at hl 0 rfl) ?_
  obtain ⟨z41, hc42, hf⟩ := br_some hf
  refine mu_cV (As := []) (rest := []) hx hb hml hown hts hE (mX12_word l E B0 b (by omega) M z41 hc42) cv_X12_252 (w_recv (k := 0) (ci := 12) hE hM (by decide) rfl rfl) hM hS hAB (fun _ h => h) rfl hl.1 rfl (by decide) (Nat.le_of_ble_eq_true rfl) ⟨Nat.le_refl _, Nat.le_refl _⟩ dX12_command_1 (fun H locs hM _ hu hS => ?_)
  refine lv_istore_n (lv' := [(1, .int z41.1), (0, .ref (b + 0))]) hx hb dX12_command_4 rfl hl (by decide) rfl (fun ls hl => ?_)
  refine lv_aload_n hx hb dX12_command_5 rfl (lv_at hl 1 rfl) ?_
  refine w_get (k := 0) (v := .ref (b + 9)) hx hb hw hown hE fl_X12_54 hM (by decide) rfl rfl rfl dX12_command_6 ?_
  refine lv_iconst (v := 0) hx hb dX12_command_9 (by decide) ?_
  refine lv_iconst (v := 1) hx hb dX12_command_10 (by decide) ?_
  refine w_iast (k := 9) (x9 := 0) (x := (1 : Int32)) hx hb hE hM (by decide) rfl (by decide) (by decide) hS (iv_mem (by decide)) dX12_command_11 (fun H locs hM _ hu hS => ?_)
  refine lv_iload_n hx hb dX12_command_12 rfl (lv_at hl 0 rfl) ?_
  refine lv_bipush (v := 8) hx hb dX12_command_13 (by decide) ?_
  refine lv_icmp_lt (tgt := 27) hx hb dX12_command_15 (by decide) (fun c43 => ?_) (fun c43 => ?_)
  · rw [if_pos c43] at hf
    refine lv_aload_n hx hb dX12_command_27 rfl (lv_at hl 1 rfl) ?_
    refine lv_bipush (v := 32) hx hb dX12_command_28 (by decide) ?_
    obtain ⟨z44, hc45, hf⟩ := br_some hf
    refine mu_cV (As := [.int 32]) (rest := []) hx hb hml hown hts hE (mX12_expect l E B0 b (by omega) (up2 z41.2 9 0 (1 : Int32)) (32 : Int32) z44 hc45) cv_X12_249 (w_recv (k := 0) (ci := 12) hE hM (by decide) rfl rfl) hM hS hAB (fun _ h => h) rfl hl.1 rfl (by decide) (Nat.le_of_ble_eq_true rfl) ⟨Nat.le_refl _, Nat.le_refl _⟩ dX12_command_30 (fun H locs hM _ hu hS => ?_)
    exact j33 z41.1 z44 _ _ _ hf hM hS (lv_sub hl [1, 0] rfl)
  · rw [if_neg c43] at hf
    refine lv_aload_n hx hb dX12_command_18 rfl (lv_at hl 1 rfl) ?_
    obtain ⟨z46, hc47, hf⟩ := br_some hf
    refine mu_cV (As := []) (rest := []) hx hb hml hown hts hE (mX12_mark l E B0 b (by omega) (up2 z41.2 9 0 (1 : Int32)) z46 hc47) cv_X12_233 (w_recv (k := 0) (ci := 12) hE hM (by decide) rfl rfl) hM hS hAB (fun _ h => h.elim) rfl hl.1 rfl (by decide) (Nat.le_of_ble_eq_true rfl) ⟨Nat.le_refl _, Nat.le_refl _⟩ dX12_command_19 (fun H locs hM _ hu hS => ?_)
    refine lv_bipush (v := 32) hx hb dX12_command_22 (by decide) ?_
    refine lv_icmp_ne (tgt := 33) hx hb dX12_command_24 (by decide) (fun c48 => ?_) (fun c48 => ?_)
    · rw [if_neg c48] at hf
      exact j33 z41.1 (up2 z41.2 9 0 (1 : Int32)) _ _ _ hf hM hS (lv_sub hl [1, 0] rfl)
    · rw [if_pos c48] at hf
      refine lv_aload_n hx hb dX12_command_27 rfl (lv_at hl 1 rfl) ?_
      refine lv_bipush (v := 32) hx hb dX12_command_28 (by decide) ?_
      obtain ⟨z49, hc50, hf⟩ := br_some hf
      refine mu_cV (As := [.int 32]) (rest := []) hx hb hml hown hts hE (mX12_expect l E B0 b (by omega) (up2 z41.2 9 0 (1 : Int32)) (32 : Int32) z49 hc50) cv_X12_249 (w_recv (k := 0) (ci := 12) hE hM (by decide) rfl rfl) hM hS hAB (fun _ h => h) rfl hl.1 rfl (by decide) (Nat.le_of_ble_eq_true rfl) ⟨Nat.le_refl _, Nat.le_refl _⟩ dX12_command_30 (fun H locs hM _ hu hS => ?_)
      exact j33 z41.1 z49 _ _ _ hf hM hS (lv_sub hl [1, 0] rfl)
noncomputable def fX12_parse_s  (z : Mem) : Option ((Mem) ⊕ (Mem)) := (fX12_mark z).bind fun z1 => (if z1 = (59 : Int32) then (fX12_command (up2 z 0 17 ((z 0 17) + 1))).bind fun z7 => some (.inl z7) else (if (z 0 16) ≤ (z 0 17) then gd (isZ ((z 0 19) ||| 0)) (some (.inr (up2 z 0 19 ((z 0 19) ||| 0)))) else gd (isZ ((z 0 19) ||| 1)) (some (.inr (up2 z 0 19 ((z 0 19) ||| 1))))))
noncomputable def fX12_parse (M : Mem) : Option (Mem) := (fX12_command (up2 (up2 (up2 (up2 (up2 M 0 16 (M 0 15)) 0 15 (0 : Int32)) 0 17 (0 : Int32)) 0 18 (0 : Int32)) 0 19 (0 : Int32))).bind fun z9 => lp (fX12_parse_s) z9
set_option maxHeartbeats 4000000 in
set_option maxRecDepth 100000 in
theorem mX12_parse (l : Launch) (E : EP) (B0 : Nat) (b : Nat) (hb0 : B0 ≤ b) (M : Mem) (r : Mem) (hf : fX12_parse M = some r) : MU l E B0 yX12_parse cX12_parse 1 none 4 0 0 [.ref (b + 0)] (Blk E b modSh 10 M) none (Blk E b modSh 10 r) (iv b 10) := by
  refine mu_of (by decide +kernel) (Nat.le_of_ble_eq_true rfl) ?_
  intro p e s m args below meth c hx hb hml hown hts hrt hlocks hE H hM hS ls hl
  have hown : s.vm.findClass RX12 = some m.cls := hown
  have hl : lv_has ls 1 [(0, .ref (b + 0))] := hl
  have hw : ∀ w ∈ WA, w.before args s = true := fun w h => hts w (List.mem_cons_of_mem _ h)
  have hAB : ∀ q, (iv b 10) q → B0 ≤ q := (iv_ge (by omega))
  unfold fX12_parse at hf
  have loop : ∀ (fu : Nat) (z : Mem), lpI (fX12_parse_s) fu z = some r → (∀ (H : Heap) (locs : List Loc) (ls : Array Slot), Blk E b modSh 10 z H → va_S (iv b 10) s.heap H locs → lv_has ls 1 [(0, .ref (b + 0))] → W p l e (rmD 4 0 0) s m args below meth c H locs 0 0 (MQ below (QU none (Blk E b modSh 10 r) (iv b 10)) args s 0 0 (iv b 10)) (F0 m 32 ls [])) := by
    intro fu
    induction fu with
    | zero =>
      intro z hn
      exact nomatch hn
    | succ fu ih =>
      intro z hn
      obtain ⟨y, hf, hy⟩ := lpI_succ hn
      intro H locs ls hM hS hl
      unfold fX12_parse_s at hf
      refine lv_aload_n hx hb dX12_parse_32 rfl (lv_at hl 0 rfl) ?_
      obtain ⟨z1, hc2, hf⟩ := br_some hf
      refine mu_cV (As := []) (rest := []) hx hb hml hown hts hE (mX12_mark l E B0 b (by omega) z z1 hc2) cv_X12_233 (w_recv (k := 0) (ci := 12) hE hM (by decide) rfl rfl) hM hS hAB (fun _ h => h.elim) rfl hl.1 rfl (by decide) (Nat.le_of_ble_eq_true rfl) ⟨Nat.le_refl _, Nat.le_refl _⟩ dX12_parse_33 (fun H locs hM _ hu hS => ?_)
      refine lv_bipush (v := 59) hx hb dX12_parse_36 (by decide) ?_
      refine lv_icmp_ne (tgt := 58) hx hb dX12_parse_38 (by decide) (fun c3 => ?_) (fun c3 => ?_)
      · rw [if_neg c3] at hf
        refine lv_aload_n hx hb dX12_parse_58 rfl (lv_at hl 0 rfl) ?_
        refine lv_dup hx hb dX12_parse_59 rfl ?_
        refine w_get (k := 0) (v := .int (z 0 19)) hx hb hw hown hE fl_X12_69 hM (by decide) rfl rfl rfl dX12_parse_60 ?_
        refine lv_aload_n hx hb dX12_parse_63 rfl (lv_at hl 0 rfl) ?_
        refine w_get (k := 0) (v := .int (z 0 17)) hx hb hw hown hE fl_X12_63 hM (by decide) rfl rfl rfl dX12_parse_64 ?_
        refine lv_aload_n hx hb dX12_parse_67 rfl (lv_at hl 0 rfl) ?_
        refine w_get (k := 0) (v := .int (z 0 16)) hx hb hw hown hE fl_X12_60 hM (by decide) rfl rfl rfl dX12_parse_68 ?_
        refine lv_icmp_ge (tgt := 78) hx hb dX12_parse_71 (by decide) (fun c4 => ?_) (fun c4 => ?_)
        · rw [if_pos c4] at hf
          refine lv_iconst (v := 0) hx hb dX12_parse_78 (by decide) ?_
          refine lv_ior hx hb dX12_parse_79 ?_
          obtain ⟨h5, hf⟩ := gd_some hf
          refine w_put (k := 0) (v := .int ((z 0 19) ||| 0)) hx hb hw hown hE fl_X12_69 fw_X12_19 hM (by decide) rfl rfl ((z 0 19) ||| 0) rfl (isZ_n h5) (isZ_f h5) hS (iv_mem (by decide)) dX12_parse_80 (fun H locs hM _ hu hS => ?_)
          have hre := lp_end hy (Option.some.inj hf).symm
          subst hre
          exact mu_v hx hb hrt hlocks hM hS dX12_parse_83
        · rw [if_neg c4] at hf
          refine lv_iconst (v := 1) hx hb dX12_parse_74 (by decide) ?_
          refine lv_goto (tgt := 79) hx hb dX12_parse_75 (by decide) ?_
          refine lv_ior hx hb dX12_parse_79 ?_
          obtain ⟨h6, hf⟩ := gd_some hf
          refine w_put (k := 0) (v := .int ((z 0 19) ||| 1)) hx hb hw hown hE fl_X12_69 fw_X12_19 hM (by decide) rfl rfl ((z 0 19) ||| 1) rfl (isZ_n h6) (isZ_f h6) hS (iv_mem (by decide)) dX12_parse_80 (fun H locs hM _ hu hS => ?_)
          have hre := lp_end hy (Option.some.inj hf).symm
          subst hre
          exact mu_v hx hb hrt hlocks hM hS dX12_parse_83
      · rw [if_pos c3] at hf
        refine lv_aload_n hx hb dX12_parse_41 rfl (lv_at hl 0 rfl) ?_
        refine lv_dup hx hb dX12_parse_42 rfl ?_
        refine w_get (k := 0) (v := .int (z 0 17)) hx hb hw hown hE fl_X12_63 hM (by decide) rfl rfl rfl dX12_parse_43 ?_
        refine lv_iconst (v := 1) hx hb dX12_parse_46 (by decide) ?_
        refine lv_iadd hx hb dX12_parse_47 ?_
        refine w_put (k := 0) (v := .int ((z 0 17) + 1)) hx hb hw hown hE fl_X12_63 fw_X12_17 hM (by decide) rfl rfl ((z 0 17) + 1) rfl rfl rfl hS (iv_mem (by decide)) dX12_parse_48 (fun H locs hM _ hu hS => ?_)
        refine lv_aload_n hx hb dX12_parse_51 rfl (lv_at hl 0 rfl) ?_
        obtain ⟨z7, hc8, hf⟩ := br_some hf
        refine mu_cV (As := []) (rest := []) hx hb hml hown hts hE (mX12_command l E B0 b (by omega) (up2 z 0 17 ((z 0 17) + 1)) z7 hc8) cv_X12_261 (w_recv (k := 0) (ci := 12) hE hM (by decide) rfl rfl) hM hS hAB (fun _ h => h) rfl hl.1 rfl (by decide) (Nat.le_of_ble_eq_true rfl) ⟨Nat.le_refl _, Nat.le_refl _⟩ dX12_parse_52 (fun H locs hM _ hu hS => ?_)
        refine lv_goto (tgt := 32) hx hb dX12_parse_55 (by decide) ?_
        exact ih z7 (lp_back hy (Option.some.inj hf).symm) _ _ _ hM hS (lv_sub hl [0] rfl)
  refine lv_aload_n hx hb dX12_parse_0 rfl (lv_at hl 0 rfl) ?_
  refine lv_aload_n hx hb dX12_parse_1 rfl (lv_at hl 0 rfl) ?_
  refine w_get (k := 0) (v := .int (M 0 15)) hx hb hw hown hE fl_X12_57 hM (by decide) rfl rfl rfl dX12_parse_2 ?_
  refine w_put (k := 0) (v := .int (M 0 15)) hx hb hw hown hE fl_X12_60 fw_X12_16 hM (by decide) rfl rfl (M 0 15) rfl rfl rfl hS (iv_mem (by decide)) dX12_parse_5 (fun H locs hM _ hu hS => ?_)
  refine lv_aload_n hx hb dX12_parse_8 rfl (lv_at hl 0 rfl) ?_
  refine lv_iconst (v := 0) hx hb dX12_parse_9 (by decide) ?_
  refine w_put (k := 0) (v := .int 0) hx hb hw hown hE fl_X12_57 fw_X12_15 hM (by decide) rfl rfl (0 : Int32) rfl rfl rfl hS (iv_mem (by decide)) dX12_parse_10 (fun H locs hM _ hu hS => ?_)
  refine lv_aload_n hx hb dX12_parse_13 rfl (lv_at hl 0 rfl) ?_
  refine lv_iconst (v := 0) hx hb dX12_parse_14 (by decide) ?_
  refine w_put (k := 0) (v := .int 0) hx hb hw hown hE fl_X12_63 fw_X12_17 hM (by decide) rfl rfl (0 : Int32) rfl rfl rfl hS (iv_mem (by decide)) dX12_parse_15 (fun H locs hM _ hu hS => ?_)
  refine lv_aload_n hx hb dX12_parse_18 rfl (lv_at hl 0 rfl) ?_
  refine lv_iconst (v := 0) hx hb dX12_parse_19 (by decide) ?_
  refine w_put (k := 0) (v := .int 0) hx hb hw hown hE fl_X12_66 fw_X12_18 hM (by decide) rfl rfl (0 : Int32) rfl rfl rfl hS (iv_mem (by decide)) dX12_parse_20 (fun H locs hM _ hu hS => ?_)
  refine lv_aload_n hx hb dX12_parse_23 rfl (lv_at hl 0 rfl) ?_
  refine lv_iconst (v := 0) hx hb dX12_parse_24 (by decide) ?_
  refine w_put (k := 0) (v := .int 0) hx hb hw hown hE fl_X12_69 fw_X12_19 hM (by decide) rfl rfl (0 : Int32) rfl rfl rfl hS (iv_mem (by decide)) dX12_parse_25 (fun H locs hM _ hu hS => ?_)
  refine lv_aload_n hx hb dX12_parse_28 rfl (lv_at hl 0 rfl) ?_
  obtain ⟨z9, hc10, hf⟩ := br_some hf
  refine mu_cV (As := []) (rest := []) hx hb hml hown hts hE (mX12_command l E B0 b (by omega) (up2 (up2 (up2 (up2 (up2 M 0 16 (M 0 15)) 0 15 (0 : Int32)) 0 17 (0 : Int32)) 0 18 (0 : Int32)) 0 19 (0 : Int32)) z9 hc10) cv_X12_261 (w_recv (k := 0) (ci := 12) hE hM (by decide) rfl rfl) hM hS hAB (fun _ h => h) rfl hl.1 rfl (by decide) (Nat.le_of_ble_eq_true rfl) ⟨Nat.le_refl _, Nat.le_refl _⟩ dX12_parse_29 (fun H locs hM _ hu hS => ?_)
  obtain ⟨fu, hfu⟩ := lp_some hf
  exact (loop fu z9 hfu) _ _ _ hM hS (lv_sub hl [0] rfl)
noncomputable def fX12_cannot (M : Mem) (a1 : Int32) : Option (Int32 × Mem) := gd (inb ((6 : Int32) * a1) 192) (gd (inb (((6 : Int32) * a1) + 1) 192) (gd (inb (((6 : Int32) * a1) + 2) 192) (gd (inb a1 32) ((if (M 7 a1.toNatClampNeg) = 0 then gd (inb (((6 : Int32) * a1) + 3) 192) (gd (inb (((6 : Int32) * a1) + 4) 192) (gd (inb (((6 : Int32) * a1) + 5) 192) ((fX12_cannotAdd M (M 8 (((6 : Int32) * a1).toNatClampNeg)) (M 8 ((((6 : Int32) * a1) + 1).toNatClampNeg)) (M 8 ((((6 : Int32) * a1) + 2).toNatClampNeg)) (M 8 ((((6 : Int32) * a1) + 3).toNatClampNeg)) (M 8 ((((6 : Int32) * a1) + 4).toNatClampNeg)) (M 8 ((((6 : Int32) * a1) + 5).toNatClampNeg))).bind fun z9 => (if z9 ≤ 0 then gd (inb (((6 : Int32) * a1) + 3) 192) (gd (inb (((6 : Int32) * a1) + 4) 192) (gd (inb (((6 : Int32) * a1) + 5) 192) ((fX12_adds M (M 8 (((6 : Int32) * a1).toNatClampNeg)) (M 8 ((((6 : Int32) * a1) + 1).toNatClampNeg)) (M 8 ((((6 : Int32) * a1) + 2).toNatClampNeg)) (M 8 ((((6 : Int32) * a1) + 3).toNatClampNeg)) (M 8 ((((6 : Int32) * a1) + 4).toNatClampNeg)) (M 8 ((((6 : Int32) * a1) + 5).toNatClampNeg))).bind fun z15 => some (0, z15.2)))) else some (1, M))))) else (if (M 7 a1.toNatClampNeg) = 1 then (fX12_cannotMove M (M 8 (((6 : Int32) * a1).toNatClampNeg)) (M 8 ((((6 : Int32) * a1) + 1).toNatClampNeg)) (M 8 ((((6 : Int32) * a1) + 2).toNatClampNeg))).bind fun z18 => (if z18 ≤ 0 then (fX12_moves M (M 8 (((6 : Int32) * a1).toNatClampNeg)) (M 8 ((((6 : Int32) * a1) + 1).toNatClampNeg)) (M 8 ((((6 : Int32) * a1) + 2).toNatClampNeg))).bind fun z21 => some (0, z21.2) else some (1, M)) else (if (M 7 a1.toNatClampNeg) = 2 then (fX12_cannotPower M (M 8 (((6 : Int32) * a1).toNatClampNeg)) (M 8 ((((6 : Int32) * a1) + 1).toNatClampNeg))).bind fun z24 => (if z24 ≤ 0 then (fX12_replaces M (M 8 (((6 : Int32) * a1).toNatClampNeg)) (4 : Int32) (M 8 ((((6 : Int32) * a1) + 1).toNatClampNeg))).bind fun z27 => some (0, z27.2) else some (1, M)) else (if (M 7 a1.toNatClampNeg) = 3 then (fX12_cannotTune M (M 8 (((6 : Int32) * a1).toNatClampNeg)) (M 8 ((((6 : Int32) * a1) + 1).toNatClampNeg))).bind fun z30 => (if z30 ≤ 0 then (fX12_replaces M (M 8 (((6 : Int32) * a1).toNatClampNeg)) (5 : Int32) (M 8 ((((6 : Int32) * a1) + 1).toNatClampNeg))).bind fun z33 => some (0, z33.2) else some (1, M)) else (if (M 7 a1.toNatClampNeg) = 4 then (fX12_unless M (M 8 (((6 : Int32) * a1).toNatClampNeg)) (0 : Int32)).bind fun z36 => (if z36 ≤ 0 then (fX12_requests M (M 8 (((6 : Int32) * a1).toNatClampNeg))).bind fun z39 => some (0, z39.2) else some (1, M)) else (if (M 7 a1.toNatClampNeg) = 5 then (fX12_unless M (M 8 (((6 : Int32) * a1).toNatClampNeg)) (1 : Int32)).bind fun z42 => (if z42 ≤ 0 then (fX12_ends M (M 8 (((6 : Int32) * a1).toNatClampNeg))).bind fun z45 => some (0, z45.2) else some (1, M)) else (if (M 7 a1.toNatClampNeg) = 6 then (fX12_unless M (M 8 (((6 : Int32) * a1).toNatClampNeg)) (2 : Int32)).bind fun z48 => (if z48 ≤ 0 then (fX12_cancels M (M 8 (((6 : Int32) * a1).toNatClampNeg))).bind fun z51 => some (0, z51.2) else some (1, M)) else (if (M 7 a1.toNatClampNeg) = 7 then (fX12_in (M 8 (((6 : Int32) * a1).toNatClampNeg)) (1 : Int32) (60 : Int32)).bind fun z54 => (if z54 = 0 then some (1, M) else (fX12_limits M (M 8 (((6 : Int32) * a1).toNatClampNeg))).bind fun z57 => some (0, z57.2)) else (fX12_in (M 8 (((6 : Int32) * a1).toNatClampNeg)) (1 : Int32) (60 : Int32)).bind fun z59 => (if z59 = 0 then some (1, M) else (fX12_passes M (M 8 (((6 : Int32) * a1).toNatClampNeg))).bind fun z62 => some (0, z62.2))))))))))))))
set_option maxHeartbeats 4000000 in
set_option maxRecDepth 100000 in
theorem mX12_cannot (l : Launch) (E : EP) (B0 : Nat) (b : Nat) (hb0 : B0 ≤ b) (M : Mem) (a1 : Int32) (r : Int32 × Mem) (hf : fX12_cannot M a1 = some r) : MU l E B0 yX12_cannot cX12_cannot 7 (some .boolean) 7 0 0 [.ref (b + 0), .int a1] (Blk E b modSh 10 M) (some (.int r.1)) (Blk E b modSh 10 r.2) (iv b 10) := by
  refine mu_of (by decide +kernel) (Nat.le_of_ble_eq_true rfl) ?_
  intro p e s m args below meth c hx hb hml hown hts hrt hlocks hE H hM hS ls hl
  have hown : s.vm.findClass RX12 = some m.cls := hown
  have hl : lv_has ls 7 [(0, .ref (b + 0)), (1, .int a1)] := hl
  have hw : ∀ w ∈ WA, w.before args s = true := fun w h => hts w (List.mem_cons_of_mem _ h)
  have hAB : ∀ q, (iv b 10) q → B0 ≤ q := (iv_ge (by omega))
  unfold fX12_cannot at hf
  refine lv_bipush (v := 6) hx hb dX12_cannot_0 (by decide) ?_
  refine lv_iload_n hx hb dX12_cannot_2 rfl (lv_at hl 1 rfl) ?_
  refine lv_imul hx hb dX12_cannot_3 ?_
  refine lv_istore_n (lv' := [(2, .int ((6 : Int32) * a1)), (0, .ref (b + 0)), (1, .int a1)]) hx hb dX12_cannot_4 rfl hl (by decide) rfl (fun ls hl => ?_)
  refine lv_aload_n hx hb dX12_cannot_5 rfl (lv_at hl 1 rfl) ?_
  refine w_get (k := 0) (v := .ref (b + 8)) hx hb hw hown hE fl_X12_51 hM (by decide) rfl rfl rfl dX12_cannot_6 ?_
  refine lv_iload_n hx hb dX12_cannot_9 rfl (lv_at hl 0 rfl) ?_
  obtain ⟨h1, hf⟩ := gd_some hf
  refine w_iald (k := 8) (x9 := ((6 : Int32) * a1).toNatClampNeg) hx hb hE hM (by decide) rfl rfl h1 dX12_cannot_10 ?_
  refine lv_istore_n (lv' := [(3, .int (M 8 (((6 : Int32) * a1).toNatClampNeg))), (2, .int ((6 : Int32) * a1)), (0, .ref (b + 0)), (1, .int a1)]) hx hb dX12_cannot_11 rfl hl (by decide) rfl (fun ls hl => ?_)
  refine lv_aload_n hx hb dX12_cannot_12 rfl (lv_at hl 2 rfl) ?_
  refine w_get (k := 0) (v := .ref (b + 8)) hx hb hw hown hE fl_X12_51 hM (by decide) rfl rfl rfl dX12_cannot_13 ?_
  refine lv_iload_n hx hb dX12_cannot_16 rfl (lv_at hl 1 rfl) ?_
  refine lv_iconst (v := 1) hx hb dX12_cannot_17 (by decide) ?_
  refine lv_iadd hx hb dX12_cannot_18 ?_
  obtain ⟨h2, hf⟩ := gd_some hf
  refine w_iald (k := 8) (x9 := (((6 : Int32) * a1) + 1).toNatClampNeg) hx hb hE hM (by decide) rfl rfl h2 dX12_cannot_19 ?_
  refine lv_istore (lv' := [(4, .int (M 8 ((((6 : Int32) * a1) + 1).toNatClampNeg))), (3, .int (M 8 (((6 : Int32) * a1).toNatClampNeg))), (2, .int ((6 : Int32) * a1)), (0, .ref (b + 0)), (1, .int a1)]) hx hb dX12_cannot_20 hl (by decide) rfl (fun ls hl => ?_)
  refine lv_aload_n hx hb dX12_cannot_22 rfl (lv_at hl 3 rfl) ?_
  refine w_get (k := 0) (v := .ref (b + 8)) hx hb hw hown hE fl_X12_51 hM (by decide) rfl rfl rfl dX12_cannot_23 ?_
  refine lv_iload_n hx hb dX12_cannot_26 rfl (lv_at hl 2 rfl) ?_
  refine lv_iconst (v := 2) hx hb dX12_cannot_27 (by decide) ?_
  refine lv_iadd hx hb dX12_cannot_28 ?_
  obtain ⟨h3, hf⟩ := gd_some hf
  refine w_iald (k := 8) (x9 := (((6 : Int32) * a1) + 2).toNatClampNeg) hx hb hE hM (by decide) rfl rfl h3 dX12_cannot_29 ?_
  refine lv_istore (lv' := [(5, .int (M 8 ((((6 : Int32) * a1) + 2).toNatClampNeg))), (4, .int (M 8 ((((6 : Int32) * a1) + 1).toNatClampNeg))), (3, .int (M 8 (((6 : Int32) * a1).toNatClampNeg))), (2, .int ((6 : Int32) * a1)), (0, .ref (b + 0)), (1, .int a1)]) hx hb dX12_cannot_30 hl (by decide) rfl (fun ls hl => ?_)
  refine lv_iconst (v := 0) hx hb dX12_cannot_32 (by decide) ?_
  refine lv_istore (lv' := [(6, .int 0), (5, .int (M 8 ((((6 : Int32) * a1) + 2).toNatClampNeg))), (4, .int (M 8 ((((6 : Int32) * a1) + 1).toNatClampNeg))), (3, .int (M 8 (((6 : Int32) * a1).toNatClampNeg))), (2, .int ((6 : Int32) * a1)), (0, .ref (b + 0)), (1, .int a1)]) hx hb dX12_cannot_33 hl (by decide) rfl (fun ls hl => ?_)
  refine lv_aload_n hx hb dX12_cannot_35 rfl (lv_at hl 5 rfl) ?_
  refine w_get (k := 0) (v := .ref (b + 7)) hx hb hw hown hE fl_X12_48 hM (by decide) rfl rfl rfl dX12_cannot_36 ?_
  refine lv_iload_n hx hb dX12_cannot_39 rfl (lv_at hl 6 rfl) ?_
  obtain ⟨h4, hf⟩ := gd_some hf
  refine w_iald (k := 7) (x9 := a1.toNatClampNeg) hx hb hE hM (by decide) rfl rfl h4 dX12_cannot_40 ?_
  by_cases c5 : (M 7 a1.toNatClampNeg) = 0
  · rw [if_pos c5] at hf
    refine lv_tableIn (off := 47) (tgt := 88) hx hb dX12_cannot_41 (by rw [c5]; decide) (by rw [c5]; decide) (by rw [c5]; rfl) (by decide) ?_
    refine lv_aload_n hx hb dX12_cannot_88 rfl (lv_at hl 5 rfl) ?_
    refine lv_iload_n hx hb dX12_cannot_89 rfl (lv_at hl 3 rfl) ?_
    refine lv_iload hx hb dX12_cannot_90 (lv_at hl 2 rfl) ?_
    refine lv_iload hx hb dX12_cannot_92 (lv_at hl 1 rfl) ?_
    refine lv_aload_n hx hb dX12_cannot_94 rfl (lv_at hl 5 rfl) ?_
    refine w_get (k := 0) (v := .ref (b + 8)) hx hb hw hown hE fl_X12_51 hM (by decide) rfl rfl rfl dX12_cannot_95 ?_
    refine lv_iload_n hx hb dX12_cannot_98 rfl (lv_at hl 4 rfl) ?_
    refine lv_iconst (v := 3) hx hb dX12_cannot_99 (by decide) ?_
    refine lv_iadd hx hb dX12_cannot_100 ?_
    obtain ⟨h6, hf⟩ := gd_some hf
    refine w_iald (k := 8) (x9 := (((6 : Int32) * a1) + 3).toNatClampNeg) hx hb hE hM (by decide) rfl rfl h6 dX12_cannot_101 ?_
    refine lv_aload_n hx hb dX12_cannot_102 rfl (lv_at hl 5 rfl) ?_
    refine w_get (k := 0) (v := .ref (b + 8)) hx hb hw hown hE fl_X12_51 hM (by decide) rfl rfl rfl dX12_cannot_103 ?_
    refine lv_iload_n hx hb dX12_cannot_106 rfl (lv_at hl 4 rfl) ?_
    refine lv_iconst (v := 4) hx hb dX12_cannot_107 (by decide) ?_
    refine lv_iadd hx hb dX12_cannot_108 ?_
    obtain ⟨h7, hf⟩ := gd_some hf
    refine w_iald (k := 8) (x9 := (((6 : Int32) * a1) + 4).toNatClampNeg) hx hb hE hM (by decide) rfl rfl h7 dX12_cannot_109 ?_
    refine lv_aload_n hx hb dX12_cannot_110 rfl (lv_at hl 5 rfl) ?_
    refine w_get (k := 0) (v := .ref (b + 8)) hx hb hw hown hE fl_X12_51 hM (by decide) rfl rfl rfl dX12_cannot_111 ?_
    refine lv_iload_n hx hb dX12_cannot_114 rfl (lv_at hl 4 rfl) ?_
    refine lv_iconst (v := 5) hx hb dX12_cannot_115 (by decide) ?_
    refine lv_iadd hx hb dX12_cannot_116 ?_
    obtain ⟨h8, hf⟩ := gd_some hf
    refine w_iald (k := 8) (x9 := (((6 : Int32) * a1) + 5).toNatClampNeg) hx hb hE hM (by decide) rfl rfl h8 dX12_cannot_117 ?_
    obtain ⟨z9, hc10, hf⟩ := br_some hf
    refine mu_cV (As := [.int (M 8 (((6 : Int32) * a1).toNatClampNeg)), .int (M 8 ((((6 : Int32) * a1) + 1).toNatClampNeg)), .int (M 8 ((((6 : Int32) * a1) + 2).toNatClampNeg)), .int (M 8 ((((6 : Int32) * a1) + 3).toNatClampNeg)), .int (M 8 ((((6 : Int32) * a1) + 4).toNatClampNeg)), .int (M 8 ((((6 : Int32) * a1) + 5).toNatClampNeg))]) (rest := []) hx hb hml hown hts hE (mX12_cannotAdd l E B0 b (by omega) M (M 8 (((6 : Int32) * a1).toNatClampNeg)) (M 8 ((((6 : Int32) * a1) + 1).toNatClampNeg)) (M 8 ((((6 : Int32) * a1) + 2).toNatClampNeg)) (M 8 ((((6 : Int32) * a1) + 3).toNatClampNeg)) (M 8 ((((6 : Int32) * a1) + 4).toNatClampNeg)) (M 8 ((((6 : Int32) * a1) + 5).toNatClampNeg)) z9 hc10) cv_X12_115 (w_recv (k := 0) (ci := 12) hE hM (by decide) rfl rfl) hM hS hAB (fun _ h => h.elim) rfl hl.1 rfl (by decide) (Nat.le_of_ble_eq_true rfl) ⟨Nat.le_refl _, Nat.le_refl _⟩ dX12_cannot_118 (fun H locs hM _ hu hS => ?_)
    refine lv_if_le (tgt := 126) hx hb dX12_cannot_121 (by decide) (fun c11 => ?_) (fun c11 => ?_)
    · rw [if_pos c11] at hf
      refine lv_aload_n hx hb dX12_cannot_126 rfl (lv_at hl 5 rfl) ?_
      refine lv_iload_n hx hb dX12_cannot_127 rfl (lv_at hl 3 rfl) ?_
      refine lv_iload hx hb dX12_cannot_128 (lv_at hl 2 rfl) ?_
      refine lv_iload hx hb dX12_cannot_130 (lv_at hl 1 rfl) ?_
      refine lv_aload_n hx hb dX12_cannot_132 rfl (lv_at hl 5 rfl) ?_
      refine w_get (k := 0) (v := .ref (b + 8)) hx hb hw hown hE fl_X12_51 hM (by decide) rfl rfl rfl dX12_cannot_133 ?_
      refine lv_iload_n hx hb dX12_cannot_136 rfl (lv_at hl 4 rfl) ?_
      refine lv_iconst (v := 3) hx hb dX12_cannot_137 (by decide) ?_
      refine lv_iadd hx hb dX12_cannot_138 ?_
      obtain ⟨h12, hf⟩ := gd_some hf
      refine w_iald (k := 8) (x9 := (((6 : Int32) * a1) + 3).toNatClampNeg) hx hb hE hM (by decide) rfl rfl h12 dX12_cannot_139 ?_
      refine lv_aload_n hx hb dX12_cannot_140 rfl (lv_at hl 5 rfl) ?_
      refine w_get (k := 0) (v := .ref (b + 8)) hx hb hw hown hE fl_X12_51 hM (by decide) rfl rfl rfl dX12_cannot_141 ?_
      refine lv_iload_n hx hb dX12_cannot_144 rfl (lv_at hl 4 rfl) ?_
      refine lv_iconst (v := 4) hx hb dX12_cannot_145 (by decide) ?_
      refine lv_iadd hx hb dX12_cannot_146 ?_
      obtain ⟨h13, hf⟩ := gd_some hf
      refine w_iald (k := 8) (x9 := (((6 : Int32) * a1) + 4).toNatClampNeg) hx hb hE hM (by decide) rfl rfl h13 dX12_cannot_147 ?_
      refine lv_aload_n hx hb dX12_cannot_148 rfl (lv_at hl 5 rfl) ?_
      refine w_get (k := 0) (v := .ref (b + 8)) hx hb hw hown hE fl_X12_51 hM (by decide) rfl rfl rfl dX12_cannot_149 ?_
      refine lv_iload_n hx hb dX12_cannot_152 rfl (lv_at hl 4 rfl) ?_
      refine lv_iconst (v := 5) hx hb dX12_cannot_153 (by decide) ?_
      refine lv_iadd hx hb dX12_cannot_154 ?_
      obtain ⟨h14, hf⟩ := gd_some hf
      refine w_iald (k := 8) (x9 := (((6 : Int32) * a1) + 5).toNatClampNeg) hx hb hE hM (by decide) rfl rfl h14 dX12_cannot_155 ?_
      obtain ⟨z15, hc16, hf⟩ := br_some hf
      refine mu_cV (As := [.int (M 8 (((6 : Int32) * a1).toNatClampNeg)), .int (M 8 ((((6 : Int32) * a1) + 1).toNatClampNeg)), .int (M 8 ((((6 : Int32) * a1) + 2).toNatClampNeg)), .int (M 8 ((((6 : Int32) * a1) + 3).toNatClampNeg)), .int (M 8 ((((6 : Int32) * a1) + 4).toNatClampNeg)), .int (M 8 ((((6 : Int32) * a1) + 5).toNatClampNeg))]) (rest := []) hx hb hml hown hts hE (mX12_adds l E B0 b (by omega) M (M 8 (((6 : Int32) * a1).toNatClampNeg)) (M 8 ((((6 : Int32) * a1) + 1).toNatClampNeg)) (M 8 ((((6 : Int32) * a1) + 2).toNatClampNeg)) (M 8 ((((6 : Int32) * a1) + 3).toNatClampNeg)) (M 8 ((((6 : Int32) * a1) + 4).toNatClampNeg)) (M 8 ((((6 : Int32) * a1) + 5).toNatClampNeg)) z15 hc16) cv_X12_122 (w_recv (k := 0) (ci := 12) hE hM (by decide) rfl rfl) hM hS hAB (fun _ h => h) rfl hl.1 rfl (by decide) (Nat.le_of_ble_eq_true rfl) ⟨Nat.le_refl _, Nat.le_refl _⟩ dX12_cannot_156 (fun H locs hM _ hu hS => ?_)
      refine lv_istore (lv' := [(6, .int z15.1), (5, .int (M 8 ((((6 : Int32) * a1) + 2).toNatClampNeg))), (4, .int (M 8 ((((6 : Int32) * a1) + 1).toNatClampNeg))), (3, .int (M 8 (((6 : Int32) * a1).toNatClampNeg))), (2, .int ((6 : Int32) * a1)), (0, .ref (b + 0)), (1, .int a1)]) hx hb dX12_cannot_159 hl (by decide) rfl (fun ls hl => ?_)
      refine lv_iconst (v := 0) hx hb dX12_cannot_161 (by decide) ?_
      have hre := Option.some.inj hf
      subst hre
      exact mu_z (v := 0) hx hb hrt rfl hlocks hM hS dX12_cannot_162
    · rw [if_neg c11] at hf
      refine lv_iconst (v := 1) hx hb dX12_cannot_124 (by decide) ?_
      have hre := Option.some.inj hf
      subst hre
      exact mu_z (v := 1) hx hb hrt rfl hlocks hM hS dX12_cannot_125
  rw [if_neg c5] at hf
  by_cases c17 : (M 7 a1.toNatClampNeg) = 1
  · rw [if_pos c17] at hf
    refine lv_tableIn (off := 122) (tgt := 163) hx hb dX12_cannot_41 (by rw [c17]; decide) (by rw [c17]; decide) (by rw [c17]; rfl) (by decide) ?_
    refine lv_aload_n hx hb dX12_cannot_163 rfl (lv_at hl 5 rfl) ?_
    refine lv_iload_n hx hb dX12_cannot_164 rfl (lv_at hl 3 rfl) ?_
    refine lv_iload hx hb dX12_cannot_165 (lv_at hl 2 rfl) ?_
    refine lv_iload hx hb dX12_cannot_167 (lv_at hl 1 rfl) ?_
    obtain ⟨z18, hc19, hf⟩ := br_some hf
    refine mu_cV (As := [.int (M 8 (((6 : Int32) * a1).toNatClampNeg)), .int (M 8 ((((6 : Int32) * a1) + 1).toNatClampNeg)), .int (M 8 ((((6 : Int32) * a1) + 2).toNatClampNeg))]) (rest := []) hx hb hml hown hts hE (mX12_cannotMove l E B0 b (by omega) M (M 8 (((6 : Int32) * a1).toNatClampNeg)) (M 8 ((((6 : Int32) * a1) + 1).toNatClampNeg)) (M 8 ((((6 : Int32) * a1) + 2).toNatClampNeg)) z18 hc19) cv_X12_134 (w_recv (k := 0) (ci := 12) hE hM (by decide) rfl rfl) hM hS hAB (fun _ h => h.elim) rfl hl.1 rfl (by decide) (Nat.le_of_ble_eq_true rfl) ⟨Nat.le_refl _, Nat.le_refl _⟩ dX12_cannot_169 (fun H locs hM _ hu hS => ?_)
    refine lv_if_le (tgt := 177) hx hb dX12_cannot_172 (by decide) (fun c20 => ?_) (fun c20 => ?_)
    · rw [if_pos c20] at hf
      refine lv_aload_n hx hb dX12_cannot_177 rfl (lv_at hl 5 rfl) ?_
      refine lv_iload_n hx hb dX12_cannot_178 rfl (lv_at hl 3 rfl) ?_
      refine lv_iload hx hb dX12_cannot_179 (lv_at hl 2 rfl) ?_
      refine lv_iload hx hb dX12_cannot_181 (lv_at hl 1 rfl) ?_
      obtain ⟨z21, hc22, hf⟩ := br_some hf
      refine mu_cV (As := [.int (M 8 (((6 : Int32) * a1).toNatClampNeg)), .int (M 8 ((((6 : Int32) * a1) + 1).toNatClampNeg)), .int (M 8 ((((6 : Int32) * a1) + 2).toNatClampNeg))]) (rest := []) hx hb hml hown hts hE (mX12_moves l E B0 b (by omega) M (M 8 (((6 : Int32) * a1).toNatClampNeg)) (M 8 ((((6 : Int32) * a1) + 1).toNatClampNeg)) (M 8 ((((6 : Int32) * a1) + 2).toNatClampNeg)) z21 hc22) cv_X12_138 (w_recv (k := 0) (ci := 12) hE hM (by decide) rfl rfl) hM hS hAB (fun _ h => h) rfl hl.1 rfl (by decide) (Nat.le_of_ble_eq_true rfl) ⟨Nat.le_refl _, Nat.le_refl _⟩ dX12_cannot_183 (fun H locs hM _ hu hS => ?_)
      refine lv_istore (lv' := [(6, .int z21.1), (5, .int (M 8 ((((6 : Int32) * a1) + 2).toNatClampNeg))), (4, .int (M 8 ((((6 : Int32) * a1) + 1).toNatClampNeg))), (3, .int (M 8 (((6 : Int32) * a1).toNatClampNeg))), (2, .int ((6 : Int32) * a1)), (0, .ref (b + 0)), (1, .int a1)]) hx hb dX12_cannot_186 hl (by decide) rfl (fun ls hl => ?_)
      refine lv_iconst (v := 0) hx hb dX12_cannot_188 (by decide) ?_
      have hre := Option.some.inj hf
      subst hre
      exact mu_z (v := 0) hx hb hrt rfl hlocks hM hS dX12_cannot_189
    · rw [if_neg c20] at hf
      refine lv_iconst (v := 1) hx hb dX12_cannot_175 (by decide) ?_
      have hre := Option.some.inj hf
      subst hre
      exact mu_z (v := 1) hx hb hrt rfl hlocks hM hS dX12_cannot_176
  rw [if_neg c17] at hf
  by_cases c23 : (M 7 a1.toNatClampNeg) = 2
  · rw [if_pos c23] at hf
    refine lv_tableIn (off := 149) (tgt := 190) hx hb dX12_cannot_41 (by rw [c23]; decide) (by rw [c23]; decide) (by rw [c23]; rfl) (by decide) ?_
    refine lv_aload_n hx hb dX12_cannot_190 rfl (lv_at hl 5 rfl) ?_
    refine lv_iload_n hx hb dX12_cannot_191 rfl (lv_at hl 3 rfl) ?_
    refine lv_iload hx hb dX12_cannot_192 (lv_at hl 2 rfl) ?_
    obtain ⟨z24, hc25, hf⟩ := br_some hf
    refine mu_cV (As := [.int (M 8 (((6 : Int32) * a1).toNatClampNeg)), .int (M 8 ((((6 : Int32) * a1) + 1).toNatClampNeg))]) (rest := []) hx hb hml hown hts hE (mX12_cannotPower l E B0 b (by omega) M (M 8 (((6 : Int32) * a1).toNatClampNeg)) (M 8 ((((6 : Int32) * a1) + 1).toNatClampNeg)) z24 hc25) cv_X12_141 (w_recv (k := 0) (ci := 12) hE hM (by decide) rfl rfl) hM hS hAB (fun _ h => h.elim) rfl hl.1 rfl (by decide) (Nat.le_of_ble_eq_true rfl) ⟨Nat.le_refl _, Nat.le_refl _⟩ dX12_cannot_194 (fun H locs hM _ hu hS => ?_)
    refine lv_if_le (tgt := 202) hx hb dX12_cannot_197 (by decide) (fun c26 => ?_) (fun c26 => ?_)
    · rw [if_pos c26] at hf
      refine lv_aload_n hx hb dX12_cannot_202 rfl (lv_at hl 5 rfl) ?_
      refine lv_iload_n hx hb dX12_cannot_203 rfl (lv_at hl 3 rfl) ?_
      refine lv_iconst (v := 4) hx hb dX12_cannot_204 (by decide) ?_
      refine lv_iload hx hb dX12_cannot_205 (lv_at hl 2 rfl) ?_
      obtain ⟨z27, hc28, hf⟩ := br_some hf
      refine mu_cV (As := [.int (M 8 (((6 : Int32) * a1).toNatClampNeg)), .int 4, .int (M 8 ((((6 : Int32) * a1) + 1).toNatClampNeg))]) (rest := []) hx hb hml hown hts hE (mX12_replaces l E B0 b (by omega) M (M 8 (((6 : Int32) * a1).toNatClampNeg)) (4 : Int32) (M 8 ((((6 : Int32) * a1) + 1).toNatClampNeg)) z27 hc28) cv_X12_144 (w_recv (k := 0) (ci := 12) hE hM (by decide) rfl rfl) hM hS hAB (fun _ h => h) rfl hl.1 rfl (by decide) (Nat.le_of_ble_eq_true rfl) ⟨Nat.le_refl _, Nat.le_refl _⟩ dX12_cannot_207 (fun H locs hM _ hu hS => ?_)
      refine lv_istore (lv' := [(6, .int z27.1), (5, .int (M 8 ((((6 : Int32) * a1) + 2).toNatClampNeg))), (4, .int (M 8 ((((6 : Int32) * a1) + 1).toNatClampNeg))), (3, .int (M 8 (((6 : Int32) * a1).toNatClampNeg))), (2, .int ((6 : Int32) * a1)), (0, .ref (b + 0)), (1, .int a1)]) hx hb dX12_cannot_210 hl (by decide) rfl (fun ls hl => ?_)
      refine lv_iconst (v := 0) hx hb dX12_cannot_212 (by decide) ?_
      have hre := Option.some.inj hf
      subst hre
      exact mu_z (v := 0) hx hb hrt rfl hlocks hM hS dX12_cannot_213
    · rw [if_neg c26] at hf
      refine lv_iconst (v := 1) hx hb dX12_cannot_200 (by decide) ?_
      have hre := Option.some.inj hf
      subst hre
      exact mu_z (v := 1) hx hb hrt rfl hlocks hM hS dX12_cannot_201
  rw [if_neg c23] at hf
  by_cases c29 : (M 7 a1.toNatClampNeg) = 3
  · rw [if_pos c29] at hf
    refine lv_tableIn (off := 173) (tgt := 214) hx hb dX12_cannot_41 (by rw [c29]; decide) (by rw [c29]; decide) (by rw [c29]; rfl) (by decide) ?_
    refine lv_aload_n hx hb dX12_cannot_214 rfl (lv_at hl 5 rfl) ?_
    refine lv_iload_n hx hb dX12_cannot_215 rfl (lv_at hl 3 rfl) ?_
    refine lv_iload hx hb dX12_cannot_216 (lv_at hl 2 rfl) ?_
    obtain ⟨z30, hc31, hf⟩ := br_some hf
    refine mu_cV (As := [.int (M 8 (((6 : Int32) * a1).toNatClampNeg)), .int (M 8 ((((6 : Int32) * a1) + 1).toNatClampNeg))]) (rest := []) hx hb hml hown hts hE (mX12_cannotTune l E B0 b (by omega) M (M 8 (((6 : Int32) * a1).toNatClampNeg)) (M 8 ((((6 : Int32) * a1) + 1).toNatClampNeg)) z30 hc31) cv_X12_147 (w_recv (k := 0) (ci := 12) hE hM (by decide) rfl rfl) hM hS hAB (fun _ h => h.elim) rfl hl.1 rfl (by decide) (Nat.le_of_ble_eq_true rfl) ⟨Nat.le_refl _, Nat.le_refl _⟩ dX12_cannot_218 (fun H locs hM _ hu hS => ?_)
    refine lv_if_le (tgt := 226) hx hb dX12_cannot_221 (by decide) (fun c32 => ?_) (fun c32 => ?_)
    · rw [if_pos c32] at hf
      refine lv_aload_n hx hb dX12_cannot_226 rfl (lv_at hl 5 rfl) ?_
      refine lv_iload_n hx hb dX12_cannot_227 rfl (lv_at hl 3 rfl) ?_
      refine lv_iconst (v := 5) hx hb dX12_cannot_228 (by decide) ?_
      refine lv_iload hx hb dX12_cannot_229 (lv_at hl 2 rfl) ?_
      obtain ⟨z33, hc34, hf⟩ := br_some hf
      refine mu_cV (As := [.int (M 8 (((6 : Int32) * a1).toNatClampNeg)), .int 5, .int (M 8 ((((6 : Int32) * a1) + 1).toNatClampNeg))]) (rest := []) hx hb hml hown hts hE (mX12_replaces l E B0 b (by omega) M (M 8 (((6 : Int32) * a1).toNatClampNeg)) (5 : Int32) (M 8 ((((6 : Int32) * a1) + 1).toNatClampNeg)) z33 hc34) cv_X12_144 (w_recv (k := 0) (ci := 12) hE hM (by decide) rfl rfl) hM hS hAB (fun _ h => h) rfl hl.1 rfl (by decide) (Nat.le_of_ble_eq_true rfl) ⟨Nat.le_refl _, Nat.le_refl _⟩ dX12_cannot_231 (fun H locs hM _ hu hS => ?_)
      refine lv_istore (lv' := [(6, .int z33.1), (5, .int (M 8 ((((6 : Int32) * a1) + 2).toNatClampNeg))), (4, .int (M 8 ((((6 : Int32) * a1) + 1).toNatClampNeg))), (3, .int (M 8 (((6 : Int32) * a1).toNatClampNeg))), (2, .int ((6 : Int32) * a1)), (0, .ref (b + 0)), (1, .int a1)]) hx hb dX12_cannot_234 hl (by decide) rfl (fun ls hl => ?_)
      refine lv_iconst (v := 0) hx hb dX12_cannot_236 (by decide) ?_
      have hre := Option.some.inj hf
      subst hre
      exact mu_z (v := 0) hx hb hrt rfl hlocks hM hS dX12_cannot_237
    · rw [if_neg c32] at hf
      refine lv_iconst (v := 1) hx hb dX12_cannot_224 (by decide) ?_
      have hre := Option.some.inj hf
      subst hre
      exact mu_z (v := 1) hx hb hrt rfl hlocks hM hS dX12_cannot_225
  rw [if_neg c29] at hf
  by_cases c35 : (M 7 a1.toNatClampNeg) = 4
  · rw [if_pos c35] at hf
    refine lv_tableIn (off := 197) (tgt := 238) hx hb dX12_cannot_41 (by rw [c35]; decide) (by rw [c35]; decide) (by rw [c35]; rfl) (by decide) ?_
    refine lv_aload_n hx hb dX12_cannot_238 rfl (lv_at hl 5 rfl) ?_
    refine lv_iload_n hx hb dX12_cannot_239 rfl (lv_at hl 3 rfl) ?_
    refine lv_iconst (v := 0) hx hb dX12_cannot_240 (by decide) ?_
    obtain ⟨z36, hc37, hf⟩ := br_some hf
    refine mu_cV (As := [.int (M 8 (((6 : Int32) * a1).toNatClampNeg)), .int 0]) (rest := []) hx hb hml hown hts hE (mX12_unless l E B0 b (by omega) M (M 8 (((6 : Int32) * a1).toNatClampNeg)) (0 : Int32) z36 hc37) cv_X12_157 (w_recv (k := 0) (ci := 12) hE hM (by decide) rfl rfl) hM hS hAB (fun _ h => h.elim) rfl hl.1 rfl (by decide) (Nat.le_of_ble_eq_true rfl) ⟨Nat.le_refl _, Nat.le_refl _⟩ dX12_cannot_241 (fun H locs hM _ hu hS => ?_)
    refine lv_if_le (tgt := 249) hx hb dX12_cannot_244 (by decide) (fun c38 => ?_) (fun c38 => ?_)
    · rw [if_pos c38] at hf
      refine lv_aload_n hx hb dX12_cannot_249 rfl (lv_at hl 5 rfl) ?_
      refine lv_iload_n hx hb dX12_cannot_250 rfl (lv_at hl 3 rfl) ?_
      obtain ⟨z39, hc40, hf⟩ := br_some hf
      refine mu_cV (As := [.int (M 8 (((6 : Int32) * a1).toNatClampNeg))]) (rest := []) hx hb hml hown hts hE (mX12_requests l E B0 b (by omega) M (M 8 (((6 : Int32) * a1).toNatClampNeg)) z39 hc40) cv_X12_160 (w_recv (k := 0) (ci := 12) hE hM (by decide) rfl rfl) hM hS hAB (fun _ h => h) rfl hl.1 rfl (by decide) (Nat.le_of_ble_eq_true rfl) ⟨Nat.le_refl _, Nat.le_refl _⟩ dX12_cannot_251 (fun H locs hM _ hu hS => ?_)
      refine lv_istore (lv' := [(6, .int z39.1), (5, .int (M 8 ((((6 : Int32) * a1) + 2).toNatClampNeg))), (4, .int (M 8 ((((6 : Int32) * a1) + 1).toNatClampNeg))), (3, .int (M 8 (((6 : Int32) * a1).toNatClampNeg))), (2, .int ((6 : Int32) * a1)), (0, .ref (b + 0)), (1, .int a1)]) hx hb dX12_cannot_254 hl (by decide) rfl (fun ls hl => ?_)
      refine lv_iconst (v := 0) hx hb dX12_cannot_256 (by decide) ?_
      have hre := Option.some.inj hf
      subst hre
      exact mu_z (v := 0) hx hb hrt rfl hlocks hM hS dX12_cannot_257
    · rw [if_neg c38] at hf
      refine lv_iconst (v := 1) hx hb dX12_cannot_247 (by decide) ?_
      have hre := Option.some.inj hf
      subst hre
      exact mu_z (v := 1) hx hb hrt rfl hlocks hM hS dX12_cannot_248
  rw [if_neg c35] at hf
  by_cases c41 : (M 7 a1.toNatClampNeg) = 5
  · rw [if_pos c41] at hf
    refine lv_tableIn (off := 217) (tgt := 258) hx hb dX12_cannot_41 (by rw [c41]; decide) (by rw [c41]; decide) (by rw [c41]; rfl) (by decide) ?_
    refine lv_aload_n hx hb dX12_cannot_258 rfl (lv_at hl 5 rfl) ?_
    refine lv_iload_n hx hb dX12_cannot_259 rfl (lv_at hl 3 rfl) ?_
    refine lv_iconst (v := 1) hx hb dX12_cannot_260 (by decide) ?_
    obtain ⟨z42, hc43, hf⟩ := br_some hf
    refine mu_cV (As := [.int (M 8 (((6 : Int32) * a1).toNatClampNeg)), .int 1]) (rest := []) hx hb hml hown hts hE (mX12_unless l E B0 b (by omega) M (M 8 (((6 : Int32) * a1).toNatClampNeg)) (1 : Int32) z42 hc43) cv_X12_157 (w_recv (k := 0) (ci := 12) hE hM (by decide) rfl rfl) hM hS hAB (fun _ h => h.elim) rfl hl.1 rfl (by decide) (Nat.le_of_ble_eq_true rfl) ⟨Nat.le_refl _, Nat.le_refl _⟩ dX12_cannot_261 (fun H locs hM _ hu hS => ?_)
    refine lv_if_le (tgt := 269) hx hb dX12_cannot_264 (by decide) (fun c44 => ?_) (fun c44 => ?_)
    · rw [if_pos c44] at hf
      refine lv_aload_n hx hb dX12_cannot_269 rfl (lv_at hl 5 rfl) ?_
      refine lv_iload_n hx hb dX12_cannot_270 rfl (lv_at hl 3 rfl) ?_
      obtain ⟨z45, hc46, hf⟩ := br_some hf
      refine mu_cV (As := [.int (M 8 (((6 : Int32) * a1).toNatClampNeg))]) (rest := []) hx hb hml hown hts hE (mX12_ends l E B0 b (by omega) M (M 8 (((6 : Int32) * a1).toNatClampNeg)) z45 hc46) cv_X12_169 (w_recv (k := 0) (ci := 12) hE hM (by decide) rfl rfl) hM hS hAB (fun _ h => h) rfl hl.1 rfl (by decide) (Nat.le_of_ble_eq_true rfl) ⟨Nat.le_refl _, Nat.le_refl _⟩ dX12_cannot_271 (fun H locs hM _ hu hS => ?_)
      refine lv_istore (lv' := [(6, .int z45.1), (5, .int (M 8 ((((6 : Int32) * a1) + 2).toNatClampNeg))), (4, .int (M 8 ((((6 : Int32) * a1) + 1).toNatClampNeg))), (3, .int (M 8 (((6 : Int32) * a1).toNatClampNeg))), (2, .int ((6 : Int32) * a1)), (0, .ref (b + 0)), (1, .int a1)]) hx hb dX12_cannot_274 hl (by decide) rfl (fun ls hl => ?_)
      refine lv_iconst (v := 0) hx hb dX12_cannot_276 (by decide) ?_
      have hre := Option.some.inj hf
      subst hre
      exact mu_z (v := 0) hx hb hrt rfl hlocks hM hS dX12_cannot_277
    · rw [if_neg c44] at hf
      refine lv_iconst (v := 1) hx hb dX12_cannot_267 (by decide) ?_
      have hre := Option.some.inj hf
      subst hre
      exact mu_z (v := 1) hx hb hrt rfl hlocks hM hS dX12_cannot_268
  rw [if_neg c41] at hf
  by_cases c47 : (M 7 a1.toNatClampNeg) = 6
  · rw [if_pos c47] at hf
    refine lv_tableIn (off := 237) (tgt := 278) hx hb dX12_cannot_41 (by rw [c47]; decide) (by rw [c47]; decide) (by rw [c47]; rfl) (by decide) ?_
    refine lv_aload_n hx hb dX12_cannot_278 rfl (lv_at hl 5 rfl) ?_
    refine lv_iload_n hx hb dX12_cannot_279 rfl (lv_at hl 3 rfl) ?_
    refine lv_iconst (v := 2) hx hb dX12_cannot_280 (by decide) ?_
    obtain ⟨z48, hc49, hf⟩ := br_some hf
    refine mu_cV (As := [.int (M 8 (((6 : Int32) * a1).toNatClampNeg)), .int 2]) (rest := []) hx hb hml hown hts hE (mX12_unless l E B0 b (by omega) M (M 8 (((6 : Int32) * a1).toNatClampNeg)) (2 : Int32) z48 hc49) cv_X12_157 (w_recv (k := 0) (ci := 12) hE hM (by decide) rfl rfl) hM hS hAB (fun _ h => h.elim) rfl hl.1 rfl (by decide) (Nat.le_of_ble_eq_true rfl) ⟨Nat.le_refl _, Nat.le_refl _⟩ dX12_cannot_281 (fun H locs hM _ hu hS => ?_)
    refine lv_if_le (tgt := 289) hx hb dX12_cannot_284 (by decide) (fun c50 => ?_) (fun c50 => ?_)
    · rw [if_pos c50] at hf
      refine lv_aload_n hx hb dX12_cannot_289 rfl (lv_at hl 5 rfl) ?_
      refine lv_iload_n hx hb dX12_cannot_290 rfl (lv_at hl 3 rfl) ?_
      obtain ⟨z51, hc52, hf⟩ := br_some hf
      refine mu_cV (As := [.int (M 8 (((6 : Int32) * a1).toNatClampNeg))]) (rest := []) hx hb hml hown hts hE (mX12_cancels l E B0 b (by omega) M (M 8 (((6 : Int32) * a1).toNatClampNeg)) z51 hc52) cv_X12_175 (w_recv (k := 0) (ci := 12) hE hM (by decide) rfl rfl) hM hS hAB (fun _ h => h) rfl hl.1 rfl (by decide) (Nat.le_of_ble_eq_true rfl) ⟨Nat.le_refl _, Nat.le_refl _⟩ dX12_cannot_291 (fun H locs hM _ hu hS => ?_)
      refine lv_istore (lv' := [(6, .int z51.1), (5, .int (M 8 ((((6 : Int32) * a1) + 2).toNatClampNeg))), (4, .int (M 8 ((((6 : Int32) * a1) + 1).toNatClampNeg))), (3, .int (M 8 (((6 : Int32) * a1).toNatClampNeg))), (2, .int ((6 : Int32) * a1)), (0, .ref (b + 0)), (1, .int a1)]) hx hb dX12_cannot_294 hl (by decide) rfl (fun ls hl => ?_)
      refine lv_iconst (v := 0) hx hb dX12_cannot_296 (by decide) ?_
      have hre := Option.some.inj hf
      subst hre
      exact mu_z (v := 0) hx hb hrt rfl hlocks hM hS dX12_cannot_297
    · rw [if_neg c50] at hf
      refine lv_iconst (v := 1) hx hb dX12_cannot_287 (by decide) ?_
      have hre := Option.some.inj hf
      subst hre
      exact mu_z (v := 1) hx hb hrt rfl hlocks hM hS dX12_cannot_288
  rw [if_neg c47] at hf
  by_cases c53 : (M 7 a1.toNatClampNeg) = 7
  · rw [if_pos c53] at hf
    refine lv_tableIn (off := 257) (tgt := 298) hx hb dX12_cannot_41 (by rw [c53]; decide) (by rw [c53]; decide) (by rw [c53]; rfl) (by decide) ?_
    refine lv_iload_n hx hb dX12_cannot_298 rfl (lv_at hl 3 rfl) ?_
    refine lv_iconst (v := 1) hx hb dX12_cannot_299 (by decide) ?_
    refine lv_bipush (v := 60) hx hb dX12_cannot_300 (by decide) ?_
    obtain ⟨z54, hc55, hf⟩ := br_some hf
    refine mu_cS (As := [.int (M 8 (((6 : Int32) * a1).toNatClampNeg)), .int 1, .int 60]) (rest := []) hx hb hml hown hts hE (mX12_in l E B0 (M 8 (((6 : Int32) * a1).toNatClampNeg)) (1 : Int32) (60 : Int32) z54 hc55) cs_X12_76 trivial hS hAB (fun _ h => h.elim) rfl hl.1 rfl (by decide) (Nat.le_of_ble_eq_true rfl) ⟨Nat.le_refl _, Nat.le_refl _⟩ dX12_cannot_302 (fun H locs _ _ hu hS => ?_)
    have hM := Blk.off hM hu (fun _ _ _ h => h)
    refine lv_if_ne (tgt := 310) hx hb dX12_cannot_305 (by decide) (fun c56 => ?_) (fun c56 => ?_)
    · rw [if_neg c56] at hf
      refine lv_aload_n hx hb dX12_cannot_310 rfl (lv_at hl 5 rfl) ?_
      refine lv_iload_n hx hb dX12_cannot_311 rfl (lv_at hl 3 rfl) ?_
      obtain ⟨z57, hc58, hf⟩ := br_some hf
      refine mu_cV (As := [.int (M 8 (((6 : Int32) * a1).toNatClampNeg))]) (rest := []) hx hb hml hown hts hE (mX12_limits l E B0 b (by omega) M (M 8 (((6 : Int32) * a1).toNatClampNeg)) z57 hc58) cv_X12_178 (w_recv (k := 0) (ci := 12) hE hM (by decide) rfl rfl) hM hS hAB (fun _ h => h) rfl hl.1 rfl (by decide) (Nat.le_of_ble_eq_true rfl) ⟨Nat.le_refl _, Nat.le_refl _⟩ dX12_cannot_312 (fun H locs hM _ hu hS => ?_)
      refine lv_istore (lv' := [(6, .int z57.1), (5, .int (M 8 ((((6 : Int32) * a1) + 2).toNatClampNeg))), (4, .int (M 8 ((((6 : Int32) * a1) + 1).toNatClampNeg))), (3, .int (M 8 (((6 : Int32) * a1).toNatClampNeg))), (2, .int ((6 : Int32) * a1)), (0, .ref (b + 0)), (1, .int a1)]) hx hb dX12_cannot_315 hl (by decide) rfl (fun ls hl => ?_)
      refine lv_iconst (v := 0) hx hb dX12_cannot_317 (by decide) ?_
      have hre := Option.some.inj hf
      subst hre
      exact mu_z (v := 0) hx hb hrt rfl hlocks hM hS dX12_cannot_318
    · rw [if_pos c56] at hf
      refine lv_iconst (v := 1) hx hb dX12_cannot_308 (by decide) ?_
      have hre := Option.some.inj hf
      subst hre
      exact mu_z (v := 1) hx hb hrt rfl hlocks hM hS dX12_cannot_309
  rw [if_neg c53] at hf
  refine lv_tableOut (tgt := 319) hx hb dX12_cannot_41 (by have q0 := i32ne (k := 0) c5 (by decide); have q1 := i32ne (k := 1) c17 (by decide); have q2 := i32ne (k := 2) c23 (by decide); have q3 := i32ne (k := 3) c29 (by decide); have q4 := i32ne (k := 4) c35 (by decide); have q5 := i32ne (k := 5) c41 (by decide); have q6 := i32ne (k := 6) c47 (by decide); have q7 := i32ne (k := 7) c53 (by decide); omega) (by decide) ?_
  refine lv_iload_n hx hb dX12_cannot_319 rfl (lv_at hl 3 rfl) ?_
  refine lv_iconst (v := 1) hx hb dX12_cannot_320 (by decide) ?_
  refine lv_bipush (v := 60) hx hb dX12_cannot_321 (by decide) ?_
  obtain ⟨z59, hc60, hf⟩ := br_some hf
  refine mu_cS (As := [.int (M 8 (((6 : Int32) * a1).toNatClampNeg)), .int 1, .int 60]) (rest := []) hx hb hml hown hts hE (mX12_in l E B0 (M 8 (((6 : Int32) * a1).toNatClampNeg)) (1 : Int32) (60 : Int32) z59 hc60) cs_X12_76 trivial hS hAB (fun _ h => h.elim) rfl hl.1 rfl (by decide) (Nat.le_of_ble_eq_true rfl) ⟨Nat.le_refl _, Nat.le_refl _⟩ dX12_cannot_323 (fun H locs _ _ hu hS => ?_)
  have hM := Blk.off hM hu (fun _ _ _ h => h)
  refine lv_if_ne (tgt := 331) hx hb dX12_cannot_326 (by decide) (fun c61 => ?_) (fun c61 => ?_)
  · rw [if_neg c61] at hf
    refine lv_aload_n hx hb dX12_cannot_331 rfl (lv_at hl 5 rfl) ?_
    refine lv_iload_n hx hb dX12_cannot_332 rfl (lv_at hl 3 rfl) ?_
    obtain ⟨z62, hc63, hf⟩ := br_some hf
    refine mu_cV (As := [.int (M 8 (((6 : Int32) * a1).toNatClampNeg))]) (rest := []) hx hb hml hown hts hE (mX12_passes l E B0 b (by omega) M (M 8 (((6 : Int32) * a1).toNatClampNeg)) z62 hc63) cv_X12_191 (w_recv (k := 0) (ci := 12) hE hM (by decide) rfl rfl) hM hS hAB (fun _ h => h) rfl hl.1 rfl (by decide) (Nat.le_of_ble_eq_true rfl) ⟨Nat.le_refl _, Nat.le_refl _⟩ dX12_cannot_333 (fun H locs hM _ hu hS => ?_)
    refine lv_istore (lv' := [(6, .int z62.1), (5, .int (M 8 ((((6 : Int32) * a1) + 2).toNatClampNeg))), (4, .int (M 8 ((((6 : Int32) * a1) + 1).toNatClampNeg))), (3, .int (M 8 (((6 : Int32) * a1).toNatClampNeg))), (2, .int ((6 : Int32) * a1)), (0, .ref (b + 0)), (1, .int a1)]) hx hb dX12_cannot_336 hl (by decide) rfl (fun ls hl => ?_)
    refine lv_iconst (v := 0) hx hb dX12_cannot_338 (by decide) ?_
    have hre := Option.some.inj hf
    subst hre
    exact mu_z (v := 0) hx hb hrt rfl hlocks hM hS dX12_cannot_339
  · rw [if_pos c61] at hf
    refine lv_iconst (v := 1) hx hb dX12_cannot_329 (by decide) ?_
    have hre := Option.some.inj hf
    subst hre
    exact mu_z (v := 1) hx hb hrt rfl hlocks hM hS dX12_cannot_330
noncomputable def fX12_run_s  (z : Int32 × Mem) : Option ((Int32 × Mem) ⊕ (Int32 × Mem)) := (if (z.2 0 18) ≤ z.1 then (fX12_commit z.2 (z.2 0 18)).bind fun z2 => some (.inr (z2.1, z2.2)) else (fX12_cannot z.2 z.1).bind fun z4 => (if z4.1 = 0 then some (.inl ((z.1 + 1), z4.2)) else (fX12_copy z4.2 2 160 (0 : Int32) 1 160 (0 : Int32)).bind fun z7 => (fX12_fail (up2 z7 0 7 z.1) (2 : Int32)).bind fun z9 => some (.inr (z9.1, z9.2))))
noncomputable def fX12_run (M : Mem) : Option (Int32 × Mem) := (fX12_begin M).bind fun z11 => (fX12_parse z11).bind fun z13 => (if (z13 0 19) = 0 then lp (fX12_run_s) (0, z13) else (fX12_fail (up2 z13 0 6 (z13 0 17)) (1 : Int32)).bind fun z16 => some (z16.1, z16.2))
set_option maxHeartbeats 4000000 in
set_option maxRecDepth 100000 in
theorem mX12_run (l : Launch) (E : EP) (B0 : Nat) (b : Nat) (hb0 : B0 ≤ b) (M : Mem) (r : Int32 × Mem) (hf : fX12_run M = some r) : MU l E B0 yX12_run cX12_run 2 (some .int) 8 0 0 [.ref (b + 0)] (Blk E b modSh 10 M) (some (.int r.1)) (Blk E b modSh 10 r.2) (iv b 10) := by
  refine mu_of (by decide +kernel) (Nat.le_of_ble_eq_true rfl) ?_
  intro p e s m args below meth c hx hb hml hown hts hrt hlocks hE H hM hS ls hl
  have hown : s.vm.findClass RX12 = some m.cls := hown
  have hl : lv_has ls 2 [(0, .ref (b + 0))] := hl
  have hw : ∀ w ∈ WA, w.before args s = true := fun w h => hts w (List.mem_cons_of_mem _ h)
  have hAB : ∀ q, (iv b 10) q → B0 ≤ q := (iv_ge (by omega))
  unfold fX12_run at hf
  have loop : ∀ (fu : Nat) (z : Int32 × Mem), lpI (fX12_run_s) fu z = some r → (∀ (H : Heap) (locs : List Loc) (ls : Array Slot), Blk E b modSh 10 z.2 H → va_S (iv b 10) s.heap H locs → lv_has ls 2 [(0, .ref (b + 0)), (1, .int z.1)] → W p l e (rmD 8 0 0) s m args below meth c H locs 0 0 (MQ below (QU (some (.int r.1)) (Blk E b modSh 10 r.2) (iv b 10)) args s 0 0 (iv b 10)) (F0 m 31 ls [])) := by
    intro fu
    induction fu with
    | zero =>
      intro z hn
      exact nomatch hn
    | succ fu ih =>
      intro z hn
      obtain ⟨y, hf, hy⟩ := lpI_succ hn
      intro H locs ls hM hS hl
      unfold fX12_run_s at hf
      refine lv_iload_n hx hb dX12_run_31 rfl (lv_at hl 1 rfl) ?_
      refine lv_aload_n hx hb dX12_run_32 rfl (lv_at hl 0 rfl) ?_
      refine w_get (k := 0) (v := .int (z.2 0 18)) hx hb hw hown hE fl_X12_66 hM (by decide) rfl rfl rfl dX12_run_33 ?_
      refine lv_icmp_ge (tgt := 80) hx hb dX12_run_36 (by decide) (fun c1 => ?_) (fun c1 => ?_)
      · rw [if_pos c1] at hf
        refine lv_aload_n hx hb dX12_run_80 rfl (lv_at hl 0 rfl) ?_
        refine lv_aload_n hx hb dX12_run_81 rfl (lv_at hl 0 rfl) ?_
        refine w_get (k := 0) (v := .int (z.2 0 18)) hx hb hw hown hE fl_X12_66 hM (by decide) rfl rfl rfl dX12_run_82 ?_
        obtain ⟨z2, hc3, hf⟩ := br_some hf
        refine mu_cV (As := [.int (z.2 0 18)]) (rest := []) hx hb hml hown hts hE (mX12_commit l E B0 b (by omega) z.2 (z.2 0 18) z2 hc3) cv_X12_125 (w_recv (k := 0) (ci := 12) hE hM (by decide) rfl rfl) hM hS hAB (fun _ h => h) rfl hl.1 rfl (by decide) (Nat.le_of_ble_eq_true rfl) ⟨Nat.le_refl _, Nat.le_refl _⟩ dX12_run_85 (fun H locs hM _ hu hS => ?_)
        have hre := lp_end hy (Option.some.inj hf).symm
        subst hre
        exact mu_i (v := z2.1) hx hb hrt hlocks hM hS dX12_run_88
      · rw [if_neg c1] at hf
        refine lv_aload_n hx hb dX12_run_39 rfl (lv_at hl 0 rfl) ?_
        refine lv_iload_n hx hb dX12_run_40 rfl (lv_at hl 1 rfl) ?_
        obtain ⟨z4, hc5, hf⟩ := br_some hf
        refine mu_cV (As := [.int z.1]) (rest := []) hx hb hml hown hts hE (mX12_cannot l E B0 b (by omega) z.2 z.1 z4 hc5) cv_X12_267 (w_recv (k := 0) (ci := 12) hE hM (by decide) rfl rfl) hM hS hAB (fun _ h => h) rfl hl.1 rfl (by decide) (Nat.le_of_ble_eq_true rfl) ⟨Nat.le_refl _, Nat.le_refl _⟩ dX12_run_41 (fun H locs hM _ hu hS => ?_)
        refine lv_if_ne (tgt := 50) hx hb dX12_run_44 (by decide) (fun c6 => ?_) (fun c6 => ?_)
        · rw [if_neg c6] at hf
          refine lv_aload_n hx hb dX12_run_50 rfl (lv_at hl 0 rfl) ?_
          refine w_get (k := 0) (v := .ref (b + 2)) hx hb hw hown hE fl_X12_13 hM (by decide) rfl rfl rfl dX12_run_51 ?_
          refine lv_iconst (v := 0) hx hb dX12_run_54 (by decide) ?_
          refine lv_aload_n hx hb dX12_run_55 rfl (lv_at hl 0 rfl) ?_
          refine w_get (k := 0) (v := .ref (b + 1)) hx hb hw hown hE fl_X12_7 hM (by decide) rfl rfl rfl dX12_run_56 ?_
          refine lv_iconst (v := 0) hx hb dX12_run_59 (by decide) ?_
          obtain ⟨z7, hc8, hf⟩ := br_some hf
          refine mu_cS (As := [.ref (b + 2), .int 0, .ref (b + 1), .int 0]) (rest := []) hx hb hml hown hts hE (mX12_copy l E B0 b (by omega) z4.2 2 160 (0 : Int32) 1 160 (0 : Int32) z7 hc8) cs_X12_72 hM hS hAB (fun _ h => h) rfl hl.1 rfl (by decide) (Nat.le_of_ble_eq_true rfl) ⟨Nat.le_refl _, Nat.le_refl _⟩ dX12_run_60 (fun H locs hM _ hu hS => ?_)
          refine lv_aload_n hx hb dX12_run_63 rfl (lv_at hl 0 rfl) ?_
          refine lv_iload_n hx hb dX12_run_64 rfl (lv_at hl 1 rfl) ?_
          refine w_put (k := 0) (v := .int z.1) hx hb hw hown hE fl_X12_32 fw_X12_7 hM (by decide) rfl rfl z.1 rfl rfl rfl hS (iv_mem (by decide)) dX12_run_65 (fun H locs hM _ hu hS => ?_)
          refine lv_aload_n hx hb dX12_run_68 rfl (lv_at hl 0 rfl) ?_
          refine lv_iconst (v := 2) hx hb dX12_run_69 (by decide) ?_
          obtain ⟨z9, hc10, hf⟩ := br_some hf
          refine mu_cV (As := [.int 2]) (rest := []) hx hb hml hown hts hE (mX12_fail l E B0 b (by omega) (up2 z7 0 7 z.1) (2 : Int32) z9 hc10) cv_X12_119 (w_recv (k := 0) (ci := 12) hE hM (by decide) rfl rfl) hM hS hAB (fun _ h => h) rfl hl.1 rfl (by decide) (Nat.le_of_ble_eq_true rfl) ⟨Nat.le_refl _, Nat.le_refl _⟩ dX12_run_70 (fun H locs hM _ hu hS => ?_)
          have hre := lp_end hy (Option.some.inj hf).symm
          subst hre
          exact mu_i (v := z9.1) hx hb hrt hlocks hM hS dX12_run_73
        · rw [if_pos c6] at hf
          refine lv_goto (tgt := 74) hx hb dX12_run_47 (by decide) ?_
          refine lv_iinc (v := (z.1 + 1)) (lv' := [(1, .int (z.1 + 1)), (0, .ref (b + 0))]) hx hb dX12_run_74 hl (k := 1) rfl rfl (by decide) rfl (fun ls hl => ?_)
          refine lv_goto (tgt := 31) hx hb dX12_run_77 (by decide) ?_
          exact ih ((z.1 + 1), z4.2) (lp_back hy (Option.some.inj hf).symm) _ _ _ hM hS (lv_sub hl [1, 0] rfl)
  refine lv_aload_n hx hb dX12_run_0 rfl (lv_at hl 0 rfl) ?_
  obtain ⟨z11, hc12, hf⟩ := br_some hf
  refine mu_cV (As := []) (rest := []) hx hb hml hown hts hE (mX12_begin l E B0 b (by omega) M z11 hc12) cv_X12_112 (w_recv (k := 0) (ci := 12) hE hM (by decide) rfl rfl) hM hS hAB (fun _ h => h) rfl hl.1 rfl (by decide) (Nat.le_of_ble_eq_true rfl) ⟨Nat.le_refl _, Nat.le_refl _⟩ dX12_run_1 (fun H locs hM _ hu hS => ?_)
  refine lv_aload_n hx hb dX12_run_4 rfl (lv_at hl 0 rfl) ?_
  obtain ⟨z13, hc14, hf⟩ := br_some hf
  refine mu_cV (As := []) (rest := []) hx hb hml hown hts hE (mX12_parse l E B0 b (by omega) z11 z13 hc14) cv_X12_264 (w_recv (k := 0) (ci := 12) hE hM (by decide) rfl rfl) hM hS hAB (fun _ h => h) rfl hl.1 rfl (by decide) (Nat.le_of_ble_eq_true rfl) ⟨Nat.le_refl _, Nat.le_refl _⟩ dX12_run_5 (fun H locs hM _ hu hS => ?_)
  refine lv_aload_n hx hb dX12_run_8 rfl (lv_at hl 0 rfl) ?_
  refine w_get (k := 0) (v := .int (z13 0 19)) hx hb hw hown hE fl_X12_69 hM (by decide) rfl rfl rfl dX12_run_9 ?_
  refine lv_if_eq (tgt := 29) hx hb dX12_run_12 (by decide) (fun c15 => ?_) (fun c15 => ?_)
  · rw [if_pos c15] at hf
    refine lv_iconst (v := 0) hx hb dX12_run_29 (by decide) ?_
    refine lv_istore_n (lv' := [(1, .int 0), (0, .ref (b + 0))]) hx hb dX12_run_30 rfl hl (by decide) rfl (fun ls hl => ?_)
    obtain ⟨fu, hfu⟩ := lp_some hf
    exact (loop fu (0, z13) hfu) _ _ _ hM hS (lv_sub hl [1, 0] rfl)
  · rw [if_neg c15] at hf
    refine lv_aload_n hx hb dX12_run_15 rfl (lv_at hl 0 rfl) ?_
    refine lv_aload_n hx hb dX12_run_16 rfl (lv_at hl 0 rfl) ?_
    refine w_get (k := 0) (v := .int (z13 0 17)) hx hb hw hown hE fl_X12_63 hM (by decide) rfl rfl rfl dX12_run_17 ?_
    refine w_put (k := 0) (v := .int (z13 0 17)) hx hb hw hown hE fl_X12_29 fw_X12_6 hM (by decide) rfl rfl (z13 0 17) rfl rfl rfl hS (iv_mem (by decide)) dX12_run_20 (fun H locs hM _ hu hS => ?_)
    refine lv_aload_n hx hb dX12_run_23 rfl (lv_at hl 0 rfl) ?_
    refine lv_iconst (v := 1) hx hb dX12_run_24 (by decide) ?_
    obtain ⟨z16, hc17, hf⟩ := br_some hf
    refine mu_cV (As := [.int 1]) (rest := []) hx hb hml hown hts hE (mX12_fail l E B0 b (by omega) (up2 z13 0 6 (z13 0 17)) (1 : Int32) z16 hc17) cv_X12_119 (w_recv (k := 0) (ci := 12) hE hM (by decide) rfl rfl) hM hS hAB (fun _ h => h) rfl hl.1 rfl (by decide) (Nat.le_of_ble_eq_true rfl) ⟨Nat.le_refl _, Nat.le_refl _⟩ dX12_run_25 (fun H locs hM _ hu hS => ?_)
    have hre := Option.some.inj hf
    subst hre
    exact mu_i (v := z16.1) hx hb hrt hlocks hM hS dX12_run_28
def fX12_present (M : Mem) (a1 : Int32) : Option (Int32 × Mem) := (if 0 ≤ a1 then (if ((up2 M 0 4 (0 : Int32)) 0 4) ≤ 0 then some (a1, (up2 M 0 4 (0 : Int32))) else some (0, (up2 M 0 4 (0 : Int32)))) else (if ((up2 M 0 4 (1 : Int32)) 0 4) ≤ 0 then some (a1, (up2 M 0 4 (1 : Int32))) else some (0, (up2 M 0 4 (1 : Int32)))))
set_option maxHeartbeats 4000000 in
set_option maxRecDepth 100000 in
theorem mX12_present (l : Launch) (E : EP) (B0 : Nat) (b : Nat) (hb0 : B0 ≤ b) (M : Mem) (a1 : Int32) (r : Int32 × Mem) (hf : fX12_present M a1 = some r) : MU l E B0 yX12_present cX12_present 2 (some .int) 0 0 0 [.ref (b + 0), .int a1] (Blk E b modSh 10 M) (some (.int r.1)) (Blk E b modSh 10 r.2) (iv b 10) := by
  refine mu_of (by decide +kernel) (Nat.le_of_ble_eq_true rfl) ?_
  intro p e s m args below meth c hx hb hml hown hts hrt hlocks hE H hM hS ls hl
  have hown : s.vm.findClass RX12 = some m.cls := hown
  have hl : lv_has ls 2 [(0, .ref (b + 0)), (1, .int a1)] := hl
  have hw : ∀ w ∈ WA, w.before args s = true := fun w h => hts w (List.mem_cons_of_mem _ h)
  have hAB : ∀ q, (iv b 10) q → B0 ≤ q := (iv_ge (by omega))
  unfold fX12_present at hf
  refine lv_aload_n hx hb dX12_present_0 rfl (lv_at hl 0 rfl) ?_
  refine lv_iload_n hx hb dX12_present_1 rfl (lv_at hl 1 rfl) ?_
  refine lv_if_ge (tgt := 9) hx hb dX12_present_2 (by decide) (fun c1 => ?_) (fun c1 => ?_)
  · rw [if_pos c1] at hf
    refine lv_iconst (v := 0) hx hb dX12_present_9 (by decide) ?_
    refine w_put (k := 0) (v := .int 0) hx hb hw hown hE fl_X12_22 fw_X12_4 hM (by decide) rfl rfl (0 : Int32) rfl rfl rfl hS (iv_mem (by decide)) dX12_present_10 (fun H locs hM _ hu hS => ?_)
    refine lv_aload_n hx hb dX12_present_13 rfl (lv_at hl 0 rfl) ?_
    refine w_get (k := 0) (v := .int ((up2 M 0 4 (0 : Int32)) 0 4)) hx hb hw hown hE fl_X12_22 hM (by decide) rfl rfl rfl dX12_present_14 ?_
    refine lv_if_le (tgt := 24) hx hb dX12_present_17 (by decide) (fun c2 => ?_) (fun c2 => ?_)
    · rw [if_pos c2] at hf
      refine lv_iload_n hx hb dX12_present_24 rfl (lv_at hl 1 rfl) ?_
      have hre := Option.some.inj hf
      subst hre
      exact mu_i (v := a1) hx hb hrt hlocks hM hS dX12_present_25
    · rw [if_neg c2] at hf
      refine lv_iconst (v := 0) hx hb dX12_present_20 (by decide) ?_
      refine lv_goto (tgt := 25) hx hb dX12_present_21 (by decide) ?_
      have hre := Option.some.inj hf
      subst hre
      exact mu_i (v := 0) hx hb hrt hlocks hM hS dX12_present_25
  · rw [if_neg c1] at hf
    refine lv_iconst (v := 1) hx hb dX12_present_5 (by decide) ?_
    refine lv_goto (tgt := 10) hx hb dX12_present_6 (by decide) ?_
    refine w_put (k := 0) (v := .int 1) hx hb hw hown hE fl_X12_22 fw_X12_4 hM (by decide) rfl rfl (1 : Int32) rfl rfl rfl hS (iv_mem (by decide)) dX12_present_10 (fun H locs hM _ hu hS => ?_)
    refine lv_aload_n hx hb dX12_present_13 rfl (lv_at hl 0 rfl) ?_
    refine w_get (k := 0) (v := .int ((up2 M 0 4 (1 : Int32)) 0 4)) hx hb hw hown hE fl_X12_22 hM (by decide) rfl rfl rfl dX12_present_14 ?_
    refine lv_if_le (tgt := 24) hx hb dX12_present_17 (by decide) (fun c3 => ?_) (fun c3 => ?_)
    · rw [if_pos c3] at hf
      refine lv_iload_n hx hb dX12_present_24 rfl (lv_at hl 1 rfl) ?_
      have hre := Option.some.inj hf
      subst hre
      exact mu_i (v := a1) hx hb hrt hlocks hM hS dX12_present_25
    · rw [if_neg c3] at hf
      refine lv_iconst (v := 0) hx hb dX12_present_20 (by decide) ?_
      refine lv_goto (tgt := 25) hx hb dX12_present_21 (by decide) ?_
      have hre := Option.some.inj hf
      subst hre
      exact mu_i (v := 0) hx hb hrt hlocks hM hS dX12_present_25
def fX12_errorPosition (M : Mem) : Option (Int32 × Mem) := (fX12_present M (M 0 6)).bind fun z1 => some (z1.1, z1.2)
set_option maxHeartbeats 4000000 in
set_option maxRecDepth 100000 in
theorem mX12_errorPosition (l : Launch) (E : EP) (B0 : Nat) (b : Nat) (hb0 : B0 ≤ b) (M : Mem) (r : Int32 × Mem) (hf : fX12_errorPosition M = some r) : MU l E B0 yX12_errorPosition cX12_errorPosition 1 (some .int) 1 0 0 [.ref (b + 0)] (Blk E b modSh 10 M) (some (.int r.1)) (Blk E b modSh 10 r.2) (iv b 10) := by
  refine mu_of (by decide +kernel) (Nat.le_of_ble_eq_true rfl) ?_
  intro p e s m args below meth c hx hb hml hown hts hrt hlocks hE H hM hS ls hl
  have hown : s.vm.findClass RX12 = some m.cls := hown
  have hl : lv_has ls 1 [(0, .ref (b + 0))] := hl
  have hw : ∀ w ∈ WA, w.before args s = true := fun w h => hts w (List.mem_cons_of_mem _ h)
  have hAB : ∀ q, (iv b 10) q → B0 ≤ q := (iv_ge (by omega))
  unfold fX12_errorPosition at hf
  refine lv_aload_n hx hb dX12_errorPosition_0 rfl (lv_at hl 0 rfl) ?_
  refine lv_aload_n hx hb dX12_errorPosition_1 rfl (lv_at hl 0 rfl) ?_
  refine w_get (k := 0) (v := .int (M 0 6)) hx hb hw hown hE fl_X12_29 hM (by decide) rfl rfl rfl dX12_errorPosition_2 ?_
  obtain ⟨z1, hc2, hf⟩ := br_some hf
  refine mu_cV (As := [.int (M 0 6)]) (rest := []) hx hb hml hown hts hE (mX12_present l E B0 b (by omega) M (M 0 6) z1 hc2) cv_X12_270 (w_recv (k := 0) (ci := 12) hE hM (by decide) rfl rfl) hM hS hAB (fun _ h => h) rfl hl.1 rfl (by decide) (Nat.le_of_ble_eq_true rfl) ⟨Nat.le_refl _, Nat.le_refl _⟩ dX12_errorPosition_5 (fun H locs hM _ hu hS => ?_)
  have hre := Option.some.inj hf
  subst hre
  exact mu_i (v := z1.1) hx hb hrt hlocks hM hS dX12_errorPosition_8
def fX12_failedCommand (M : Mem) : Option (Int32 × Mem) := (fX12_present M (M 0 7)).bind fun z1 => some (z1.1, z1.2)
set_option maxHeartbeats 4000000 in
set_option maxRecDepth 100000 in
theorem mX12_failedCommand (l : Launch) (E : EP) (B0 : Nat) (b : Nat) (hb0 : B0 ≤ b) (M : Mem) (r : Int32 × Mem) (hf : fX12_failedCommand M = some r) : MU l E B0 yX12_failedCommand cX12_failedCommand 1 (some .int) 1 0 0 [.ref (b + 0)] (Blk E b modSh 10 M) (some (.int r.1)) (Blk E b modSh 10 r.2) (iv b 10) := by
  refine mu_of (by decide +kernel) (Nat.le_of_ble_eq_true rfl) ?_
  intro p e s m args below meth c hx hb hml hown hts hrt hlocks hE H hM hS ls hl
  have hown : s.vm.findClass RX12 = some m.cls := hown
  have hl : lv_has ls 1 [(0, .ref (b + 0))] := hl
  have hw : ∀ w ∈ WA, w.before args s = true := fun w h => hts w (List.mem_cons_of_mem _ h)
  have hAB : ∀ q, (iv b 10) q → B0 ≤ q := (iv_ge (by omega))
  unfold fX12_failedCommand at hf
  refine lv_aload_n hx hb dX12_failedCommand_0 rfl (lv_at hl 0 rfl) ?_
  refine lv_aload_n hx hb dX12_failedCommand_1 rfl (lv_at hl 0 rfl) ?_
  refine w_get (k := 0) (v := .int (M 0 7)) hx hb hw hown hE fl_X12_32 hM (by decide) rfl rfl rfl dX12_failedCommand_2 ?_
  obtain ⟨z1, hc2, hf⟩ := br_some hf
  refine mu_cV (As := [.int (M 0 7)]) (rest := []) hx hb hml hown hts hE (mX12_present l E B0 b (by omega) M (M 0 7) z1 hc2) cv_X12_270 (w_recv (k := 0) (ci := 12) hE hM (by decide) rfl rfl) hM hS hAB (fun _ h => h) rfl hl.1 rfl (by decide) (Nat.le_of_ble_eq_true rfl) ⟨Nat.le_refl _, Nat.le_refl _⟩ dX12_failedCommand_5 (fun H locs hM _ hu hS => ?_)
  have hre := Option.some.inj hf
  subst hre
  exact mu_i (v := z1.1) hx hb hrt hlocks hM hS dX12_failedCommand_8
noncomputable def fX12_undo (M : Mem) : Option (Int32 × Mem) := (if (M 0 5) = 0 then (if ((up2 M 0 4 (1 : Int32)) 0 4) ≤ 0 then (fX12_copy (up2 (up2 M 0 4 (1 : Int32)) 0 5 (((up2 M 0 4 (1 : Int32)) 0 5) - 1)) 4 1280 ((160 : Int32) * ((up2 (up2 M 0 4 (1 : Int32)) 0 5 (((up2 M 0 4 (1 : Int32)) 0 5) - 1)) 0 5)) 1 160 (0 : Int32)).bind fun z6 => some ((z6 0 5), z6) else some (0, (up2 M 0 4 (1 : Int32)))) else (if ((up2 M 0 4 (0 : Int32)) 0 4) ≤ 0 then (fX12_copy (up2 (up2 M 0 4 (0 : Int32)) 0 5 (((up2 M 0 4 (0 : Int32)) 0 5) - 1)) 4 1280 ((160 : Int32) * ((up2 (up2 M 0 4 (0 : Int32)) 0 5 (((up2 M 0 4 (0 : Int32)) 0 5) - 1)) 0 5)) 1 160 (0 : Int32)).bind fun z3 => some ((z3 0 5), z3) else some (0, (up2 M 0 4 (0 : Int32)))))
set_option maxHeartbeats 4000000 in
set_option maxRecDepth 100000 in
theorem mX12_undo (l : Launch) (E : EP) (B0 : Nat) (b : Nat) (hb0 : B0 ≤ b) (M : Mem) (r : Int32 × Mem) (hf : fX12_undo M = some r) : MU l E B0 yX12_undo cX12_undo 1 (some .int) 1 0 0 [.ref (b + 0)] (Blk E b modSh 10 M) (some (.int r.1)) (Blk E b modSh 10 r.2) (iv b 10) := by
  refine mu_of (by decide +kernel) (Nat.le_of_ble_eq_true rfl) ?_
  intro p e s m args below meth c hx hb hml hown hts hrt hlocks hE H hM hS ls hl
  have hown : s.vm.findClass RX12 = some m.cls := hown
  have hl : lv_has ls 1 [(0, .ref (b + 0))] := hl
  have hw : ∀ w ∈ WA, w.before args s = true := fun w h => hts w (List.mem_cons_of_mem _ h)
  have hAB : ∀ q, (iv b 10) q → B0 ≤ q := (iv_ge (by omega))
  unfold fX12_undo at hf
  refine lv_aload_n hx hb dX12_undo_0 rfl (lv_at hl 0 rfl) ?_
  refine lv_aload_n hx hb dX12_undo_1 rfl (lv_at hl 0 rfl) ?_
  refine w_get (k := 0) (v := .int (M 0 5)) hx hb hw hown hE fl_X12_26 hM (by decide) rfl rfl rfl dX12_undo_2 ?_
  refine lv_if_ne (tgt := 12) hx hb dX12_undo_5 (by decide) (fun c1 => ?_) (fun c1 => ?_)
  · rw [if_neg c1] at hf
    refine lv_iconst (v := 0) hx hb dX12_undo_12 (by decide) ?_
    refine w_put (k := 0) (v := .int 0) hx hb hw hown hE fl_X12_22 fw_X12_4 hM (by decide) rfl rfl (0 : Int32) rfl rfl rfl hS (iv_mem (by decide)) dX12_undo_13 (fun H locs hM _ hu hS => ?_)
    refine lv_aload_n hx hb dX12_undo_16 rfl (lv_at hl 0 rfl) ?_
    refine w_get (k := 0) (v := .int ((up2 M 0 4 (0 : Int32)) 0 4)) hx hb hw hown hE fl_X12_22 hM (by decide) rfl rfl rfl dX12_undo_17 ?_
    refine lv_if_le (tgt := 25) hx hb dX12_undo_20 (by decide) (fun c2 => ?_) (fun c2 => ?_)
    · rw [if_pos c2] at hf
      refine lv_aload_n hx hb dX12_undo_25 rfl (lv_at hl 0 rfl) ?_
      refine lv_dup hx hb dX12_undo_26 rfl ?_
      refine w_get (k := 0) (v := .int ((up2 M 0 4 (0 : Int32)) 0 5)) hx hb hw hown hE fl_X12_26 hM (by decide) rfl rfl rfl dX12_undo_27 ?_
      refine lv_iconst (v := 1) hx hb dX12_undo_30 (by decide) ?_
      refine lv_isub hx hb dX12_undo_31 ?_
      refine w_put (k := 0) (v := .int (((up2 M 0 4 (0 : Int32)) 0 5) - 1)) hx hb hw hown hE fl_X12_26 fw_X12_5 hM (by decide) rfl rfl (((up2 M 0 4 (0 : Int32)) 0 5) - 1) rfl rfl rfl hS (iv_mem (by decide)) dX12_undo_32 (fun H locs hM _ hu hS => ?_)
      refine lv_aload_n hx hb dX12_undo_35 rfl (lv_at hl 0 rfl) ?_
      refine w_get (k := 0) (v := .ref (b + 4)) hx hb hw hown hE fl_X12_19 hM (by decide) rfl rfl rfl dX12_undo_36 ?_
      refine lv_sipush (v := 160) hx hb dX12_undo_39 (by decide) ?_
      refine lv_aload_n hx hb dX12_undo_42 rfl (lv_at hl 0 rfl) ?_
      refine w_get (k := 0) (v := .int ((up2 (up2 M 0 4 (0 : Int32)) 0 5 (((up2 M 0 4 (0 : Int32)) 0 5) - 1)) 0 5)) hx hb hw hown hE fl_X12_26 hM (by decide) rfl rfl rfl dX12_undo_43 ?_
      refine lv_imul hx hb dX12_undo_46 ?_
      refine lv_aload_n hx hb dX12_undo_47 rfl (lv_at hl 0 rfl) ?_
      refine w_get (k := 0) (v := .ref (b + 1)) hx hb hw hown hE fl_X12_7 hM (by decide) rfl rfl rfl dX12_undo_48 ?_
      refine lv_iconst (v := 0) hx hb dX12_undo_51 (by decide) ?_
      obtain ⟨z3, hc4, hf⟩ := br_some hf
      refine mu_cS (As := [.ref (b + 4), .int ((160 : Int32) * ((up2 (up2 M 0 4 (0 : Int32)) 0 5 (((up2 M 0 4 (0 : Int32)) 0 5) - 1)) 0 5)), .ref (b + 1), .int 0]) (rest := []) hx hb hml hown hts hE (mX12_copy l E B0 b (by omega) (up2 (up2 M 0 4 (0 : Int32)) 0 5 (((up2 M 0 4 (0 : Int32)) 0 5) - 1)) 4 1280 ((160 : Int32) * ((up2 (up2 M 0 4 (0 : Int32)) 0 5 (((up2 M 0 4 (0 : Int32)) 0 5) - 1)) 0 5)) 1 160 (0 : Int32) z3 hc4) cs_X12_72 hM hS hAB (fun _ h => h) rfl hl.1 rfl (by decide) (Nat.le_of_ble_eq_true rfl) ⟨Nat.le_refl _, Nat.le_refl _⟩ dX12_undo_52 (fun H locs hM _ hu hS => ?_)
      refine lv_aload_n hx hb dX12_undo_55 rfl (lv_at hl 0 rfl) ?_
      refine w_get (k := 0) (v := .int (z3 0 5)) hx hb hw hown hE fl_X12_26 hM (by decide) rfl rfl rfl dX12_undo_56 ?_
      have hre := Option.some.inj hf
      subst hre
      exact mu_i (v := (z3 0 5)) hx hb hrt hlocks hM hS dX12_undo_59
    · rw [if_neg c2] at hf
      refine lv_iconst (v := 0) hx hb dX12_undo_23 (by decide) ?_
      have hre := Option.some.inj hf
      subst hre
      exact mu_i (v := 0) hx hb hrt hlocks hM hS dX12_undo_24
  · rw [if_pos c1] at hf
    refine lv_iconst (v := 1) hx hb dX12_undo_8 (by decide) ?_
    refine lv_goto (tgt := 13) hx hb dX12_undo_9 (by decide) ?_
    refine w_put (k := 0) (v := .int 1) hx hb hw hown hE fl_X12_22 fw_X12_4 hM (by decide) rfl rfl (1 : Int32) rfl rfl rfl hS (iv_mem (by decide)) dX12_undo_13 (fun H locs hM _ hu hS => ?_)
    refine lv_aload_n hx hb dX12_undo_16 rfl (lv_at hl 0 rfl) ?_
    refine w_get (k := 0) (v := .int ((up2 M 0 4 (1 : Int32)) 0 4)) hx hb hw hown hE fl_X12_22 hM (by decide) rfl rfl rfl dX12_undo_17 ?_
    refine lv_if_le (tgt := 25) hx hb dX12_undo_20 (by decide) (fun c5 => ?_) (fun c5 => ?_)
    · rw [if_pos c5] at hf
      refine lv_aload_n hx hb dX12_undo_25 rfl (lv_at hl 0 rfl) ?_
      refine lv_dup hx hb dX12_undo_26 rfl ?_
      refine w_get (k := 0) (v := .int ((up2 M 0 4 (1 : Int32)) 0 5)) hx hb hw hown hE fl_X12_26 hM (by decide) rfl rfl rfl dX12_undo_27 ?_
      refine lv_iconst (v := 1) hx hb dX12_undo_30 (by decide) ?_
      refine lv_isub hx hb dX12_undo_31 ?_
      refine w_put (k := 0) (v := .int (((up2 M 0 4 (1 : Int32)) 0 5) - 1)) hx hb hw hown hE fl_X12_26 fw_X12_5 hM (by decide) rfl rfl (((up2 M 0 4 (1 : Int32)) 0 5) - 1) rfl rfl rfl hS (iv_mem (by decide)) dX12_undo_32 (fun H locs hM _ hu hS => ?_)
      refine lv_aload_n hx hb dX12_undo_35 rfl (lv_at hl 0 rfl) ?_
      refine w_get (k := 0) (v := .ref (b + 4)) hx hb hw hown hE fl_X12_19 hM (by decide) rfl rfl rfl dX12_undo_36 ?_
      refine lv_sipush (v := 160) hx hb dX12_undo_39 (by decide) ?_
      refine lv_aload_n hx hb dX12_undo_42 rfl (lv_at hl 0 rfl) ?_
      refine w_get (k := 0) (v := .int ((up2 (up2 M 0 4 (1 : Int32)) 0 5 (((up2 M 0 4 (1 : Int32)) 0 5) - 1)) 0 5)) hx hb hw hown hE fl_X12_26 hM (by decide) rfl rfl rfl dX12_undo_43 ?_
      refine lv_imul hx hb dX12_undo_46 ?_
      refine lv_aload_n hx hb dX12_undo_47 rfl (lv_at hl 0 rfl) ?_
      refine w_get (k := 0) (v := .ref (b + 1)) hx hb hw hown hE fl_X12_7 hM (by decide) rfl rfl rfl dX12_undo_48 ?_
      refine lv_iconst (v := 0) hx hb dX12_undo_51 (by decide) ?_
      obtain ⟨z6, hc7, hf⟩ := br_some hf
      refine mu_cS (As := [.ref (b + 4), .int ((160 : Int32) * ((up2 (up2 M 0 4 (1 : Int32)) 0 5 (((up2 M 0 4 (1 : Int32)) 0 5) - 1)) 0 5)), .ref (b + 1), .int 0]) (rest := []) hx hb hml hown hts hE (mX12_copy l E B0 b (by omega) (up2 (up2 M 0 4 (1 : Int32)) 0 5 (((up2 M 0 4 (1 : Int32)) 0 5) - 1)) 4 1280 ((160 : Int32) * ((up2 (up2 M 0 4 (1 : Int32)) 0 5 (((up2 M 0 4 (1 : Int32)) 0 5) - 1)) 0 5)) 1 160 (0 : Int32) z6 hc7) cs_X12_72 hM hS hAB (fun _ h => h) rfl hl.1 rfl (by decide) (Nat.le_of_ble_eq_true rfl) ⟨Nat.le_refl _, Nat.le_refl _⟩ dX12_undo_52 (fun H locs hM _ hu hS => ?_)
      refine lv_aload_n hx hb dX12_undo_55 rfl (lv_at hl 0 rfl) ?_
      refine w_get (k := 0) (v := .int (z6 0 5)) hx hb hw hown hE fl_X12_26 hM (by decide) rfl rfl rfl dX12_undo_56 ?_
      have hre := Option.some.inj hf
      subst hre
      exact mu_i (v := (z6 0 5)) hx hb hrt hlocks hM hS dX12_undo_59
    · rw [if_neg c5] at hf
      refine lv_iconst (v := 0) hx hb dX12_undo_23 (by decide) ?_
      have hre := Option.some.inj hf
      subst hre
      exact mu_i (v := 0) hx hb hrt hlocks hM hS dX12_undo_24
noncomputable def fX12_save (M : Mem) : Option (Int32 × Mem) := (fX12_copy (up2 M 0 4 (0 : Int32)) 1 160 (0 : Int32) 3 160 (0 : Int32)).bind fun z1 => some (((up2 z1 0 8 (1 : Int32)) 1 0), (up2 z1 0 8 (1 : Int32)))
set_option maxHeartbeats 4000000 in
set_option maxRecDepth 100000 in
theorem mX12_save (l : Launch) (E : EP) (B0 : Nat) (b : Nat) (hb0 : B0 ≤ b) (M : Mem) (r : Int32 × Mem) (hf : fX12_save M = some r) : MU l E B0 yX12_save cX12_save 1 (some .int) 1 0 0 [.ref (b + 0)] (Blk E b modSh 10 M) (some (.int r.1)) (Blk E b modSh 10 r.2) (iv b 10) := by
  refine mu_of (by decide +kernel) (Nat.le_of_ble_eq_true rfl) ?_
  intro p e s m args below meth c hx hb hml hown hts hrt hlocks hE H hM hS ls hl
  have hown : s.vm.findClass RX12 = some m.cls := hown
  have hl : lv_has ls 1 [(0, .ref (b + 0))] := hl
  have hw : ∀ w ∈ WA, w.before args s = true := fun w h => hts w (List.mem_cons_of_mem _ h)
  have hAB : ∀ q, (iv b 10) q → B0 ≤ q := (iv_ge (by omega))
  unfold fX12_save at hf
  refine lv_aload_n hx hb dX12_save_0 rfl (lv_at hl 0 rfl) ?_
  refine lv_iconst (v := 0) hx hb dX12_save_1 (by decide) ?_
  refine w_put (k := 0) (v := .int 0) hx hb hw hown hE fl_X12_22 fw_X12_4 hM (by decide) rfl rfl (0 : Int32) rfl rfl rfl hS (iv_mem (by decide)) dX12_save_2 (fun H locs hM _ hu hS => ?_)
  refine lv_aload_n hx hb dX12_save_5 rfl (lv_at hl 0 rfl) ?_
  refine w_get (k := 0) (v := .ref (b + 1)) hx hb hw hown hE fl_X12_7 hM (by decide) rfl rfl rfl dX12_save_6 ?_
  refine lv_iconst (v := 0) hx hb dX12_save_9 (by decide) ?_
  refine lv_aload_n hx hb dX12_save_10 rfl (lv_at hl 0 rfl) ?_
  refine w_get (k := 0) (v := .ref (b + 3)) hx hb hw hown hE fl_X12_16 hM (by decide) rfl rfl rfl dX12_save_11 ?_
  refine lv_iconst (v := 0) hx hb dX12_save_14 (by decide) ?_
  obtain ⟨z1, hc2, hf⟩ := br_some hf
  refine mu_cS (As := [.ref (b + 1), .int 0, .ref (b + 3), .int 0]) (rest := []) hx hb hml hown hts hE (mX12_copy l E B0 b (by omega) (up2 M 0 4 (0 : Int32)) 1 160 (0 : Int32) 3 160 (0 : Int32) z1 hc2) cs_X12_72 hM hS hAB (fun _ h => h) rfl hl.1 rfl (by decide) (Nat.le_of_ble_eq_true rfl) ⟨Nat.le_refl _, Nat.le_refl _⟩ dX12_save_15 (fun H locs hM _ hu hS => ?_)
  refine lv_aload_n hx hb dX12_save_18 rfl (lv_at hl 0 rfl) ?_
  refine lv_iconst (v := 1) hx hb dX12_save_19 (by decide) ?_
  refine w_put (k := 0) (v := .int 1) hx hb hw hown hE fl_X12_35 fw_X12_8 hM (by decide) rfl rfl (1 : Int32) rfl rfl rfl hS (iv_mem (by decide)) dX12_save_20 (fun H locs hM _ hu hS => ?_)
  refine lv_aload_n hx hb dX12_save_23 rfl (lv_at hl 0 rfl) ?_
  refine w_get (k := 0) (v := .ref (b + 1)) hx hb hw hown hE fl_X12_7 hM (by decide) rfl rfl rfl dX12_save_24 ?_
  refine lv_iconst (v := 0) hx hb dX12_save_27 (by decide) ?_
  refine w_iald (k := 1) (x9 := 0) hx hb hE hM (by decide) rfl (by decide) (by decide) dX12_save_28 ?_
  have hre := Option.some.inj hf
  subst hre
  exact mu_i (v := ((up2 z1 0 8 (1 : Int32)) 1 0)) hx hb hrt hlocks hM hS dX12_save_29
noncomputable def fX12_restore (M : Mem) : Option (Int32 × Mem) := (if (M 0 8) = 0 then (if ((up2 M 0 4 (1 : Int32)) 0 4) ≤ 0 then (fX12_copy (up2 M 0 4 (1 : Int32)) 3 160 (0 : Int32) 1 160 (0 : Int32)).bind fun z3 => some (((up2 z3 0 5 (0 : Int32)) 1 0), (up2 z3 0 5 (0 : Int32))) else some (0, (up2 M 0 4 (1 : Int32)))) else (if ((up2 M 0 4 (0 : Int32)) 0 4) ≤ 0 then (fX12_copy (up2 M 0 4 (0 : Int32)) 3 160 (0 : Int32) 1 160 (0 : Int32)).bind fun z6 => some (((up2 z6 0 5 (0 : Int32)) 1 0), (up2 z6 0 5 (0 : Int32))) else some (0, (up2 M 0 4 (0 : Int32)))))
set_option maxHeartbeats 4000000 in
set_option maxRecDepth 100000 in
theorem mX12_restore (l : Launch) (E : EP) (B0 : Nat) (b : Nat) (hb0 : B0 ≤ b) (M : Mem) (r : Int32 × Mem) (hf : fX12_restore M = some r) : MU l E B0 yX12_restore cX12_restore 1 (some .int) 1 0 0 [.ref (b + 0)] (Blk E b modSh 10 M) (some (.int r.1)) (Blk E b modSh 10 r.2) (iv b 10) := by
  refine mu_of (by decide +kernel) (Nat.le_of_ble_eq_true rfl) ?_
  intro p e s m args below meth c hx hb hml hown hts hrt hlocks hE H hM hS ls hl
  have hown : s.vm.findClass RX12 = some m.cls := hown
  have hl : lv_has ls 1 [(0, .ref (b + 0))] := hl
  have hw : ∀ w ∈ WA, w.before args s = true := fun w h => hts w (List.mem_cons_of_mem _ h)
  have hAB : ∀ q, (iv b 10) q → B0 ≤ q := (iv_ge (by omega))
  unfold fX12_restore at hf
  refine lv_aload_n hx hb dX12_restore_0 rfl (lv_at hl 0 rfl) ?_
  refine lv_aload_n hx hb dX12_restore_1 rfl (lv_at hl 0 rfl) ?_
  refine w_get (k := 0) (v := .int (M 0 8)) hx hb hw hown hE fl_X12_35 hM (by decide) rfl rfl rfl dX12_restore_2 ?_
  refine lv_if_eq (tgt := 12) hx hb dX12_restore_5 (by decide) (fun c1 => ?_) (fun c1 => ?_)
  · rw [if_pos c1] at hf
    refine lv_iconst (v := 1) hx hb dX12_restore_12 (by decide) ?_
    refine w_put (k := 0) (v := .int 1) hx hb hw hown hE fl_X12_22 fw_X12_4 hM (by decide) rfl rfl (1 : Int32) rfl rfl rfl hS (iv_mem (by decide)) dX12_restore_13 (fun H locs hM _ hu hS => ?_)
    refine lv_aload_n hx hb dX12_restore_16 rfl (lv_at hl 0 rfl) ?_
    refine w_get (k := 0) (v := .int ((up2 M 0 4 (1 : Int32)) 0 4)) hx hb hw hown hE fl_X12_22 hM (by decide) rfl rfl rfl dX12_restore_17 ?_
    refine lv_if_le (tgt := 25) hx hb dX12_restore_20 (by decide) (fun c2 => ?_) (fun c2 => ?_)
    · rw [if_pos c2] at hf
      refine lv_aload_n hx hb dX12_restore_25 rfl (lv_at hl 0 rfl) ?_
      refine w_get (k := 0) (v := .ref (b + 3)) hx hb hw hown hE fl_X12_16 hM (by decide) rfl rfl rfl dX12_restore_26 ?_
      refine lv_iconst (v := 0) hx hb dX12_restore_29 (by decide) ?_
      refine lv_aload_n hx hb dX12_restore_30 rfl (lv_at hl 0 rfl) ?_
      refine w_get (k := 0) (v := .ref (b + 1)) hx hb hw hown hE fl_X12_7 hM (by decide) rfl rfl rfl dX12_restore_31 ?_
      refine lv_iconst (v := 0) hx hb dX12_restore_34 (by decide) ?_
      obtain ⟨z3, hc4, hf⟩ := br_some hf
      refine mu_cS (As := [.ref (b + 3), .int 0, .ref (b + 1), .int 0]) (rest := []) hx hb hml hown hts hE (mX12_copy l E B0 b (by omega) (up2 M 0 4 (1 : Int32)) 3 160 (0 : Int32) 1 160 (0 : Int32) z3 hc4) cs_X12_72 hM hS hAB (fun _ h => h) rfl hl.1 rfl (by decide) (Nat.le_of_ble_eq_true rfl) ⟨Nat.le_refl _, Nat.le_refl _⟩ dX12_restore_35 (fun H locs hM _ hu hS => ?_)
      refine lv_aload_n hx hb dX12_restore_38 rfl (lv_at hl 0 rfl) ?_
      refine lv_iconst (v := 0) hx hb dX12_restore_39 (by decide) ?_
      refine w_put (k := 0) (v := .int 0) hx hb hw hown hE fl_X12_26 fw_X12_5 hM (by decide) rfl rfl (0 : Int32) rfl rfl rfl hS (iv_mem (by decide)) dX12_restore_40 (fun H locs hM _ hu hS => ?_)
      refine lv_aload_n hx hb dX12_restore_43 rfl (lv_at hl 0 rfl) ?_
      refine w_get (k := 0) (v := .ref (b + 1)) hx hb hw hown hE fl_X12_7 hM (by decide) rfl rfl rfl dX12_restore_44 ?_
      refine lv_iconst (v := 0) hx hb dX12_restore_47 (by decide) ?_
      refine w_iald (k := 1) (x9 := 0) hx hb hE hM (by decide) rfl (by decide) (by decide) dX12_restore_48 ?_
      have hre := Option.some.inj hf
      subst hre
      exact mu_i (v := ((up2 z3 0 5 (0 : Int32)) 1 0)) hx hb hrt hlocks hM hS dX12_restore_49
    · rw [if_neg c2] at hf
      refine lv_iconst (v := 0) hx hb dX12_restore_23 (by decide) ?_
      have hre := Option.some.inj hf
      subst hre
      exact mu_i (v := 0) hx hb hrt hlocks hM hS dX12_restore_24
  · rw [if_neg c1] at hf
    refine lv_iconst (v := 0) hx hb dX12_restore_8 (by decide) ?_
    refine lv_goto (tgt := 13) hx hb dX12_restore_9 (by decide) ?_
    refine w_put (k := 0) (v := .int 0) hx hb hw hown hE fl_X12_22 fw_X12_4 hM (by decide) rfl rfl (0 : Int32) rfl rfl rfl hS (iv_mem (by decide)) dX12_restore_13 (fun H locs hM _ hu hS => ?_)
    refine lv_aload_n hx hb dX12_restore_16 rfl (lv_at hl 0 rfl) ?_
    refine w_get (k := 0) (v := .int ((up2 M 0 4 (0 : Int32)) 0 4)) hx hb hw hown hE fl_X12_22 hM (by decide) rfl rfl rfl dX12_restore_17 ?_
    refine lv_if_le (tgt := 25) hx hb dX12_restore_20 (by decide) (fun c5 => ?_) (fun c5 => ?_)
    · rw [if_pos c5] at hf
      refine lv_aload_n hx hb dX12_restore_25 rfl (lv_at hl 0 rfl) ?_
      refine w_get (k := 0) (v := .ref (b + 3)) hx hb hw hown hE fl_X12_16 hM (by decide) rfl rfl rfl dX12_restore_26 ?_
      refine lv_iconst (v := 0) hx hb dX12_restore_29 (by decide) ?_
      refine lv_aload_n hx hb dX12_restore_30 rfl (lv_at hl 0 rfl) ?_
      refine w_get (k := 0) (v := .ref (b + 1)) hx hb hw hown hE fl_X12_7 hM (by decide) rfl rfl rfl dX12_restore_31 ?_
      refine lv_iconst (v := 0) hx hb dX12_restore_34 (by decide) ?_
      obtain ⟨z6, hc7, hf⟩ := br_some hf
      refine mu_cS (As := [.ref (b + 3), .int 0, .ref (b + 1), .int 0]) (rest := []) hx hb hml hown hts hE (mX12_copy l E B0 b (by omega) (up2 M 0 4 (0 : Int32)) 3 160 (0 : Int32) 1 160 (0 : Int32) z6 hc7) cs_X12_72 hM hS hAB (fun _ h => h) rfl hl.1 rfl (by decide) (Nat.le_of_ble_eq_true rfl) ⟨Nat.le_refl _, Nat.le_refl _⟩ dX12_restore_35 (fun H locs hM _ hu hS => ?_)
      refine lv_aload_n hx hb dX12_restore_38 rfl (lv_at hl 0 rfl) ?_
      refine lv_iconst (v := 0) hx hb dX12_restore_39 (by decide) ?_
      refine w_put (k := 0) (v := .int 0) hx hb hw hown hE fl_X12_26 fw_X12_5 hM (by decide) rfl rfl (0 : Int32) rfl rfl rfl hS (iv_mem (by decide)) dX12_restore_40 (fun H locs hM _ hu hS => ?_)
      refine lv_aload_n hx hb dX12_restore_43 rfl (lv_at hl 0 rfl) ?_
      refine w_get (k := 0) (v := .ref (b + 1)) hx hb hw hown hE fl_X12_7 hM (by decide) rfl rfl rfl dX12_restore_44 ?_
      refine lv_iconst (v := 0) hx hb dX12_restore_47 (by decide) ?_
      refine w_iald (k := 1) (x9 := 0) hx hb hE hM (by decide) rfl (by decide) (by decide) dX12_restore_48 ?_
      have hre := Option.some.inj hf
      subst hre
      exact mu_i (v := ((up2 z6 0 5 (0 : Int32)) 1 0)) hx hb hrt hlocks hM hS dX12_restore_49
    · rw [if_neg c5] at hf
      refine lv_iconst (v := 0) hx hb dX12_restore_23 (by decide) ?_
      have hre := Option.some.inj hf
      subst hre
      exact mu_i (v := 0) hx hb hrt hlocks hM hS dX12_restore_24
