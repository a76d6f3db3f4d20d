/-! ===== laid by program: the net ===== -/
def fX11_isChannel (a1 : Int32) : Option (Int32) := (if a1 < 0 then some 0 else (if (10 : Int32) ≤ a1 then some 0 else some 1))
set_option maxHeartbeats 4000000 in
set_option maxRecDepth 100000 in
theorem mX11_isChannel (l : Launch) (E : EP) (B0 : Nat) (a1 : Int32) (r : Int32) (hf : fX11_isChannel a1 = some r) : MU l E B0 yX11_isChannel cX11_isChannel 1 (some .boolean) 0 0 0 [.int a1] (fun _ => True) (some (.int r)) (fun _ => True) nv := by
  refine mu_of (by decide +kernel) (Nat.le_of_ble_eq_true rfl) ?_
  intro p e s m args below meth c hx hb hml hown hts hrt hlocks hE H _ hS ls hl
  have hown : s.vm.findClass RX11 = some m.cls := hown
  have hl : lv_has ls 1 [(0, .int a1)] := hl
  have hw : ∀ w ∈ WA, w.before args s = true := fun w h => hts w (List.mem_cons_of_mem _ h)
  have hAB : ∀ q, nv q → B0 ≤ q := fun _ h => h.elim
  unfold fX11_isChannel at hf
  refine lv_iload_n hx hb dX11_isChannel_0 rfl (lv_at hl 0 rfl) ?_
  refine lv_if_lt (tgt := 14) hx hb dX11_isChannel_1 (by decide) (fun c1 => ?_) (fun c1 => ?_)
  · rw [if_pos c1] at hf
    refine lv_iconst (v := 0) hx hb dX11_isChannel_14 (by decide) ?_
    have hre := Option.some.inj hf
    subst hre
    exact mu_z (v := 0) hx hb hrt rfl hlocks trivial hS dX11_isChannel_15
  · rw [if_neg c1] at hf
    refine lv_iload_n hx hb dX11_isChannel_4 rfl (lv_at hl 0 rfl) ?_
    refine lv_bipush (v := 10) hx hb dX11_isChannel_5 (by decide) ?_
    refine lv_icmp_ge (tgt := 14) hx hb dX11_isChannel_7 (by decide) (fun c2 => ?_) (fun c2 => ?_)
    · rw [if_pos c2] at hf
      refine lv_iconst (v := 0) hx hb dX11_isChannel_14 (by decide) ?_
      have hre := Option.some.inj hf
      subst hre
      exact mu_z (v := 0) hx hb hrt rfl hlocks trivial hS dX11_isChannel_15
    · rw [if_neg c2] at hf
      refine lv_iconst (v := 1) hx hb dX11_isChannel_10 (by decide) ?_
      refine lv_goto (tgt := 15) hx hb dX11_isChannel_11 (by decide) ?_
      have hre := Option.some.inj hf
      subst hre
      exact mu_z (v := 1) hx hb hrt rfl hlocks trivial hS dX11_isChannel_15
def fX11_isPower (a1 : Int32) : Option (Int32) := (if a1 < (1 : Int32) then some 0 else (if (99 : Int32) < a1 then some 0 else some 1))
set_option maxHeartbeats 4000000 in
set_option maxRecDepth 100000 in
theorem mX11_isPower (l : Launch) (E : EP) (B0 : Nat) (a1 : Int32) (r : Int32) (hf : fX11_isPower a1 = some r) : MU l E B0 yX11_isPower cX11_isPower 1 (some .boolean) 0 0 0 [.int a1] (fun _ => True) (some (.int r)) (fun _ => True) nv := by
  refine mu_of (by decide +kernel) (Nat.le_of_ble_eq_true rfl) ?_
  intro p e s m args below meth c hx hb hml hown hts hrt hlocks hE H _ hS ls hl
  have hown : s.vm.findClass RX11 = some m.cls := hown
  have hl : lv_has ls 1 [(0, .int a1)] := hl
  have hw : ∀ w ∈ WA, w.before args s = true := fun w h => hts w (List.mem_cons_of_mem _ h)
  have hAB : ∀ q, nv q → B0 ≤ q := fun _ h => h.elim
  unfold fX11_isPower at hf
  refine lv_iload_n hx hb dX11_isPower_0 rfl (lv_at hl 0 rfl) ?_
  refine lv_iconst (v := 1) hx hb dX11_isPower_1 (by decide) ?_
  refine lv_icmp_lt (tgt := 15) hx hb dX11_isPower_2 (by decide) (fun c1 => ?_) (fun c1 => ?_)
  · rw [if_pos c1] at hf
    refine lv_iconst (v := 0) hx hb dX11_isPower_15 (by decide) ?_
    have hre := Option.some.inj hf
    subst hre
    exact mu_z (v := 0) hx hb hrt rfl hlocks trivial hS dX11_isPower_16
  · rw [if_neg c1] at hf
    refine lv_iload_n hx hb dX11_isPower_5 rfl (lv_at hl 0 rfl) ?_
    refine lv_bipush (v := 99) hx hb dX11_isPower_6 (by decide) ?_
    refine lv_icmp_gt (tgt := 15) hx hb dX11_isPower_8 (by decide) (fun c2 => ?_) (fun c2 => ?_)
    · rw [if_pos c2] at hf
      refine lv_iconst (v := 0) hx hb dX11_isPower_15 (by decide) ?_
      have hre := Option.some.inj hf
      subst hre
      exact mu_z (v := 0) hx hb hrt rfl hlocks trivial hS dX11_isPower_16
    · rw [if_neg c2] at hf
      refine lv_iconst (v := 1) hx hb dX11_isPower_11 (by decide) ?_
      refine lv_goto (tgt := 16) hx hb dX11_isPower_12 (by decide) ?_
      have hre := Option.some.inj hf
      subst hre
      exact mu_z (v := 1) hx hb hrt rfl hlocks trivial hS dX11_isPower_16
def fX11_isPlace (a1 : Int32) (a2 : Int32) : Option (Int32) := (if a1 < 0 then some 0 else (if (99 : Int32) < a1 then some 0 else (if a2 < 0 then some 0 else (if (99 : Int32) < a2 then some 0 else some 1))))
set_option maxHeartbeats 4000000 in
set_option maxRecDepth 100000 in
theorem mX11_isPlace (l : Launch) (E : EP) (B0 : Nat) (a1 : Int32) (a2 : Int32) (r : Int32) (hf : fX11_isPlace a1 a2 = some r) : MU l E B0 yX11_isPlace cX11_isPlace 2 (some .boolean) 0 0 0 [.int a1, .int a2] (fun _ => True) (some (.int r)) (fun _ => True) nv := by
  refine mu_of (by decide +kernel) (Nat.le_of_ble_eq_true rfl) ?_
  intro p e s m args below meth c hx hb hml hown hts hrt hlocks hE H _ hS ls hl
  have hown : s.vm.findClass RX11 = some m.cls := hown
  have hl : lv_has ls 2 [(0, .int a1), (1, .int a2)] := hl
  have hw : ∀ w ∈ WA, w.before args s = true := fun w h => hts w (List.mem_cons_of_mem _ h)
  have hAB : ∀ q, nv q → B0 ≤ q := fun _ h => h.elim
  unfold fX11_isPlace at hf
  refine lv_iload_n hx hb dX11_isPlace_0 rfl (lv_at hl 0 rfl) ?_
  refine lv_if_lt (tgt := 24) hx hb dX11_isPlace_1 (by decide) (fun c1 => ?_) (fun c1 => ?_)
  · rw [if_pos c1] at hf
    refine lv_iconst (v := 0) hx hb dX11_isPlace_24 (by decide) ?_
    have hre := Option.some.inj hf
    subst hre
    exact mu_z (v := 0) hx hb hrt rfl hlocks trivial hS dX11_isPlace_25
  · rw [if_neg c1] at hf
    refine lv_iload_n hx hb dX11_isPlace_4 rfl (lv_at hl 0 rfl) ?_
    refine lv_bipush (v := 99) hx hb dX11_isPlace_5 (by decide) ?_
    refine lv_icmp_gt (tgt := 24) hx hb dX11_isPlace_7 (by decide) (fun c2 => ?_) (fun c2 => ?_)
    · rw [if_pos c2] at hf
      refine lv_iconst (v := 0) hx hb dX11_isPlace_24 (by decide) ?_
      have hre := Option.some.inj hf
      subst hre
      exact mu_z (v := 0) hx hb hrt rfl hlocks trivial hS dX11_isPlace_25
    · rw [if_neg c2] at hf
      refine lv_iload_n hx hb dX11_isPlace_10 rfl (lv_at hl 1 rfl) ?_
      refine lv_if_lt (tgt := 24) hx hb dX11_isPlace_11 (by decide) (fun c3 => ?_) (fun c3 => ?_)
      · rw [if_pos c3] at hf
        refine lv_iconst (v := 0) hx hb dX11_isPlace_24 (by decide) ?_
        have hre := Option.some.inj hf
        subst hre
        exact mu_z (v := 0) hx hb hrt rfl hlocks trivial hS dX11_isPlace_25
      · rw [if_neg c3] at hf
        refine lv_iload_n hx hb dX11_isPlace_14 rfl (lv_at hl 1 rfl) ?_
        refine lv_bipush (v := 99) hx hb dX11_isPlace_15 (by decide) ?_
        refine lv_icmp_gt (tgt := 24) hx hb dX11_isPlace_17 (by decide) (fun c4 => ?_) (fun c4 => ?_)
        · rw [if_pos c4] at hf
          refine lv_iconst (v := 0) hx hb dX11_isPlace_24 (by decide) ?_
          have hre := Option.some.inj hf
          subst hre
          exact mu_z (v := 0) hx hb hrt rfl hlocks trivial hS dX11_isPlace_25
        · rw [if_neg c4] at hf
          refine lv_iconst (v := 1) hx hb dX11_isPlace_20 (by decide) ?_
          refine lv_goto (tgt := 25) hx hb dX11_isPlace_21 (by decide) ?_
          have hre := Option.some.inj hf
          subst hre
          exact mu_z (v := 1) hx hb hrt rfl hlocks trivial hS dX11_isPlace_25
def fX11_isLetter (a1 : Int32) : Option (Int32) := (if a1 < (65 : Int32) then some 0 else (if (90 : Int32) < a1 then some 0 else some 1))
set_option maxHeartbeats 4000000 in
set_option maxRecDepth 100000 in
theorem mX11_isLetter (l : Launch) (E : EP) (B0 : Nat) (a1 : Int32) (r : Int32) (hf : fX11_isLetter a1 = some r) : MU l E B0 yX11_isLetter cX11_isLetter 1 (some .boolean) 0 0 0 [.int a1] (fun _ => True) (some (.int r)) (fun _ => True) nv := by
  refine mu_of (by decide +kernel) (Nat.le_of_ble_eq_true rfl) ?_
  intro p e s m args below meth c hx hb hml hown hts hrt hlocks hE H _ hS ls hl
  have hown : s.vm.findClass RX11 = some m.cls := hown
  have hl : lv_has ls 1 [(0, .int a1)] := hl
  have hw : ∀ w ∈ WA, w.before args s = true := fun w h => hts w (List.mem_cons_of_mem _ h)
  have hAB : ∀ q, nv q → B0 ≤ q := fun _ h => h.elim
  unfold fX11_isLetter at hf
  refine lv_iload_n hx hb dX11_isLetter_0 rfl (lv_at hl 0 rfl) ?_
  refine lv_bipush (v := 65) hx hb dX11_isLetter_1 (by decide) ?_
  refine lv_icmp_lt (tgt := 16) hx hb dX11_isLetter_3 (by decide) (fun c1 => ?_) (fun c1 => ?_)
  · rw [if_pos c1] at hf
    refine lv_iconst (v := 0) hx hb dX11_isLetter_16 (by decide) ?_
    have hre := Option.some.inj hf
    subst hre
    exact mu_z (v := 0) hx hb hrt rfl hlocks trivial hS dX11_isLetter_17
  · rw [if_neg c1] at hf
    refine lv_iload_n hx hb dX11_isLetter_6 rfl (lv_at hl 0 rfl) ?_
    refine lv_bipush (v := 90) hx hb dX11_isLetter_7 (by decide) ?_
    refine lv_icmp_gt (tgt := 16) hx hb dX11_isLetter_9 (by decide) (fun c2 => ?_) (fun c2 => ?_)
    · rw [if_pos c2] at hf
      refine lv_iconst (v := 0) hx hb dX11_isLetter_16 (by decide) ?_
      have hre := Option.some.inj hf
      subst hre
      exact mu_z (v := 0) hx hb hrt rfl hlocks trivial hS dX11_isLetter_17
    · rw [if_neg c2] at hf
      refine lv_iconst (v := 1) hx hb dX11_isLetter_12 (by decide) ?_
      refine lv_goto (tgt := 17) hx hb dX11_isLetter_13 (by decide) ?_
      have hre := Option.some.inj hf
      subst hre
      exact mu_z (v := 1) hx hb hrt rfl hlocks trivial hS dX11_isLetter_17
def fX11_faultOfMinutes (a1 : Int32) : Option (Int32) := (if a1 < (1 : Int32) then some (2 : Int32) else (if (60 : Int32) < a1 then some (2 : Int32) else some (0 : Int32)))
set_option maxHeartbeats 4000000 in
set_option maxRecDepth 100000 in
theorem mX11_faultOfMinutes (l : Launch) (E : EP) (B0 : Nat) (a1 : Int32) (r : Int32) (hf : fX11_faultOfMinutes a1 = some r) : MU l E B0 yX11_faultOfMinutes cX11_faultOfMinutes 1 (some (.object "RadioNet$Fault")) 0 0 0 [.int a1] (fun _ => True) (some (.ref (E.2.2 1 r.toNatClampNeg))) (fun _ => True) nv := by
  refine mu_of (by decide +kernel) (Nat.le_of_ble_eq_true rfl) ?_
  intro p e s m args below meth c hx hb hml hown hts hrt hlocks hE H _ hS ls hl
  have hown : s.vm.findClass RX11 = some m.cls := hown
  have hl : lv_has ls 1 [(0, .int a1)] := hl
  have hw : ∀ w ∈ WA, w.before args s = true := fun w h => hts w (List.mem_cons_of_mem _ h)
  have hAB : ∀ q, nv q → B0 ≤ q := fun _ h => h.elim
  unfold fX11_faultOfMinutes at hf
  refine lv_iload_n hx hb dX11_faultOfMinutes_0 rfl (lv_at hl 0 rfl) ?_
  refine lv_iconst (v := 1) hx hb dX11_faultOfMinutes_1 (by decide) ?_
  refine lv_icmp_lt (tgt := 17) hx hb dX11_faultOfMinutes_2 (by decide) (fun c1 => ?_) (fun c1 => ?_)
  · rw [if_pos c1] at hf
    refine w_gs (i := 2) (z := 2) hx hb hw hown (EV.en1 hE) (by decide) hS hAB gs_X11_415 (by decide) dX11_faultOfMinutes_17 ?_
    have hre := Option.some.inj hf
    subst hre
    exact mu_a hx hb hrt hlocks trivial hS dX11_faultOfMinutes_20
  · rw [if_neg c1] at hf
    refine lv_iload_n hx hb dX11_faultOfMinutes_5 rfl (lv_at hl 0 rfl) ?_
    refine lv_bipush (v := 60) hx hb dX11_faultOfMinutes_6 (by decide) ?_
    refine lv_icmp_gt (tgt := 17) hx hb dX11_faultOfMinutes_8 (by decide) (fun c2 => ?_) (fun c2 => ?_)
    · rw [if_pos c2] at hf
      refine w_gs (i := 2) (z := 2) hx hb hw hown (EV.en1 hE) (by decide) hS hAB gs_X11_415 (by decide) dX11_faultOfMinutes_17 ?_
      have hre := Option.some.inj hf
      subst hre
      exact mu_a hx hb hrt hlocks trivial hS dX11_faultOfMinutes_20
    · rw [if_neg c2] at hf
      refine w_gs (i := 0) (z := 0) hx hb hw hown (EV.en1 hE) (by decide) hS hAB gs_X11_411 (by decide) dX11_faultOfMinutes_11 ?_
      refine lv_goto (tgt := 20) hx hb dX11_faultOfMinutes_14 (by decide) ?_
      have hre := Option.some.inj hf
      subst hre
      exact mu_a hx hb hrt hlocks trivial hS dX11_faultOfMinutes_20
def fX9_squaredDistance (N : Mem) (k0 : Nat) (k1 : Nat) : Option (Int32) := gd (stn k0) (gd (stn k1) (some ((((N k0 2) - (N k1 2)) * ((N k0 2) - (N k1 2))) + (((N k0 3) - (N k1 3)) * ((N k0 3) - (N k1 3))))))
set_option maxHeartbeats 4000000 in
set_option maxRecDepth 100000 in
theorem mX9_squaredDistance (l : Launch) (E : EP) (B0 : Nat) (b : Nat) (hb0 : B0 ≤ b) (N : Mem) (k0 : Nat) (k1 : Nat) (r : Int32) (hf : fX9_squaredDistance N k0 k1 = some r) : MU l E B0 yX9_squaredDistance cX9_squaredDistance 4 (some .int) 0 0 0 [.ref (b + k0), .ref (b + k1)] (Blk E b netSh 15 N) (some (.int r)) (Blk E b netSh 15 N) nv := by
  refine mu_of (by decide +kernel) (Nat.le_of_ble_eq_true rfl) ?_
  intro p e s m args below meth c hx hb hml hown hts hrt hlocks hE H hN hS ls hl
  have hown : s.vm.findClass RX9 = some m.cls := hown
  have hl : lv_has ls 4 [(0, .ref (b + k0)), (1, .ref (b + k1))] := hl
  have hw : ∀ w ∈ WA, w.before args s = true := fun w h => hts w (List.mem_cons_of_mem _ h)
  have hAB : ∀ q, nv q → B0 ≤ q := fun _ h => h.elim
  unfold fX9_squaredDistance at hf
  obtain ⟨g0, hf⟩ := gd_some hf
  obtain ⟨g1, hf⟩ := gd_some hf
  refine lv_aload_n hx hb dX9_squaredDistance_0 rfl (lv_at hl 0 rfl) ?_
  refine w_get (k := k0) (v := .int (N k0 2)) hx hb hw hown hE fl_X9_26 hN (stn_lt g0) (stn_sh g0) rfl rfl dX9_squaredDistance_1 ?_
  refine lv_aload_n hx hb dX9_squaredDistance_4 rfl (lv_at hl 1 rfl) ?_
  refine w_get (k := k1) (v := .int (N k1 2)) hx hb hw hown hE fl_X9_26 hN (stn_lt g1) (stn_sh g1) rfl rfl dX9_squaredDistance_5 ?_
  refine lv_isub hx hb dX9_squaredDistance_8 ?_
  refine lv_istore_n (lv' := [(2, .int ((N k0 2) - (N k1 2))), (0, .ref (b + k0)), (1, .ref (b + k1))]) hx hb dX9_squaredDistance_9 rfl hl (by decide) rfl (fun ls hl => ?_)
  refine lv_aload_n hx hb dX9_squaredDistance_10 rfl (lv_at hl 1 rfl) ?_
  refine w_get (k := k0) (v := .int (N k0 3)) hx hb hw hown hE fl_X9_29 hN (stn_lt g0) (stn_sh g0) rfl rfl dX9_squaredDistance_11 ?_
  refine lv_aload_n hx hb dX9_squaredDistance_14 rfl (lv_at hl 2 rfl) ?_
  refine w_get (k := k1) (v := .int (N k1 3)) hx hb hw hown hE fl_X9_29 hN (stn_lt g1) (stn_sh g1) rfl rfl dX9_squaredDistance_15 ?_
  refine lv_isub hx hb dX9_squaredDistance_18 ?_
  refine lv_istore_n (lv' := [(3, .int ((N k0 3) - (N k1 3))), (2, .int ((N k0 2) - (N k1 2))), (0, .ref (b + k0)), (1, .ref (b + k1))]) hx hb dX9_squaredDistance_19 rfl hl (by decide) rfl (fun ls hl => ?_)
  refine lv_iload_n hx hb dX9_squaredDistance_20 rfl (lv_at hl 1 rfl) ?_
  refine lv_iload_n hx hb dX9_squaredDistance_21 rfl (lv_at hl 1 rfl) ?_
  refine lv_imul hx hb dX9_squaredDistance_22 ?_
  refine lv_iload_n hx hb dX9_squaredDistance_23 rfl (lv_at hl 0 rfl) ?_
  refine lv_iload_n hx hb dX9_squaredDistance_24 rfl (lv_at hl 0 rfl) ?_
  refine lv_imul hx hb dX9_squaredDistance_25 ?_
  refine lv_iadd hx hb dX9_squaredDistance_26 ?_
  have hre := Option.some.inj hf
  subst hre
  exact mu_i (v := ((((N k0 2) - (N k1 2)) * ((N k0 2) - (N k1 2))) + (((N k0 3) - (N k1 3)) * ((N k0 3) - (N k1 3))))) hx hb hrt hlocks hN hS dX9_squaredDistance_27
def fX9_hears (N : Mem) (k0 : Nat) (k1 : Nat) : Option (Int32) := gd (stn k0) (gd (stn k1) ((if k0 = k1 then some 0 else (if (N k0 5) = (N k1 5) then (fX9_squaredDistance N k0 k1).bind fun z3 => (if ((N k1 4) * (N k1 4)) < z3 then some 0 else some 1) else some 0))))
set_option maxHeartbeats 4000000 in
set_option maxRecDepth 100000 in
theorem mX9_hears (l : Launch) (E : EP) (B0 : Nat) (b : Nat) (hb0 : B0 ≤ b) (N : Mem) (k0 : Nat) (k1 : Nat) (r : Int32) (hf : fX9_hears N k0 k1 = some r) : MU l E B0 yX9_hears cX9_hears 2 (some .boolean) 1 0 0 [.ref (b + k0), .ref (b + k1)] (Blk E b netSh 15 N) (some (.int r)) (Blk E b netSh 15 N) nv := by
  refine mu_of (by decide +kernel) (Nat.le_of_ble_eq_true rfl) ?_
  intro p e s m args below meth c hx hb hml hown hts hrt hlocks hE H hN hS ls hl
  have hown : s.vm.findClass RX9 = some m.cls := hown
  have hl : lv_has ls 2 [(0, .ref (b + k0)), (1, .ref (b + k1))] := hl
  have hw : ∀ w ∈ WA, w.before args s = true := fun w h => hts w (List.mem_cons_of_mem _ h)
  have hAB : ∀ q, nv q → B0 ≤ q := fun _ h => h.elim
  unfold fX9_hears at hf
  obtain ⟨g0, hf⟩ := gd_some hf
  obtain ⟨g1, hf⟩ := gd_some hf
  refine lv_aload_n hx hb dX9_hears_0 rfl (lv_at hl 0 rfl) ?_
  refine lv_aload_n hx hb dX9_hears_1 rfl (lv_at hl 1 rfl) ?_
  refine w_acmpR_eq (k1 := k0) (k2 := k1) (tgt := 37) hx hb dX9_hears_2 (by decide) (fun c1 => ?_) (fun c1 => ?_)
  · rw [if_pos c1] at hf
    refine lv_iconst (v := 0) hx hb dX9_hears_37 (by decide) ?_
    have hre := Option.some.inj hf
    subst hre
    exact mu_z (v := 0) hx hb hrt rfl hlocks hN hS dX9_hears_38
  · rw [if_neg c1] at hf
    refine lv_aload_n hx hb dX9_hears_5 rfl (lv_at hl 0 rfl) ?_
    refine w_get (k := k0) (v := .int (N k0 5)) hx hb hw hown hE fl_X9_35 hN (stn_lt g0) (stn_sh g0) rfl rfl dX9_hears_6 ?_
    refine lv_aload_n hx hb dX9_hears_9 rfl (lv_at hl 1 rfl) ?_
    refine w_get (k := k1) (v := .int (N k1 5)) hx hb hw hown hE fl_X9_35 hN (stn_lt g1) (stn_sh g1) rfl rfl dX9_hears_10 ?_
    refine lv_icmp_ne (tgt := 37) hx hb dX9_hears_13 (by decide) (fun c2 => ?_) (fun c2 => ?_)
    · rw [if_neg c2] at hf
      refine lv_iconst (v := 0) hx hb dX9_hears_37 (by decide) ?_
      have hre := Option.some.inj hf
      subst hre
      exact mu_z (v := 0) hx hb hrt rfl hlocks hN hS dX9_hears_38
    · rw [if_pos c2] at hf
      refine lv_aload_n hx hb dX9_hears_16 rfl (lv_at hl 0 rfl) ?_
      refine lv_aload_n hx hb dX9_hears_17 rfl (lv_at hl 1 rfl) ?_
      obtain ⟨z3, hc4, hf⟩ := br_some hf
      refine mu_cV (As := [.ref (b + k1)]) (rest := []) hx hb hml hown hts hE (mX9_squaredDistance l E B0 b (by omega) N k0 k1 z3 hc4) cv_X9_47 (w_recv (k := k0) (ci := 9) hE hN (stn_lt g0) (stn_sh g0) rfl) hN hS hAB (fun _ h => h.elim) rfl hl.1 rfl (by decide) (Nat.le_of_ble_eq_true rfl) ⟨Nat.le_refl _, Nat.le_refl _⟩ dX9_hears_18 (fun H locs hN _ hu hS => ?_)
      refine lv_aload_n hx hb dX9_hears_21 rfl (lv_at hl 1 rfl) ?_
      refine w_get (k := k1) (v := .int (N k1 4)) hx hb hw hown hE fl_X9_32 hN (stn_lt g1) (stn_sh g1) rfl rfl dX9_hears_22 ?_
      refine lv_aload_n hx hb dX9_hears_25 rfl (lv_at hl 1 rfl) ?_
      refine w_get (k := k1) (v := .int (N k1 4)) hx hb hw hown hE fl_X9_32 hN (stn_lt g1) (stn_sh g1) rfl rfl dX9_hears_26 ?_
      refine lv_imul hx hb dX9_hears_29 ?_
      refine lv_icmp_gt (tgt := 37) hx hb dX9_hears_30 (by decide) (fun c5 => ?_) (fun c5 => ?_)
      · rw [if_pos c5] at hf
        refine lv_iconst (v := 0) hx hb dX9_hears_37 (by decide) ?_
        have hre := Option.some.inj hf
        subst hre
        exact mu_z (v := 0) hx hb hrt rfl hlocks hN hS dX9_hears_38
      · rw [if_neg c5] at hf
        refine lv_iconst (v := 1) hx hb dX9_hears_33 (by decide) ?_
        refine lv_goto (tgt := 38) hx hb dX9_hears_34 (by decide) ?_
        have hre := Option.some.inj hf
        subst hre
        exact mu_z (v := 1) hx hb hrt rfl hlocks hN hS dX9_hears_38
def fX9_disturbs (N : Mem) (k0 : Nat) (k1 : Nat) : Option (Int32) := gd (stn k0) (gd (stn k1) (gd (inb (N k0 6) 3) ((if (N k0 6) = (1 : Int32) then (if (if 0 ≤ ((N k0 5) - (N k1 5)) then ((N k0 5) - (N k1 5)) else 0 - ((N k0 5) - (N k1 5))) = (1 : Int32) then (fX9_squaredDistance N k0 k1).bind fun z4 => (if ((N k0 4) * (N k0 4)) < ((4 : Int32) * z4) then some 0 else some 1) else some 0) else some 0))))
set_option maxHeartbeats 4000000 in
set_option maxRecDepth 100000 in
theorem mX9_disturbs (l : Launch) (E : EP) (B0 : Nat) (b : Nat) (hb0 : B0 ≤ b) (N : Mem) (k0 : Nat) (k1 : Nat) (r : Int32) (hf : fX9_disturbs N k0 k1 = some r) : MU l E B0 yX9_disturbs cX9_disturbs 2 (some .boolean) 1 0 0 [.ref (b + k0), .ref (b + k1)] (Blk E b netSh 15 N) (some (.int r)) (Blk E b netSh 15 N) nv := by
  refine mu_of (by decide +kernel) (Nat.le_of_ble_eq_true rfl) ?_
  intro p e s m args below meth c hx hb hml hown hts hrt hlocks hE H hN hS ls hl
  have hown : s.vm.findClass RX9 = some m.cls := hown
  have hl : lv_has ls 2 [(0, .ref (b + k0)), (1, .ref (b + k1))] := hl
  have hw : ∀ w ∈ WA, w.before args s = true := fun w h => hts w (List.mem_cons_of_mem _ h)
  have hAB : ∀ q, nv q → B0 ≤ q := fun _ h => h.elim
  unfold fX9_disturbs at hf
  obtain ⟨g0, hf⟩ := gd_some hf
  obtain ⟨g1, hf⟩ := gd_some hf
  refine lv_aload_n hx hb dX9_disturbs_0 rfl (lv_at hl 0 rfl) ?_
  refine w_get (k := k0) (v := .ref (E.2.2 0 (N k0 6).toNatClampNeg)) hx hb hw hown hE fl_X9_13 hN (stn_lt g0) (stn_sh g0) rfl rfl dX9_disturbs_1 ?_
  refine w_gs (i := 1) (z := 1) hx hb hw hown (EV.en0 hE) (by decide) hS hAB gs_X9_51 (by decide) dX9_disturbs_4 ?_
  obtain ⟨h1, hf⟩ := gd_some hf
  refine w_acmpE_ne (tgt := 49) hx hb (EV.en0 hE) h1 (by decide) dX9_disturbs_7 (by decide) (fun c2 => ?_) (fun c2 => ?_)
  · rw [if_neg c2] at hf
    refine lv_iconst (v := 0) hx hb dX9_disturbs_49 (by decide) ?_
    have hre := Option.some.inj hf
    subst hre
    exact mu_z (v := 0) hx hb hrt rfl hlocks hN hS dX9_disturbs_50
  · rw [if_pos c2] at hf
    refine lv_aload_n hx hb dX9_disturbs_10 rfl (lv_at hl 0 rfl) ?_
    refine w_get (k := k0) (v := .int (N k0 5)) hx hb hw hown hE fl_X9_35 hN (stn_lt g0) (stn_sh g0) rfl rfl dX9_disturbs_11 ?_
    refine lv_aload_n hx hb dX9_disturbs_14 rfl (lv_at hl 1 rfl) ?_
    refine w_get (k := k1) (v := .int (N k1 5)) hx hb hw hown hE fl_X9_35 hN (stn_lt g1) (stn_sh g1) rfl rfl dX9_disturbs_15 ?_
    refine lv_isub hx hb dX9_disturbs_18 ?_
    refine va_mabs hx hb (hml.trans hl.1.symm) hown (hw _ (pm_X9_54 _ (by simp))) (hw _ (pm_X9_54 _ (by simp))) (hw _ (pm_X9_54 _ (by simp))) (hw _ (pm_X9_54 _ (by simp))) (by decide) (Nat.le_of_ble_eq_true rfl) (Nat.zero_le _) (Nat.zero_le _) dX9_disturbs_19 ?_
    refine lv_iconst (v := 1) hx hb dX9_disturbs_22 (by decide) ?_
    refine lv_icmp_ne (tgt := 49) hx hb dX9_disturbs_23 (by decide) (fun c3 => ?_) (fun c3 => ?_)
    · rw [if_neg c3] at hf
      refine lv_iconst (v := 0) hx hb dX9_disturbs_49 (by decide) ?_
      have hre := Option.some.inj hf
      subst hre
      exact mu_z (v := 0) hx hb hrt rfl hlocks hN hS dX9_disturbs_50
    · rw [if_pos c3] at hf
      refine lv_iconst (v := 4) hx hb dX9_disturbs_26 (by decide) ?_
      refine lv_aload_n hx hb dX9_disturbs_27 rfl (lv_at hl 0 rfl) ?_
      refine lv_aload_n hx hb dX9_disturbs_28 rfl (lv_at hl 1 rfl) ?_
      obtain ⟨z4, hc5, hf⟩ := br_some hf
      refine mu_cV (As := [.ref (b + k1)]) (rest := [.int 4]) hx hb hml hown hts hE (mX9_squaredDistance l E B0 b (by omega) N k0 k1 z4 hc5) cv_X9_47 (w_recv (k := k0) (ci := 9) hE hN (stn_lt g0) (stn_sh g0) rfl) hN hS hAB (fun _ h => h.elim) rfl hl.1 rfl (by decide) (Nat.le_of_ble_eq_true rfl) ⟨Nat.le_refl _, Nat.le_refl _⟩ dX9_disturbs_29 (fun H locs hN _ hu hS => ?_)
      refine lv_imul hx hb dX9_disturbs_32 ?_
      refine lv_aload_n hx hb dX9_disturbs_33 rfl (lv_at hl 0 rfl) ?_
      refine w_get (k := k0) (v := .int (N k0 4)) hx hb hw hown hE fl_X9_32 hN (stn_lt g0) (stn_sh g0) rfl rfl dX9_disturbs_34 ?_
      refine lv_aload_n hx hb dX9_disturbs_37 rfl (lv_at hl 0 rfl) ?_
      refine w_get (k := k0) (v := .int (N k0 4)) hx hb hw hown hE fl_X9_32 hN (stn_lt g0) (stn_sh g0) rfl rfl dX9_disturbs_38 ?_
      refine lv_imul hx hb dX9_disturbs_41 ?_
      refine lv_icmp_gt (tgt := 49) hx hb dX9_disturbs_42 (by decide) (fun c6 => ?_) (fun c6 => ?_)
      · rw [if_pos c6] at hf
        refine lv_iconst (v := 0) hx hb dX9_disturbs_49 (by decide) ?_
        have hre := Option.some.inj hf
        subst hre
        exact mu_z (v := 0) hx hb hrt rfl hlocks hN hS dX9_disturbs_50
      · rw [if_neg c6] at hf
        refine lv_iconst (v := 1) hx hb dX9_disturbs_45 (by decide) ?_
        refine lv_goto (tgt := 50) hx hb dX9_disturbs_46 (by decide) ?_
        have hre := Option.some.inj hf
        subst hre
        exact mu_z (v := 1) hx hb hrt rfl hlocks hN hS dX9_disturbs_50
def fX9_ranksBefore (N : Mem) (k0 : Nat) (k1 : Nat) : Option (Int32) := gd (stn k0) (gd (stn k1) ((if (N k0 8) = (N k1 8) then (if (N k0 9) = (N k1 9) then (if (N k0 0) = (N k1 0) then (if (N k1 1) ≤ (N k0 1) then some 0 else some 1) else (if (N k1 0) ≤ (N k0 0) then some 0 else some 1)) else (if (N k0 9) ≤ (N k1 9) then some 0 else some 1)) else (if (N k0 8) ≤ (N k1 8) then some 0 else some 1))))
set_option maxHeartbeats 4000000 in
set_option maxRecDepth 100000 in
theorem mX9_ranksBefore (l : Launch) (E : EP) (B0 : Nat) (b : Nat) (hb0 : B0 ≤ b) (N : Mem) (k0 : Nat) (k1 : Nat) (r : Int32) (hf : fX9_ranksBefore N k0 k1 = some r) : MU l E B0 yX9_ranksBefore cX9_ranksBefore 2 (some .boolean) 0 0 0 [.ref (b + k0), .ref (b + k1)] (Blk E b netSh 15 N) (some (.int r)) (Blk E b netSh 15 N) nv := by
  refine mu_of (by decide +kernel) (Nat.le_of_ble_eq_true rfl) ?_
  intro p e s m args below meth c hx hb hml hown hts hrt hlocks hE H hN hS ls hl
  have hown : s.vm.findClass RX9 = some m.cls := hown
  have hl : lv_has ls 2 [(0, .ref (b + k0)), (1, .ref (b + k1))] := hl
  have hw : ∀ w ∈ WA, w.before args s = true := fun w h => hts w (List.mem_cons_of_mem _ h)
  have hAB : ∀ q, nv q → B0 ≤ q := fun _ h => h.elim
  unfold fX9_ranksBefore at hf
  obtain ⟨g0, hf⟩ := gd_some hf
  obtain ⟨g1, hf⟩ := gd_some hf
  refine lv_aload_n hx hb dX9_ranksBefore_0 rfl (lv_at hl 0 rfl) ?_
  refine w_get (k := k0) (v := .int (N k0 8)) hx hb hw hown hE fl_X9_41 hN (stn_lt g0) (stn_sh g0) rfl rfl dX9_ranksBefore_1 ?_
  refine lv_aload_n hx hb dX9_ranksBefore_4 rfl (lv_at hl 1 rfl) ?_
  refine w_get (k := k1) (v := .int (N k1 8)) hx hb hw hown hE fl_X9_41 hN (stn_lt g1) (stn_sh g1) rfl rfl dX9_ranksBefore_5 ?_
  refine lv_icmp_eq (tgt := 28) hx hb dX9_ranksBefore_8 (by decide) (fun c1 => ?_) (fun c1 => ?_)
  · rw [if_pos c1] at hf
    refine lv_aload_n hx hb dX9_ranksBefore_28 rfl (lv_at hl 0 rfl) ?_
    refine w_get (k := k0) (v := .int (N k0 9)) hx hb hw hown hE fl_X9_44 hN (stn_lt g0) (stn_sh g0) rfl rfl dX9_ranksBefore_29 ?_
    refine lv_aload_n hx hb dX9_ranksBefore_32 rfl (lv_at hl 1 rfl) ?_
    refine w_get (k := k1) (v := .int (N k1 9)) hx hb hw hown hE fl_X9_44 hN (stn_lt g1) (stn_sh g1) rfl rfl dX9_ranksBefore_33 ?_
    refine lv_icmp_eq (tgt := 56) hx hb dX9_ranksBefore_36 (by decide) (fun c2 => ?_) (fun c2 => ?_)
    · rw [if_pos c2] at hf
      refine lv_aload_n hx hb dX9_ranksBefore_56 rfl (lv_at hl 0 rfl) ?_
      refine w_get (k := k0) (v := .int (N k0 0)) hx hb hw hown hE fl_X9_18 hN (stn_lt g0) (stn_sh g0) rfl rfl dX9_ranksBefore_57 ?_
      refine lv_aload_n hx hb dX9_ranksBefore_60 rfl (lv_at hl 1 rfl) ?_
      refine w_get (k := k1) (v := .int (N k1 0)) hx hb hw hown hE fl_X9_18 hN (stn_lt g1) (stn_sh g1) rfl rfl dX9_ranksBefore_61 ?_
      refine lv_icmp_eq (tgt := 84) hx hb dX9_ranksBefore_64 (by decide) (fun c3 => ?_) (fun c3 => ?_)
      · rw [if_pos c3] at hf
        refine lv_aload_n hx hb dX9_ranksBefore_84 rfl (lv_at hl 0 rfl) ?_
        refine w_get (k := k0) (v := .int (N k0 1)) hx hb hw hown hE fl_X9_22 hN (stn_lt g0) (stn_sh g0) rfl rfl dX9_ranksBefore_85 ?_
        refine lv_aload_n hx hb dX9_ranksBefore_88 rfl (lv_at hl 1 rfl) ?_
        refine w_get (k := k1) (v := .int (N k1 1)) hx hb hw hown hE fl_X9_22 hN (stn_lt g1) (stn_sh g1) rfl rfl dX9_ranksBefore_89 ?_
        refine lv_icmp_ge (tgt := 99) hx hb dX9_ranksBefore_92 (by decide) (fun c4 => ?_) (fun c4 => ?_)
        · rw [if_pos c4] at hf
          refine lv_iconst (v := 0) hx hb dX9_ranksBefore_99 (by decide) ?_
          have hre := Option.some.inj hf
          subst hre
          exact mu_z (v := 0) hx hb hrt rfl hlocks hN hS dX9_ranksBefore_100
        · rw [if_neg c4] at hf
          refine lv_iconst (v := 1) hx hb dX9_ranksBefore_95 (by decide) ?_
          refine lv_goto (tgt := 100) hx hb dX9_ranksBefore_96 (by decide) ?_
          have hre := Option.some.inj hf
          subst hre
          exact mu_z (v := 1) hx hb hrt rfl hlocks hN hS dX9_ranksBefore_100
      · rw [if_neg c3] at hf
        refine lv_aload_n hx hb dX9_ranksBefore_67 rfl (lv_at hl 0 rfl) ?_
        refine w_get (k := k0) (v := .int (N k0 0)) hx hb hw hown hE fl_X9_18 hN (stn_lt g0) (stn_sh g0) rfl rfl dX9_ranksBefore_68 ?_
        refine lv_aload_n hx hb dX9_ranksBefore_71 rfl (lv_at hl 1 rfl) ?_
        refine w_get (k := k1) (v := .int (N k1 0)) hx hb hw hown hE fl_X9_18 hN (stn_lt g1) (stn_sh g1) rfl rfl dX9_ranksBefore_72 ?_
        refine lv_icmp_ge (tgt := 82) hx hb dX9_ranksBefore_75 (by decide) (fun c5 => ?_) (fun c5 => ?_)
        · rw [if_pos c5] at hf
          refine lv_iconst (v := 0) hx hb dX9_ranksBefore_82 (by decide) ?_
          have hre := Option.some.inj hf
          subst hre
          exact mu_z (v := 0) hx hb hrt rfl hlocks hN hS dX9_ranksBefore_83
        · rw [if_neg c5] at hf
          refine lv_iconst (v := 1) hx hb dX9_ranksBefore_78 (by decide) ?_
          refine lv_goto (tgt := 83) hx hb dX9_ranksBefore_79 (by decide) ?_
          have hre := Option.some.inj hf
          subst hre
          exact mu_z (v := 1) hx hb hrt rfl hlocks hN hS dX9_ranksBefore_83
    · rw [if_neg c2] at hf
      refine lv_aload_n hx hb dX9_ranksBefore_39 rfl (lv_at hl 0 rfl) ?_
      refine w_get (k := k0) (v := .int (N k0 9)) hx hb hw hown hE fl_X9_44 hN (stn_lt g0) (stn_sh g0) rfl rfl dX9_ranksBefore_40 ?_
      refine lv_aload_n hx hb dX9_ranksBefore_43 rfl (lv_at hl 1 rfl) ?_
      refine w_get (k := k1) (v := .int (N k1 9)) hx hb hw hown hE fl_X9_44 hN (stn_lt g1) (stn_sh g1) rfl rfl dX9_ranksBefore_44 ?_
      refine lv_icmp_le (tgt := 54) hx hb dX9_ranksBefore_47 (by decide) (fun c6 => ?_) (fun c6 => ?_)
      · rw [if_pos c6] at hf
        refine lv_iconst (v := 0) hx hb dX9_ranksBefore_54 (by decide) ?_
        have hre := Option.some.inj hf
        subst hre
        exact mu_z (v := 0) hx hb hrt rfl hlocks hN hS dX9_ranksBefore_55
      · rw [if_neg c6] at hf
        refine lv_iconst (v := 1) hx hb dX9_ranksBefore_50 (by decide) ?_
        refine lv_goto (tgt := 55) hx hb dX9_ranksBefore_51 (by decide) ?_
        have hre := Option.some.inj hf
        subst hre
        exact mu_z (v := 1) hx hb hrt rfl hlocks hN hS dX9_ranksBefore_55
  · rw [if_neg c1] at hf
    refine lv_aload_n hx hb dX9_ranksBefore_11 rfl (lv_at hl 0 rfl) ?_
    refine w_get (k := k0) (v := .int (N k0 8)) hx hb hw hown hE fl_X9_41 hN (stn_lt g0) (stn_sh g0) rfl rfl dX9_ranksBefore_12 ?_
    refine lv_aload_n hx hb dX9_ranksBefore_15 rfl (lv_at hl 1 rfl) ?_
    refine w_get (k := k1) (v := .int (N k1 8)) hx hb hw hown hE fl_X9_41 hN (stn_lt g1) (stn_sh g1) rfl rfl dX9_ranksBefore_16 ?_
    refine lv_icmp_le (tgt := 26) hx hb dX9_ranksBefore_19 (by decide) (fun c7 => ?_) (fun c7 => ?_)
    · rw [if_pos c7] at hf
      refine lv_iconst (v := 0) hx hb dX9_ranksBefore_26 (by decide) ?_
      have hre := Option.some.inj hf
      subst hre
      exact mu_z (v := 0) hx hb hrt rfl hlocks hN hS dX9_ranksBefore_27
    · rw [if_neg c7] at hf
      refine lv_iconst (v := 1) hx hb dX9_ranksBefore_22 (by decide) ?_
      refine lv_goto (tgt := 27) hx hb dX9_ranksBefore_23 (by decide) ?_
      have hre := Option.some.inj hf
      subst hre
      exact mu_z (v := 1) hx hb hrt rfl hlocks hN hS dX9_ranksBefore_27
def fX10_add_s (a1 : Int32) (a2 : Int32) (a3 : Int32) (z : Int32 × Mem) : Option ((Int32 × Mem) ⊕ (Mem)) := (if (16 : Int32) ≤ z.1 then gd (inb ((up2 z.2 11 3 (15 : Int32)) 11 3) 16) (gd (inb ((up2 (up2 z.2 11 3 (15 : Int32)) 12 (((up2 z.2 11 3 (15 : Int32)) 11 3).toNatClampNeg) a1) 11 3) 16) (gd (inb ((up2 (up2 (up2 z.2 11 3 (15 : Int32)) 12 (((up2 z.2 11 3 (15 : Int32)) 11 3).toNatClampNeg) a1) 13 (((up2 (up2 z.2 11 3 (15 : Int32)) 12 (((up2 z.2 11 3 (15 : Int32)) 11 3).toNatClampNeg) a1) 11 3).toNatClampNeg) a2) 11 3) 16) (some (.inr (up2 (up2 (up2 (up2 (up2 z.2 11 3 (15 : Int32)) 12 (((up2 z.2 11 3 (15 : Int32)) 11 3).toNatClampNeg) a1) 13 (((up2 (up2 z.2 11 3 (15 : Int32)) 12 (((up2 z.2 11 3 (15 : Int32)) 11 3).toNatClampNeg) a1) 11 3).toNatClampNeg) a2) 14 (((up2 (up2 (up2 z.2 11 3 (15 : Int32)) 12 (((up2 z.2 11 3 (15 : Int32)) 11 3).toNatClampNeg) a1) 13 (((up2 (up2 z.2 11 3 (15 : Int32)) 12 (((up2 z.2 11 3 (15 : Int32)) 11 3).toNatClampNeg) a1) 11 3).toNatClampNeg) a2) 11 3).toNatClampNeg) a3) 11 3 (((up2 (up2 (up2 (up2 z.2 11 3 (15 : Int32)) 12 (((up2 z.2 11 3 (15 : Int32)) 11 3).toNatClampNeg) a1) 13 (((up2 (up2 z.2 11 3 (15 : Int32)) 12 (((up2 z.2 11 3 (15 : Int32)) 11 3).toNatClampNeg) a1) 11 3).toNatClampNeg) a2) 14 (((up2 (up2 (up2 z.2 11 3 (15 : Int32)) 12 (((up2 z.2 11 3 (15 : Int32)) 11 3).toNatClampNeg) a1) 13 (((up2 (up2 z.2 11 3 (15 : Int32)) 12 (((up2 z.2 11 3 (15 : Int32)) 11 3).toNatClampNeg) a1) 11 3).toNatClampNeg) a2) 11 3).toNatClampNeg) a3) 11 3) + 1)))))) else gd (inb z.1 16) (gd (inb (z.1 - 1) 16) (gd (inb z.1 16) (gd (inb (z.1 - 1) 16) (gd (inb z.1 16) (gd (inb (z.1 - 1) 16) (some (.inl ((z.1 + 1), (up2 (up2 (up2 z.2 12 ((z.1 - 1).toNatClampNeg) (z.2 12 z.1.toNatClampNeg)) 13 ((z.1 - 1).toNatClampNeg) ((up2 z.2 12 ((z.1 - 1).toNatClampNeg) (z.2 12 z.1.toNatClampNeg)) 13 z.1.toNatClampNeg)) 14 ((z.1 - 1).toNatClampNeg) ((up2 (up2 z.2 12 ((z.1 - 1).toNatClampNeg) (z.2 12 z.1.toNatClampNeg)) 13 ((z.1 - 1).toNatClampNeg) ((up2 z.2 12 ((z.1 - 1).toNatClampNeg) (z.2 12 z.1.toNatClampNeg)) 13 z.1.toNatClampNeg)) 14 z.1.toNatClampNeg)))))))))))
noncomputable def fX10_add (N : Mem) (a1 : Int32) (a2 : Int32) (a3 : Int32) : Option (Mem) := (if (N 11 3) < (16 : Int32) then gd (inb (N 11 3) 16) (gd (inb ((up2 N 12 ((N 11 3).toNatClampNeg) a1) 11 3) 16) (gd (inb ((up2 (up2 N 12 ((N 11 3).toNatClampNeg) a1) 13 (((up2 N 12 ((N 11 3).toNatClampNeg) a1) 11 3).toNatClampNeg) a2) 11 3) 16) (some (up2 (up2 (up2 (up2 N 12 ((N 11 3).toNatClampNeg) a1) 13 (((up2 N 12 ((N 11 3).toNatClampNeg) a1) 11 3).toNatClampNeg) a2) 14 (((up2 (up2 N 12 ((N 11 3).toNatClampNeg) a1) 13 (((up2 N 12 ((N 11 3).toNatClampNeg) a1) 11 3).toNatClampNeg) a2) 11 3).toNatClampNeg) a3) 11 3 (((up2 (up2 (up2 N 12 ((N 11 3).toNatClampNeg) a1) 13 (((up2 N 12 ((N 11 3).toNatClampNeg) a1) 11 3).toNatClampNeg) a2) 14 (((up2 (up2 N 12 ((N 11 3).toNatClampNeg) a1) 13 (((up2 N 12 ((N 11 3).toNatClampNeg) a1) 11 3).toNatClampNeg) a2) 11 3).toNatClampNeg) a3) 11 3) + 1))))) else lp (fX10_add_s a1 a2 a3) (1, N))
set_option maxHeartbeats 4000000 in
set_option maxRecDepth 100000 in
theorem mX10_add (l : Launch) (E : EP) (B0 : Nat) (b : Nat) (hb0 : B0 ≤ b) (N : Mem) (a1 : Int32) (a2 : Int32) (a3 : Int32) (r : Mem) (hf : fX10_add N a1 a2 a3 = some r) : MU l E B0 yX10_add cX10_add 5 none 0 0 0 [.ref (b + 11), .int a1, .int a2, .int a3] (Blk E b netSh 15 N) none (Blk E b netSh 15 r) (iv b 15) := by
  refine mu_of (by decide +kernel) (Nat.le_of_ble_eq_true rfl) ?_
  intro p e s m args below meth c hx hb hml hown hts hrt hlocks hE H hN hS ls hl
  have hown : s.vm.findClass RX10 = some m.cls := hown
  have hl : lv_has ls 5 [(0, .ref (b + 11)), (1, .int a1), (2, .int a2), (3, .int a3)] := hl
  have hw : ∀ w ∈ WA, w.before args s = true := fun w h => hts w (List.mem_cons_of_mem _ h)
  have hAB : ∀ q, (iv b 15) q → B0 ≤ q := (iv_ge (by omega))
  unfold fX10_add at hf
  have loop : ∀ (fu : Nat) (z : Int32 × Mem), lpI (fX10_add_s a1 a2 a3) fu z = some r → (∀ (H : Heap) (locs : List Loc) (ls : Array Slot), Blk E b netSh 15 z.2 H → va_S (iv b 15) s.heap H locs → lv_has ls 5 [(0, .ref (b + 11)), (1, .int a1), (2, .int a2), (3, .int a3), (4, .int z.1)] → W p l e (rmD 0 0 0) s m args below meth c H locs 0 0 (MQ below (QU none (Blk E b netSh 15 r) (iv b 15)) args s 0 0 (iv b 15)) (F0 m 12 ls [])) := by
    intro fu
    induction fu with
    | zero =>
      intro z hn
      exact nomatch hn
    | succ fu ih =>
      intro z hn
      obtain ⟨y, hf, hy⟩ := lpI_succ hn
      intro H locs ls hN hS hl
      unfold fX10_add_s at hf
      refine lv_iload hx hb dX10_add_12 (lv_at hl 4 rfl) ?_
      refine lv_bipush (v := 16) hx hb dX10_add_14 (by decide) ?_
      refine lv_icmp_ge (tgt := 73) hx hb dX10_add_16 (by decide) (fun c1 => ?_) (fun c1 => ?_)
      · rw [if_pos c1] at hf
        refine lv_aload_n hx hb dX10_add_73 rfl (lv_at hl 0 rfl) ?_
        refine lv_bipush (v := 15) hx hb dX10_add_74 (by decide) ?_
        refine w_put (k := 11) (v := .int 15) hx hb hw hown hE fl_X10_21 fw_X10_3 hN (by decide) rfl rfl (15 : Int32) rfl rfl rfl hS (iv_mem (by decide)) dX10_add_76 (fun H locs hN _ hu hS => ?_)
        refine lv_aload_n hx hb dX10_add_79 rfl (lv_at hl 0 rfl) ?_
        refine w_get (k := 11) (v := .ref (b + 12)) hx hb hw hown hE fl_X10_9 hN (by decide) rfl rfl rfl dX10_add_80 ?_
        refine lv_aload_n hx hb dX10_add_83 rfl (lv_at hl 0 rfl) ?_
        refine w_get (k := 11) (v := .int ((up2 z.2 11 3 (15 : Int32)) 11 3)) hx hb hw hown hE fl_X10_21 hN (by decide) rfl rfl rfl dX10_add_84 ?_
        refine lv_iload_n hx hb dX10_add_87 rfl (lv_at hl 1 rfl) ?_
        obtain ⟨h2, hf⟩ := gd_some hf
        refine w_iast (k := 12) (x9 := ((up2 z.2 11 3 (15 : Int32)) 11 3).toNatClampNeg) (x := a1) hx hb hE hN (by decide) rfl rfl h2 hS (iv_mem (by decide)) dX10_add_88 (fun H locs hN _ hu hS => ?_)
        refine lv_aload_n hx hb dX10_add_89 rfl (lv_at hl 0 rfl) ?_
        refine w_get (k := 11) (v := .ref (b + 13)) hx hb hw hown hE fl_X10_15 hN (by decide) rfl rfl rfl dX10_add_90 ?_
        refine lv_aload_n hx hb dX10_add_93 rfl (lv_at hl 0 rfl) ?_
        refine w_get (k := 11) (v := .int ((up2 (up2 z.2 11 3 (15 : Int32)) 12 (((up2 z.2 11 3 (15 : Int32)) 11 3).toNatClampNeg) a1) 11 3)) hx hb hw hown hE fl_X10_21 hN (by decide) rfl rfl rfl dX10_add_94 ?_
        refine lv_iload_n hx hb dX10_add_97 rfl (lv_at hl 2 rfl) ?_
        obtain ⟨h3, hf⟩ := gd_some hf
        refine w_iast (k := 13) (x9 := ((up2 (up2 z.2 11 3 (15 : Int32)) 12 (((up2 z.2 11 3 (15 : Int32)) 11 3).toNatClampNeg) a1) 11 3).toNatClampNeg) (x := a2) hx hb hE hN (by decide) rfl rfl h3 hS (iv_mem (by decide)) dX10_add_98 (fun H locs hN _ hu hS => ?_)
        refine lv_aload_n hx hb dX10_add_99 rfl (lv_at hl 0 rfl) ?_
        refine w_get (k := 11) (v := .ref (b + 14)) hx hb hw hown hE fl_X10_18 hN (by decide) rfl rfl rfl dX10_add_100 ?_
        refine lv_aload_n hx hb dX10_add_103 rfl (lv_at hl 0 rfl) ?_
        refine w_get (k := 11) (v := .int ((up2 (up2 (up2 z.2 11 3 (15 : Int32)) 12 (((up2 z.2 11 3 (15 : Int32)) 11 3).toNatClampNeg) a1) 13 (((up2 (up2 z.2 11 3 (15 : Int32)) 12 (((up2 z.2 11 3 (15 : Int32)) 11 3).toNatClampNeg) a1) 11 3).toNatClampNeg) a2) 11 3)) hx hb hw hown hE fl_X10_21 hN (by decide) rfl rfl rfl dX10_add_104 ?_
        refine lv_iload_n hx hb dX10_add_107 rfl (lv_at hl 3 rfl) ?_
        obtain ⟨h4, hf⟩ := gd_some hf
        refine w_iast (k := 14) (x9 := ((up2 (up2 (up2 z.2 11 3 (15 : Int32)) 12 (((up2 z.2 11 3 (15 : Int32)) 11 3).toNatClampNeg) a1) 13 (((up2 (up2 z.2 11 3 (15 : Int32)) 12 (((up2 z.2 11 3 (15 : Int32)) 11 3).toNatClampNeg) a1) 11 3).toNatClampNeg) a2) 11 3).toNatClampNeg) (x := a3) hx hb hE hN (by decide) rfl rfl h4 hS (iv_mem (by decide)) dX10_add_108 (fun H locs hN _ hu hS => ?_)
        refine lv_aload_n hx hb dX10_add_109 rfl (lv_at hl 0 rfl) ?_
        refine lv_dup hx hb dX10_add_110 rfl ?_
        refine w_get (k := 11) (v := .int ((up2 (up2 (up2 (up2 z.2 11 3 (15 : Int32)) 12 (((up2 z.2 11 3 (15 : Int32)) 11 3).toNatClampNeg) a1) 13 (((up2 (up2 z.2 11 3 (15 : Int32)) 12 (((up2 z.2 11 3 (15 : Int32)) 11 3).toNatClampNeg) a1) 11 3).toNatClampNeg) a2) 14 (((up2 (up2 (up2 z.2 11 3 (15 : Int32)) 12 (((up2 z.2 11 3 (15 : Int32)) 11 3).toNatClampNeg) a1) 13 (((up2 (up2 z.2 11 3 (15 : Int32)) 12 (((up2 z.2 11 3 (15 : Int32)) 11 3).toNatClampNeg) a1) 11 3).toNatClampNeg) a2) 11 3).toNatClampNeg) a3) 11 3)) hx hb hw hown hE fl_X10_21 hN (by decide) rfl rfl rfl dX10_add_111 ?_
        refine lv_iconst (v := 1) hx hb dX10_add_114 (by decide) ?_
        refine lv_iadd hx hb dX10_add_115 ?_
        refine w_put (k := 11) (v := .int (((up2 (up2 (up2 (up2 z.2 11 3 (15 : Int32)) 12 (((up2 z.2 11 3 (15 : Int32)) 11 3).toNatClampNeg) a1) 13 (((up2 (up2 z.2 11 3 (15 : Int32)) 12 (((up2 z.2 11 3 (15 : Int32)) 11 3).toNatClampNeg) a1) 11 3).toNatClampNeg) a2) 14 (((up2 (up2 (up2 z.2 11 3 (15 : Int32)) 12 (((up2 z.2 11 3 (15 : Int32)) 11 3).toNatClampNeg) a1) 13 (((up2 (up2 z.2 11 3 (15 : Int32)) 12 (((up2 z.2 11 3 (15 : Int32)) 11 3).toNatClampNeg) a1) 11 3).toNatClampNeg) a2) 11 3).toNatClampNeg) a3) 11 3) + 1)) hx hb hw hown hE fl_X10_21 fw_X10_3 hN (by decide) rfl rfl (((up2 (up2 (up2 (up2 z.2 11 3 (15 : Int32)) 12 (((up2 z.2 11 3 (15 : Int32)) 11 3).toNatClampNeg) a1) 13 (((up2 (up2 z.2 11 3 (15 : Int32)) 12 (((up2 z.2 11 3 (15 : Int32)) 11 3).toNatClampNeg) a1) 11 3).toNatClampNeg) a2) 14 (((up2 (up2 (up2 z.2 11 3 (15 : Int32)) 12 (((up2 z.2 11 3 (15 : Int32)) 11 3).toNatClampNeg) a1) 13 (((up2 (up2 z.2 11 3 (15 : Int32)) 12 (((up2 z.2 11 3 (15 : Int32)) 11 3).toNatClampNeg) a1) 11 3).toNatClampNeg) a2) 11 3).toNatClampNeg) a3) 11 3) + 1) rfl rfl rfl hS (iv_mem (by decide)) dX10_add_116 (fun H locs hN _ hu hS => ?_)
        have hre := lp_end hy (Option.some.inj hf).symm
        subst hre
        exact mu_v hx hb hrt hlocks hN hS dX10_add_119
      · rw [if_neg c1] at hf
        refine lv_aload_n hx hb dX10_add_19 rfl (lv_at hl 0 rfl) ?_
        refine w_get (k := 11) (v := .ref (b + 12)) hx hb hw hown hE fl_X10_9 hN (by decide) rfl rfl rfl dX10_add_20 ?_
        refine lv_iload hx hb dX10_add_23 (lv_at hl 4 rfl) ?_
        refine lv_iconst (v := 1) hx hb dX10_add_25 (by decide) ?_
        refine lv_isub hx hb dX10_add_26 ?_
        refine lv_aload_n hx hb dX10_add_27 rfl (lv_at hl 0 rfl) ?_
        refine w_get (k := 11) (v := .ref (b + 12)) hx hb hw hown hE fl_X10_9 hN (by decide) rfl rfl rfl dX10_add_28 ?_
        refine lv_iload hx hb dX10_add_31 (lv_at hl 4 rfl) ?_
        obtain ⟨h5, hf⟩ := gd_some hf
        refine w_iald (k := 12) (x9 := z.1.toNatClampNeg) hx hb hE hN (by decide) rfl rfl h5 dX10_add_33 ?_
        obtain ⟨h6, hf⟩ := gd_some hf
        refine w_iast (k := 12) (x9 := (z.1 - 1).toNatClampNeg) (x := (z.2 12 z.1.toNatClampNeg)) hx hb hE hN (by decide) rfl rfl h6 hS (iv_mem (by decide)) dX10_add_34 (fun H locs hN _ hu hS => ?_)
        refine lv_aload_n hx hb dX10_add_35 rfl (lv_at hl 0 rfl) ?_
        refine w_get (k := 11) (v := .ref (b + 13)) hx hb hw hown hE fl_X10_15 hN (by decide) rfl rfl rfl dX10_add_36 ?_
        refine lv_iload hx hb dX10_add_39 (lv_at hl 4 rfl) ?_
        refine lv_iconst (v := 1) hx hb dX10_add_41 (by decide) ?_
        refine lv_isub hx hb dX10_add_42 ?_
        refine lv_aload_n hx hb dX10_add_43 rfl (lv_at hl 0 rfl) ?_
        refine w_get (k := 11) (v := .ref (b + 13)) hx hb hw hown hE fl_X10_15 hN (by decide) rfl rfl rfl dX10_add_44 ?_
        refine lv_iload hx hb dX10_add_47 (lv_at hl 4 rfl) ?_
        obtain ⟨h7, hf⟩ := gd_some hf
        refine w_iald (k := 13) (x9 := z.1.toNatClampNeg) hx hb hE hN (by decide) rfl rfl h7 dX10_add_49 ?_
        obtain ⟨h8, hf⟩ := gd_some hf
        refine w_iast (k := 13) (x9 := (z.1 - 1).toNatClampNeg) (x := ((up2 z.2 12 ((z.1 - 1).toNatClampNeg) (z.2 12 z.1.toNatClampNeg)) 13 z.1.toNatClampNeg)) hx hb hE hN (by decide) rfl rfl h8 hS (iv_mem (by decide)) dX10_add_50 (fun H locs hN _ hu hS => ?_)
        refine lv_aload_n hx hb dX10_add_51 rfl (lv_at hl 0 rfl) ?_
        refine w_get (k := 11) (v := .ref (b + 14)) hx hb hw hown hE fl_X10_18 hN (by decide) rfl rfl rfl dX10_add_52 ?_
        refine lv_iload hx hb dX10_add_55 (lv_at hl 4 rfl) ?_
        refine lv_iconst (v := 1) hx hb dX10_add_57 (by decide) ?_
        refine lv_isub hx hb dX10_add_58 ?_
        refine lv_aload_n hx hb dX10_add_59 rfl (lv_at hl 0 rfl) ?_
        refine w_get (k := 11) (v := .ref (b + 14)) hx hb hw hown hE fl_X10_18 hN (by decide) rfl rfl rfl dX10_add_60 ?_
        refine lv_iload hx hb dX10_add_63 (lv_at hl 4 rfl) ?_
        obtain ⟨h9, hf⟩ := gd_some hf
        refine w_iald (k := 14) (x9 := z.1.toNatClampNeg) hx hb hE hN (by decide) rfl rfl h9 dX10_add_65 ?_
        obtain ⟨h10, hf⟩ := gd_some hf
        refine w_iast (k := 14) (x9 := (z.1 - 1).toNatClampNeg) (x := ((up2 (up2 z.2 12 ((z.1 - 1).toNatClampNeg) (z.2 12 z.1.toNatClampNeg)) 13 ((z.1 - 1).toNatClampNeg) ((up2 z.2 12 ((z.1 - 1).toNatClampNeg) (z.2 12 z.1.toNatClampNeg)) 13 z.1.toNatClampNeg)) 14 z.1.toNatClampNeg)) hx hb hE hN (by decide) rfl rfl h10 hS (iv_mem (by decide)) dX10_add_66 (fun H locs hN _ hu hS => ?_)
        refine lv_iinc (v := (z.1 + 1)) (lv' := [(4, .int (z.1 + 1)), (0, .ref (b + 11)), (1, .int a1), (2, .int a2), (3, .int a3)]) hx hb dX10_add_67 hl (k := 4) rfl rfl (by decide) rfl (fun ls hl => ?_)
        refine lv_goto (tgt := 12) hx hb dX10_add_70 (by decide) ?_
        exact ih ((z.1 + 1), (up2 (up2 (up2 z.2 12 ((z.1 - 1).toNatClampNeg) (z.2 12 z.1.toNatClampNeg)) 13 ((z.1 - 1).toNatClampNeg) ((up2 z.2 12 ((z.1 - 1).toNatClampNeg) (z.2 12 z.1.toNatClampNeg)) 13 z.1.toNatClampNeg)) 14 ((z.1 - 1).toNatClampNeg) ((up2 (up2 z.2 12 ((z.1 - 1).toNatClampNeg) (z.2 12 z.1.toNatClampNeg)) 13 ((z.1 - 1).toNatClampNeg) ((up2 z.2 12 ((z.1 - 1).toNatClampNeg) (z.2 12 z.1.toNatClampNeg)) 13 z.1.toNatClampNeg)) 14 z.1.toNatClampNeg))) (lp_back hy (Option.some.inj hf).symm) _ _ _ hN hS (lv_sub hl [1, 2, 3, 4, 0] rfl)
  refine lv_aload_n hx hb dX10_add_0 rfl (lv_at hl 0 rfl) ?_
  refine w_get (k := 11) (v := .int (N 11 3)) hx hb hw hown hE fl_X10_21 hN (by decide) rfl rfl rfl dX10_add_1 ?_
  refine lv_bipush (v := 16) hx hb dX10_add_4 (by decide) ?_
  refine lv_icmp_lt (tgt := 79) hx hb dX10_add_6 (by decide) (fun c11 => ?_) (fun c11 => ?_)
  · rw [if_pos c11] at hf
    refine lv_aload_n hx hb dX10_add_79 rfl (lv_at hl 0 rfl) ?_
    refine w_get (k := 11) (v := .ref (b + 12)) hx hb hw hown hE fl_X10_9 hN (by decide) rfl rfl rfl dX10_add_80 ?_
    refine lv_aload_n hx hb dX10_add_83 rfl (lv_at hl 0 rfl) ?_
    refine w_get (k := 11) (v := .int (N 11 3)) hx hb hw hown hE fl_X10_21 hN (by decide) rfl rfl rfl dX10_add_84 ?_
    refine lv_iload_n hx hb dX10_add_87 rfl (lv_at hl 1 rfl) ?_
    obtain ⟨h12, hf⟩ := gd_some hf
    refine w_iast (k := 12) (x9 := (N 11 3).toNatClampNeg) (x := a1) hx hb hE hN (by decide) rfl rfl h12 hS (iv_mem (by decide)) dX10_add_88 (fun H locs hN _ hu hS => ?_)
    refine lv_aload_n hx hb dX10_add_89 rfl (lv_at hl 0 rfl) ?_
    refine w_get (k := 11) (v := .ref (b + 13)) hx hb hw hown hE fl_X10_15 hN (by decide) rfl rfl rfl dX10_add_90 ?_
    refine lv_aload_n hx hb dX10_add_93 rfl (lv_at hl 0 rfl) ?_
    refine w_get (k := 11) (v := .int ((up2 N 12 ((N 11 3).toNatClampNeg) a1) 11 3)) hx hb hw hown hE fl_X10_21 hN (by decide) rfl rfl rfl dX10_add_94 ?_
    refine lv_iload_n hx hb dX10_add_97 rfl (lv_at hl 2 rfl) ?_
    obtain ⟨h13, hf⟩ := gd_some hf
    refine w_iast (k := 13) (x9 := ((up2 N 12 ((N 11 3).toNatClampNeg) a1) 11 3).toNatClampNeg) (x := a2) hx hb hE hN (by decide) rfl rfl h13 hS (iv_mem (by decide)) dX10_add_98 (fun H locs hN _ hu hS => ?_)
    refine lv_aload_n hx hb dX10_add_99 rfl (lv_at hl 0 rfl) ?_
    refine w_get (k := 11) (v := .ref (b + 14)) hx hb hw hown hE fl_X10_18 hN (by decide) rfl rfl rfl dX10_add_100 ?_
    refine lv_aload_n hx hb dX10_add_103 rfl (lv_at hl 0 rfl) ?_
    refine w_get (k := 11) (v := .int ((up2 (up2 N 12 ((N 11 3).toNatClampNeg) a1) 13 (((up2 N 12 ((N 11 3).toNatClampNeg) a1) 11 3).toNatClampNeg) a2) 11 3)) hx hb hw hown hE fl_X10_21 hN (by decide) rfl rfl rfl dX10_add_104 ?_
    refine lv_iload_n hx hb dX10_add_107 rfl (lv_at hl 3 rfl) ?_
    obtain ⟨h14, hf⟩ := gd_some hf
    refine w_iast (k := 14) (x9 := ((up2 (up2 N 12 ((N 11 3).toNatClampNeg) a1) 13 (((up2 N 12 ((N 11 3).toNatClampNeg) a1) 11 3).toNatClampNeg) a2) 11 3).toNatClampNeg) (x := a3) hx hb hE hN (by decide) rfl rfl h14 hS (iv_mem (by decide)) dX10_add_108 (fun H locs hN _ hu hS => ?_)
    refine lv_aload_n hx hb dX10_add_109 rfl (lv_at hl 0 rfl) ?_
    refine lv_dup hx hb dX10_add_110 rfl ?_
    refine w_get (k := 11) (v := .int ((up2 (up2 (up2 N 12 ((N 11 3).toNatClampNeg) a1) 13 (((up2 N 12 ((N 11 3).toNatClampNeg) a1) 11 3).toNatClampNeg) a2) 14 (((up2 (up2 N 12 ((N 11 3).toNatClampNeg) a1) 13 (((up2 N 12 ((N 11 3).toNatClampNeg) a1) 11 3).toNatClampNeg) a2) 11 3).toNatClampNeg) a3) 11 3)) hx hb hw hown hE fl_X10_21 hN (by decide) rfl rfl rfl dX10_add_111 ?_
    refine lv_iconst (v := 1) hx hb dX10_add_114 (by decide) ?_
    refine lv_iadd hx hb dX10_add_115 ?_
    refine w_put (k := 11) (v := .int (((up2 (up2 (up2 N 12 ((N 11 3).toNatClampNeg) a1) 13 (((up2 N 12 ((N 11 3).toNatClampNeg) a1) 11 3).toNatClampNeg) a2) 14 (((up2 (up2 N 12 ((N 11 3).toNatClampNeg) a1) 13 (((up2 N 12 ((N 11 3).toNatClampNeg) a1) 11 3).toNatClampNeg) a2) 11 3).toNatClampNeg) a3) 11 3) + 1)) hx hb hw hown hE fl_X10_21 fw_X10_3 hN (by decide) rfl rfl (((up2 (up2 (up2 N 12 ((N 11 3).toNatClampNeg) a1) 13 (((up2 N 12 ((N 11 3).toNatClampNeg) a1) 11 3).toNatClampNeg) a2) 14 (((up2 (up2 N 12 ((N 11 3).toNatClampNeg) a1) 13 (((up2 N 12 ((N 11 3).toNatClampNeg) a1) 11 3).toNatClampNeg) a2) 11 3).toNatClampNeg) a3) 11 3) + 1) rfl rfl rfl hS (iv_mem (by decide)) dX10_add_116 (fun H locs hN _ hu hS => ?_)
    have hre := Option.some.inj hf
    subst hre
    exact mu_v hx hb hrt hlocks hN hS dX10_add_119
  · rw [if_neg c11] at hf
    refine lv_iconst (v := 1) hx hb dX10_add_9 (by decide) ?_
    refine lv_istore (lv' := [(4, .int 1), (0, .ref (b + 11)), (1, .int a1), (2, .int a2), (3, .int a3)]) hx hb dX10_add_10 hl (by decide) rfl (fun ls hl => ?_)
    obtain ⟨fu, hfu⟩ := lp_some hf
    exact (loop fu (1, N) hfu) _ _ _ hN hS (lv_sub hl [1, 2, 3, 4, 0] rfl)
def fX6_has (N : Mem) (a1 : Int32) : Option (Int32) := (if a1 < 0 then some 0 else (if (N 0 1) ≤ a1 then some 0 else some 1))
set_option maxHeartbeats 4000000 in
set_option maxRecDepth 100000 in
theorem mX6_has (l : Launch) (E : EP) (B0 : Nat) (b : Nat) (hb0 : B0 ≤ b) (N : Mem) (a1 : Int32) (r : Int32) (hf : fX6_has N a1 = some r) : MU l E B0 yX6_has cX6_has 2 (some .boolean) 0 0 0 [.ref (b + 0), .int a1] (Blk E b netSh 15 N) (some (.int r)) (Blk E b netSh 15 N) nv := by
  refine mu_of (by decide +kernel) (Nat.le_of_ble_eq_true rfl) ?_
  intro p e s m args below meth c hx hb hml hown hts hrt hlocks hE H hN hS ls hl
  have hown : s.vm.findClass RX6 = some m.cls := hown
  have hl : lv_has ls 2 [(0, .ref (b + 0)), (1, .int a1)] := hl
  have hw : ∀ w ∈ WA, w.before args s = true := fun w h => hts w (List.mem_cons_of_mem _ h)
  have hAB : ∀ q, nv q → B0 ≤ q := fun _ h => h.elim
  unfold fX6_has at hf
  refine lv_iload_n hx hb dX6_has_0 rfl (lv_at hl 1 rfl) ?_
  refine lv_if_lt (tgt := 16) hx hb dX6_has_1 (by decide) (fun c1 => ?_) (fun c1 => ?_)
  · rw [if_pos c1] at hf
    refine lv_iconst (v := 0) hx hb dX6_has_16 (by decide) ?_
    have hre := Option.some.inj hf
    subst hre
    exact mu_z (v := 0) hx hb hrt rfl hlocks hN hS dX6_has_17
  · rw [if_neg c1] at hf
    refine lv_iload_n hx hb dX6_has_4 rfl (lv_at hl 1 rfl) ?_
    refine lv_aload_n hx hb dX6_has_5 rfl (lv_at hl 0 rfl) ?_
    refine w_get (k := 0) (v := .int (N 0 1)) hx hb hw hown hE fl_X6_18 hN (by decide) rfl rfl rfl dX6_has_6 ?_
    refine lv_icmp_ge (tgt := 16) hx hb dX6_has_9 (by decide) (fun c2 => ?_) (fun c2 => ?_)
    · rw [if_pos c2] at hf
      refine lv_iconst (v := 0) hx hb dX6_has_16 (by decide) ?_
      have hre := Option.some.inj hf
      subst hre
      exact mu_z (v := 0) hx hb hrt rfl hlocks hN hS dX6_has_17
    · rw [if_neg c2] at hf
      refine lv_iconst (v := 1) hx hb dX6_has_12 (by decide) ?_
      refine lv_goto (tgt := 17) hx hb dX6_has_13 (by decide) ?_
      have hre := Option.some.inj hf
      subst hre
      exact mu_z (v := 1) hx hb hrt rfl hlocks hN hS dX6_has_17
def fX6_speakerOn_s (N : Mem) (a1 : Int32) (z : Int32) : Option ((Int32) ⊕ (Int32)) := (if (N 0 1) ≤ z then some (.inr (-1)) else gd (inb z 8) ((if (N (2 + 1 * z.toNatClampNeg) 5) = a1 then gd (inb z 8) (gd (inb (N (2 + 1 * z.toNatClampNeg) 6) 3) ((if (N (2 + 1 * z.toNatClampNeg) 6) = (1 : Int32) then some (.inr z) else some (.inl (z + 1))))) else some (.inl (z + 1)))))
noncomputable def fX6_speakerOn (N : Mem) (a1 : Int32) : Option (Int32) := lp (fX6_speakerOn_s N a1) 0
set_option maxHeartbeats 4000000 in
set_option maxRecDepth 100000 in
theorem mX6_speakerOn (l : Launch) (E : EP) (B0 : Nat) (b : Nat) (hb0 : B0 ≤ b) (N : Mem) (a1 : Int32) (r : Int32) (hf : fX6_speakerOn N a1 = some r) : MU l E B0 yX6_speakerOn cX6_speakerOn 3 (some .int) 0 0 0 [.ref (b + 0), .int a1] (Blk E b netSh 15 N) (some (.int r)) (Blk E b netSh 15 N) nv := by
  refine mu_of (by decide +kernel) (Nat.le_of_ble_eq_true rfl) ?_
  intro p e s m args below meth c hx hb hml hown hts hrt hlocks hE H hN hS ls hl
  have hown : s.vm.findClass RX6 = some m.cls := hown
  have hl : lv_has ls 3 [(0, .ref (b + 0)), (1, .int a1)] := hl
  have hw : ∀ w ∈ WA, w.before args s = true := fun w h => hts w (List.mem_cons_of_mem _ h)
  have hAB : ∀ q, nv q → B0 ≤ q := fun _ h => h.elim
  unfold fX6_speakerOn at hf
  have loop : ∀ (fu : Nat) (z : Int32), lpI (fX6_speakerOn_s N a1) fu z = some r → (∀ (H : Heap) (locs : List Loc) (ls : Array Slot), Blk E b netSh 15 N H → va_S nv s.heap H locs → lv_has ls 3 [(0, .ref (b + 0)), (1, .int a1), (2, .int z)] → W p l e (rmD 0 0 0) s m args below meth c H locs 0 0 (MQ below (QU (some (.int r)) (Blk E b netSh 15 N) nv) args s 0 0 nv) (F0 m 2 ls [])) := by
    intro fu
    induction fu with
    | zero =>
      intro z hn
      exact nomatch hn
    | succ fu ih =>
      intro z hn
      obtain ⟨y, hf, hy⟩ := lpI_succ hn
      intro H locs ls hN hS hl
      unfold fX6_speakerOn_s at hf
      refine lv_iload_n hx hb dX6_speakerOn_2 rfl (lv_at hl 2 rfl) ?_
      refine lv_aload_n hx hb dX6_speakerOn_3 rfl (lv_at hl 0 rfl) ?_
      refine w_get (k := 0) (v := .int (N 0 1)) hx hb hw hown hE fl_X6_18 hN (by decide) rfl rfl rfl dX6_speakerOn_4 ?_
      refine lv_icmp_ge (tgt := 46) hx hb dX6_speakerOn_7 (by decide) (fun c1 => ?_) (fun c1 => ?_)
      · rw [if_pos c1] at hf
        refine lv_iconst (v := -1) hx hb dX6_speakerOn_46 (by decide) ?_
        have hre := lp_end hy (Option.some.inj hf).symm
        subst hre
        exact mu_i (v := -1) hx hb hrt hlocks hN hS dX6_speakerOn_47
      · rw [if_neg c1] at hf
        refine lv_aload_n hx hb dX6_speakerOn_10 rfl (lv_at hl 0 rfl) ?_
        refine w_get (k := 0) (v := .ref (b + 1)) hx hb hw hown hE fl_X6_11 hN (by decide) rfl rfl rfl dX6_speakerOn_11 ?_
        refine lv_iload_n hx hb dX6_speakerOn_14 rfl (lv_at hl 2 rfl) ?_
        obtain ⟨h2, hf⟩ := gd_some hf
        refine w_aald (k := 1) (j := 0) (x9 := z.toNatClampNeg) hx hb hE hN (by decide) rfl rfl rfl h2 dX6_speakerOn_15 ?_
        refine w_get (k := (2 + 1 * z.toNatClampNeg)) (v := .int (N (2 + 1 * z.toNatClampNeg) 5)) hx hb hw hown hE fl_X6_118 hN (stn_lt (stn_ld h2)) (stn_sh (stn_ld h2)) rfl rfl dX6_speakerOn_16 ?_
        refine lv_iload_n hx hb dX6_speakerOn_19 rfl (lv_at hl 1 rfl) ?_
        refine lv_icmp_ne (tgt := 40) hx hb dX6_speakerOn_20 (by decide) (fun c3 => ?_) (fun c3 => ?_)
        · rw [if_neg c3] at hf
          refine lv_iinc (v := (z + 1)) (lv' := [(2, .int (z + 1)), (0, .ref (b + 0)), (1, .int a1)]) hx hb dX6_speakerOn_40 hl (k := 2) rfl rfl (by decide) rfl (fun ls hl => ?_)
          refine lv_goto (tgt := 2) hx hb dX6_speakerOn_43 (by decide) ?_
          exact ih (z + 1) (lp_back hy (Option.some.inj hf).symm) _ _ _ hN hS (lv_sub hl [1, 2, 0] rfl)
        · rw [if_pos c3] at hf
          refine lv_aload_n hx hb dX6_speakerOn_23 rfl (lv_at hl 0 rfl) ?_
          refine w_get (k := 0) (v := .ref (b + 1)) hx hb hw hown hE fl_X6_11 hN (by decide) rfl rfl rfl dX6_speakerOn_24 ?_
          refine lv_iload_n hx hb dX6_speakerOn_27 rfl (lv_at hl 2 rfl) ?_
          obtain ⟨h4, hf⟩ := gd_some hf
          refine w_aald (k := 1) (j := 0) (x9 := z.toNatClampNeg) hx hb hE hN (by decide) rfl rfl rfl h4 dX6_speakerOn_28 ?_
          refine w_get (k := (2 + 1 * z.toNatClampNeg)) (v := .ref (E.2.2 0 (N (2 + 1 * z.toNatClampNeg) 6).toNatClampNeg)) hx hb hw hown hE fl_X6_99 hN (stn_lt (stn_ld h4)) (stn_sh (stn_ld h4)) rfl rfl dX6_speakerOn_29 ?_
          refine w_gs (i := 1) (z := 1) hx hb hw hown (EV.en0 hE) (by decide) hS hAB gs_X6_148 (by decide) dX6_speakerOn_32 ?_
          obtain ⟨h5, hf⟩ := gd_some hf
          refine w_acmpE_ne (tgt := 40) hx hb (EV.en0 hE) h5 (by decide) dX6_speakerOn_35 (by decide) (fun c6 => ?_) (fun c6 => ?_)
          · rw [if_neg c6] at hf
            refine lv_iinc (v := (z + 1)) (lv' := [(2, .int (z + 1)), (0, .ref (b + 0)), (1, .int a1)]) hx hb dX6_speakerOn_40 hl (k := 2) rfl rfl (by decide) rfl (fun ls hl => ?_)
            refine lv_goto (tgt := 2) hx hb dX6_speakerOn_43 (by decide) ?_
            exact ih (z + 1) (lp_back hy (Option.some.inj hf).symm) _ _ _ hN hS (lv_sub hl [1, 2, 0] rfl)
          · rw [if_pos c6] at hf
            refine lv_iload_n hx hb dX6_speakerOn_38 rfl (lv_at hl 2 rfl) ?_
            have hre := lp_end hy (Option.some.inj hf).symm
            subst hre
            exact mu_i (v := z) hx hb hrt hlocks hN hS dX6_speakerOn_39
  refine lv_iconst (v := 0) hx hb dX6_speakerOn_0 (by decide) ?_
  refine lv_istore_n (lv' := [(2, .int 0), (0, .ref (b + 0)), (1, .int a1)]) hx hb dX6_speakerOn_1 rfl hl (by decide) rfl (fun ls hl => ?_)
  obtain ⟨fu, hfu⟩ := lp_some hf
  exact (loop fu 0 hfu) _ _ _ hN hS (lv_sub hl [1, 2, 0] rfl)
def fX6_waitingOn_s (N : Mem) (a1 : Int32) (z : Int32 × Int32) : Option ((Int32 × Int32) ⊕ (Int32)) := (if (N 0 3) ≤ z.2 then some (.inr z.1) else gd (inb z.2 8) (gd (inb (N 10 z.2.toNatClampNeg) 8) ((if (N (2 + 1 * (N 10 z.2.toNatClampNeg).toNatClampNeg) 5) = a1 then some (.inl ((z.1 + 1), (z.2 + 1))) else some (.inl (z.1, (z.2 + 1)))))))
noncomputable def fX6_waitingOn (N : Mem) (a1 : Int32) : Option (Int32) := lp (fX6_waitingOn_s N a1) (0, 0)
set_option maxHeartbeats 4000000 in
set_option maxRecDepth 100000 in
theorem mX6_waitingOn (l : Launch) (E : EP) (B0 : Nat) (b : Nat) (hb0 : B0 ≤ b) (N : Mem) (a1 : Int32) (r : Int32) (hf : fX6_waitingOn N a1 = some r) : MU l E B0 yX6_waitingOn cX6_waitingOn 4 (some .int) 0 0 0 [.ref (b + 0), .int a1] (Blk E b netSh 15 N) (some (.int r)) (Blk E b netSh 15 N) nv := by
  refine mu_of (by decide +kernel) (Nat.le_of_ble_eq_true rfl) ?_
  intro p e s m args below meth c hx hb hml hown hts hrt hlocks hE H hN hS ls hl
  have hown : s.vm.findClass RX6 = some m.cls := hown
  have hl : lv_has ls 4 [(0, .ref (b + 0)), (1, .int a1)] := hl
  have hw : ∀ w ∈ WA, w.before args s = true := fun w h => hts w (List.mem_cons_of_mem _ h)
  have hAB : ∀ q, nv q → B0 ≤ q := fun _ h => h.elim
  unfold fX6_waitingOn at hf
  have loop : ∀ (fu : Nat) (z : Int32 × Int32), lpI (fX6_waitingOn_s N a1) fu z = some r → (∀ (H : Heap) (locs : List Loc) (ls : Array Slot), Blk E b netSh 15 N H → va_S nv s.heap H locs → lv_has ls 4 [(0, .ref (b + 0)), (1, .int a1), (2, .int z.1), (3, .int z.2)] → W p l e (rmD 0 0 0) s m args below meth c H locs 0 0 (MQ below (QU (some (.int r)) (Blk E b netSh 15 N) nv) args s 0 0 nv) (F0 m 4 ls [])) := by
    intro fu
    induction fu with
    | zero =>
      intro z hn
      exact nomatch hn
    | succ fu ih =>
      intro z hn
      obtain ⟨y, hf, hy⟩ := lpI_succ hn
      intro H locs ls hN hS hl
      unfold fX6_waitingOn_s at hf
      refine lv_iload_n hx hb dX6_waitingOn_4 rfl (lv_at hl 3 rfl) ?_
      refine lv_aload_n hx hb dX6_waitingOn_5 rfl (lv_at hl 0 rfl) ?_
      refine w_get (k := 0) (v := .int (N 0 3)) hx hb hw hown hE fl_X6_26 hN (by decide) rfl rfl rfl dX6_waitingOn_6 ?_
      refine lv_icmp_ge (tgt := 39) hx hb dX6_waitingOn_9 (by decide) (fun c1 => ?_) (fun c1 => ?_)
      · rw [if_pos c1] at hf
        refine lv_iload_n hx hb dX6_waitingOn_39 rfl (lv_at hl 2 rfl) ?_
        have hre := lp_end hy (Option.some.inj hf).symm
        subst hre
        exact mu_i (v := z.1) hx hb hrt hlocks hN hS dX6_waitingOn_40
      · rw [if_neg c1] at hf
        refine lv_aload_n hx hb dX6_waitingOn_12 rfl (lv_at hl 0 rfl) ?_
        refine w_get (k := 0) (v := .ref (b + 1)) hx hb hw hown hE fl_X6_11 hN (by decide) rfl rfl rfl dX6_waitingOn_13 ?_
        refine lv_aload_n hx hb dX6_waitingOn_16 rfl (lv_at hl 0 rfl) ?_
        refine w_get (k := 0) (v := .ref (b + 10)) hx hb hw hown hE fl_X6_22 hN (by decide) rfl rfl rfl dX6_waitingOn_17 ?_
        refine lv_iload_n hx hb dX6_waitingOn_20 rfl (lv_at hl 3 rfl) ?_
        obtain ⟨h2, hf⟩ := gd_some hf
        refine w_iald (k := 10) (x9 := z.2.toNatClampNeg) hx hb hE hN (by decide) rfl rfl h2 dX6_waitingOn_21 ?_
        obtain ⟨h3, hf⟩ := gd_some hf
        refine w_aald (k := 1) (j := 0) (x9 := (N 10 z.2.toNatClampNeg).toNatClampNeg) hx hb hE hN (by decide) rfl rfl rfl h3 dX6_waitingOn_22 ?_
        refine w_get (k := (2 + 1 * (N 10 z.2.toNatClampNeg).toNatClampNeg)) (v := .int (N (2 + 1 * (N 10 z.2.toNatClampNeg).toNatClampNeg) 5)) hx hb hw hown hE fl_X6_118 hN (stn_lt (stn_ld h3)) (stn_sh (stn_ld h3)) rfl rfl dX6_waitingOn_23 ?_
        refine lv_iload_n hx hb dX6_waitingOn_26 rfl (lv_at hl 1 rfl) ?_
        refine lv_icmp_ne (tgt := 33) hx hb dX6_waitingOn_27 (by decide) (fun c4 => ?_) (fun c4 => ?_)
        · rw [if_neg c4] at hf
          refine lv_iinc (v := (z.2 + 1)) (lv' := [(3, .int (z.2 + 1)), (0, .ref (b + 0)), (1, .int a1), (2, .int z.1)]) hx hb dX6_waitingOn_33 hl (k := 3) rfl rfl (by decide) rfl (fun ls hl => ?_)
          refine lv_goto (tgt := 4) hx hb dX6_waitingOn_36 (by decide) ?_
          exact ih (z.1, (z.2 + 1)) (lp_back hy (Option.some.inj hf).symm) _ _ _ hN hS (lv_sub hl [1, 2, 3, 0] rfl)
        · rw [if_pos c4] at hf
          refine lv_iinc (v := (z.1 + 1)) (lv' := [(2, .int (z.1 + 1)), (0, .ref (b + 0)), (1, .int a1), (3, .int z.2)]) hx hb dX6_waitingOn_30 hl (k := 2) rfl rfl (by decide) rfl (fun ls hl => ?_)
          refine lv_iinc (v := (z.2 + 1)) (lv' := [(3, .int (z.2 + 1)), (2, .int (z.1 + 1)), (0, .ref (b + 0)), (1, .int a1)]) hx hb dX6_waitingOn_33 hl (k := 3) rfl rfl (by decide) rfl (fun ls hl => ?_)
          refine lv_goto (tgt := 4) hx hb dX6_waitingOn_36 (by decide) ?_
          exact ih ((z.1 + 1), (z.2 + 1)) (lp_back hy (Option.some.inj hf).symm) _ _ _ hN hS (lv_sub hl [2, 3, 1, 0] rfl)
  refine lv_iconst (v := 0) hx hb dX6_waitingOn_0 (by decide) ?_
  refine lv_istore_n (lv' := [(2, .int 0), (0, .ref (b + 0)), (1, .int a1)]) hx hb dX6_waitingOn_1 rfl hl (by decide) rfl (fun ls hl => ?_)
  refine lv_iconst (v := 0) hx hb dX6_waitingOn_2 (by decide) ?_
  refine lv_istore_n (lv' := [(3, .int 0), (2, .int 0), (0, .ref (b + 0)), (1, .int a1)]) hx hb dX6_waitingOn_3 rfl hl (by decide) rfl (fun ls hl => ?_)
  obtain ⟨fu, hfu⟩ := lp_some hf
  exact (loop fu (0, 0) hfu) _ _ _ hN hS (lv_sub hl [2, 3, 1, 0] rfl)
def fX6_stationInLine_s (N : Mem) (a1 : Int32) (a2 : Int32) (z : Int32 × Int32) : Option ((Int32 × Int32) ⊕ (Int32)) := (if (N 0 3) ≤ z.2 then some (.inr (-1)) else gd (inb z.2 8) (gd (inb (N 10 z.2.toNatClampNeg) 8) ((if (N (2 + 1 * (N 10 z.2.toNatClampNeg).toNatClampNeg) 5) = a1 then (if (z.1 + 1) = a2 then gd (inb z.2 8) (some (.inr (N 10 z.2.toNatClampNeg))) else some (.inl ((z.1 + 1), (z.2 + 1)))) else some (.inl (z.1, (z.2 + 1)))))))
noncomputable def fX6_stationInLine (N : Mem) (a1 : Int32) (a2 : Int32) : Option (Int32) := lp (fX6_stationInLine_s N a1 a2) (0, 0)
set_option maxHeartbeats 4000000 in
set_option maxRecDepth 100000 in
theorem mX6_stationInLine (l : Launch) (E : EP) (B0 : Nat) (b : Nat) (hb0 : B0 ≤ b) (N : Mem) (a1 : Int32) (a2 : Int32) (r : Int32) (hf : fX6_stationInLine N a1 a2 = some r) : MU l E B0 yX6_stationInLine cX6_stationInLine 5 (some .int) 0 0 0 [.ref (b + 0), .int a1, .int a2] (Blk E b netSh 15 N) (some (.int r)) (Blk E b netSh 15 N) nv := by
  refine mu_of (by decide +kernel) (Nat.le_of_ble_eq_true rfl) ?_
  intro p e s m args below meth c hx hb hml hown hts hrt hlocks hE H hN hS ls hl
  have hown : s.vm.findClass RX6 = some m.cls := hown
  have hl : lv_has ls 5 [(0, .ref (b + 0)), (1, .int a1), (2, .int a2)] := hl
  have hw : ∀ w ∈ WA, w.before args s = true := fun w h => hts w (List.mem_cons_of_mem _ h)
  have hAB : ∀ q, nv q → B0 ≤ q := fun _ h => h.elim
  unfold fX6_stationInLine at hf
  have loop : ∀ (fu : Nat) (z : Int32 × Int32), lpI (fX6_stationInLine_s N a1 a2) fu z = some r → (∀ (H : Heap) (locs : List Loc) (ls : Array Slot), Blk E b netSh 15 N H → va_S nv s.heap H locs → lv_has ls 5 [(0, .ref (b + 0)), (1, .int a1), (2, .int a2), (3, .int z.1), (4, .int z.2)] → W p l e (rmD 0 0 0) s m args below meth c H locs 0 0 (MQ below (QU (some (.int r)) (Blk E b netSh 15 N) nv) args s 0 0 nv) (F0 m 5 ls [])) := by
    intro fu
    induction fu with
    | zero =>
      intro z hn
      exact nomatch hn
    | succ fu ih =>
      intro z hn
      obtain ⟨y, hf, hy⟩ := lpI_succ hn
      intro H locs ls hN hS hl
      unfold fX6_stationInLine_s at hf
      refine lv_iload hx hb dX6_stationInLine_5 (lv_at hl 4 rfl) ?_
      refine lv_aload_n hx hb dX6_stationInLine_7 rfl (lv_at hl 0 rfl) ?_
      refine w_get (k := 0) (v := .int (N 0 3)) hx hb hw hown hE fl_X6_26 hN (by decide) rfl rfl rfl dX6_stationInLine_8 ?_
      refine lv_icmp_ge (tgt := 55) hx hb dX6_stationInLine_11 (by decide) (fun c1 => ?_) (fun c1 => ?_)
      · rw [if_pos c1] at hf
        refine lv_iconst (v := -1) hx hb dX6_stationInLine_55 (by decide) ?_
        have hre := lp_end hy (Option.some.inj hf).symm
        subst hre
        exact mu_i (v := -1) hx hb hrt hlocks hN hS dX6_stationInLine_56
      · rw [if_neg c1] at hf
        refine lv_aload_n hx hb dX6_stationInLine_14 rfl (lv_at hl 0 rfl) ?_
        refine w_get (k := 0) (v := .ref (b + 1)) hx hb hw hown hE fl_X6_11 hN (by decide) rfl rfl rfl dX6_stationInLine_15 ?_
        refine lv_aload_n hx hb dX6_stationInLine_18 rfl (lv_at hl 0 rfl) ?_
        refine w_get (k := 0) (v := .ref (b + 10)) hx hb hw hown hE fl_X6_22 hN (by decide) rfl rfl rfl dX6_stationInLine_19 ?_
        refine lv_iload hx hb dX6_stationInLine_22 (lv_at hl 4 rfl) ?_
        obtain ⟨h2, hf⟩ := gd_some hf
        refine w_iald (k := 10) (x9 := z.2.toNatClampNeg) hx hb hE hN (by decide) rfl rfl h2 dX6_stationInLine_24 ?_
        obtain ⟨h3, hf⟩ := gd_some hf
        refine w_aald (k := 1) (j := 0) (x9 := (N 10 z.2.toNatClampNeg).toNatClampNeg) hx hb hE hN (by decide) rfl rfl rfl h3 dX6_stationInLine_25 ?_
        refine w_get (k := (2 + 1 * (N 10 z.2.toNatClampNeg).toNatClampNeg)) (v := .int (N (2 + 1 * (N 10 z.2.toNatClampNeg).toNatClampNeg) 5)) hx hb hw hown hE fl_X6_118 hN (stn_lt (stn_ld h3)) (stn_sh (stn_ld h3)) rfl rfl dX6_stationInLine_26 ?_
        refine lv_iload_n hx hb dX6_stationInLine_29 rfl (lv_at hl 1 rfl) ?_
        refine lv_icmp_ne (tgt := 49) hx hb dX6_stationInLine_30 (by decide) (fun c4 => ?_) (fun c4 => ?_)
        · rw [if_neg c4] at hf
          refine lv_iinc (v := (z.2 + 1)) (lv' := [(4, .int (z.2 + 1)), (0, .ref (b + 0)), (1, .int a1), (2, .int a2), (3, .int z.1)]) hx hb dX6_stationInLine_49 hl (k := 4) rfl rfl (by decide) rfl (fun ls hl => ?_)
          refine lv_goto (tgt := 5) hx hb dX6_stationInLine_52 (by decide) ?_
          exact ih (z.1, (z.2 + 1)) (lp_back hy (Option.some.inj hf).symm) _ _ _ hN hS (lv_sub hl [1, 2, 3, 4, 0] rfl)
        · rw [if_pos c4] at hf
          refine lv_iinc (v := (z.1 + 1)) (lv' := [(3, .int (z.1 + 1)), (0, .ref (b + 0)), (1, .int a1), (2, .int a2), (4, .int z.2)]) hx hb dX6_stationInLine_33 hl (k := 3) rfl rfl (by decide) rfl (fun ls hl => ?_)
          refine lv_iload_n hx hb dX6_stationInLine_36 rfl (lv_at hl 0 rfl) ?_
          refine lv_iload_n hx hb dX6_stationInLine_37 rfl (lv_at hl 3 rfl) ?_
          refine lv_icmp_ne (tgt := 49) hx hb dX6_stationInLine_38 (by decide) (fun c5 => ?_) (fun c5 => ?_)
          · rw [if_neg c5] at hf
            refine lv_iinc (v := (z.2 + 1)) (lv' := [(4, .int (z.2 + 1)), (3, .int (z.1 + 1)), (0, .ref (b + 0)), (1, .int a1), (2, .int a2)]) hx hb dX6_stationInLine_49 hl (k := 4) rfl rfl (by decide) rfl (fun ls hl => ?_)
            refine lv_goto (tgt := 5) hx hb dX6_stationInLine_52 (by decide) ?_
            exact ih ((z.1 + 1), (z.2 + 1)) (lp_back hy (Option.some.inj hf).symm) _ _ _ hN hS (lv_sub hl [2, 3, 4, 1, 0] rfl)
          · rw [if_pos c5] at hf
            refine lv_aload_n hx hb dX6_stationInLine_41 rfl (lv_at hl 1 rfl) ?_
            refine w_get (k := 0) (v := .ref (b + 10)) hx hb hw hown hE fl_X6_22 hN (by decide) rfl rfl rfl dX6_stationInLine_42 ?_
            refine lv_iload hx hb dX6_stationInLine_45 (lv_at hl 4 rfl) ?_
            obtain ⟨h6, hf⟩ := gd_some hf
            refine w_iald (k := 10) (x9 := z.2.toNatClampNeg) hx hb hE hN (by decide) rfl rfl h6 dX6_stationInLine_47 ?_
            have hre := lp_end hy (Option.some.inj hf).symm
            subst hre
            exact mu_i (v := (N 10 z.2.toNatClampNeg)) hx hb hrt hlocks hN hS dX6_stationInLine_48
  refine lv_iconst (v := 0) hx hb dX6_stationInLine_0 (by decide) ?_
  refine lv_istore_n (lv' := [(3, .int 0), (0, .ref (b + 0)), (1, .int a1), (2, .int a2)]) hx hb dX6_stationInLine_1 rfl hl (by decide) rfl (fun ls hl => ?_)
  refine lv_iconst (v := 0) hx hb dX6_stationInLine_2 (by decide) ?_
  refine lv_istore (lv' := [(4, .int 0), (3, .int 0), (0, .ref (b + 0)), (1, .int a1), (2, .int a2)]) hx hb dX6_stationInLine_3 hl (by decide) rfl (fun ls hl => ?_)
  obtain ⟨fu, hfu⟩ := lp_some hf
  exact (loop fu (0, 0) hfu) _ _ _ hN hS (lv_sub hl [2, 3, 4, 1, 0] rfl)
noncomputable def fX6_hearsSpeaker (N : Mem) (k1 : Nat) : Option (Int32) := gd (stn k1) ((fX6_speakerOn N (N k1 5)).bind fun z1 => (if z1 < 0 then some 0 else gd (inb z1 8) ((fX9_hears N k1 (2 + 1 * z1.toNatClampNeg)).bind fun z5 => (if z5 = 0 then some 0 else some 1))))
set_option maxHeartbeats 4000000 in
set_option maxRecDepth 100000 in
theorem mX6_hearsSpeaker (l : Launch) (E : EP) (B0 : Nat) (b : Nat) (hb0 : B0 ≤ b) (N : Mem) (k1 : Nat) (r : Int32) (hf : fX6_hearsSpeaker N k1 = some r) : MU l E B0 yX6_hearsSpeaker cX6_hearsSpeaker 3 (some .boolean) 2 0 0 [.ref (b + 0), .ref (b + k1)] (Blk E b netSh 15 N) (some (.int r)) (Blk E b netSh 15 N) nv := by
  refine mu_of (by decide +kernel) (Nat.le_of_ble_eq_true rfl) ?_
  intro p e s m args below meth c hx hb hml hown hts hrt hlocks hE H hN hS ls hl
  have hown : s.vm.findClass RX6 = some m.cls := hown
  have hl : lv_has ls 3 [(0, .ref (b + 0)), (1, .ref (b + k1))] := hl
  have hw : ∀ w ∈ WA, w.before args s = true := fun w h => hts w (List.mem_cons_of_mem _ h)
  have hAB : ∀ q, nv q → B0 ≤ q := fun _ h => h.elim
  unfold fX6_hearsSpeaker at hf
  obtain ⟨g1, hf⟩ := gd_some hf
  refine lv_aload_n hx hb dX6_hearsSpeaker_0 rfl (lv_at hl 0 rfl) ?_
  refine lv_aload_n hx hb dX6_hearsSpeaker_1 rfl (lv_at hl 1 rfl) ?_
  refine w_get (k := k1) (v := .int (N k1 5)) hx hb hw hown hE fl_X6_118 hN (stn_lt g1) (stn_sh g1) rfl rfl dX6_hearsSpeaker_2 ?_
  obtain ⟨z1, hc2, hf⟩ := br_some hf
  refine mu_cV (As := [.int (N k1 5)]) (rest := []) hx hb hml hown hts hE (mX6_speakerOn l E B0 b (by omega) N (N k1 5) z1 hc2) cv_X6_134 (w_recv (k := 0) (ci := 6) hE hN (by decide) rfl rfl) hN hS hAB (fun _ h => h.elim) rfl hl.1 rfl (by decide) (Nat.le_of_ble_eq_true rfl) ⟨Nat.le_refl _, Nat.le_refl _⟩ dX6_hearsSpeaker_5 (fun H locs hN _ hu hS => ?_)
  refine lv_istore_n (lv' := [(2, .int z1), (0, .ref (b + 0)), (1, .ref (b + k1))]) hx hb dX6_hearsSpeaker_8 rfl hl (by decide) rfl (fun ls hl => ?_)
  refine lv_iload_n hx hb dX6_hearsSpeaker_9 rfl (lv_at hl 0 rfl) ?_
  refine lv_if_lt (tgt := 30) hx hb dX6_hearsSpeaker_10 (by decide) (fun c3 => ?_) (fun c3 => ?_)
  · rw [if_pos c3] at hf
    refine lv_iconst (v := 0) hx hb dX6_hearsSpeaker_30 (by decide) ?_
    have hre := Option.some.inj hf
    subst hre
    exact mu_z (v := 0) hx hb hrt rfl hlocks hN hS dX6_hearsSpeaker_31
  · rw [if_neg c3] at hf
    refine lv_aload_n hx hb dX6_hearsSpeaker_13 rfl (lv_at hl 2 rfl) ?_
    refine lv_aload_n hx hb dX6_hearsSpeaker_14 rfl (lv_at hl 1 rfl) ?_
    refine w_get (k := 0) (v := .ref (b + 1)) hx hb hw hown hE fl_X6_11 hN (by decide) rfl rfl rfl dX6_hearsSpeaker_15 ?_
    refine lv_iload_n hx hb dX6_hearsSpeaker_18 rfl (lv_at hl 0 rfl) ?_
    obtain ⟨h4, hf⟩ := gd_some hf
    refine w_aald (k := 1) (j := 0) (x9 := z1.toNatClampNeg) hx hb hE hN (by decide) rfl rfl rfl h4 dX6_hearsSpeaker_19 ?_
    obtain ⟨z5, hc6, hf⟩ := br_some hf
    refine mu_cV (As := [.ref (b + (2 + 1 * z1.toNatClampNeg))]) (rest := []) hx hb hml hown hts hE (mX9_hears l E B0 b (by omega) N k1 (2 + 1 * z1.toNatClampNeg) z5 hc6) cv_X6_130 (w_recv (k := k1) (ci := 9) hE hN (stn_lt g1) (stn_sh g1) rfl) hN hS hAB (fun _ h => h.elim) rfl hl.1 rfl (by decide) (Nat.le_of_ble_eq_true rfl) ⟨Nat.le_refl _, Nat.le_refl _⟩ dX6_hearsSpeaker_20 (fun H locs hN _ hu hS => ?_)
    refine lv_if_eq (tgt := 30) hx hb dX6_hearsSpeaker_23 (by decide) (fun c7 => ?_) (fun c7 => ?_)
    · rw [if_pos c7] at hf
      refine lv_iconst (v := 0) hx hb dX6_hearsSpeaker_30 (by decide) ?_
      have hre := Option.some.inj hf
      subst hre
      exact mu_z (v := 0) hx hb hrt rfl hlocks hN hS dX6_hearsSpeaker_31
    · rw [if_neg c7] at hf
      refine lv_iconst (v := 1) hx hb dX6_hearsSpeaker_26 (by decide) ?_
      refine lv_goto (tgt := 31) hx hb dX6_hearsSpeaker_27 (by decide) ?_
      have hre := Option.some.inj hf
      subst hre
      exact mu_z (v := 1) hx hb hrt rfl hlocks hN hS dX6_hearsSpeaker_31
def fX6_anyJams_s (N : Mem) (k1 : Nat) (z : Int32) : Option ((Int32) ⊕ (Int32)) := (if (N 0 1) ≤ z then some (.inr 0) else gd (inb z 8) ((fX9_disturbs N (2 + 1 * z.toNatClampNeg) k1).bind fun z3 => (if z3 = 0 then some (.inl (z + 1)) else some (.inr 1))))
noncomputable def fX6_anyJams (N : Mem) (k1 : Nat) : Option (Int32) := gd (stn k1) (lp (fX6_anyJams_s N k1) 0)
set_option maxHeartbeats 4000000 in
set_option maxRecDepth 100000 in
theorem mX6_anyJams (l : Launch) (E : EP) (B0 : Nat) (b : Nat) (hb0 : B0 ≤ b) (N : Mem) (k1 : Nat) (r : Int32) (hf : fX6_anyJams N k1 = some r) : MU l E B0 yX6_anyJams cX6_anyJams 3 (some .boolean) 2 0 0 [.ref (b + 0), .ref (b + k1)] (Blk E b netSh 15 N) (some (.int r)) (Blk E b netSh 15 N) nv := by
  refine mu_of (by decide +kernel) (Nat.le_of_ble_eq_true rfl) ?_
  intro p e s m args below meth c hx hb hml hown hts hrt hlocks hE H hN hS ls hl
  have hown : s.vm.findClass RX6 = some m.cls := hown
  have hl : lv_has ls 3 [(0, .ref (b + 0)), (1, .ref (b + k1))] := hl
  have hw : ∀ w ∈ WA, w.before args s = true := fun w h => hts w (List.mem_cons_of_mem _ h)
  have hAB : ∀ q, nv q → B0 ≤ q := fun _ h => h.elim
  unfold fX6_anyJams at hf
  obtain ⟨g1, hf⟩ := gd_some hf
  have loop : ∀ (fu : Nat) (z : Int32), lpI (fX6_anyJams_s N k1) fu z = some r → (∀ (H : Heap) (locs : List Loc) (ls : Array Slot), Blk E b netSh 15 N H → va_S nv s.heap H locs → lv_has ls 3 [(0, .ref (b + 0)), (1, .ref (b + k1)), (2, .int z)] → W p l e (rmD 2 0 0) s m args below meth c H locs 0 0 (MQ below (QU (some (.int r)) (Blk E b netSh 15 N) nv) args s 0 0 nv) (F0 m 2 ls [])) := by
    intro fu
    induction fu with
    | zero =>
      intro z hn
      exact nomatch hn
    | succ fu ih =>
      intro z hn
      obtain ⟨y, hf, hy⟩ := lpI_succ hn
      intro H locs ls hN hS hl
      unfold fX6_anyJams_s at hf
      refine lv_iload_n hx hb dX6_anyJams_2 rfl (lv_at hl 2 rfl) ?_
      refine lv_aload_n hx hb dX6_anyJams_3 rfl (lv_at hl 0 rfl) ?_
      refine w_get (k := 0) (v := .int (N 0 1)) hx hb hw hown hE fl_X6_18 hN (by decide) rfl rfl rfl dX6_anyJams_4 ?_
      refine lv_icmp_ge (tgt := 31) hx hb dX6_anyJams_7 (by decide) (fun c1 => ?_) (fun c1 => ?_)
      · rw [if_pos c1] at hf
        refine lv_iconst (v := 0) hx hb dX6_anyJams_31 (by decide) ?_
        have hre := lp_end hy (Option.some.inj hf).symm
        subst hre
        exact mu_z (v := 0) hx hb hrt rfl hlocks hN hS dX6_anyJams_32
      · rw [if_neg c1] at hf
        refine lv_aload_n hx hb dX6_anyJams_10 rfl (lv_at hl 0 rfl) ?_
        refine w_get (k := 0) (v := .ref (b + 1)) hx hb hw hown hE fl_X6_11 hN (by decide) rfl rfl rfl dX6_anyJams_11 ?_
        refine lv_iload_n hx hb dX6_anyJams_14 rfl (lv_at hl 2 rfl) ?_
        obtain ⟨h2, hf⟩ := gd_some hf
        refine w_aald (k := 1) (j := 0) (x9 := z.toNatClampNeg) hx hb hE hN (by decide) rfl rfl rfl h2 dX6_anyJams_15 ?_
        refine lv_aload_n hx hb dX6_anyJams_16 rfl (lv_at hl 1 rfl) ?_
        obtain ⟨z3, hc4, hf⟩ := br_some hf
        refine mu_cV (As := [.ref (b + k1)]) (rest := []) hx hb hml hown hts hE (mX9_disturbs l E B0 b (by omega) N (2 + 1 * z.toNatClampNeg) k1 z3 hc4) cv_X6_186 (w_recv (k := (2 + 1 * z.toNatClampNeg)) (ci := 9) hE hN (stn_lt (stn_ld h2)) (stn_sh (stn_ld h2)) rfl) hN hS hAB (fun _ h => h.elim) rfl hl.1 rfl (by decide) (Nat.le_of_ble_eq_true rfl) ⟨Nat.le_refl _, Nat.le_refl _⟩ dX6_anyJams_17 (fun H locs hN _ hu hS => ?_)
        refine lv_if_eq (tgt := 25) hx hb dX6_anyJams_20 (by decide) (fun c5 => ?_) (fun c5 => ?_)
        · rw [if_pos c5] at hf
          refine lv_iinc (v := (z + 1)) (lv' := [(2, .int (z + 1)), (0, .ref (b + 0)), (1, .ref (b + k1))]) hx hb dX6_anyJams_25 hl (k := 2) rfl rfl (by decide) rfl (fun ls hl => ?_)
          refine lv_goto (tgt := 2) hx hb dX6_anyJams_28 (by decide) ?_
          exact ih (z + 1) (lp_back hy (Option.some.inj hf).symm) _ _ _ hN hS (lv_sub hl [1, 2, 0] rfl)
        · rw [if_neg c5] at hf
          refine lv_iconst (v := 1) hx hb dX6_anyJams_23 (by decide) ?_
          have hre := lp_end hy (Option.some.inj hf).symm
          subst hre
          exact mu_z (v := 1) hx hb hrt rfl hlocks hN hS dX6_anyJams_24
  refine lv_iconst (v := 0) hx hb dX6_anyJams_0 (by decide) ?_
  refine lv_istore_n (lv' := [(2, .int 0), (0, .ref (b + 0)), (1, .ref (b + k1))]) hx hb dX6_anyJams_1 rfl hl (by decide) rfl (fun ls hl => ?_)
  obtain ⟨fu, hfu⟩ := lp_some hf
  exact (loop fu 0 hfu) _ _ _ hN hS (lv_sub hl [1, 2, 0] rfl)
def fX6_stationOfSign_s (N : Mem) (a1 : Int32) (a2 : Int32) (z : Int32) : Option ((Int32) ⊕ (Int32)) := (if (N 0 1) ≤ z then some (.inr (-1)) else gd (inb z 8) ((if (N (2 + 1 * z.toNatClampNeg) 0) = a1 then gd (inb z 8) ((if (N (2 + 1 * z.toNatClampNeg) 1) = a2 then some (.inr z) else some (.inl (z + 1)))) else some (.inl (z + 1)))))
noncomputable def fX6_stationOfSign (N : Mem) (a1 : Int32) (a2 : Int32) : Option (Int32) := lp (fX6_stationOfSign_s N a1 a2) 0
set_option maxHeartbeats 4000000 in
set_option maxRecDepth 100000 in
theorem mX6_stationOfSign (l : Launch) (E : EP) (B0 : Nat) (b : Nat) (hb0 : B0 ≤ b) (N : Mem) (a1 : Int32) (a2 : Int32) (r : Int32) (hf : fX6_stationOfSign N a1 a2 = some r) : MU l E B0 yX6_stationOfSign cX6_stationOfSign 4 (some .int) 0 0 0 [.ref (b + 0), .int a1, .int a2] (Blk E b netSh 15 N) (some (.int r)) (Blk E b netSh 15 N) nv := by
  refine mu_of (by decide +kernel) (Nat.le_of_ble_eq_true rfl) ?_
  intro p e s m args below meth c hx hb hml hown hts hrt hlocks hE H hN hS ls hl
  have hown : s.vm.findClass RX6 = some m.cls := hown
  have hl : lv_has ls 4 [(0, .ref (b + 0)), (1, .int a1), (2, .int a2)] := hl
  have hw : ∀ w ∈ WA, w.before args s = true := fun w h => hts w (List.mem_cons_of_mem _ h)
  have hAB : ∀ q, nv q → B0 ≤ q := fun _ h => h.elim
  unfold fX6_stationOfSign at hf
  have loop : ∀ (fu : Nat) (z : Int32), lpI (fX6_stationOfSign_s N a1 a2) fu z = some r → (∀ (H : Heap) (locs : List Loc) (ls : Array Slot), Blk E b netSh 15 N H → va_S nv s.heap H locs → lv_has ls 4 [(0, .ref (b + 0)), (1, .int a1), (2, .int a2), (3, .int z)] → W p l e (rmD 0 0 0) s m args below meth c H locs 0 0 (MQ below (QU (some (.int r)) (Blk E b netSh 15 N) nv) args s 0 0 nv) (F0 m 2 ls [])) := by
    intro fu
    induction fu with
    | zero =>
      intro z hn
      exact nomatch hn
    | succ fu ih =>
      intro z hn
      obtain ⟨y, hf, hy⟩ := lpI_succ hn
      intro H locs ls hN hS hl
      unfold fX6_stationOfSign_s at hf
      refine lv_iload_n hx hb dX6_stationOfSign_2 rfl (lv_at hl 3 rfl) ?_
      refine lv_aload_n hx hb dX6_stationOfSign_3 rfl (lv_at hl 0 rfl) ?_
      refine w_get (k := 0) (v := .int (N 0 1)) hx hb hw hown hE fl_X6_18 hN (by decide) rfl rfl rfl dX6_stationOfSign_4 ?_
      refine lv_icmp_ge (tgt := 44) hx hb dX6_stationOfSign_7 (by decide) (fun c1 => ?_) (fun c1 => ?_)
      · rw [if_pos c1] at hf
        refine lv_iconst (v := -1) hx hb dX6_stationOfSign_44 (by decide) ?_
        have hre := lp_end hy (Option.some.inj hf).symm
        subst hre
        exact mu_i (v := -1) hx hb hrt hlocks hN hS dX6_stationOfSign_45
      · rw [if_neg c1] at hf
        refine lv_aload_n hx hb dX6_stationOfSign_10 rfl (lv_at hl 0 rfl) ?_
        refine w_get (k := 0) (v := .ref (b + 1)) hx hb hw hown hE fl_X6_11 hN (by decide) rfl rfl rfl dX6_stationOfSign_11 ?_
        refine lv_iload_n hx hb dX6_stationOfSign_14 rfl (lv_at hl 3 rfl) ?_
        obtain ⟨h2, hf⟩ := gd_some hf
        refine w_aald (k := 1) (j := 0) (x9 := z.toNatClampNeg) hx hb hE hN (by decide) rfl rfl rfl h2 dX6_stationOfSign_15 ?_
        refine w_get (k := (2 + 1 * z.toNatClampNeg)) (v := .int (N (2 + 1 * z.toNatClampNeg) 0)) hx hb hw hown hE fl_X6_102 hN (stn_lt (stn_ld h2)) (stn_sh (stn_ld h2)) rfl rfl dX6_stationOfSign_16 ?_
        refine lv_iload_n hx hb dX6_stationOfSign_19 rfl (lv_at hl 1 rfl) ?_
        refine lv_icmp_ne (tgt := 38) hx hb dX6_stationOfSign_20 (by decide) (fun c3 => ?_) (fun c3 => ?_)
        · rw [if_neg c3] at hf
          refine lv_iinc (v := (z + 1)) (lv' := [(3, .int (z + 1)), (0, .ref (b + 0)), (1, .int a1), (2, .int a2)]) hx hb dX6_stationOfSign_38 hl (k := 3) rfl rfl (by decide) rfl (fun ls hl => ?_)
          refine lv_goto (tgt := 2) hx hb dX6_stationOfSign_41 (by decide) ?_
          exact ih (z + 1) (lp_back hy (Option.some.inj hf).symm) _ _ _ hN hS (lv_sub hl [1, 2, 3, 0] rfl)
        · rw [if_pos c3] at hf
          refine lv_aload_n hx hb dX6_stationOfSign_23 rfl (lv_at hl 0 rfl) ?_
          refine w_get (k := 0) (v := .ref (b + 1)) hx hb hw hown hE fl_X6_11 hN (by decide) rfl rfl rfl dX6_stationOfSign_24 ?_
          refine lv_iload_n hx hb dX6_stationOfSign_27 rfl (lv_at hl 3 rfl) ?_
          obtain ⟨h4, hf⟩ := gd_some hf
          refine w_aald (k := 1) (j := 0) (x9 := z.toNatClampNeg) hx hb hE hN (by decide) rfl rfl rfl h4 dX6_stationOfSign_28 ?_
          refine w_get (k := (2 + 1 * z.toNatClampNeg)) (v := .int (N (2 + 1 * z.toNatClampNeg) 1)) hx hb hw hown hE fl_X6_106 hN (stn_lt (stn_ld h4)) (stn_sh (stn_ld h4)) rfl rfl dX6_stationOfSign_29 ?_
          refine lv_iload_n hx hb dX6_stationOfSign_32 rfl (lv_at hl 2 rfl) ?_
          refine lv_icmp_ne (tgt := 38) hx hb dX6_stationOfSign_33 (by decide) (fun c5 => ?_) (fun c5 => ?_)
          · rw [if_neg c5] at hf
            refine lv_iinc (v := (z + 1)) (lv' := [(3, .int (z + 1)), (0, .ref (b + 0)), (1, .int a1), (2, .int a2)]) hx hb dX6_stationOfSign_38 hl (k := 3) rfl rfl (by decide) rfl (fun ls hl => ?_)
            refine lv_goto (tgt := 2) hx hb dX6_stationOfSign_41 (by decide) ?_
            exact ih (z + 1) (lp_back hy (Option.some.inj hf).symm) _ _ _ hN hS (lv_sub hl [1, 2, 3, 0] rfl)
          · rw [if_pos c5] at hf
            refine lv_iload_n hx hb dX6_stationOfSign_36 rfl (lv_at hl 3 rfl) ?_
            have hre := lp_end hy (Option.some.inj hf).symm
            subst hre
            exact mu_i (v := z) hx hb hrt hlocks hN hS dX6_stationOfSign_37
  refine lv_iconst (v := 0) hx hb dX6_stationOfSign_0 (by decide) ?_
  refine lv_istore_n (lv' := [(3, .int 0), (0, .ref (b + 0)), (1, .int a1), (2, .int a2)]) hx hb dX6_stationOfSign_1 rfl hl (by decide) rfl (fun ls hl => ?_)
  obtain ⟨fu, hfu⟩ := lp_some hf
  exact (loop fu 0 hfu) _ _ _ hN hS (lv_sub hl [1, 2, 3, 0] rfl)
def fX6_stationOfRank_s (N : Mem) (a1 : Int32) (z : Nat × Int32 × Int32 × Int32) : Option ((Nat × Int32 × Int32 × Int32) ⊕ (Int32)) := (if z.1 = 0 then (if (N 0 1) ≤ z.2.1 then some (.inr (-1)) else some (.inl (1, z.2.1, 0, 0))) else (if (N 0 1) ≤ z.2.2.2 then (if z.2.2.1 = a1 then some (.inr z.2.1) else some (.inl (0, (z.2.1 + 1), 0, 0))) else gd (inb z.2.2.2 8) (gd (inb z.2.1 8) ((fX9_ranksBefore N (2 + 1 * z.2.2.2.toNatClampNeg) (2 + 1 * z.2.1.toNatClampNeg)).bind fun z6 => (if z6 = 0 then some (.inl (1, z.2.1, z.2.2.1, (z.2.2.2 + 1))) else some (.inl (1, z.2.1, (z.2.2.1 + 1), (z.2.2.2 + 1))))))))
noncomputable def fX6_stationOfRank (N : Mem) (a1 : Int32) : Option (Int32) := lp (fX6_stationOfRank_s N a1) (0, 0, 0, 0)
set_option maxHeartbeats 4000000 in
set_option maxRecDepth 100000 in
theorem mX6_stationOfRank (l : Launch) (E : EP) (B0 : Nat) (b : Nat) (hb0 : B0 ≤ b) (N : Mem) (a1 : Int32) (r : Int32) (hf : fX6_stationOfRank N a1 = some r) : MU l E B0 yX6_stationOfRank cX6_stationOfRank 5 (some .int) 1 0 0 [.ref (b + 0), .int a1] (Blk E b netSh 15 N) (some (.int r)) (Blk E b netSh 15 N) nv := by
  refine mu_of (by decide +kernel) (Nat.le_of_ble_eq_true rfl) ?_
  intro p e s m args below meth c hx hb hml hown hts hrt hlocks hE H hN hS ls hl
  have hown : s.vm.findClass RX6 = some m.cls := hown
  have hl : lv_has ls 5 [(0, .ref (b + 0)), (1, .int a1)] := hl
  have hw : ∀ w ∈ WA, w.before args s = true := fun w h => hts w (List.mem_cons_of_mem _ h)
  have hAB : ∀ q, nv q → B0 ≤ q := fun _ h => h.elim
  unfold fX6_stationOfRank at hf
  have loop : ∀ (fu : Nat) (z : Nat × Int32 × Int32 × Int32), lpI (fX6_stationOfRank_s N a1) fu z = some r → (∀ (H : Heap) (locs : List Loc) (ls : Array Slot), z.1 = 0 → Blk E b netSh 15 N H → va_S nv s.heap H locs → lv_has ls 5 [(0, .ref (b + 0)), (1, .int a1), (2, .int z.2.1)] → W p l e (rmD 1 0 0) s m args below meth c H locs 0 0 (MQ below (QU (some (.int r)) (Blk E b netSh 15 N) nv) args s 0 0 nv) (F0 m 2 ls [])) ∧ (∀ (H : Heap) (locs : List Loc) (ls : Array Slot), z.1 = 1 → Blk E b netSh 15 N H → va_S nv s.heap H locs → lv_has ls 5 [(0, .ref (b + 0)), (1, .int a1), (2, .int z.2.1), (3, .int z.2.2.1), (4, .int z.2.2.2)] → W p l e (rmD 1 0 0) s m args below meth c H locs 0 0 (MQ below (QU (some (.int r)) (Blk E b netSh 15 N) nv) args s 0 0 nv) (F0 m 15 ls [])) := by
    intro fu
    induction fu with
    | zero =>
      intro z hn
      exact nomatch hn
    | succ fu ih =>
      intro z hn
      obtain ⟨y, hf, hy⟩ := lpI_succ hn
      refine ⟨?_, ?_⟩
      · intro H locs ls hz hN hS hl
        unfold fX6_stationOfRank_s at hf
        rw [if_pos hz] at hf
        refine lv_iload_n hx hb dX6_stationOfRank_2 rfl (lv_at hl 2 rfl) ?_
        refine lv_aload_n hx hb dX6_stationOfRank_3 rfl (lv_at hl 0 rfl) ?_
        refine w_get (k := 0) (v := .int (N 0 1)) hx hb hw hown hE fl_X6_18 hN (by decide) rfl rfl rfl dX6_stationOfRank_4 ?_
        refine lv_icmp_ge (tgt := 65) hx hb dX6_stationOfRank_7 (by decide) (fun c1 => ?_) (fun c1 => ?_)
        · rw [if_pos c1] at hf
          refine lv_iconst (v := -1) hx hb dX6_stationOfRank_65 (by decide) ?_
          have hre := lp_end hy (Option.some.inj hf).symm
          subst hre
          exact mu_i (v := -1) hx hb hrt hlocks hN hS dX6_stationOfRank_66
        · rw [if_neg c1] at hf
          refine lv_iconst (v := 0) hx hb dX6_stationOfRank_10 (by decide) ?_
          refine lv_istore_n (lv' := [(3, .int 0), (0, .ref (b + 0)), (1, .int a1), (2, .int z.2.1)]) hx hb dX6_stationOfRank_11 rfl hl (by decide) rfl (fun ls hl => ?_)
          refine lv_iconst (v := 0) hx hb dX6_stationOfRank_12 (by decide) ?_
          refine lv_istore (lv' := [(4, .int 0), (3, .int 0), (0, .ref (b + 0)), (1, .int a1), (2, .int z.2.1)]) hx hb dX6_stationOfRank_13 hl (by decide) rfl (fun ls hl => ?_)
          exact (ih (1, z.2.1, 0, 0) (lp_back hy (Option.some.inj hf).symm)).2 _ _ _ rfl hN hS (lv_sub hl [2, 3, 4, 1, 0] rfl)
      · intro H locs ls hz hN hS hl
        unfold fX6_stationOfRank_s at hf
        rw [if_neg (by rw [hz]; decide)] at hf
        refine lv_iload hx hb dX6_stationOfRank_15 (lv_at hl 4 rfl) ?_
        refine lv_aload_n hx hb dX6_stationOfRank_17 rfl (lv_at hl 0 rfl) ?_
        refine w_get (k := 0) (v := .int (N 0 1)) hx hb hw hown hE fl_X6_18 hN (by decide) rfl rfl rfl dX6_stationOfRank_18 ?_
        refine lv_icmp_ge (tgt := 52) hx hb dX6_stationOfRank_21 (by decide) (fun c2 => ?_) (fun c2 => ?_)
        · rw [if_pos c2] at hf
          refine lv_iload_n hx hb dX6_stationOfRank_52 rfl (lv_at hl 3 rfl) ?_
          refine lv_iload_n hx hb dX6_stationOfRank_53 rfl (lv_at hl 1 rfl) ?_
          refine lv_icmp_ne (tgt := 59) hx hb dX6_stationOfRank_54 (by decide) (fun c3 => ?_) (fun c3 => ?_)
          · rw [if_neg c3] at hf
            refine lv_iinc (v := (z.2.1 + 1)) (lv' := [(2, .int (z.2.1 + 1)), (0, .ref (b + 0)), (1, .int a1), (3, .int z.2.2.1), (4, .int z.2.2.2)]) hx hb dX6_stationOfRank_59 hl (k := 2) rfl rfl (by decide) rfl (fun ls hl => ?_)
            refine lv_goto (tgt := 2) hx hb dX6_stationOfRank_62 (by decide) ?_
            exact (ih (0, (z.2.1 + 1), 0, 0) (lp_back hy (Option.some.inj hf).symm)).1 _ _ _ rfl hN hS (lv_sub hl [1, 2, 0] rfl)
          · rw [if_pos c3] at hf
            refine lv_iload_n hx hb dX6_stationOfRank_57 rfl (lv_at hl 2 rfl) ?_
            have hre := lp_end hy (Option.some.inj hf).symm
            subst hre
            exact mu_i (v := z.2.1) hx hb hrt hlocks hN hS dX6_stationOfRank_58
        · rw [if_neg c2] at hf
          refine lv_aload_n hx hb dX6_stationOfRank_24 rfl (lv_at hl 0 rfl) ?_
          refine w_get (k := 0) (v := .ref (b + 1)) hx hb hw hown hE fl_X6_11 hN (by decide) rfl rfl rfl dX6_stationOfRank_25 ?_
          refine lv_iload hx hb dX6_stationOfRank_28 (lv_at hl 4 rfl) ?_
          obtain ⟨h4, hf⟩ := gd_some hf
          refine w_aald (k := 1) (j := 0) (x9 := z.2.2.2.toNatClampNeg) hx hb hE hN (by decide) rfl rfl rfl h4 dX6_stationOfRank_30 ?_
          refine lv_aload_n hx hb dX6_stationOfRank_31 rfl (lv_at hl 0 rfl) ?_
          refine w_get (k := 0) (v := .ref (b + 1)) hx hb hw hown hE fl_X6_11 hN (by decide) rfl rfl rfl dX6_stationOfRank_32 ?_
          refine lv_iload_n hx hb dX6_stationOfRank_35 rfl (lv_at hl 2 rfl) ?_
          obtain ⟨h5, hf⟩ := gd_some hf
          refine w_aald (k := 1) (j := 0) (x9 := z.2.1.toNatClampNeg) hx hb hE hN (by decide) rfl rfl rfl h5 dX6_stationOfRank_36 ?_
          obtain ⟨z6, hc7, hf⟩ := br_some hf
          refine mu_cV (As := [.ref (b + (2 + 1 * z.2.1.toNatClampNeg))]) (rest := []) hx hb hml hown hts hE (mX9_ranksBefore l E B0 b (by omega) N (2 + 1 * z.2.2.2.toNatClampNeg) (2 + 1 * z.2.1.toNatClampNeg) z6 hc7) cv_X6_178 (w_recv (k := (2 + 1 * z.2.2.2.toNatClampNeg)) (ci := 9) hE hN (stn_lt (stn_ld h4)) (stn_sh (stn_ld h4)) rfl) hN hS hAB (fun _ h => h.elim) rfl hl.1 rfl (by decide) (Nat.le_of_ble_eq_true rfl) ⟨Nat.le_refl _, Nat.le_refl _⟩ dX6_stationOfRank_37 (fun H locs hN _ hu hS => ?_)
          refine lv_if_eq (tgt := 46) hx hb dX6_stationOfRank_40 (by decide) (fun c8 => ?_) (fun c8 => ?_)
          · rw [if_pos c8] at hf
            refine lv_iinc (v := (z.2.2.2 + 1)) (lv' := [(4, .int (z.2.2.2 + 1)), (0, .ref (b + 0)), (1, .int a1), (2, .int z.2.1), (3, .int z.2.2.1)]) hx hb dX6_stationOfRank_46 hl (k := 4) rfl rfl (by decide) rfl (fun ls hl => ?_)
            refine lv_goto (tgt := 15) hx hb dX6_stationOfRank_49 (by decide) ?_
            exact (ih (1, z.2.1, z.2.2.1, (z.2.2.2 + 1)) (lp_back hy (Option.some.inj hf).symm)).2 _ _ _ rfl hN hS (lv_sub hl [1, 2, 3, 4, 0] rfl)
          · rw [if_neg c8] at hf
            refine lv_iinc (v := (z.2.2.1 + 1)) (lv' := [(3, .int (z.2.2.1 + 1)), (0, .ref (b + 0)), (1, .int a1), (2, .int z.2.1), (4, .int z.2.2.2)]) hx hb dX6_stationOfRank_43 hl (k := 3) rfl rfl (by decide) rfl (fun ls hl => ?_)
            refine lv_iinc (v := (z.2.2.2 + 1)) (lv' := [(4, .int (z.2.2.2 + 1)), (3, .int (z.2.2.1 + 1)), (0, .ref (b + 0)), (1, .int a1), (2, .int z.2.1)]) hx hb dX6_stationOfRank_46 hl (k := 4) rfl rfl (by decide) rfl (fun ls hl => ?_)
            refine lv_goto (tgt := 15) hx hb dX6_stationOfRank_49 (by decide) ?_
            exact (ih (1, z.2.1, (z.2.2.1 + 1), (z.2.2.2 + 1)) (lp_back hy (Option.some.inj hf).symm)).2 _ _ _ rfl hN hS (lv_sub hl [2, 3, 4, 1, 0] rfl)
  refine lv_iconst (v := 0) hx hb dX6_stationOfRank_0 (by decide) ?_
  refine lv_istore_n (lv' := [(2, .int 0), (0, .ref (b + 0)), (1, .int a1)]) hx hb dX6_stationOfRank_1 rfl hl (by decide) rfl (fun ls hl => ?_)
  obtain ⟨fu, hfu⟩ := lp_some hf
  exact (loop fu (0, 0, 0, 0) hfu).1 _ _ _ rfl hN hS (lv_sub hl [1, 2, 0] rfl)
noncomputable def fX6_computedMinutes_s (N : Mem) (a1 : Int32) (z : Int32 × Int32 × Int32 × Int32 × Int32) : Option ((Int32 × Int32 × Int32 × Int32 × Int32) ⊕ (Int32)) := (if (N 0 3) ≤ z.2.2.2.2 then some (.inr z.2.2.2.1) else gd (inb z.2.2.2.2 8) ((if (N 10 z.2.2.2.2.toNatClampNeg) = a1 then some (.inr z.2.2.2.1) else gd (inb z.2.2.2.2 8) (gd (inb (N 10 z.2.2.2.2.toNatClampNeg) 8) ((if (N (2 + 1 * (N 10 z.2.2.2.2.toNatClampNeg).toNatClampNeg) 5) = z.1 then some (.inl (z.1, z.2.1, z.2.2.1, (z.2.2.2.1 + (N 0 6)), (z.2.2.2.2 + 1))) else some (.inl (z.1, z.2.1, z.2.2.1, z.2.2.2.1, (z.2.2.2.2 + 1)))))))))
noncomputable def fX6_computedMinutes (N : Mem) (a1 : Int32) : Option (Int32) := gd (inb a1 8) ((fX6_speakerOn N (N (2 + 1 * a1.toNatClampNeg) 5)).bind fun z8 => (if 0 ≤ z8 then gd (inb z8 8) (lp (fX6_computedMinutes_s N a1) ((N (2 + 1 * a1.toNatClampNeg) 5), z8, ((N 0 5) - (N (2 + 1 * z8.toNatClampNeg) 7)), (if (1 : Int32) < ((N 0 6) - ((N 0 5) - (N (2 + 1 * z8.toNatClampNeg) 7))) then ((N 0 6) - ((N 0 5) - (N (2 + 1 * z8.toNatClampNeg) 7))) else (1 : Int32)), 0)) else some (-1)))
set_option maxHeartbeats 4000000 in
set_option maxRecDepth 100000 in
theorem mX6_computedMinutes (l : Launch) (E : EP) (B0 : Nat) (b : Nat) (hb0 : B0 ≤ b) (N : Mem) (a1 : Int32) (r : Int32) (hf : fX6_computedMinutes N a1 = some r) : MU l E B0 yX6_computedMinutes cX6_computedMinutes 7 (some .int) 1 0 0 [.ref (b + 0), .int a1] (Blk E b netSh 15 N) (some (.int r)) (Blk E b netSh 15 N) nv := by
  refine mu_of (by decide +kernel) (Nat.le_of_ble_eq_true rfl) ?_
  intro p e s m args below meth c hx hb hml hown hts hrt hlocks hE H hN hS ls hl
  have hown : s.vm.findClass RX6 = some m.cls := hown
  have hl : lv_has ls 7 [(0, .ref (b + 0)), (1, .int a1)] := hl
  have hw : ∀ w ∈ WA, w.before args s = true := fun w h => hts w (List.mem_cons_of_mem _ h)
  have hAB : ∀ q, nv q → B0 ≤ q := fun _ h => h.elim
  unfold fX6_computedMinutes at hf
  have loop : ∀ (fu : Nat) (z : Int32 × Int32 × Int32 × Int32 × Int32), lpI (fX6_computedMinutes_s N a1) fu z = some r → (∀ (H : Heap) (locs : List Loc) (ls : Array Slot), Blk E b netSh 15 N H → va_S nv s.heap H locs → lv_has ls 7 [(0, .ref (b + 0)), (1, .int a1), (2, .int z.1), (3, .int z.2.1), (4, .int z.2.2.1), (5, .int z.2.2.2.1), (6, .int z.2.2.2.2)] → W p l e (rmD 1 0 0) s m args below meth c H locs 0 0 (MQ below (QU (some (.int r)) (Blk E b netSh 15 N) nv) args s 0 0 nv) (F0 m 54 ls [])) := by
    intro fu
    induction fu with
    | zero =>
      intro z hn
      exact nomatch hn
    | succ fu ih =>
      intro z hn
      obtain ⟨y, hf, hy⟩ := lpI_succ hn
      intro H locs ls hN hS hl
      unfold fX6_computedMinutes_s at hf
      refine lv_iload hx hb dX6_computedMinutes_54 (lv_at hl 6 rfl) ?_
      refine lv_aload_n hx hb dX6_computedMinutes_56 rfl (lv_at hl 0 rfl) ?_
      refine w_get (k := 0) (v := .int (N 0 3)) hx hb hw hown hE fl_X6_26 hN (by decide) rfl rfl rfl dX6_computedMinutes_57 ?_
      refine lv_icmp_ge (tgt := 108) hx hb dX6_computedMinutes_60 (by decide) (fun c1 => ?_) (fun c1 => ?_)
      · rw [if_pos c1] at hf
        refine lv_iload hx hb dX6_computedMinutes_108 (lv_at hl 5 rfl) ?_
        have hre := lp_end hy (Option.some.inj hf).symm
        subst hre
        exact mu_i (v := z.2.2.2.1) hx hb hrt hlocks hN hS dX6_computedMinutes_110
      · rw [if_neg c1] at hf
        refine lv_aload_n hx hb dX6_computedMinutes_63 rfl (lv_at hl 0 rfl) ?_
        refine w_get (k := 0) (v := .ref (b + 10)) hx hb hw hown hE fl_X6_22 hN (by decide) rfl rfl rfl dX6_computedMinutes_64 ?_
        refine lv_iload hx hb dX6_computedMinutes_67 (lv_at hl 6 rfl) ?_
        obtain ⟨h2, hf⟩ := gd_some hf
        refine w_iald (k := 10) (x9 := z.2.2.2.2.toNatClampNeg) hx hb hE hN (by decide) rfl rfl h2 dX6_computedMinutes_69 ?_
        refine lv_iload_n hx hb dX6_computedMinutes_70 rfl (lv_at hl 1 rfl) ?_
        refine lv_icmp_eq (tgt := 108) hx hb dX6_computedMinutes_71 (by decide) (fun c3 => ?_) (fun c3 => ?_)
        · rw [if_pos c3] at hf
          refine lv_iload hx hb dX6_computedMinutes_108 (lv_at hl 5 rfl) ?_
          have hre := lp_end hy (Option.some.inj hf).symm
          subst hre
          exact mu_i (v := z.2.2.2.1) hx hb hrt hlocks hN hS dX6_computedMinutes_110
        · rw [if_neg c3] at hf
          refine lv_aload_n hx hb dX6_computedMinutes_74 rfl (lv_at hl 0 rfl) ?_
          refine w_get (k := 0) (v := .ref (b + 1)) hx hb hw hown hE fl_X6_11 hN (by decide) rfl rfl rfl dX6_computedMinutes_75 ?_
          refine lv_aload_n hx hb dX6_computedMinutes_78 rfl (lv_at hl 0 rfl) ?_
          refine w_get (k := 0) (v := .ref (b + 10)) hx hb hw hown hE fl_X6_22 hN (by decide) rfl rfl rfl dX6_computedMinutes_79 ?_
          refine lv_iload hx hb dX6_computedMinutes_82 (lv_at hl 6 rfl) ?_
          obtain ⟨h4, hf⟩ := gd_some hf
          refine w_iald (k := 10) (x9 := z.2.2.2.2.toNatClampNeg) hx hb hE hN (by decide) rfl rfl h4 dX6_computedMinutes_84 ?_
          obtain ⟨h5, hf⟩ := gd_some hf
          refine w_aald (k := 1) (j := 0) (x9 := (N 10 z.2.2.2.2.toNatClampNeg).toNatClampNeg) hx hb hE hN (by decide) rfl rfl rfl h5 dX6_computedMinutes_85 ?_
          refine w_get (k := (2 + 1 * (N 10 z.2.2.2.2.toNatClampNeg).toNatClampNeg)) (v := .int (N (2 + 1 * (N 10 z.2.2.2.2.toNatClampNeg).toNatClampNeg) 5)) hx hb hw hown hE fl_X6_118 hN (stn_lt (stn_ld h5)) (stn_sh (stn_ld h5)) rfl rfl dX6_computedMinutes_86 ?_
          refine lv_iload_n hx hb dX6_computedMinutes_89 rfl (lv_at hl 2 rfl) ?_
          refine lv_icmp_ne (tgt := 102) hx hb dX6_computedMinutes_90 (by decide) (fun c6 => ?_) (fun c6 => ?_)
          · rw [if_neg c6] at hf
            refine lv_iinc (v := (z.2.2.2.2 + 1)) (lv' := [(6, .int (z.2.2.2.2 + 1)), (0, .ref (b + 0)), (1, .int a1), (2, .int z.1), (3, .int z.2.1), (4, .int z.2.2.1), (5, .int z.2.2.2.1)]) hx hb dX6_computedMinutes_102 hl (k := 6) rfl rfl (by decide) rfl (fun ls hl => ?_)
            refine lv_goto (tgt := 54) hx hb dX6_computedMinutes_105 (by decide) ?_
            exact ih (z.1, z.2.1, z.2.2.1, z.2.2.2.1, (z.2.2.2.2 + 1)) (lp_back hy (Option.some.inj hf).symm) _ _ _ hN hS (lv_sub hl [1, 2, 3, 4, 5, 6, 0] rfl)
          · rw [if_pos c6] at hf
            refine lv_iload hx hb dX6_computedMinutes_93 (lv_at hl 5 rfl) ?_
            refine lv_aload_n hx hb dX6_computedMinutes_95 rfl (lv_at hl 0 rfl) ?_
            refine w_get (k := 0) (v := .int (N 0 6)) hx hb hw hown hE fl_X6_39 hN (by decide) rfl rfl rfl dX6_computedMinutes_96 ?_
            refine lv_iadd hx hb dX6_computedMinutes_99 ?_
            refine lv_istore (lv' := [(5, .int (z.2.2.2.1 + (N 0 6))), (0, .ref (b + 0)), (1, .int a1), (2, .int z.1), (3, .int z.2.1), (4, .int z.2.2.1), (6, .int z.2.2.2.2)]) hx hb dX6_computedMinutes_100 hl (by decide) rfl (fun ls hl => ?_)
            refine lv_iinc (v := (z.2.2.2.2 + 1)) (lv' := [(6, .int (z.2.2.2.2 + 1)), (5, .int (z.2.2.2.1 + (N 0 6))), (0, .ref (b + 0)), (1, .int a1), (2, .int z.1), (3, .int z.2.1), (4, .int z.2.2.1)]) hx hb dX6_computedMinutes_102 hl (k := 6) rfl rfl (by decide) rfl (fun ls hl => ?_)
            refine lv_goto (tgt := 54) hx hb dX6_computedMinutes_105 (by decide) ?_
            exact ih (z.1, z.2.1, z.2.2.1, (z.2.2.2.1 + (N 0 6)), (z.2.2.2.2 + 1)) (lp_back hy (Option.some.inj hf).symm) _ _ _ hN hS (lv_sub hl [2, 3, 4, 5, 6, 1, 0] rfl)
  refine lv_aload_n hx hb dX6_computedMinutes_0 rfl (lv_at hl 0 rfl) ?_
  refine w_get (k := 0) (v := .ref (b + 1)) hx hb hw hown hE fl_X6_11 hN (by decide) rfl rfl rfl dX6_computedMinutes_1 ?_
  refine lv_iload_n hx hb dX6_computedMinutes_4 rfl (lv_at hl 1 rfl) ?_
  obtain ⟨h7, hf⟩ := gd_some hf
  refine w_aald (k := 1) (j := 0) (x9 := a1.toNatClampNeg) hx hb hE hN (by decide) rfl rfl rfl h7 dX6_computedMinutes_5 ?_
  refine w_get (k := (2 + 1 * a1.toNatClampNeg)) (v := .int (N (2 + 1 * a1.toNatClampNeg) 5)) hx hb hw hown hE fl_X6_118 hN (stn_lt (stn_ld h7)) (stn_sh (stn_ld h7)) rfl rfl dX6_computedMinutes_6 ?_
  refine lv_istore_n (lv' := [(2, .int (N (2 + 1 * a1.toNatClampNeg) 5)), (0, .ref (b + 0)), (1, .int a1)]) hx hb dX6_computedMinutes_9 rfl hl (by decide) rfl (fun ls hl => ?_)
  refine lv_aload_n hx hb dX6_computedMinutes_10 rfl (lv_at hl 1 rfl) ?_
  refine lv_iload_n hx hb dX6_computedMinutes_11 rfl (lv_at hl 0 rfl) ?_
  obtain ⟨z8, hc9, hf⟩ := br_some hf
  refine mu_cV (As := [.int (N (2 + 1 * a1.toNatClampNeg) 5)]) (rest := []) hx hb hml hown hts hE (mX6_speakerOn l E B0 b (by omega) N (N (2 + 1 * a1.toNatClampNeg) 5) z8 hc9) cv_X6_134 (w_recv (k := 0) (ci := 6) hE hN (by decide) rfl rfl) hN hS hAB (fun _ h => h.elim) rfl hl.1 rfl (by decide) (Nat.le_of_ble_eq_true rfl) ⟨Nat.le_refl _, Nat.le_refl _⟩ dX6_computedMinutes_12 (fun H locs hN _ hu hS => ?_)
  refine lv_istore_n (lv' := [(3, .int z8), (2, .int (N (2 + 1 * a1.toNatClampNeg) 5)), (0, .ref (b + 0)), (1, .int a1)]) hx hb dX6_computedMinutes_15 rfl hl (by decide) rfl (fun ls hl => ?_)
  refine lv_iload_n hx hb dX6_computedMinutes_16 rfl (lv_at hl 0 rfl) ?_
  refine lv_if_ge (tgt := 22) hx hb dX6_computedMinutes_17 (by decide) (fun c10 => ?_) (fun c10 => ?_)
  · rw [if_pos c10] at hf
    refine lv_aload_n hx hb dX6_computedMinutes_22 rfl (lv_at hl 2 rfl) ?_
    refine w_get (k := 0) (v := .int (N 0 5)) hx hb hw hown hE fl_X6_36 hN (by decide) rfl rfl rfl dX6_computedMinutes_23 ?_
    refine lv_aload_n hx hb dX6_computedMinutes_26 rfl (lv_at hl 2 rfl) ?_
    refine w_get (k := 0) (v := .ref (b + 1)) hx hb hw hown hE fl_X6_11 hN (by decide) rfl rfl rfl dX6_computedMinutes_27 ?_
    refine lv_iload_n hx hb dX6_computedMinutes_30 rfl (lv_at hl 0 rfl) ?_
    obtain ⟨h11, hf⟩ := gd_some hf
    refine w_aald (k := 1) (j := 0) (x9 := z8.toNatClampNeg) hx hb hE hN (by decide) rfl rfl rfl h11 dX6_computedMinutes_31 ?_
    refine w_get (k := (2 + 1 * z8.toNatClampNeg)) (v := .int (N (2 + 1 * z8.toNatClampNeg) 7)) hx hb hw hown hE fl_X6_121 hN (stn_lt (stn_ld h11)) (stn_sh (stn_ld h11)) rfl rfl dX6_computedMinutes_32 ?_
    refine lv_isub hx hb dX6_computedMinutes_35 ?_
    refine lv_istore (lv' := [(4, .int ((N 0 5) - (N (2 + 1 * z8.toNatClampNeg) 7))), (3, .int z8), (2, .int (N (2 + 1 * a1.toNatClampNeg) 5)), (0, .ref (b + 0)), (1, .int a1)]) hx hb dX6_computedMinutes_36 hl (by decide) rfl (fun ls hl => ?_)
    refine lv_iconst (v := 1) hx hb dX6_computedMinutes_38 (by decide) ?_
    refine lv_aload_n hx hb dX6_computedMinutes_39 rfl (lv_at hl 3 rfl) ?_
    refine w_get (k := 0) (v := .int (N 0 6)) hx hb hw hown hE fl_X6_39 hN (by decide) rfl rfl rfl dX6_computedMinutes_40 ?_
    refine lv_iload hx hb dX6_computedMinutes_43 (lv_at hl 0 rfl) ?_
    refine lv_isub hx hb dX6_computedMinutes_45 ?_
    refine va_mmax hx hb (hml.trans hl.1.symm) hown (hw _ (pm_X6_181 _ (by simp))) (hw _ (pm_X6_181 _ (by simp))) (hw _ (pm_X6_181 _ (by simp))) (hw _ (pm_X6_181 _ (by simp))) (by decide) (Nat.le_of_ble_eq_true rfl) (Nat.zero_le _) (Nat.zero_le _) dX6_computedMinutes_46 ?_
    refine lv_istore (lv' := [(5, .int (if (1 : Int32) < ((N 0 6) - ((N 0 5) - (N (2 + 1 * z8.toNatClampNeg) 7))) then ((N 0 6) - ((N 0 5) - (N (2 + 1 * z8.toNatClampNeg) 7))) else (1 : Int32))), (4, .int ((N 0 5) - (N (2 + 1 * z8.toNatClampNeg) 7))), (3, .int z8), (2, .int (N (2 + 1 * a1.toNatClampNeg) 5)), (0, .ref (b + 0)), (1, .int a1)]) hx hb dX6_computedMinutes_49 hl (by decide) rfl (fun ls hl => ?_)
    refine lv_iconst (v := 0) hx hb dX6_computedMinutes_51 (by decide) ?_
    refine lv_istore (lv' := [(6, .int 0), (5, .int (if (1 : Int32) < ((N 0 6) - ((N 0 5) - (N (2 + 1 * z8.toNatClampNeg) 7))) then ((N 0 6) - ((N 0 5) - (N (2 + 1 * z8.toNatClampNeg) 7))) else (1 : Int32))), (4, .int ((N 0 5) - (N (2 + 1 * z8.toNatClampNeg) 7))), (3, .int z8), (2, .int (N (2 + 1 * a1.toNatClampNeg) 5)), (0, .ref (b + 0)), (1, .int a1)]) hx hb dX6_computedMinutes_52 hl (by decide) rfl (fun ls hl => ?_)
    obtain ⟨fu, hfu⟩ := lp_some hf
    exact (loop fu ((N (2 + 1 * a1.toNatClampNeg) 5), z8, ((N 0 5) - (N (2 + 1 * z8.toNatClampNeg) 7)), (if (1 : Int32) < ((N 0 6) - ((N 0 5) - (N (2 + 1 * z8.toNatClampNeg) 7))) then ((N 0 6) - ((N 0 5) - (N (2 + 1 * z8.toNatClampNeg) 7))) else (1 : Int32)), 0) hfu) _ _ _ hN hS (lv_sub hl [5, 6, 4, 3, 2, 1, 0] rfl)
  · rw [if_neg c10] at hf
    refine lv_iconst (v := -1) hx hb dX6_computedMinutes_20 (by decide) ?_
    have hre := Option.some.inj hf
    subst hre
    exact mu_i (v := -1) hx hb hrt hlocks hN hS dX6_computedMinutes_21
noncomputable def fX6_jamsOfStations_s (N : Mem) (z : Nat × Int32 × Int32 × Int32) : Option ((Nat × Int32 × Int32 × Int32) ⊕ (Int32)) := (if z.1 = 0 then (if (N 0 1) ≤ z.2.2.1 then some (.inr z.2.1) else some (.inl (1, z.2.1, z.2.2.1, 0))) else (if (N 0 1) ≤ z.2.2.2 then some (.inl (0, z.2.1, (z.2.2.1 + 1), 0)) else gd (inb z.2.2.1 8) (gd (inb z.2.2.2 8) ((fX9_disturbs N (2 + 1 * z.2.2.1.toNatClampNeg) (2 + 1 * z.2.2.2.toNatClampNeg)).bind fun z5 => (if z5 = 0 then some (.inl (1, z.2.1, z.2.2.1, (z.2.2.2 + 1))) else some (.inl (1, (z.2.1 + 1), z.2.2.1, (z.2.2.2 + 1))))))))
noncomputable def fX6_jamsOfStations (N : Mem) : Option (Int32) := lp (fX6_jamsOfStations_s N) (0, 0, 0, 0)
set_option maxHeartbeats 4000000 in
set_option maxRecDepth 100000 in
theorem mX6_jamsOfStations (l : Launch) (E : EP) (B0 : Nat) (b : Nat) (hb0 : B0 ≤ b) (N : Mem) (r : Int32) (hf : fX6_jamsOfStations N = some r) : MU l E B0 yX6_jamsOfStations cX6_jamsOfStations 4 (some .int) 2 0 0 [.ref (b + 0)] (Blk E b netSh 15 N) (some (.int r)) (Blk E b netSh 15 N) nv := by
  refine mu_of (by decide +kernel) (Nat.le_of_ble_eq_true rfl) ?_
  intro p e s m args below meth c hx hb hml hown hts hrt hlocks hE H hN hS ls hl
  have hown : s.vm.findClass RX6 = some m.cls := hown
  have hl : lv_has ls 4 [(0, .ref (b + 0))] := hl
  have hw : ∀ w ∈ WA, w.before args s = true := fun w h => hts w (List.mem_cons_of_mem _ h)
  have hAB : ∀ q, nv q → B0 ≤ q := fun _ h => h.elim
  unfold fX6_jamsOfStations at hf
  have loop : ∀ (fu : Nat) (z : Nat × Int32 × Int32 × Int32), lpI (fX6_jamsOfStations_s N) fu z = some r → (∀ (H : Heap) (locs : List Loc) (ls : Array Slot), z.1 = 0 → Blk E b netSh 15 N H → va_S nv s.heap H locs → lv_has ls 4 [(0, .ref (b + 0)), (1, .int z.2.1), (2, .int z.2.2.1)] → W p l e (rmD 2 0 0) s m args below meth c H locs 0 0 (MQ below (QU (some (.int r)) (Blk E b netSh 15 N) nv) args s 0 0 nv) (F0 m 4 ls [])) ∧ (∀ (H : Heap) (locs : List Loc) (ls : Array Slot), z.1 = 1 → Blk E b netSh 15 N H → va_S nv s.heap H locs → lv_has ls 4 [(0, .ref (b + 0)), (1, .int z.2.1), (2, .int z.2.2.1), (3, .int z.2.2.2)] → W p l e (rmD 2 0 0) s m args below meth c H locs 0 0 (MQ below (QU (some (.int r)) (Blk E b netSh 15 N) nv) args s 0 0 nv) (F0 m 14 ls [])) := by
    intro fu
    induction fu with
    | zero =>
      intro z hn
      exact nomatch hn
    | succ fu ih =>
      intro z hn
      obtain ⟨y, hf, hy⟩ := lpI_succ hn
      refine ⟨?_, ?_⟩
      · intro H locs ls hz hN hS hl
        unfold fX6_jamsOfStations_s at hf
        rw [if_pos hz] at hf
        refine lv_iload_n hx hb dX6_jamsOfStations_4 rfl (lv_at hl 2 rfl) ?_
        refine lv_aload_n hx hb dX6_jamsOfStations_5 rfl (lv_at hl 0 rfl) ?_
        refine w_get (k := 0) (v := .int (N 0 1)) hx hb hw hown hE fl_X6_18 hN (by decide) rfl rfl rfl dX6_jamsOfStations_6 ?_
        refine lv_icmp_ge (tgt := 55) hx hb dX6_jamsOfStations_9 (by decide) (fun c1 => ?_) (fun c1 => ?_)
        · rw [if_pos c1] at hf
          refine lv_iload_n hx hb dX6_jamsOfStations_55 rfl (lv_at hl 1 rfl) ?_
          have hre := lp_end hy (Option.some.inj hf).symm
          subst hre
          exact mu_i (v := z.2.1) hx hb hrt hlocks hN hS dX6_jamsOfStations_56
        · rw [if_neg c1] at hf
          refine lv_iconst (v := 0) hx hb dX6_jamsOfStations_12 (by decide) ?_
          refine lv_istore_n (lv' := [(3, .int 0), (0, .ref (b + 0)), (1, .int z.2.1), (2, .int z.2.2.1)]) hx hb dX6_jamsOfStations_13 rfl hl (by decide) rfl (fun ls hl => ?_)
          exact (ih (1, z.2.1, z.2.2.1, 0) (lp_back hy (Option.some.inj hf).symm)).2 _ _ _ rfl hN hS (lv_sub hl [1, 2, 3, 0] rfl)
      · intro H locs ls hz hN hS hl
        unfold fX6_jamsOfStations_s at hf
        rw [if_neg (by rw [hz]; decide)] at hf
        refine lv_iload_n hx hb dX6_jamsOfStations_14 rfl (lv_at hl 3 rfl) ?_
        refine lv_aload_n hx hb dX6_jamsOfStations_15 rfl (lv_at hl 0 rfl) ?_
        refine w_get (k := 0) (v := .int (N 0 1)) hx hb hw hown hE fl_X6_18 hN (by decide) rfl rfl rfl dX6_jamsOfStations_16 ?_
        refine lv_icmp_ge (tgt := 49) hx hb dX6_jamsOfStations_19 (by decide) (fun c2 => ?_) (fun c2 => ?_)
        · rw [if_pos c2] at hf
          refine lv_iinc (v := (z.2.2.1 + 1)) (lv' := [(2, .int (z.2.2.1 + 1)), (0, .ref (b + 0)), (1, .int z.2.1), (3, .int z.2.2.2)]) hx hb dX6_jamsOfStations_49 hl (k := 2) rfl rfl (by decide) rfl (fun ls hl => ?_)
          refine lv_goto (tgt := 4) hx hb dX6_jamsOfStations_52 (by decide) ?_
          exact (ih (0, z.2.1, (z.2.2.1 + 1), 0) (lp_back hy (Option.some.inj hf).symm)).1 _ _ _ rfl hN hS (lv_sub hl [1, 2, 0] rfl)
        · rw [if_neg c2] at hf
          refine lv_aload_n hx hb dX6_jamsOfStations_22 rfl (lv_at hl 0 rfl) ?_
          refine w_get (k := 0) (v := .ref (b + 1)) hx hb hw hown hE fl_X6_11 hN (by decide) rfl rfl rfl dX6_jamsOfStations_23 ?_
          refine lv_iload_n hx hb dX6_jamsOfStations_26 rfl (lv_at hl 2 rfl) ?_
          obtain ⟨h3, hf⟩ := gd_some hf
          refine w_aald (k := 1) (j := 0) (x9 := z.2.2.1.toNatClampNeg) hx hb hE hN (by decide) rfl rfl rfl h3 dX6_jamsOfStations_27 ?_
          refine lv_aload_n hx hb dX6_jamsOfStations_28 rfl (lv_at hl 0 rfl) ?_
          refine w_get (k := 0) (v := .ref (b + 1)) hx hb hw hown hE fl_X6_11 hN (by decide) rfl rfl rfl dX6_jamsOfStations_29 ?_
          refine lv_iload_n hx hb dX6_jamsOfStations_32 rfl (lv_at hl 3 rfl) ?_
          obtain ⟨h4, hf⟩ := gd_some hf
          refine w_aald (k := 1) (j := 0) (x9 := z.2.2.2.toNatClampNeg) hx hb hE hN (by decide) rfl rfl rfl h4 dX6_jamsOfStations_33 ?_
          obtain ⟨z5, hc6, hf⟩ := br_some hf
          refine mu_cV (As := [.ref (b + (2 + 1 * z.2.2.2.toNatClampNeg))]) (rest := []) hx hb hml hown hts hE (mX9_disturbs l E B0 b (by omega) N (2 + 1 * z.2.2.1.toNatClampNeg) (2 + 1 * z.2.2.2.toNatClampNeg) z5 hc6) cv_X6_186 (w_recv (k := (2 + 1 * z.2.2.1.toNatClampNeg)) (ci := 9) hE hN (stn_lt (stn_ld h3)) (stn_sh (stn_ld h3)) rfl) hN hS hAB (fun _ h => h.elim) rfl hl.1 rfl (by decide) (Nat.le_of_ble_eq_true rfl) ⟨Nat.le_refl _, Nat.le_refl _⟩ dX6_jamsOfStations_34 (fun H locs hN _ hu hS => ?_)
          refine lv_if_eq (tgt := 43) hx hb dX6_jamsOfStations_37 (by decide) (fun c7 => ?_) (fun c7 => ?_)
          · rw [if_pos c7] at hf
            refine lv_iinc (v := (z.2.2.2 + 1)) (lv' := [(3, .int (z.2.2.2 + 1)), (0, .ref (b + 0)), (1, .int z.2.1), (2, .int z.2.2.1)]) hx hb dX6_jamsOfStations_43 hl (k := 3) rfl rfl (by decide) rfl (fun ls hl => ?_)
            refine lv_goto (tgt := 14) hx hb dX6_jamsOfStations_46 (by decide) ?_
            exact (ih (1, z.2.1, z.2.2.1, (z.2.2.2 + 1)) (lp_back hy (Option.some.inj hf).symm)).2 _ _ _ rfl hN hS (lv_sub hl [1, 2, 3, 0] rfl)
          · rw [if_neg c7] at hf
            refine lv_iinc (v := (z.2.1 + 1)) (lv' := [(1, .int (z.2.1 + 1)), (0, .ref (b + 0)), (2, .int z.2.2.1), (3, .int z.2.2.2)]) hx hb dX6_jamsOfStations_40 hl (k := 1) rfl rfl (by decide) rfl (fun ls hl => ?_)
            refine lv_iinc (v := (z.2.2.2 + 1)) (lv' := [(3, .int (z.2.2.2 + 1)), (1, .int (z.2.1 + 1)), (0, .ref (b + 0)), (2, .int z.2.2.1)]) hx hb dX6_jamsOfStations_43 hl (k := 3) rfl rfl (by decide) rfl (fun ls hl => ?_)
            refine lv_goto (tgt := 14) hx hb dX6_jamsOfStations_46 (by decide) ?_
            exact (ih (1, (z.2.1 + 1), z.2.2.1, (z.2.2.2 + 1)) (lp_back hy (Option.some.inj hf).symm)).2 _ _ _ rfl hN hS (lv_sub hl [2, 1, 3, 0] rfl)
  refine lv_iconst (v := 0) hx hb dX6_jamsOfStations_0 (by decide) ?_
  refine lv_istore_n (lv' := [(1, .int 0), (0, .ref (b + 0))]) hx hb dX6_jamsOfStations_1 rfl hl (by decide) rfl (fun ls hl => ?_)
  refine lv_iconst (v := 0) hx hb dX6_jamsOfStations_2 (by decide) ?_
  refine lv_istore_n (lv' := [(2, .int 0), (1, .int 0), (0, .ref (b + 0))]) hx hb dX6_jamsOfStations_3 rfl hl (by decide) rfl (fun ls hl => ?_)
  obtain ⟨fu, hfu⟩ := lp_some hf
  exact (loop fu (0, 0, 0, 0) hfu).1 _ _ _ rfl hN hS (lv_sub hl [2, 1, 0] rfl)
noncomputable def fX6_jamsBetween_s (N : Mem) (a1 : Int32) (a2 : Int32) (z : Int32 × Int32 × Int32) : Option ((Int32 × Int32 × Int32) ⊕ (Int32)) := (if (N 0 1) ≤ z.2.2 then some (.inr z.2.1) else (if z.1 < 0 then some (.inr z.2.1) else gd (inb z.2.2 8) ((if (N (2 + 1 * z.2.2.toNatClampNeg) 5) = a2 then gd (inb z.1 8) (gd (inb z.2.2 8) ((fX9_disturbs N (2 + 1 * z.1.toNatClampNeg) (2 + 1 * z.2.2.toNatClampNeg)).bind fun z7 => (if z7 = 0 then some (.inl (z.1, z.2.1, (z.2.2 + 1))) else some (.inl (z.1, (z.2.1 + 1), (z.2.2 + 1)))))) else some (.inl (z.1, z.2.1, (z.2.2 + 1)))))))
noncomputable def fX6_jamsBetween (N : Mem) (a1 : Int32) (a2 : Int32) : Option (Int32) := (fX6_speakerOn N a1).bind fun z10 => lp (fX6_jamsBetween_s N a1 a2) (z10, 0, 0)
set_option maxHeartbeats 4000000 in
set_option maxRecDepth 100000 in
theorem mX6_jamsBetween (l : Launch) (E : EP) (B0 : Nat) (b : Nat) (hb0 : B0 ≤ b) (N : Mem) (a1 : Int32) (a2 : Int32) (r : Int32) (hf : fX6_jamsBetween N a1 a2 = some r) : MU l E B0 yX6_jamsBetween cX6_jamsBetween 6 (some .int) 2 0 0 [.ref (b + 0), .int a1, .int a2] (Blk E b netSh 15 N) (some (.int r)) (Blk E b netSh 15 N) nv := by
  refine mu_of (by decide +kernel) (Nat.le_of_ble_eq_true rfl) ?_
  intro p e s m args below meth c hx hb hml hown hts hrt hlocks hE H hN hS ls hl
  have hown : s.vm.findClass RX6 = some m.cls := hown
  have hl : lv_has ls 6 [(0, .ref (b + 0)), (1, .int a1), (2, .int a2)] := hl
  have hw : ∀ w ∈ WA, w.before args s = true := fun w h => hts w (List.mem_cons_of_mem _ h)
  have hAB : ∀ q, nv q → B0 ≤ q := fun _ h => h.elim
  unfold fX6_jamsBetween at hf
  have loop : ∀ (fu : Nat) (z : Int32 × Int32 × Int32), lpI (fX6_jamsBetween_s N a1 a2) fu z = some r → (∀ (H : Heap) (locs : List Loc) (ls : Array Slot), Blk E b netSh 15 N H → va_S nv s.heap H locs → lv_has ls 6 [(0, .ref (b + 0)), (1, .int a1), (2, .int a2), (3, .int z.1), (4, .int z.2.1), (5, .int z.2.2)] → W p l e (rmD 2 0 0) s m args below meth c H locs 0 0 (MQ below (QU (some (.int r)) (Blk E b netSh 15 N) nv) args s 0 0 nv) (F0 m 12 ls [])) := by
    intro fu
    induction fu with
    | zero =>
      intro z hn
      exact nomatch hn
    | succ fu ih =>
      intro z hn
      obtain ⟨y, hf, hy⟩ := lpI_succ hn
      intro H locs ls hN hS hl
      unfold fX6_jamsBetween_s at hf
      refine lv_iload hx hb dX6_jamsBetween_12 (lv_at hl 5 rfl) ?_
      refine lv_aload_n hx hb dX6_jamsBetween_14 rfl (lv_at hl 0 rfl) ?_
      refine w_get (k := 0) (v := .int (N 0 1)) hx hb hw hown hE fl_X6_18 hN (by decide) rfl rfl rfl dX6_jamsBetween_15 ?_
      refine lv_icmp_ge (tgt := 67) hx hb dX6_jamsBetween_18 (by decide) (fun c1 => ?_) (fun c1 => ?_)
      · rw [if_pos c1] at hf
        refine lv_iload hx hb dX6_jamsBetween_67 (lv_at hl 4 rfl) ?_
        have hre := lp_end hy (Option.some.inj hf).symm
        subst hre
        exact mu_i (v := z.2.1) hx hb hrt hlocks hN hS dX6_jamsBetween_69
      · rw [if_neg c1] at hf
        refine lv_iload_n hx hb dX6_jamsBetween_21 rfl (lv_at hl 3 rfl) ?_
        refine lv_if_lt (tgt := 67) hx hb dX6_jamsBetween_22 (by decide) (fun c2 => ?_) (fun c2 => ?_)
        · rw [if_pos c2] at hf
          refine lv_iload hx hb dX6_jamsBetween_67 (lv_at hl 4 rfl) ?_
          have hre := lp_end hy (Option.some.inj hf).symm
          subst hre
          exact mu_i (v := z.2.1) hx hb hrt hlocks hN hS dX6_jamsBetween_69
        · rw [if_neg c2] at hf
          refine lv_aload_n hx hb dX6_jamsBetween_25 rfl (lv_at hl 0 rfl) ?_
          refine w_get (k := 0) (v := .ref (b + 1)) hx hb hw hown hE fl_X6_11 hN (by decide) rfl rfl rfl dX6_jamsBetween_26 ?_
          refine lv_iload hx hb dX6_jamsBetween_29 (lv_at hl 5 rfl) ?_
          obtain ⟨h3, hf⟩ := gd_some hf
          refine w_aald (k := 1) (j := 0) (x9 := z.2.2.toNatClampNeg) hx hb hE hN (by decide) rfl rfl rfl h3 dX6_jamsBetween_31 ?_
          refine w_get (k := (2 + 1 * z.2.2.toNatClampNeg)) (v := .int (N (2 + 1 * z.2.2.toNatClampNeg) 5)) hx hb hw hown hE fl_X6_118 hN (stn_lt (stn_ld h3)) (stn_sh (stn_ld h3)) rfl rfl dX6_jamsBetween_32 ?_
          refine lv_iload_n hx hb dX6_jamsBetween_35 rfl (lv_at hl 2 rfl) ?_
          refine lv_icmp_ne (tgt := 61) hx hb dX6_jamsBetween_36 (by decide) (fun c4 => ?_) (fun c4 => ?_)
          · rw [if_neg c4] at hf
            refine lv_iinc (v := (z.2.2 + 1)) (lv' := [(5, .int (z.2.2 + 1)), (0, .ref (b + 0)), (1, .int a1), (2, .int a2), (3, .int z.1), (4, .int z.2.1)]) hx hb dX6_jamsBetween_61 hl (k := 5) rfl rfl (by decide) rfl (fun ls hl => ?_)
            refine lv_goto (tgt := 12) hx hb dX6_jamsBetween_64 (by decide) ?_
            exact ih (z.1, z.2.1, (z.2.2 + 1)) (lp_back hy (Option.some.inj hf).symm) _ _ _ hN hS (lv_sub hl [1, 2, 3, 4, 5, 0] rfl)
          · rw [if_pos c4] at hf
            refine lv_aload_n hx hb dX6_jamsBetween_39 rfl (lv_at hl 0 rfl) ?_
            refine w_get (k := 0) (v := .ref (b + 1)) hx hb hw hown hE fl_X6_11 hN (by decide) rfl rfl rfl dX6_jamsBetween_40 ?_
            refine lv_iload_n hx hb dX6_jamsBetween_43 rfl (lv_at hl 3 rfl) ?_
            obtain ⟨h5, hf⟩ := gd_some hf
            refine w_aald (k := 1) (j := 0) (x9 := z.1.toNatClampNeg) hx hb hE hN (by decide) rfl rfl rfl h5 dX6_jamsBetween_44 ?_
            refine lv_aload_n hx hb dX6_jamsBetween_45 rfl (lv_at hl 0 rfl) ?_
            refine w_get (k := 0) (v := .ref (b + 1)) hx hb hw hown hE fl_X6_11 hN (by decide) rfl rfl rfl dX6_jamsBetween_46 ?_
            refine lv_iload hx hb dX6_jamsBetween_49 (lv_at hl 5 rfl) ?_
            obtain ⟨h6, hf⟩ := gd_some hf
            refine w_aald (k := 1) (j := 0) (x9 := z.2.2.toNatClampNeg) hx hb hE hN (by decide) rfl rfl rfl h6 dX6_jamsBetween_51 ?_
            obtain ⟨z7, hc8, hf⟩ := br_some hf
            refine mu_cV (As := [.ref (b + (2 + 1 * z.2.2.toNatClampNeg))]) (rest := []) hx hb hml hown hts hE (mX9_disturbs l E B0 b (by omega) N (2 + 1 * z.1.toNatClampNeg) (2 + 1 * z.2.2.toNatClampNeg) z7 hc8) cv_X6_186 (w_recv (k := (2 + 1 * z.1.toNatClampNeg)) (ci := 9) hE hN (stn_lt (stn_ld h5)) (stn_sh (stn_ld h5)) rfl) hN hS hAB (fun _ h => h.elim) rfl hl.1 rfl (by decide) (Nat.le_of_ble_eq_true rfl) ⟨Nat.le_refl _, Nat.le_refl _⟩ dX6_jamsBetween_52 (fun H locs hN _ hu hS => ?_)
            refine lv_if_eq (tgt := 61) hx hb dX6_jamsBetween_55 (by decide) (fun c9 => ?_) (fun c9 => ?_)
            · rw [if_pos c9] at hf
              refine lv_iinc (v := (z.2.2 + 1)) (lv' := [(5, .int (z.2.2 + 1)), (0, .ref (b + 0)), (1, .int a1), (2, .int a2), (3, .int z.1), (4, .int z.2.1)]) hx hb dX6_jamsBetween_61 hl (k := 5) rfl rfl (by decide) rfl (fun ls hl => ?_)
              refine lv_goto (tgt := 12) hx hb dX6_jamsBetween_64 (by decide) ?_
              exact ih (z.1, z.2.1, (z.2.2 + 1)) (lp_back hy (Option.some.inj hf).symm) _ _ _ hN hS (lv_sub hl [1, 2, 3, 4, 5, 0] rfl)
            · rw [if_neg c9] at hf
              refine lv_iinc (v := (z.2.1 + 1)) (lv' := [(4, .int (z.2.1 + 1)), (0, .ref (b + 0)), (1, .int a1), (2, .int a2), (3, .int z.1), (5, .int z.2.2)]) hx hb dX6_jamsBetween_58 hl (k := 4) rfl rfl (by decide) rfl (fun ls hl => ?_)
              refine lv_iinc (v := (z.2.2 + 1)) (lv' := [(5, .int (z.2.2 + 1)), (4, .int (z.2.1 + 1)), (0, .ref (b + 0)), (1, .int a1), (2, .int a2), (3, .int z.1)]) hx hb dX6_jamsBetween_61 hl (k := 5) rfl rfl (by decide) rfl (fun ls hl => ?_)
              refine lv_goto (tgt := 12) hx hb dX6_jamsBetween_64 (by decide) ?_
              exact ih (z.1, (z.2.1 + 1), (z.2.2 + 1)) (lp_back hy (Option.some.inj hf).symm) _ _ _ hN hS (lv_sub hl [2, 3, 4, 5, 1, 0] rfl)
  refine lv_aload_n hx hb dX6_jamsBetween_0 rfl (lv_at hl 0 rfl) ?_
  refine lv_iload_n hx hb dX6_jamsBetween_1 rfl (lv_at hl 1 rfl) ?_
  obtain ⟨z10, hc11, hf⟩ := br_some hf
  refine mu_cV (As := [.int a1]) (rest := []) hx hb hml hown hts hE (mX6_speakerOn l E B0 b (by omega) N a1 z10 hc11) cv_X6_134 (w_recv (k := 0) (ci := 6) hE hN (by decide) rfl rfl) hN hS hAB (fun _ h => h.elim) rfl hl.1 rfl (by decide) (Nat.le_of_ble_eq_true rfl) ⟨Nat.le_refl _, Nat.le_refl _⟩ dX6_jamsBetween_2 (fun H locs hN _ hu hS => ?_)
  refine lv_istore_n (lv' := [(3, .int z10), (0, .ref (b + 0)), (1, .int a1), (2, .int a2)]) hx hb dX6_jamsBetween_5 rfl hl (by decide) rfl (fun ls hl => ?_)
  refine lv_iconst (v := 0) hx hb dX6_jamsBetween_6 (by decide) ?_
  refine lv_istore (lv' := [(4, .int 0), (3, .int z10), (0, .ref (b + 0)), (1, .int a1), (2, .int a2)]) hx hb dX6_jamsBetween_7 hl (by decide) rfl (fun ls hl => ?_)
  refine lv_iconst (v := 0) hx hb dX6_jamsBetween_9 (by decide) ?_
  refine lv_istore (lv' := [(5, .int 0), (4, .int 0), (3, .int z10), (0, .ref (b + 0)), (1, .int a1), (2, .int a2)]) hx hb dX6_jamsBetween_10 hl (by decide) rfl (fun ls hl => ?_)
  obtain ⟨fu, hfu⟩ := lp_some hf
  exact (loop fu (z10, 0, 0) hfu) _ _ _ hN hS (lv_sub hl [3, 4, 5, 2, 1, 0] rfl)
noncomputable def fX6_jamsOfChannels_s (N : Mem) (z : Int32 × Int32) : Option ((Int32 × Int32) ⊕ (Int32)) := (if (10 : Int32) ≤ (z.2 + 1) then some (.inr z.1) else (fX6_jamsBetween N z.2 (z.2 + 1)).bind fun z2 => (fX6_jamsBetween N (z.2 + 1) z.2).bind fun z4 => some (.inl (((z.1 + z2) + z4), (z.2 + 1))))
noncomputable def fX6_jamsOfChannels (N : Mem) : Option (Int32) := lp (fX6_jamsOfChannels_s N) (0, 0)
set_option maxHeartbeats 4000000 in
set_option maxRecDepth 100000 in
theorem mX6_jamsOfChannels (l : Launch) (E : EP) (B0 : Nat) (b : Nat) (hb0 : B0 ≤ b) (N : Mem) (r : Int32) (hf : fX6_jamsOfChannels N = some r) : MU l E B0 yX6_jamsOfChannels cX6_jamsOfChannels 3 (some .int) 3 0 0 [.ref (b + 0)] (Blk E b netSh 15 N) (some (.int r)) (Blk E b netSh 15 N) nv := by
  refine mu_of (by decide +kernel) (Nat.le_of_ble_eq_true rfl) ?_
  intro p e s m args below meth c hx hb hml hown hts hrt hlocks hE H hN hS ls hl
  have hown : s.vm.findClass RX6 = some m.cls := hown
  have hl : lv_has ls 3 [(0, .ref (b + 0))] := hl
  have hw : ∀ w ∈ WA, w.before args s = true := fun w h => hts w (List.mem_cons_of_mem _ h)
  have hAB : ∀ q, nv q → B0 ≤ q := fun _ h => h.elim
  unfold fX6_jamsOfChannels at hf
  have loop : ∀ (fu : Nat) (z : Int32 × Int32), lpI (fX6_jamsOfChannels_s N) fu z = some r → (∀ (H : Heap) (locs : List Loc) (ls : Array Slot), Blk E b netSh 15 N H → va_S nv s.heap H locs → lv_has ls 3 [(0, .ref (b + 0)), (1, .int z.1), (2, .int z.2)] → W p l e (rmD 3 0 0) s m args below meth c H locs 0 0 (MQ below (QU (some (.int r)) (Blk E b netSh 15 N) nv) args s 0 0 nv) (F0 m 4 ls [])) := by
    intro fu
    induction fu with
    | zero =>
      intro z hn
      exact nomatch hn
    | succ fu ih =>
      intro z hn
      obtain ⟨y, hf, hy⟩ := lpI_succ hn
      intro H locs ls hN hS hl
      unfold fX6_jamsOfChannels_s at hf
      refine lv_iload_n hx hb dX6_jamsOfChannels_4 rfl (lv_at hl 2 rfl) ?_
      refine lv_iconst (v := 1) hx hb dX6_jamsOfChannels_5 (by decide) ?_
      refine lv_iadd hx hb dX6_jamsOfChannels_6 ?_
      refine lv_bipush (v := 10) hx hb dX6_jamsOfChannels_7 (by decide) ?_
      refine lv_icmp_ge (tgt := 40) hx hb dX6_jamsOfChannels_9 (by decide) (fun c1 => ?_) (fun c1 => ?_)
      · rw [if_pos c1] at hf
        refine lv_iload_n hx hb dX6_jamsOfChannels_40 rfl (lv_at hl 1 rfl) ?_
        have hre := lp_end hy (Option.some.inj hf).symm
        subst hre
        exact mu_i (v := z.1) hx hb hrt hlocks hN hS dX6_jamsOfChannels_41
      · rw [if_neg c1] at hf
        refine lv_iload_n hx hb dX6_jamsOfChannels_12 rfl (lv_at hl 1 rfl) ?_
        refine lv_aload_n hx hb dX6_jamsOfChannels_13 rfl (lv_at hl 0 rfl) ?_
        refine lv_iload_n hx hb dX6_jamsOfChannels_14 rfl (lv_at hl 2 rfl) ?_
        refine lv_iload_n hx hb dX6_jamsOfChannels_15 rfl (lv_at hl 2 rfl) ?_
        refine lv_iconst (v := 1) hx hb dX6_jamsOfChannels_16 (by decide) ?_
        refine lv_iadd hx hb dX6_jamsOfChannels_17 ?_
        obtain ⟨z2, hc3, hf⟩ := br_some hf
        refine mu_cV (As := [.int z.2, .int (z.2 + 1)]) (rest := [.int z.1]) hx hb hml hown hts hE (mX6_jamsBetween l E B0 b (by omega) N z.2 (z.2 + 1) z2 hc3) cv_X6_189 (w_recv (k := 0) (ci := 6) hE hN (by decide) rfl rfl) hN hS hAB (fun _ h => h.elim) rfl hl.1 rfl (by decide) (Nat.le_of_ble_eq_true rfl) ⟨Nat.le_refl _, Nat.le_refl _⟩ dX6_jamsOfChannels_18 (fun H locs hN _ hu hS => ?_)
        refine lv_iadd hx hb dX6_jamsOfChannels_21 ?_
        refine lv_istore_n (lv' := [(1, .int (z.1 + z2)), (0, .ref (b + 0)), (2, .int z.2)]) hx hb dX6_jamsOfChannels_22 rfl hl (by decide) rfl (fun ls hl => ?_)
        refine lv_iload_n hx hb dX6_jamsOfChannels_23 rfl (lv_at hl 0 rfl) ?_
        refine lv_aload_n hx hb dX6_jamsOfChannels_24 rfl (lv_at hl 1 rfl) ?_
        refine lv_iload_n hx hb dX6_jamsOfChannels_25 rfl (lv_at hl 2 rfl) ?_
        refine lv_iconst (v := 1) hx hb dX6_jamsOfChannels_26 (by decide) ?_
        refine lv_iadd hx hb dX6_jamsOfChannels_27 ?_
        refine lv_iload_n hx hb dX6_jamsOfChannels_28 rfl (lv_at hl 2 rfl) ?_
        obtain ⟨z4, hc5, hf⟩ := br_some hf
        refine mu_cV (As := [.int (z.2 + 1), .int z.2]) (rest := [.int (z.1 + z2)]) hx hb hml hown hts hE (mX6_jamsBetween l E B0 b (by omega) N (z.2 + 1) z.2 z4 hc5) cv_X6_189 (w_recv (k := 0) (ci := 6) hE hN (by decide) rfl rfl) hN hS hAB (fun _ h => h.elim) rfl hl.1 rfl (by decide) (Nat.le_of_ble_eq_true rfl) ⟨Nat.le_refl _, Nat.le_refl _⟩ dX6_jamsOfChannels_29 (fun H locs hN _ hu hS => ?_)
        refine lv_iadd hx hb dX6_jamsOfChannels_32 ?_
        refine lv_istore_n (lv' := [(1, .int ((z.1 + z2) + z4)), (0, .ref (b + 0)), (2, .int z.2)]) hx hb dX6_jamsOfChannels_33 rfl hl (by decide) rfl (fun ls hl => ?_)
        refine lv_iinc (v := (z.2 + 1)) (lv' := [(2, .int (z.2 + 1)), (1, .int ((z.1 + z2) + z4)), (0, .ref (b + 0))]) hx hb dX6_jamsOfChannels_34 hl (k := 2) rfl rfl (by decide) rfl (fun ls hl => ?_)
        refine lv_goto (tgt := 4) hx hb dX6_jamsOfChannels_37 (by decide) ?_
        exact ih (((z.1 + z2) + z4), (z.2 + 1)) (lp_back hy (Option.some.inj hf).symm) _ _ _ hN hS (lv_sub hl [2, 1, 0] rfl)
  refine lv_iconst (v := 0) hx hb dX6_jamsOfChannels_0 (by decide) ?_
  refine lv_istore_n (lv' := [(1, .int 0), (0, .ref (b + 0))]) hx hb dX6_jamsOfChannels_1 rfl hl (by decide) rfl (fun ls hl => ?_)
  refine lv_iconst (v := 0) hx hb dX6_jamsOfChannels_2 (by decide) ?_
  refine lv_istore_n (lv' := [(2, .int 0), (1, .int 0), (0, .ref (b + 0))]) hx hb dX6_jamsOfChannels_3 rfl hl (by decide) rfl (fun ls hl => ?_)
  obtain ⟨fu, hfu⟩ := lp_some hf
  exact (loop fu (0, 0) hfu) _ _ _ hN hS (lv_sub hl [2, 1, 0] rfl)
def fX6_sumOfPowers_s (N : Mem) (z : Int32 × Int32) : Option ((Int32 × Int32) ⊕ (Int32)) := (if (N 0 1) ≤ z.2 then some (.inr z.1) else gd (inb z.2 8) (some (.inl ((z.1 + (N (2 + 1 * z.2.toNatClampNeg) 4)), (z.2 + 1)))))
noncomputable def fX6_sumOfPowers (N : Mem) : Option (Int32) := lp (fX6_sumOfPowers_s N) (0, 0)
set_option maxHeartbeats 4000000 in
set_option maxRecDepth 100000 in
theorem mX6_sumOfPowers (l : Launch) (E : EP) (B0 : Nat) (b : Nat) (hb0 : B0 ≤ b) (N : Mem) (r : Int32) (hf : fX6_sumOfPowers N = some r) : MU l E B0 yX6_sumOfPowers cX6_sumOfPowers 3 (some .int) 0 0 0 [.ref (b + 0)] (Blk E b netSh 15 N) (some (.int r)) (Blk E b netSh 15 N) nv := by
  refine mu_of (by decide +kernel) (Nat.le_of_ble_eq_true rfl) ?_
  intro p e s m args below meth c hx hb hml hown hts hrt hlocks hE H hN hS ls hl
  have hown : s.vm.findClass RX6 = some m.cls := hown
  have hl : lv_has ls 3 [(0, .ref (b + 0))] := hl
  have hw : ∀ w ∈ WA, w.before args s = true := fun w h => hts w (List.mem_cons_of_mem _ h)
  have hAB : ∀ q, nv q → B0 ≤ q := fun _ h => h.elim
  unfold fX6_sumOfPowers at hf
  have loop : ∀ (fu : Nat) (z : Int32 × Int32), lpI (fX6_sumOfPowers_s N) fu z = some r → (∀ (H : Heap) (locs : List Loc) (ls : Array Slot), Blk E b netSh 15 N H → va_S nv s.heap H locs → lv_has ls 3 [(0, .ref (b + 0)), (1, .int z.1), (2, .int z.2)] → W p l e (rmD 0 0 0) s m args below meth c H locs 0 0 (MQ below (QU (some (.int r)) (Blk E b netSh 15 N) nv) args s 0 0 nv) (F0 m 4 ls [])) := by
    intro fu
    induction fu with
    | zero =>
      intro z hn
      exact nomatch hn
    | succ fu ih =>
      intro z hn
      obtain ⟨y, hf, hy⟩ := lpI_succ hn
      intro H locs ls hN hS hl
      unfold fX6_sumOfPowers_s at hf
      refine lv_iload_n hx hb dX6_sumOfPowers_4 rfl (lv_at hl 2 rfl) ?_
      refine lv_aload_n hx hb dX6_sumOfPowers_5 rfl (lv_at hl 0 rfl) ?_
      refine w_get (k := 0) (v := .int (N 0 1)) hx hb hw hown hE fl_X6_18 hN (by decide) rfl rfl rfl dX6_sumOfPowers_6 ?_
      refine lv_icmp_ge (tgt := 30) hx hb dX6_sumOfPowers_9 (by decide) (fun c1 => ?_) (fun c1 => ?_)
      · rw [if_pos c1] at hf
        refine lv_iload_n hx hb dX6_sumOfPowers_30 rfl (lv_at hl 1 rfl) ?_
        have hre := lp_end hy (Option.some.inj hf).symm
        subst hre
        exact mu_i (v := z.1) hx hb hrt hlocks hN hS dX6_sumOfPowers_31
      · rw [if_neg c1] at hf
        refine lv_iload_n hx hb dX6_sumOfPowers_12 rfl (lv_at hl 1 rfl) ?_
        refine lv_aload_n hx hb dX6_sumOfPowers_13 rfl (lv_at hl 0 rfl) ?_
        refine w_get (k := 0) (v := .ref (b + 1)) hx hb hw hown hE fl_X6_11 hN (by decide) rfl rfl rfl dX6_sumOfPowers_14 ?_
        refine lv_iload_n hx hb dX6_sumOfPowers_17 rfl (lv_at hl 2 rfl) ?_
        obtain ⟨h2, hf⟩ := gd_some hf
        refine w_aald (k := 1) (j := 0) (x9 := z.2.toNatClampNeg) hx hb hE hN (by decide) rfl rfl rfl h2 dX6_sumOfPowers_18 ?_
        refine w_get (k := (2 + 1 * z.2.toNatClampNeg)) (v := .int (N (2 + 1 * z.2.toNatClampNeg) 4)) hx hb hw hown hE fl_X6_115 hN (stn_lt (stn_ld h2)) (stn_sh (stn_ld h2)) rfl rfl dX6_sumOfPowers_19 ?_
        refine lv_iadd hx hb dX6_sumOfPowers_22 ?_
        refine lv_istore_n (lv' := [(1, .int (z.1 + (N (2 + 1 * z.2.toNatClampNeg) 4))), (0, .ref (b + 0)), (2, .int z.2)]) hx hb dX6_sumOfPowers_23 rfl hl (by decide) rfl (fun ls hl => ?_)
        refine lv_iinc (v := (z.2 + 1)) (lv' := [(2, .int (z.2 + 1)), (1, .int (z.1 + (N (2 + 1 * z.2.toNatClampNeg) 4))), (0, .ref (b + 0))]) hx hb dX6_sumOfPowers_24 hl (k := 2) rfl rfl (by decide) rfl (fun ls hl => ?_)
        refine lv_goto (tgt := 4) hx hb dX6_sumOfPowers_27 (by decide) ?_
        exact ih ((z.1 + (N (2 + 1 * z.2.toNatClampNeg) 4)), (z.2 + 1)) (lp_back hy (Option.some.inj hf).symm) _ _ _ hN hS (lv_sub hl [2, 1, 0] rfl)
  refine lv_iconst (v := 0) hx hb dX6_sumOfPowers_0 (by decide) ?_
  refine lv_istore_n (lv' := [(1, .int 0), (0, .ref (b + 0))]) hx hb dX6_sumOfPowers_1 rfl hl (by decide) rfl (fun ls hl => ?_)
  refine lv_iconst (v := 0) hx hb dX6_sumOfPowers_2 (by decide) ?_
  refine lv_istore_n (lv' := [(2, .int 0), (1, .int 0), (0, .ref (b + 0))]) hx hb dX6_sumOfPowers_3 rfl hl (by decide) rfl (fun ls hl => ?_)
  obtain ⟨fu, hfu⟩ := lp_some hf
  exact (loop fu (0, 0) hfu) _ _ _ hN hS (lv_sub hl [2, 1, 0] rfl)
def fX6_sumOfSpoken_s (N : Mem) (z : Int32 × Int32) : Option ((Int32 × Int32) ⊕ (Int32)) := (if (N 0 1) ≤ z.2 then some (.inr z.1) else gd (inb z.2 8) (some (.inl ((z.1 + (N (2 + 1 * z.2.toNatClampNeg) 8)), (z.2 + 1)))))
noncomputable def fX6_sumOfSpoken (N : Mem) : Option (Int32) := lp (fX6_sumOfSpoken_s N) (0, 0)
set_option maxHeartbeats 4000000 in
set_option maxRecDepth 100000 in
theorem mX6_sumOfSpoken (l : Launch) (E : EP) (B0 : Nat) (b : Nat) (hb0 : B0 ≤ b) (N : Mem) (r : Int32) (hf : fX6_sumOfSpoken N = some r) : MU l E B0 yX6_sumOfSpoken cX6_sumOfSpoken 3 (some .int) 0 0 0 [.ref (b + 0)] (Blk E b netSh 15 N) (some (.int r)) (Blk E b netSh 15 N) nv := by
  refine mu_of (by decide +kernel) (Nat.le_of_ble_eq_true rfl) ?_
  intro p e s m args below meth c hx hb hml hown hts hrt hlocks hE H hN hS ls hl
  have hown : s.vm.findClass RX6 = some m.cls := hown
  have hl : lv_has ls 3 [(0, .ref (b + 0))] := hl
  have hw : ∀ w ∈ WA, w.before args s = true := fun w h => hts w (List.mem_cons_of_mem _ h)
  have hAB : ∀ q, nv q → B0 ≤ q := fun _ h => h.elim
  unfold fX6_sumOfSpoken at hf
  have loop : ∀ (fu : Nat) (z : Int32 × Int32), lpI (fX6_sumOfSpoken_s N) fu z = some r → (∀ (H : Heap) (locs : List Loc) (ls : Array Slot), Blk E b netSh 15 N H → va_S nv s.heap H locs → lv_has ls 3 [(0, .ref (b + 0)), (1, .int z.1), (2, .int z.2)] → W p l e (rmD 0 0 0) s m args below meth c H locs 0 0 (MQ below (QU (some (.int r)) (Blk E b netSh 15 N) nv) args s 0 0 nv) (F0 m 4 ls [])) := by
    intro fu
    induction fu with
    | zero =>
      intro z hn
      exact nomatch hn
    | succ fu ih =>
      intro z hn
      obtain ⟨y, hf, hy⟩ := lpI_succ hn
      intro H locs ls hN hS hl
      unfold fX6_sumOfSpoken_s at hf
      refine lv_iload_n hx hb dX6_sumOfSpoken_4 rfl (lv_at hl 2 rfl) ?_
      refine lv_aload_n hx hb dX6_sumOfSpoken_5 rfl (lv_at hl 0 rfl) ?_
      refine w_get (k := 0) (v := .int (N 0 1)) hx hb hw hown hE fl_X6_18 hN (by decide) rfl rfl rfl dX6_sumOfSpoken_6 ?_
      refine lv_icmp_ge (tgt := 30) hx hb dX6_sumOfSpoken_9 (by decide) (fun c1 => ?_) (fun c1 => ?_)
      · rw [if_pos c1] at hf
        refine lv_iload_n hx hb dX6_sumOfSpoken_30 rfl (lv_at hl 1 rfl) ?_
        have hre := lp_end hy (Option.some.inj hf).symm
        subst hre
        exact mu_i (v := z.1) hx hb hrt hlocks hN hS dX6_sumOfSpoken_31
      · rw [if_neg c1] at hf
        refine lv_iload_n hx hb dX6_sumOfSpoken_12 rfl (lv_at hl 1 rfl) ?_
        refine lv_aload_n hx hb dX6_sumOfSpoken_13 rfl (lv_at hl 0 rfl) ?_
        refine w_get (k := 0) (v := .ref (b + 1)) hx hb hw hown hE fl_X6_11 hN (by decide) rfl rfl rfl dX6_sumOfSpoken_14 ?_
        refine lv_iload_n hx hb dX6_sumOfSpoken_17 rfl (lv_at hl 2 rfl) ?_
        obtain ⟨h2, hf⟩ := gd_some hf
        refine w_aald (k := 1) (j := 0) (x9 := z.2.toNatClampNeg) hx hb hE hN (by decide) rfl rfl rfl h2 dX6_sumOfSpoken_18 ?_
        refine w_get (k := (2 + 1 * z.2.toNatClampNeg)) (v := .int (N (2 + 1 * z.2.toNatClampNeg) 8)) hx hb hw hown hE fl_X6_124 hN (stn_lt (stn_ld h2)) (stn_sh (stn_ld h2)) rfl rfl dX6_sumOfSpoken_19 ?_
        refine lv_iadd hx hb dX6_sumOfSpoken_22 ?_
        refine lv_istore_n (lv' := [(1, .int (z.1 + (N (2 + 1 * z.2.toNatClampNeg) 8))), (0, .ref (b + 0)), (2, .int z.2)]) hx hb dX6_sumOfSpoken_23 rfl hl (by decide) rfl (fun ls hl => ?_)
        refine lv_iinc (v := (z.2 + 1)) (lv' := [(2, .int (z.2 + 1)), (1, .int (z.1 + (N (2 + 1 * z.2.toNatClampNeg) 8))), (0, .ref (b + 0))]) hx hb dX6_sumOfSpoken_24 hl (k := 2) rfl rfl (by decide) rfl (fun ls hl => ?_)
        refine lv_goto (tgt := 4) hx hb dX6_sumOfSpoken_27 (by decide) ?_
        exact ih ((z.1 + (N (2 + 1 * z.2.toNatClampNeg) 8)), (z.2 + 1)) (lp_back hy (Option.some.inj hf).symm) _ _ _ hN hS (lv_sub hl [2, 1, 0] rfl)
  refine lv_iconst (v := 0) hx hb dX6_sumOfSpoken_0 (by decide) ?_
  refine lv_istore_n (lv' := [(1, .int 0), (0, .ref (b + 0))]) hx hb dX6_sumOfSpoken_1 rfl hl (by decide) rfl (fun ls hl => ?_)
  refine lv_iconst (v := 0) hx hb dX6_sumOfSpoken_2 (by decide) ?_
  refine lv_istore_n (lv' := [(2, .int 0), (1, .int 0), (0, .ref (b + 0))]) hx hb dX6_sumOfSpoken_3 rfl hl (by decide) rfl (fun ls hl => ?_)
  obtain ⟨fu, hfu⟩ := lp_some hf
  exact (loop fu (0, 0) hfu) _ _ _ hN hS (lv_sub hl [2, 1, 0] rfl)
def fX6_countOn_s (N : Mem) (a1 : Int32) (a2 : Int32) (z : Int32 × Int32) : Option ((Int32 × Int32) ⊕ (Int32)) := (if (N 0 1) ≤ z.2 then some (.inr z.1) else gd (inb z.2 8) ((if (N (2 + 1 * z.2.toNatClampNeg) 5) = a1 then gd (inb z.2 8) (gd (inb (N (2 + 1 * z.2.toNatClampNeg) 6) 3) (gd (inb a2 3) ((if (N (2 + 1 * z.2.toNatClampNeg) 6) = a2 then some (.inl ((z.1 + 1), (z.2 + 1))) else some (.inl (z.1, (z.2 + 1))))))) else some (.inl (z.1, (z.2 + 1))))))
noncomputable def fX6_countOn (N : Mem) (a1 : Int32) (a2 : Int32) : Option (Int32) := lp (fX6_countOn_s N a1 a2) (0, 0)
set_option maxHeartbeats 4000000 in
set_option maxRecDepth 100000 in
theorem mX6_countOn (l : Launch) (E : EP) (B0 : Nat) (b : Nat) (hb0 : B0 ≤ b) (N : Mem) (a1 : Int32) (a2 : Int32) (r : Int32) (hf : fX6_countOn N a1 a2 = some r) : MU l E B0 yX6_countOn cX6_countOn 5 (some .int) 0 0 0 [.ref (b + 0), .int a1, .ref (E.2.2 0 a2.toNatClampNeg)] (Blk E b netSh 15 N) (some (.int r)) (Blk E b netSh 15 N) nv := by
  refine mu_of (by decide +kernel) (Nat.le_of_ble_eq_true rfl) ?_
  intro p e s m args below meth c hx hb hml hown hts hrt hlocks hE H hN hS ls hl
  have hown : s.vm.findClass RX6 = some m.cls := hown
  have hl : lv_has ls 5 [(0, .ref (b + 0)), (1, .int a1), (2, .ref (E.2.2 0 a2.toNatClampNeg))] := hl
  have hw : ∀ w ∈ WA, w.before args s = true := fun w h => hts w (List.mem_cons_of_mem _ h)
  have hAB : ∀ q, nv q → B0 ≤ q := fun _ h => h.elim
  unfold fX6_countOn at hf
  have loop : ∀ (fu : Nat) (z : Int32 × Int32), lpI (fX6_countOn_s N a1 a2) fu z = some r → (∀ (H : Heap) (locs : List Loc) (ls : Array Slot), Blk E b netSh 15 N H → va_S nv s.heap H locs → lv_has ls 5 [(0, .ref (b + 0)), (1, .int a1), (2, .ref (E.2.2 0 a2.toNatClampNeg)), (3, .int z.1), (4, .int z.2)] → W p l e (rmD 0 0 0) s m args below meth c H locs 0 0 (MQ below (QU (some (.int r)) (Blk E b netSh 15 N) nv) args s 0 0 nv) (F0 m 5 ls [])) := by
    intro fu
    induction fu with
    | zero =>
      intro z hn
      exact nomatch hn
    | succ fu ih =>
      intro z hn
      obtain ⟨y, hf, hy⟩ := lpI_succ hn
      intro H locs ls hN hS hl
      unfold fX6_countOn_s at hf
      refine lv_iload hx hb dX6_countOn_5 (lv_at hl 4 rfl) ?_
      refine lv_aload_n hx hb dX6_countOn_7 rfl (lv_at hl 0 rfl) ?_
      refine w_get (k := 0) (v := .int (N 0 1)) hx hb hw hown hE fl_X6_18 hN (by decide) rfl rfl rfl dX6_countOn_8 ?_
      refine lv_icmp_ge (tgt := 51) hx hb dX6_countOn_11 (by decide) (fun c1 => ?_) (fun c1 => ?_)
      · rw [if_pos c1] at hf
        refine lv_iload_n hx hb dX6_countOn_51 rfl (lv_at hl 3 rfl) ?_
        have hre := lp_end hy (Option.some.inj hf).symm
        subst hre
        exact mu_i (v := z.1) hx hb hrt hlocks hN hS dX6_countOn_52
      · rw [if_neg c1] at hf
        refine lv_aload_n hx hb dX6_countOn_14 rfl (lv_at hl 0 rfl) ?_
        refine w_get (k := 0) (v := .ref (b + 1)) hx hb hw hown hE fl_X6_11 hN (by decide) rfl rfl rfl dX6_countOn_15 ?_
        refine lv_iload hx hb dX6_countOn_18 (lv_at hl 4 rfl) ?_
        obtain ⟨h2, hf⟩ := gd_some hf
        refine w_aald (k := 1) (j := 0) (x9 := z.2.toNatClampNeg) hx hb hE hN (by decide) rfl rfl rfl h2 dX6_countOn_20 ?_
        refine w_get (k := (2 + 1 * z.2.toNatClampNeg)) (v := .int (N (2 + 1 * z.2.toNatClampNeg) 5)) hx hb hw hown hE fl_X6_118 hN (stn_lt (stn_ld h2)) (stn_sh (stn_ld h2)) rfl rfl dX6_countOn_21 ?_
        refine lv_iload_n hx hb dX6_countOn_24 rfl (lv_at hl 1 rfl) ?_
        refine lv_icmp_ne (tgt := 45) hx hb dX6_countOn_25 (by decide) (fun c3 => ?_) (fun c3 => ?_)
        · rw [if_neg c3] at hf
          refine lv_iinc (v := (z.2 + 1)) (lv' := [(4, .int (z.2 + 1)), (0, .ref (b + 0)), (1, .int a1), (2, .ref (E.2.2 0 a2.toNatClampNeg)), (3, .int z.1)]) hx hb dX6_countOn_45 hl (k := 4) rfl rfl (by decide) rfl (fun ls hl => ?_)
          refine lv_goto (tgt := 5) hx hb dX6_countOn_48 (by decide) ?_
          exact ih (z.1, (z.2 + 1)) (lp_back hy (Option.some.inj hf).symm) _ _ _ hN hS (lv_sub hl [1, 2, 3, 4, 0] rfl)
        · rw [if_pos c3] at hf
          refine lv_aload_n hx hb dX6_countOn_28 rfl (lv_at hl 0 rfl) ?_
          refine w_get (k := 0) (v := .ref (b + 1)) hx hb hw hown hE fl_X6_11 hN (by decide) rfl rfl rfl dX6_countOn_29 ?_
          refine lv_iload hx hb dX6_countOn_32 (lv_at hl 4 rfl) ?_
          obtain ⟨h4, hf⟩ := gd_some hf
          refine w_aald (k := 1) (j := 0) (x9 := z.2.toNatClampNeg) hx hb hE hN (by decide) rfl rfl rfl h4 dX6_countOn_34 ?_
          refine w_get (k := (2 + 1 * z.2.toNatClampNeg)) (v := .ref (E.2.2 0 (N (2 + 1 * z.2.toNatClampNeg) 6).toNatClampNeg)) hx hb hw hown hE fl_X6_99 hN (stn_lt (stn_ld h4)) (stn_sh (stn_ld h4)) rfl rfl dX6_countOn_35 ?_
          refine lv_aload_n hx hb dX6_countOn_38 rfl (lv_at hl 2 rfl) ?_
          obtain ⟨h5, hf⟩ := gd_some hf
          obtain ⟨h6, hf⟩ := gd_some hf
          refine w_acmpE_ne (tgt := 45) hx hb (EV.en0 hE) h5 h6 dX6_countOn_39 (by decide) (fun c7 => ?_) (fun c7 => ?_)
          · rw [if_neg c7] at hf
            refine lv_iinc (v := (z.2 + 1)) (lv' := [(4, .int (z.2 + 1)), (0, .ref (b + 0)), (1, .int a1), (2, .ref (E.2.2 0 a2.toNatClampNeg)), (3, .int z.1)]) hx hb dX6_countOn_45 hl (k := 4) rfl rfl (by decide) rfl (fun ls hl => ?_)
            refine lv_goto (tgt := 5) hx hb dX6_countOn_48 (by decide) ?_
            exact ih (z.1, (z.2 + 1)) (lp_back hy (Option.some.inj hf).symm) _ _ _ hN hS (lv_sub hl [1, 2, 3, 4, 0] rfl)
          · rw [if_pos c7] at hf
            refine lv_iinc (v := (z.1 + 1)) (lv' := [(3, .int (z.1 + 1)), (0, .ref (b + 0)), (1, .int a1), (2, .ref (E.2.2 0 a2.toNatClampNeg)), (4, .int z.2)]) hx hb dX6_countOn_42 hl (k := 3) rfl rfl (by decide) rfl (fun ls hl => ?_)
            refine lv_iinc (v := (z.2 + 1)) (lv' := [(4, .int (z.2 + 1)), (3, .int (z.1 + 1)), (0, .ref (b + 0)), (1, .int a1), (2, .ref (E.2.2 0 a2.toNatClampNeg))]) hx hb dX6_countOn_45 hl (k := 4) rfl rfl (by decide) rfl (fun ls hl => ?_)
            refine lv_goto (tgt := 5) hx hb dX6_countOn_48 (by decide) ?_
            exact ih ((z.1 + 1), (z.2 + 1)) (lp_back hy (Option.some.inj hf).symm) _ _ _ hN hS (lv_sub hl [2, 3, 4, 1, 0] rfl)
  refine lv_iconst (v := 0) hx hb dX6_countOn_0 (by decide) ?_
  refine lv_istore_n (lv' := [(3, .int 0), (0, .ref (b + 0)), (1, .int a1), (2, .ref (E.2.2 0 a2.toNatClampNeg))]) hx hb dX6_countOn_1 rfl hl (by decide) rfl (fun ls hl => ?_)
  refine lv_iconst (v := 0) hx hb dX6_countOn_2 (by decide) ?_
  refine lv_istore (lv' := [(4, .int 0), (3, .int 0), (0, .ref (b + 0)), (1, .int a1), (2, .ref (E.2.2 0 a2.toNatClampNeg))]) hx hb dX6_countOn_3 hl (by decide) rfl (fun ls hl => ?_)
  obtain ⟨fu, hfu⟩ := lp_some hf
  exact (loop fu (0, 0) hfu) _ _ _ hN hS (lv_sub hl [2, 3, 4, 1, 0] rfl)
noncomputable def fX6_channelsAreOrdered_s (N : Mem) (z : Int32) : Option ((Int32) ⊕ (Int32)) := (if (10 : Int32) ≤ z then some (.inr 1) else (fX6_countOn N z (1 : Int32)).bind fun z2 => (if (1 : Int32) < z2 then some (.inr 0) else (if z2 = 0 then (fX6_countOn N z (2 : Int32)).bind fun z6 => (if z6 ≤ 0 then some (.inl (z + 1)) else some (.inr 0)) else some (.inl (z + 1)))))
noncomputable def fX6_channelsAreOrdered (N : Mem) : Option (Int32) := lp (fX6_channelsAreOrdered_s N) 0
set_option maxHeartbeats 4000000 in
set_option maxRecDepth 100000 in
theorem mX6_channelsAreOrdered (l : Launch) (E : EP) (B0 : Nat) (b : Nat) (hb0 : B0 ≤ b) (N : Mem) (r : Int32) (hf : fX6_channelsAreOrdered N = some r) : MU l E B0 yX6_channelsAreOrdered cX6_channelsAreOrdered 3 (some .boolean) 1 0 0 [.ref (b + 0)] (Blk E b netSh 15 N) (some (.int r)) (Blk E b netSh 15 N) nv := by
  refine mu_of (by decide +kernel) (Nat.le_of_ble_eq_true rfl) ?_
  intro p e s m args below meth c hx hb hml hown hts hrt hlocks hE H hN hS ls hl
  have hown : s.vm.findClass RX6 = some m.cls := hown
  have hl : lv_has ls 3 [(0, .ref (b + 0))] := hl
  have hw : ∀ w ∈ WA, w.before args s = true := fun w h => hts w (List.mem_cons_of_mem _ h)
  have hAB : ∀ q, nv q → B0 ≤ q := fun _ h => h.elim
  unfold fX6_channelsAreOrdered at hf
  have loop : ∀ (fu : Nat) (z : Int32), lpI (fX6_channelsAreOrdered_s N) fu z = some r → (∀ (H : Heap) (locs : List Loc) (ls : Array Slot), Blk E b netSh 15 N H → va_S nv s.heap H locs → lv_has ls 3 [(0, .ref (b + 0)), (1, .int z)] → W p l e (rmD 1 0 0) s m args below meth c H locs 0 0 (MQ below (QU (some (.int r)) (Blk E b netSh 15 N) nv) args s 0 0 nv) (F0 m 2 ls [])) := by
    intro fu
    induction fu with
    | zero =>
      intro z hn
      exact nomatch hn
    | succ fu ih =>
      intro z hn
      obtain ⟨y, hf, hy⟩ := lpI_succ hn
      intro H locs ls hN hS hl
      unfold fX6_channelsAreOrdered_s at hf
      refine lv_iload_n hx hb dX6_channelsAreOrdered_2 rfl (lv_at hl 1 rfl) ?_
      refine lv_bipush (v := 10) hx hb dX6_channelsAreOrdered_3 (by decide) ?_
      refine lv_icmp_ge (tgt := 45) hx hb dX6_channelsAreOrdered_5 (by decide) (fun c1 => ?_) (fun c1 => ?_)
      · rw [if_pos c1] at hf
        refine lv_iconst (v := 1) hx hb dX6_channelsAreOrdered_45 (by decide) ?_
        have hre := lp_end hy (Option.some.inj hf).symm
        subst hre
        exact mu_z (v := 1) hx hb hrt rfl hlocks hN hS dX6_channelsAreOrdered_46
      · rw [if_neg c1] at hf
        refine lv_aload_n hx hb dX6_channelsAreOrdered_8 rfl (lv_at hl 0 rfl) ?_
        refine lv_iload_n hx hb dX6_channelsAreOrdered_9 rfl (lv_at hl 1 rfl) ?_
        refine w_gs (i := 1) (z := 1) hx hb hw hown (EV.en0 hE) (by decide) hS hAB gs_X6_148 (by decide) dX6_channelsAreOrdered_10 ?_
        obtain ⟨z2, hc3, hf⟩ := br_some hf
        refine mu_cV (As := [.int z, .ref (E.2.2 0 (1 : Int32).toNatClampNeg)]) (rest := []) hx hb hml hown hts hE (mX6_countOn l E B0 b (by omega) N z (1 : Int32) z2 hc3) cv_X6_192 (w_recv (k := 0) (ci := 6) hE hN (by decide) rfl rfl) hN hS hAB (fun _ h => h.elim) rfl hl.1 rfl (by decide) (Nat.le_of_ble_eq_true rfl) ⟨Nat.le_refl _, Nat.le_refl _⟩ dX6_channelsAreOrdered_13 (fun H locs hN _ hu hS => ?_)
        refine lv_istore_n (lv' := [(2, .int z2), (0, .ref (b + 0)), (1, .int z)]) hx hb dX6_channelsAreOrdered_16 rfl hl (by decide) rfl (fun ls hl => ?_)
        refine lv_iload_n hx hb dX6_channelsAreOrdered_17 rfl (lv_at hl 0 rfl) ?_
        refine lv_iconst (v := 1) hx hb dX6_channelsAreOrdered_18 (by decide) ?_
        refine lv_icmp_gt (tgt := 37) hx hb dX6_channelsAreOrdered_19 (by decide) (fun c4 => ?_) (fun c4 => ?_)
        · rw [if_pos c4] at hf
          refine lv_iconst (v := 0) hx hb dX6_channelsAreOrdered_37 (by decide) ?_
          have hre := lp_end hy (Option.some.inj hf).symm
          subst hre
          exact mu_z (v := 0) hx hb hrt rfl hlocks hN hS dX6_channelsAreOrdered_38
        · rw [if_neg c4] at hf
          refine lv_iload_n hx hb dX6_channelsAreOrdered_22 rfl (lv_at hl 0 rfl) ?_
          refine lv_if_ne (tgt := 39) hx hb dX6_channelsAreOrdered_23 (by decide) (fun c5 => ?_) (fun c5 => ?_)
          · rw [if_neg c5] at hf
            refine lv_iinc (v := (z + 1)) (lv' := [(1, .int (z + 1)), (2, .int z2), (0, .ref (b + 0))]) hx hb dX6_channelsAreOrdered_39 hl (k := 2) rfl rfl (by decide) rfl (fun ls hl => ?_)
            refine lv_goto (tgt := 2) hx hb dX6_channelsAreOrdered_42 (by decide) ?_
            exact ih (z + 1) (lp_back hy (Option.some.inj hf).symm) _ _ _ hN hS (lv_sub hl [2, 0] rfl)
          · rw [if_pos c5] at hf
            refine lv_aload_n hx hb dX6_channelsAreOrdered_26 rfl (lv_at hl 1 rfl) ?_
            refine lv_iload_n hx hb dX6_channelsAreOrdered_27 rfl (lv_at hl 2 rfl) ?_
            refine w_gs (i := 2) (z := 2) hx hb hw hown (EV.en0 hE) (by decide) hS hAB gs_X6_142 (by decide) dX6_channelsAreOrdered_28 ?_
            obtain ⟨z6, hc7, hf⟩ := br_some hf
            refine mu_cV (As := [.int z, .ref (E.2.2 0 (2 : Int32).toNatClampNeg)]) (rest := []) hx hb hml hown hts hE (mX6_countOn l E B0 b (by omega) N z (2 : Int32) z6 hc7) cv_X6_192 (w_recv (k := 0) (ci := 6) hE hN (by decide) rfl rfl) hN hS hAB (fun _ h => h.elim) rfl hl.1 rfl (by decide) (Nat.le_of_ble_eq_true rfl) ⟨Nat.le_refl _, Nat.le_refl _⟩ dX6_channelsAreOrdered_31 (fun H locs hN _ hu hS => ?_)
            refine lv_if_le (tgt := 39) hx hb dX6_channelsAreOrdered_34 (by decide) (fun c8 => ?_) (fun c8 => ?_)
            · rw [if_pos c8] at hf
              refine lv_iinc (v := (z + 1)) (lv' := [(1, .int (z + 1)), (2, .int z2), (0, .ref (b + 0))]) hx hb dX6_channelsAreOrdered_39 hl (k := 2) rfl rfl (by decide) rfl (fun ls hl => ?_)
              refine lv_goto (tgt := 2) hx hb dX6_channelsAreOrdered_42 (by decide) ?_
              exact ih (z + 1) (lp_back hy (Option.some.inj hf).symm) _ _ _ hN hS (lv_sub hl [2, 0] rfl)
            · rw [if_neg c8] at hf
              refine lv_iconst (v := 0) hx hb dX6_channelsAreOrdered_37 (by decide) ?_
              have hre := lp_end hy (Option.some.inj hf).symm
              subst hre
              exact mu_z (v := 0) hx hb hrt rfl hlocks hN hS dX6_channelsAreOrdered_38
  refine lv_iconst (v := 0) hx hb dX6_channelsAreOrdered_0 (by decide) ?_
  refine lv_istore_n (lv' := [(1, .int 0), (0, .ref (b + 0))]) hx hb dX6_channelsAreOrdered_1 rfl hl (by decide) rfl (fun ls hl => ?_)
  obtain ⟨fu, hfu⟩ := lp_some hf
  exact (loop fu 0 hfu) _ _ _ hN hS (lv_sub hl [1, 0] rfl)
noncomputable def fX6_faultOfAdding (N : Mem) (a1 : Int32) (a2 : Int32) (a3 : Int32) (a4 : Int32) (a5 : Int32) (a6 : Int32) : Option (Int32) := (fX11_isLetter a1).bind fun z1 => (if z1 = 0 then some (2 : Int32) else (if a2 < 0 then some (2 : Int32) else (if (9 : Int32) < a2 then some (2 : Int32) else (fX11_isPlace a3 a4).bind fun z6 => (if z6 = 0 then some (2 : Int32) else (fX11_isPower a5).bind fun z9 => (if z9 = 0 then some (2 : Int32) else (fX11_isChannel a6).bind fun z12 => (if z12 = 0 then some (2 : Int32) else (fX6_stationOfSign N a1 a2).bind fun z15 => (if z15 < 0 then (if (N 0 1) < (8 : Int32) then some (0 : Int32) else some (4 : Int32)) else some (3 : Int32))))))))
set_option maxHeartbeats 4000000 in
set_option maxRecDepth 100000 in
theorem mX6_faultOfAdding (l : Launch) (E : EP) (B0 : Nat) (b : Nat) (hb0 : B0 ≤ b) (N : Mem) (a1 : Int32) (a2 : Int32) (a3 : Int32) (a4 : Int32) (a5 : Int32) (a6 : Int32) (r : Int32) (hf : fX6_faultOfAdding N a1 a2 a3 a4 a5 a6 = some r) : MU l E B0 yX6_faultOfAdding cX6_faultOfAdding 7 (some (.object "RadioNet$Fault")) 1 0 0 [.ref (b + 0), .int a1, .int a2, .int a3, .int a4, .int a5, .int a6] (Blk E b netSh 15 N) (some (.ref (E.2.2 1 r.toNatClampNeg))) (Blk E b netSh 15 N) nv := by
  refine mu_of (by decide +kernel) (Nat.le_of_ble_eq_true rfl) ?_
  intro p e s m args below meth c hx hb hml hown hts hrt hlocks hE H hN hS ls hl
  have hown : s.vm.findClass RX6 = some m.cls := hown
  have hl : lv_has ls 7 [(0, .ref (b + 0)), (1, .int a1), (2, .int a2), (3, .int a3), (4, .int a4), (5, .int a5), (6, .int a6)] := hl
  have hw : ∀ w ∈ WA, w.before args s = true := fun w h => hts w (List.mem_cons_of_mem _ h)
  have hAB : ∀ q, nv q → B0 ≤ q := fun _ h => h.elim
  unfold fX6_faultOfAdding at hf
  refine lv_iload_n hx hb dX6_faultOfAdding_0 rfl (lv_at hl 1 rfl) ?_
  obtain ⟨z1, hc2, hf⟩ := br_some hf
  refine mu_cSN (As := [.int a1]) (rest := []) hx hb hml hown hts hE (mX11_isLetter l E B0 a1 z1 hc2) cn_X6_49 trivial hS hAB (fun _ h => h.elim) rfl hl.1 rfl (by decide) (Nat.le_of_ble_eq_true rfl) ⟨Nat.le_refl _, Nat.le_refl _⟩ dX6_faultOfAdding_1 (fun H locs _ _ hu hS => ?_)
  have hN := Blk.off hN hu (fun _ _ _ h => h)
  refine lv_if_eq (tgt := 42) hx hb dX6_faultOfAdding_4 (by decide) (fun c3 => ?_) (fun c3 => ?_)
  · rw [if_pos c3] at hf
    refine w_gs (i := 2) (z := 2) hx hb hw hown (EV.en1 hE) (by decide) hS hAB gs_X6_64 (by decide) dX6_faultOfAdding_42 ?_
    have hre := Option.some.inj hf
    subst hre
    exact mu_a hx hb hrt hlocks hN hS dX6_faultOfAdding_45
  · rw [if_neg c3] at hf
    refine lv_iload_n hx hb dX6_faultOfAdding_7 rfl (lv_at hl 2 rfl) ?_
    refine lv_if_lt (tgt := 42) hx hb dX6_faultOfAdding_8 (by decide) (fun c4 => ?_) (fun c4 => ?_)
    · rw [if_pos c4] at hf
      refine w_gs (i := 2) (z := 2) hx hb hw hown (EV.en1 hE) (by decide) hS hAB gs_X6_64 (by decide) dX6_faultOfAdding_42 ?_
      have hre := Option.some.inj hf
      subst hre
      exact mu_a hx hb hrt hlocks hN hS dX6_faultOfAdding_45
    · rw [if_neg c4] at hf
      refine lv_iload_n hx hb dX6_faultOfAdding_11 rfl (lv_at hl 2 rfl) ?_
      refine lv_bipush (v := 9) hx hb dX6_faultOfAdding_12 (by decide) ?_
      refine lv_icmp_gt (tgt := 42) hx hb dX6_faultOfAdding_14 (by decide) (fun c5 => ?_) (fun c5 => ?_)
      · rw [if_pos c5] at hf
        refine w_gs (i := 2) (z := 2) hx hb hw hown (EV.en1 hE) (by decide) hS hAB gs_X6_64 (by decide) dX6_faultOfAdding_42 ?_
        have hre := Option.some.inj hf
        subst hre
        exact mu_a hx hb hrt hlocks hN hS dX6_faultOfAdding_45
      · rw [if_neg c5] at hf
        refine lv_iload_n hx hb dX6_faultOfAdding_17 rfl (lv_at hl 3 rfl) ?_
        refine lv_iload hx hb dX6_faultOfAdding_18 (lv_at hl 4 rfl) ?_
        obtain ⟨z6, hc7, hf⟩ := br_some hf
        refine mu_cSN (As := [.int a3, .int a4]) (rest := []) hx hb hml hown hts hE (mX11_isPlace l E B0 a3 a4 z6 hc7) cn_X6_53 trivial hS hAB (fun _ h => h.elim) rfl hl.1 rfl (by decide) (Nat.le_of_ble_eq_true rfl) ⟨Nat.le_refl _, Nat.le_refl _⟩ dX6_faultOfAdding_20 (fun H locs _ _ hu hS => ?_)
        have hN := Blk.off hN hu (fun _ _ _ h => h)
        refine lv_if_eq (tgt := 42) hx hb dX6_faultOfAdding_23 (by decide) (fun c8 => ?_) (fun c8 => ?_)
        · rw [if_pos c8] at hf
          refine w_gs (i := 2) (z := 2) hx hb hw hown (EV.en1 hE) (by decide) hS hAB gs_X6_64 (by decide) dX6_faultOfAdding_42 ?_
          have hre := Option.some.inj hf
          subst hre
          exact mu_a hx hb hrt hlocks hN hS dX6_faultOfAdding_45
        · rw [if_neg c8] at hf
          refine lv_iload hx hb dX6_faultOfAdding_26 (lv_at hl 5 rfl) ?_
          obtain ⟨z9, hc10, hf⟩ := br_some hf
          refine mu_cSN (As := [.int a5]) (rest := []) hx hb hml hown hts hE (mX11_isPower l E B0 a5 z9 hc10) cn_X6_57 trivial hS hAB (fun _ h => h.elim) rfl hl.1 rfl (by decide) (Nat.le_of_ble_eq_true rfl) ⟨Nat.le_refl _, Nat.le_refl _⟩ dX6_faultOfAdding_28 (fun H locs _ _ hu hS => ?_)
          have hN := Blk.off hN hu (fun _ _ _ h => h)
          refine lv_if_eq (tgt := 42) hx hb dX6_faultOfAdding_31 (by decide) (fun c11 => ?_) (fun c11 => ?_)
          · rw [if_pos c11] at hf
            refine w_gs (i := 2) (z := 2) hx hb hw hown (EV.en1 hE) (by decide) hS hAB gs_X6_64 (by decide) dX6_faultOfAdding_42 ?_
            have hre := Option.some.inj hf
            subst hre
            exact mu_a hx hb hrt hlocks hN hS dX6_faultOfAdding_45
          · rw [if_neg c11] at hf
            refine lv_iload hx hb dX6_faultOfAdding_34 (lv_at hl 6 rfl) ?_
            obtain ⟨z12, hc13, hf⟩ := br_some hf
            refine mu_cSN (As := [.int a6]) (rest := []) hx hb hml hown hts hE (mX11_isChannel l E B0 a6 z12 hc13) cn_X6_61 trivial hS hAB (fun _ h => h.elim) rfl hl.1 rfl (by decide) (Nat.le_of_ble_eq_true rfl) ⟨Nat.le_refl _, Nat.le_refl _⟩ dX6_faultOfAdding_36 (fun H locs _ _ hu hS => ?_)
            have hN := Blk.off hN hu (fun _ _ _ h => h)
            refine lv_if_ne (tgt := 46) hx hb dX6_faultOfAdding_39 (by decide) (fun c14 => ?_) (fun c14 => ?_)
            · rw [if_neg c14] at hf
              refine lv_aload_n hx hb dX6_faultOfAdding_46 rfl (lv_at hl 0 rfl) ?_
              refine lv_iload_n hx hb dX6_faultOfAdding_47 rfl (lv_at hl 1 rfl) ?_
              refine lv_iload_n hx hb dX6_faultOfAdding_48 rfl (lv_at hl 2 rfl) ?_
              obtain ⟨z15, hc16, hf⟩ := br_some hf
              refine mu_cV (As := [.int a1, .int a2]) (rest := []) hx hb hml hown hts hE (mX6_stationOfSign l E B0 b (by omega) N a1 a2 z15 hc16) cv_X6_70 (w_recv (k := 0) (ci := 6) hE hN (by decide) rfl rfl) hN hS hAB (fun _ h => h.elim) rfl hl.1 rfl (by decide) (Nat.le_of_ble_eq_true rfl) ⟨Nat.le_refl _, Nat.le_refl _⟩ dX6_faultOfAdding_49 (fun H locs hN _ hu hS => ?_)
              refine lv_if_lt (tgt := 59) hx hb dX6_faultOfAdding_52 (by decide) (fun c17 => ?_) (fun c17 => ?_)
              · rw [if_pos c17] at hf
                refine lv_aload_n hx hb dX6_faultOfAdding_59 rfl (lv_at hl 0 rfl) ?_
                refine w_get (k := 0) (v := .int (N 0 1)) hx hb hw hown hE fl_X6_18 hN (by decide) rfl rfl rfl dX6_faultOfAdding_60 ?_
                refine lv_bipush (v := 8) hx hb dX6_faultOfAdding_63 (by decide) ?_
                refine lv_icmp_lt (tgt := 74) hx hb dX6_faultOfAdding_65 (by decide) (fun c18 => ?_) (fun c18 => ?_)
                · rw [if_pos c18] at hf
                  refine w_gs (i := 0) (z := 0) hx hb hw hown (EV.en1 hE) (by decide) hS hAB gs_X6_80 (by decide) dX6_faultOfAdding_74 ?_
                  have hre := Option.some.inj hf
                  subst hre
                  exact mu_a hx hb hrt hlocks hN hS dX6_faultOfAdding_77
                · rw [if_neg c18] at hf
                  refine w_gs (i := 4) (z := 4) hx hb hw hown (EV.en1 hE) (by decide) hS hAB gs_X6_77 (by decide) dX6_faultOfAdding_68 ?_
                  refine lv_goto (tgt := 77) hx hb dX6_faultOfAdding_71 (by decide) ?_
                  have hre := Option.some.inj hf
                  subst hre
                  exact mu_a hx hb hrt hlocks hN hS dX6_faultOfAdding_77
              · rw [if_neg c17] at hf
                refine w_gs (i := 3) (z := 3) hx hb hw hown (EV.en1 hE) (by decide) hS hAB gs_X6_74 (by decide) dX6_faultOfAdding_55 ?_
                have hre := Option.some.inj hf
                subst hre
                exact mu_a hx hb hrt hlocks hN hS dX6_faultOfAdding_58
            · rw [if_pos c14] at hf
              refine w_gs (i := 2) (z := 2) hx hb hw hown (EV.en1 hE) (by decide) hS hAB gs_X6_64 (by decide) dX6_faultOfAdding_42 ?_
              have hre := Option.some.inj hf
              subst hre
              exact mu_a hx hb hrt hlocks hN hS dX6_faultOfAdding_45
def fX6_faultOfMoving (N : Mem) (a1 : Int32) (a2 : Int32) (a3 : Int32) : Option (Int32) := (fX6_has N a1).bind fun z1 => (if z1 = 0 then some (1 : Int32) else (fX11_isPlace a2 a3).bind fun z4 => (if z4 = 0 then some (2 : Int32) else some (0 : Int32)))
set_option maxHeartbeats 4000000 in
set_option maxRecDepth 100000 in
theorem mX6_faultOfMoving (l : Launch) (E : EP) (B0 : Nat) (b : Nat) (hb0 : B0 ≤ b) (N : Mem) (a1 : Int32) (a2 : Int32) (a3 : Int32) (r : Int32) (hf : fX6_faultOfMoving N a1 a2 a3 = some r) : MU l E B0 yX6_faultOfMoving cX6_faultOfMoving 4 (some (.object "RadioNet$Fault")) 1 0 0 [.ref (b + 0), .int a1, .int a2, .int a3] (Blk E b netSh 15 N) (some (.ref (E.2.2 1 r.toNatClampNeg))) (Blk E b netSh 15 N) nv := by
  refine mu_of (by decide +kernel) (Nat.le_of_ble_eq_true rfl) ?_
  intro p e s m args below meth c hx hb hml hown hts hrt hlocks hE H hN hS ls hl
  have hown : s.vm.findClass RX6 = some m.cls := hown
  have hl : lv_has ls 4 [(0, .ref (b + 0)), (1, .int a1), (2, .int a2), (3, .int a3)] := hl
  have hw : ∀ w ∈ WA, w.before args s = true := fun w h => hts w (List.mem_cons_of_mem _ h)
  have hAB : ∀ q, nv q → B0 ≤ q := fun _ h => h.elim
  unfold fX6_faultOfMoving at hf
  refine lv_aload_n hx hb dX6_faultOfMoving_0 rfl (lv_at hl 0 rfl) ?_
  refine lv_iload_n hx hb dX6_faultOfMoving_1 rfl (lv_at hl 1 rfl) ?_
  obtain ⟨z1, hc2, hf⟩ := br_some hf
  refine mu_cV (As := [.int a1]) (rest := []) hx hb hml hown hts hE (mX6_has l E B0 b (by omega) N a1 z1 hc2) cv_X6_83 (w_recv (k := 0) (ci := 6) hE hN (by decide) rfl rfl) hN hS hAB (fun _ h => h.elim) rfl hl.1 rfl (by decide) (Nat.le_of_ble_eq_true rfl) ⟨Nat.le_refl _, Nat.le_refl _⟩ dX6_faultOfMoving_2 (fun H locs hN _ hu hS => ?_)
  refine lv_if_ne (tgt := 12) hx hb dX6_faultOfMoving_5 (by decide) (fun c3 => ?_) (fun c3 => ?_)
  · rw [if_neg c3] at hf
    refine lv_iload_n hx hb dX6_faultOfMoving_12 rfl (lv_at hl 2 rfl) ?_
    refine lv_iload_n hx hb dX6_faultOfMoving_13 rfl (lv_at hl 3 rfl) ?_
    obtain ⟨z4, hc5, hf⟩ := br_some hf
    refine mu_cSN (As := [.int a2, .int a3]) (rest := []) hx hb hml hown hts hE (mX11_isPlace l E B0 a2 a3 z4 hc5) cn_X6_53 trivial hS hAB (fun _ h => h.elim) rfl hl.1 rfl (by decide) (Nat.le_of_ble_eq_true rfl) ⟨Nat.le_refl _, Nat.le_refl _⟩ dX6_faultOfMoving_14 (fun H locs _ _ hu hS => ?_)
    have hN := Blk.off hN hu (fun _ _ _ h => h)
    refine lv_if_eq (tgt := 26) hx hb dX6_faultOfMoving_17 (by decide) (fun c6 => ?_) (fun c6 => ?_)
    · rw [if_pos c6] at hf
      refine w_gs (i := 2) (z := 2) hx hb hw hown (EV.en1 hE) (by decide) hS hAB gs_X6_64 (by decide) dX6_faultOfMoving_26 ?_
      have hre := Option.some.inj hf
      subst hre
      exact mu_a hx hb hrt hlocks hN hS dX6_faultOfMoving_29
    · rw [if_neg c6] at hf
      refine w_gs (i := 0) (z := 0) hx hb hw hown (EV.en1 hE) (by decide) hS hAB gs_X6_80 (by decide) dX6_faultOfMoving_20 ?_
      refine lv_goto (tgt := 29) hx hb dX6_faultOfMoving_23 (by decide) ?_
      have hre := Option.some.inj hf
      subst hre
      exact mu_a hx hb hrt hlocks hN hS dX6_faultOfMoving_29
  · rw [if_pos c3] at hf
    refine w_gs (i := 1) (z := 1) hx hb hw hown (EV.en1 hE) (by decide) hS hAB gs_X6_86 (by decide) dX6_faultOfMoving_8 ?_
    have hre := Option.some.inj hf
    subst hre
    exact mu_a hx hb hrt hlocks hN hS dX6_faultOfMoving_11
def fX6_faultOfPower (N : Mem) (a1 : Int32) (a2 : Int32) : Option (Int32) := (fX6_has N a1).bind fun z1 => (if z1 = 0 then some (1 : Int32) else (fX11_isPower a2).bind fun z4 => (if z4 = 0 then some (2 : Int32) else some (0 : Int32)))
set_option maxHeartbeats 4000000 in
set_option maxRecDepth 100000 in
theorem mX6_faultOfPower (l : Launch) (E : EP) (B0 : Nat) (b : Nat) (hb0 : B0 ≤ b) (N : Mem) (a1 : Int32) (a2 : Int32) (r : Int32) (hf : fX6_faultOfPower N a1 a2 = some r) : MU l E B0 yX6_faultOfPower cX6_faultOfPower 3 (some (.object "RadioNet$Fault")) 1 0 0 [.ref (b + 0), .int a1, .int a2] (Blk E b netSh 15 N) (some (.ref (E.2.2 1 r.toNatClampNeg))) (Blk E b netSh 15 N) nv := by
  refine mu_of (by decide +kernel) (Nat.le_of_ble_eq_true rfl) ?_
  intro p e s m args below meth c hx hb hml hown hts hrt hlocks hE H hN hS ls hl
  have hown : s.vm.findClass RX6 = some m.cls := hown
  have hl : lv_has ls 3 [(0, .ref (b + 0)), (1, .int a1), (2, .int a2)] := hl
  have hw : ∀ w ∈ WA, w.before args s = true := fun w h => hts w (List.mem_cons_of_mem _ h)
  have hAB : ∀ q, nv q → B0 ≤ q := fun _ h => h.elim
  unfold fX6_faultOfPower at hf
  refine lv_aload_n hx hb dX6_faultOfPower_0 rfl (lv_at hl 0 rfl) ?_
  refine lv_iload_n hx hb dX6_faultOfPower_1 rfl (lv_at hl 1 rfl) ?_
  obtain ⟨z1, hc2, hf⟩ := br_some hf
  refine mu_cV (As := [.int a1]) (rest := []) hx hb hml hown hts hE (mX6_has l E B0 b (by omega) N a1 z1 hc2) cv_X6_83 (w_recv (k := 0) (ci := 6) hE hN (by decide) rfl rfl) hN hS hAB (fun _ h => h.elim) rfl hl.1 rfl (by decide) (Nat.le_of_ble_eq_true rfl) ⟨Nat.le_refl _, Nat.le_refl _⟩ dX6_faultOfPower_2 (fun H locs hN _ hu hS => ?_)
  refine lv_if_ne (tgt := 12) hx hb dX6_faultOfPower_5 (by decide) (fun c3 => ?_) (fun c3 => ?_)
  · rw [if_neg c3] at hf
    refine lv_iload_n hx hb dX6_faultOfPower_12 rfl (lv_at hl 2 rfl) ?_
    obtain ⟨z4, hc5, hf⟩ := br_some hf
    refine mu_cSN (As := [.int a2]) (rest := []) hx hb hml hown hts hE (mX11_isPower l E B0 a2 z4 hc5) cn_X6_57 trivial hS hAB (fun _ h => h.elim) rfl hl.1 rfl (by decide) (Nat.le_of_ble_eq_true rfl) ⟨Nat.le_refl _, Nat.le_refl _⟩ dX6_faultOfPower_13 (fun H locs _ _ hu hS => ?_)
    have hN := Blk.off hN hu (fun _ _ _ h => h)
    refine lv_if_eq (tgt := 25) hx hb dX6_faultOfPower_16 (by decide) (fun c6 => ?_) (fun c6 => ?_)
    · rw [if_pos c6] at hf
      refine w_gs (i := 2) (z := 2) hx hb hw hown (EV.en1 hE) (by decide) hS hAB gs_X6_64 (by decide) dX6_faultOfPower_25 ?_
      have hre := Option.some.inj hf
      subst hre
      exact mu_a hx hb hrt hlocks hN hS dX6_faultOfPower_28
    · rw [if_neg c6] at hf
      refine w_gs (i := 0) (z := 0) hx hb hw hown (EV.en1 hE) (by decide) hS hAB gs_X6_80 (by decide) dX6_faultOfPower_19 ?_
      refine lv_goto (tgt := 28) hx hb dX6_faultOfPower_22 (by decide) ?_
      have hre := Option.some.inj hf
      subst hre
      exact mu_a hx hb hrt hlocks hN hS dX6_faultOfPower_28
  · rw [if_pos c3] at hf
    refine w_gs (i := 1) (z := 1) hx hb hw hown (EV.en1 hE) (by decide) hS hAB gs_X6_86 (by decide) dX6_faultOfPower_8 ?_
    have hre := Option.some.inj hf
    subst hre
    exact mu_a hx hb hrt hlocks hN hS dX6_faultOfPower_11
def fX6_faultOfMode (N : Mem) (a1 : Int32) (a2 : Int32) : Option (Int32) := (fX6_has N a1).bind fun z1 => (if z1 = 0 then some (1 : Int32) else gd (inb a1 8) (gd (inb (N (2 + 1 * a1.toNatClampNeg) 6) 3) (gd (inb a2 3) ((if (N (2 + 1 * a1.toNatClampNeg) 6) = a2 then some (0 : Int32) else some (4 : Int32))))))
set_option maxHeartbeats 4000000 in
set_option maxRecDepth 100000 in
theorem mX6_faultOfMode (l : Launch) (E : EP) (B0 : Nat) (b : Nat) (hb0 : B0 ≤ b) (N : Mem) (a1 : Int32) (a2 : Int32) (r : Int32) (hf : fX6_faultOfMode N a1 a2 = some r) : MU l E B0 yX6_faultOfMode cX6_faultOfMode 3 (some (.object "RadioNet$Fault")) 1 0 0 [.ref (b + 0), .int a1, .ref (E.2.2 0 a2.toNatClampNeg)] (Blk E b netSh 15 N) (some (.ref (E.2.2 1 r.toNatClampNeg))) (Blk E b netSh 15 N) nv := by
  refine mu_of (by decide +kernel) (Nat.le_of_ble_eq_true rfl) ?_
  intro p e s m args below meth c hx hb hml hown hts hrt hlocks hE H hN hS ls hl
  have hown : s.vm.findClass RX6 = some m.cls := hown
  have hl : lv_has ls 3 [(0, .ref (b + 0)), (1, .int a1), (2, .ref (E.2.2 0 a2.toNatClampNeg))] := hl
  have hw : ∀ w ∈ WA, w.before args s = true := fun w h => hts w (List.mem_cons_of_mem _ h)
  have hAB : ∀ q, nv q → B0 ≤ q := fun _ h => h.elim
  unfold fX6_faultOfMode at hf
  refine lv_aload_n hx hb dX6_faultOfMode_0 rfl (lv_at hl 0 rfl) ?_
  refine lv_iload_n hx hb dX6_faultOfMode_1 rfl (lv_at hl 1 rfl) ?_
  obtain ⟨z1, hc2, hf⟩ := br_some hf
  refine mu_cV (As := [.int a1]) (rest := []) hx hb hml hown hts hE (mX6_has l E B0 b (by omega) N a1 z1 hc2) cv_X6_83 (w_recv (k := 0) (ci := 6) hE hN (by decide) rfl rfl) hN hS hAB (fun _ h => h.elim) rfl hl.1 rfl (by decide) (Nat.le_of_ble_eq_true rfl) ⟨Nat.le_refl _, Nat.le_refl _⟩ dX6_faultOfMode_2 (fun H locs hN _ hu hS => ?_)
  refine lv_if_ne (tgt := 12) hx hb dX6_faultOfMode_5 (by decide) (fun c3 => ?_) (fun c3 => ?_)
  · rw [if_neg c3] at hf
    refine lv_aload_n hx hb dX6_faultOfMode_12 rfl (lv_at hl 0 rfl) ?_
    refine w_get (k := 0) (v := .ref (b + 1)) hx hb hw hown hE fl_X6_11 hN (by decide) rfl rfl rfl dX6_faultOfMode_13 ?_
    refine lv_iload_n hx hb dX6_faultOfMode_16 rfl (lv_at hl 1 rfl) ?_
    obtain ⟨h4, hf⟩ := gd_some hf
    refine w_aald (k := 1) (j := 0) (x9 := a1.toNatClampNeg) hx hb hE hN (by decide) rfl rfl rfl h4 dX6_faultOfMode_17 ?_
    refine w_get (k := (2 + 1 * a1.toNatClampNeg)) (v := .ref (E.2.2 0 (N (2 + 1 * a1.toNatClampNeg) 6).toNatClampNeg)) hx hb hw hown hE fl_X6_99 hN (stn_lt (stn_ld h4)) (stn_sh (stn_ld h4)) rfl rfl dX6_faultOfMode_18 ?_
    refine lv_aload_n hx hb dX6_faultOfMode_21 rfl (lv_at hl 2 rfl) ?_
    obtain ⟨h5, hf⟩ := gd_some hf
    obtain ⟨h6, hf⟩ := gd_some hf
    refine w_acmpE_ne (tgt := 31) hx hb (EV.en0 hE) h5 h6 dX6_faultOfMode_22 (by decide) (fun c7 => ?_) (fun c7 => ?_)
    · rw [if_neg c7] at hf
      refine w_gs (i := 4) (z := 4) hx hb hw hown (EV.en1 hE) (by decide) hS hAB gs_X6_77 (by decide) dX6_faultOfMode_31 ?_
      have hre := Option.some.inj hf
      subst hre
      exact mu_a hx hb hrt hlocks hN hS dX6_faultOfMode_34
    · rw [if_pos c7] at hf
      refine w_gs (i := 0) (z := 0) hx hb hw hown (EV.en1 hE) (by decide) hS hAB gs_X6_80 (by decide) dX6_faultOfMode_25 ?_
      refine lv_goto (tgt := 34) hx hb dX6_faultOfMode_28 (by decide) ?_
      have hre := Option.some.inj hf
      subst hre
      exact mu_a hx hb hrt hlocks hN hS dX6_faultOfMode_34
  · rw [if_pos c3] at hf
    refine w_gs (i := 1) (z := 1) hx hb hw hown (EV.en1 hE) (by decide) hS hAB gs_X6_86 (by decide) dX6_faultOfMode_8 ?_
    have hre := Option.some.inj hf
    subst hre
    exact mu_a hx hb hrt hlocks hN hS dX6_faultOfMode_11
def fX6_faultOfTuning (N : Mem) (a1 : Int32) (a2 : Int32) : Option (Int32) := (fX6_has N a1).bind fun z1 => (if z1 = 0 then some (1 : Int32) else (fX11_isChannel a2).bind fun z4 => (if z4 = 0 then some (2 : Int32) else (fX6_faultOfMode N a1 (0 : Int32)).bind fun z7 => some z7))
set_option maxHeartbeats 4000000 in
set_option maxRecDepth 100000 in
theorem mX6_faultOfTuning (l : Launch) (E : EP) (B0 : Nat) (b : Nat) (hb0 : B0 ≤ b) (N : Mem) (a1 : Int32) (a2 : Int32) (r : Int32) (hf : fX6_faultOfTuning N a1 a2 = some r) : MU l E B0 yX6_faultOfTuning cX6_faultOfTuning 3 (some (.object "RadioNet$Fault")) 2 0 0 [.ref (b + 0), .int a1, .int a2] (Blk E b netSh 15 N) (some (.ref (E.2.2 1 r.toNatClampNeg))) (Blk E b netSh 15 N) nv := by
  refine mu_of (by decide +kernel) (Nat.le_of_ble_eq_true rfl) ?_
  intro p e s m args below meth c hx hb hml hown hts hrt hlocks hE H hN hS ls hl
  have hown : s.vm.findClass RX6 = some m.cls := hown
  have hl : lv_has ls 3 [(0, .ref (b + 0)), (1, .int a1), (2, .int a2)] := hl
  have hw : ∀ w ∈ WA, w.before args s = true := fun w h => hts w (List.mem_cons_of_mem _ h)
  have hAB : ∀ q, nv q → B0 ≤ q := fun _ h => h.elim
  unfold fX6_faultOfTuning at hf
  refine lv_aload_n hx hb dX6_faultOfTuning_0 rfl (lv_at hl 0 rfl) ?_
  refine lv_iload_n hx hb dX6_faultOfTuning_1 rfl (lv_at hl 1 rfl) ?_
  obtain ⟨z1, hc2, hf⟩ := br_some hf
  refine mu_cV (As := [.int a1]) (rest := []) hx hb hml hown hts hE (mX6_has l E B0 b (by omega) N a1 z1 hc2) cv_X6_83 (w_recv (k := 0) (ci := 6) hE hN (by decide) rfl rfl) hN hS hAB (fun _ h => h.elim) rfl hl.1 rfl (by decide) (Nat.le_of_ble_eq_true rfl) ⟨Nat.le_refl _, Nat.le_refl _⟩ dX6_faultOfTuning_2 (fun H locs hN _ hu hS => ?_)
  refine lv_if_ne (tgt := 12) hx hb dX6_faultOfTuning_5 (by decide) (fun c3 => ?_) (fun c3 => ?_)
  · rw [if_neg c3] at hf
    refine lv_iload_n hx hb dX6_faultOfTuning_12 rfl (lv_at hl 2 rfl) ?_
    obtain ⟨z4, hc5, hf⟩ := br_some hf
    refine mu_cSN (As := [.int a2]) (rest := []) hx hb hml hown hts hE (mX11_isChannel l E B0 a2 z4 hc5) cn_X6_61 trivial hS hAB (fun _ h => h.elim) rfl hl.1 rfl (by decide) (Nat.le_of_ble_eq_true rfl) ⟨Nat.le_refl _, Nat.le_refl _⟩ dX6_faultOfTuning_13 (fun H locs _ _ hu hS => ?_)
    have hN := Blk.off hN hu (fun _ _ _ h => h)
    refine lv_if_ne (tgt := 23) hx hb dX6_faultOfTuning_16 (by decide) (fun c6 => ?_) (fun c6 => ?_)
    · rw [if_neg c6] at hf
      refine lv_aload_n hx hb dX6_faultOfTuning_23 rfl (lv_at hl 0 rfl) ?_
      refine lv_iload_n hx hb dX6_faultOfTuning_24 rfl (lv_at hl 1 rfl) ?_
      refine w_gs (i := 0) (z := 0) hx hb hw hown (EV.en0 hE) (by decide) hS hAB gs_X6_89 (by decide) dX6_faultOfTuning_25 ?_
      obtain ⟨z7, hc8, hf⟩ := br_some hf
      refine mu_cV (As := [.int a1, .ref (E.2.2 0 (0 : Int32).toNatClampNeg)]) (rest := []) hx hb hml hown hts hE (mX6_faultOfMode l E B0 b (by omega) N a1 (0 : Int32) z7 hc8) cv_X6_95 (w_recv (k := 0) (ci := 6) hE hN (by decide) rfl rfl) hN hS hAB (fun _ h => h.elim) rfl hl.1 rfl (by decide) (Nat.le_of_ble_eq_true rfl) ⟨Nat.le_refl _, Nat.le_refl _⟩ dX6_faultOfTuning_28 (fun H locs hN _ hu hS => ?_)
      have hre := Option.some.inj hf
      subst hre
      exact mu_a hx hb hrt hlocks hN hS dX6_faultOfTuning_31
    · rw [if_pos c6] at hf
      refine w_gs (i := 2) (z := 2) hx hb hw hown (EV.en1 hE) (by decide) hS hAB gs_X6_64 (by decide) dX6_faultOfTuning_19 ?_
      have hre := Option.some.inj hf
      subst hre
      exact mu_a hx hb hrt hlocks hN hS dX6_faultOfTuning_22
  · rw [if_pos c3] at hf
    refine w_gs (i := 1) (z := 1) hx hb hw hown (EV.en1 hE) (by decide) hS hAB gs_X6_86 (by decide) dX6_faultOfTuning_8 ?_
    have hre := Option.some.inj hf
    subst hre
    exact mu_a hx hb hrt hlocks hN hS dX6_faultOfTuning_11
def fX6_add (N : Mem) (a1 : Int32) (a2 : Int32) (a3 : Int32) (a4 : Int32) (a5 : Int32) (a6 : Int32) : Option (Int32 × Mem) := gd (inb (N 0 1) 8) (gd (isC a1) (some ((N 0 1), (up2 (up2 (up2 (up2 (up2 (up2 (up2 (up2 (up2 (up2 (up2 N (2 + 1 * (N 0 1).toNatClampNeg) 0 a1) (2 + 1 * (N 0 1).toNatClampNeg) 1 a2) (2 + 1 * (N 0 1).toNatClampNeg) 2 a3) (2 + 1 * (N 0 1).toNatClampNeg) 3 a4) (2 + 1 * (N 0 1).toNatClampNeg) 4 a5) (2 + 1 * (N 0 1).toNatClampNeg) 5 a6) (2 + 1 * (N 0 1).toNatClampNeg) 6 (0 : Int32)) (2 + 1 * (N 0 1).toNatClampNeg) 7 (0 : Int32)) (2 + 1 * (N 0 1).toNatClampNeg) 8 (0 : Int32)) (2 + 1 * (N 0 1).toNatClampNeg) 9 (0 : Int32)) 0 1 (((up2 (up2 (up2 (up2 (up2 (up2 (up2 (up2 (up2 (up2 N (2 + 1 * (N 0 1).toNatClampNeg) 0 a1) (2 + 1 * (N 0 1).toNatClampNeg) 1 a2) (2 + 1 * (N 0 1).toNatClampNeg) 2 a3) (2 + 1 * (N 0 1).toNatClampNeg) 3 a4) (2 + 1 * (N 0 1).toNatClampNeg) 4 a5) (2 + 1 * (N 0 1).toNatClampNeg) 5 a6) (2 + 1 * (N 0 1).toNatClampNeg) 6 (0 : Int32)) (2 + 1 * (N 0 1).toNatClampNeg) 7 (0 : Int32)) (2 + 1 * (N 0 1).toNatClampNeg) 8 (0 : Int32)) (2 + 1 * (N 0 1).toNatClampNeg) 9 (0 : Int32)) 0 1) + 1)))))
set_option maxHeartbeats 4000000 in
set_option maxRecDepth 100000 in
theorem mX6_add (l : Launch) (E : EP) (B0 : Nat) (b : Nat) (hb0 : B0 ≤ b) (N : Mem) (a1 : Int32) (a2 : Int32) (a3 : Int32) (a4 : Int32) (a5 : Int32) (a6 : Int32) (r : Int32 × Mem) (hf : fX6_add N a1 a2 a3 a4 a5 a6 = some r) : MU l E B0 yX6_add cX6_add 9 (some .int) 0 0 0 [.ref (b + 0), .int a1, .int a2, .int a3, .int a4, .int a5, .int a6] (Blk E b netSh 15 N) (some (.int r.1)) (Blk E b netSh 15 r.2) (iv b 15) := by
  refine mu_of (by decide +kernel) (Nat.le_of_ble_eq_true rfl) ?_
  intro p e s m args below meth c hx hb hml hown hts hrt hlocks hE H hN hS ls hl
  have hown : s.vm.findClass RX6 = some m.cls := hown
  have hl : lv_has ls 9 [(0, .ref (b + 0)), (1, .int a1), (2, .int a2), (3, .int a3), (4, .int a4), (5, .int a5), (6, .int a6)] := hl
  have hw : ∀ w ∈ WA, w.before args s = true := fun w h => hts w (List.mem_cons_of_mem _ h)
  have hAB : ∀ q, (iv b 15) q → B0 ≤ q := (iv_ge (by omega))
  unfold fX6_add at hf
  refine lv_aload_n hx hb dX6_add_0 rfl (lv_at hl 0 rfl) ?_
  refine w_get (k := 0) (v := .int (N 0 1)) hx hb hw hown hE fl_X6_18 hN (by decide) rfl rfl rfl dX6_add_1 ?_
  refine lv_istore (lv' := [(7, .int (N 0 1)), (0, .ref (b + 0)), (1, .int a1), (2, .int a2), (3, .int a3), (4, .int a4), (5, .int a5), (6, .int a6)]) hx hb dX6_add_4 hl (by decide) rfl (fun ls hl => ?_)
  refine lv_aload_n hx hb dX6_add_6 rfl (lv_at hl 1 rfl) ?_
  refine w_get (k := 0) (v := .ref (b + 1)) hx hb hw hown hE fl_X6_11 hN (by decide) rfl rfl rfl dX6_add_7 ?_
  refine lv_iload hx hb dX6_add_10 (lv_at hl 0 rfl) ?_
  obtain ⟨h1, hf⟩ := gd_some hf
  refine w_aald (k := 1) (j := 0) (x9 := (N 0 1).toNatClampNeg) hx hb hE hN (by decide) rfl rfl rfl h1 dX6_add_12 ?_
  refine lv_astore (lv' := [(8, .ref (b + (2 + 1 * (N 0 1).toNatClampNeg))), (7, .int (N 0 1)), (0, .ref (b + 0)), (1, .int a1), (2, .int a2), (3, .int a3), (4, .int a4), (5, .int a5), (6, .int a6)]) hx hb dX6_add_13 hl (by decide) rfl (fun ls hl => ?_)
  refine lv_aload hx hb dX6_add_15 (lv_at hl 0 rfl) ?_
  refine lv_iload_n hx hb dX6_add_17 rfl (lv_at hl 3 rfl) ?_
  obtain ⟨h2, hf⟩ := gd_some hf
  refine w_put (k := (2 + 1 * (N 0 1).toNatClampNeg)) (v := .int a1) hx hb hw hown hE fl_X6_102 fw_X9_0 hN (stn_lt (stn_ld h1)) (stn_sh (stn_ld h1)) rfl a1 rfl (isC_n h2) (isC_f h2) hS (iv_mem (stn_lt (stn_ld h1))) dX6_add_18 (fun H locs hN _ hu hS => ?_)
  refine lv_aload hx hb dX6_add_21 (lv_at hl 0 rfl) ?_
  refine lv_iload_n hx hb dX6_add_23 rfl (lv_at hl 4 rfl) ?_
  refine w_put (k := (2 + 1 * (N 0 1).toNatClampNeg)) (v := .int a2) hx hb hw hown hE fl_X6_106 fw_X9_1 hN (stn_lt (stn_ld h1)) (stn_sh (stn_ld h1)) rfl a2 rfl rfl rfl hS (iv_mem (stn_lt (stn_ld h1))) dX6_add_24 (fun H locs hN _ hu hS => ?_)
  refine lv_aload hx hb dX6_add_27 (lv_at hl 0 rfl) ?_
  refine lv_iload_n hx hb dX6_add_29 rfl (lv_at hl 5 rfl) ?_
  refine w_put (k := (2 + 1 * (N 0 1).toNatClampNeg)) (v := .int a3) hx hb hw hown hE fl_X6_109 fw_X9_2 hN (stn_lt (stn_ld h1)) (stn_sh (stn_ld h1)) rfl a3 rfl rfl rfl hS (iv_mem (stn_lt (stn_ld h1))) dX6_add_30 (fun H locs hN _ hu hS => ?_)
  refine lv_aload hx hb dX6_add_33 (lv_at hl 0 rfl) ?_
  refine lv_iload hx hb dX6_add_35 (lv_at hl 6 rfl) ?_
  refine w_put (k := (2 + 1 * (N 0 1).toNatClampNeg)) (v := .int a4) hx hb hw hown hE fl_X6_112 fw_X9_3 hN (stn_lt (stn_ld h1)) (stn_sh (stn_ld h1)) rfl a4 rfl rfl rfl hS (iv_mem (stn_lt (stn_ld h1))) dX6_add_37 (fun H locs hN _ hu hS => ?_)
  refine lv_aload hx hb dX6_add_40 (lv_at hl 0 rfl) ?_
  refine lv_iload hx hb dX6_add_42 (lv_at hl 7 rfl) ?_
  refine w_put (k := (2 + 1 * (N 0 1).toNatClampNeg)) (v := .int a5) hx hb hw hown hE fl_X6_115 fw_X9_4 hN (stn_lt (stn_ld h1)) (stn_sh (stn_ld h1)) rfl a5 rfl rfl rfl hS (iv_mem (stn_lt (stn_ld h1))) dX6_add_44 (fun H locs hN _ hu hS => ?_)
  refine lv_aload hx hb dX6_add_47 (lv_at hl 0 rfl) ?_
  refine lv_iload hx hb dX6_add_49 (lv_at hl 8 rfl) ?_
  refine w_put (k := (2 + 1 * (N 0 1).toNatClampNeg)) (v := .int a6) hx hb hw hown hE fl_X6_118 fw_X9_5 hN (stn_lt (stn_ld h1)) (stn_sh (stn_ld h1)) rfl a6 rfl rfl rfl hS (iv_mem (stn_lt (stn_ld h1))) dX6_add_51 (fun H locs hN _ hu hS => ?_)
  refine lv_aload hx hb dX6_add_54 (lv_at hl 0 rfl) ?_
  refine w_gs (i := 0) (z := 0) hx hb hw hown (EV.en0 hE) (by decide) hS hAB gs_X6_89 (by decide) dX6_add_56 ?_
  refine w_put (k := (2 + 1 * (N 0 1).toNatClampNeg)) (v := .ref (E.2.2 0 (0 : Int32).toNatClampNeg)) hx hb hw hown hE fl_X6_99 fw_X9_6 hN (stn_lt (stn_ld h1)) (stn_sh (stn_ld h1)) rfl (0 : Int32) rfl rfl rfl hS (iv_mem (stn_lt (stn_ld h1))) dX6_add_59 (fun H locs hN _ hu hS => ?_)
  refine lv_aload hx hb dX6_add_62 (lv_at hl 0 rfl) ?_
  refine lv_iconst (v := 0) hx hb dX6_add_64 (by decide) ?_
  refine w_put (k := (2 + 1 * (N 0 1).toNatClampNeg)) (v := .int 0) hx hb hw hown hE fl_X6_121 fw_X9_7 hN (stn_lt (stn_ld h1)) (stn_sh (stn_ld h1)) rfl (0 : Int32) rfl rfl rfl hS (iv_mem (stn_lt (stn_ld h1))) dX6_add_65 (fun H locs hN _ hu hS => ?_)
  refine lv_aload hx hb dX6_add_68 (lv_at hl 0 rfl) ?_
  refine lv_iconst (v := 0) hx hb dX6_add_70 (by decide) ?_
  refine w_put (k := (2 + 1 * (N 0 1).toNatClampNeg)) (v := .int 0) hx hb hw hown hE fl_X6_124 fw_X9_8 hN (stn_lt (stn_ld h1)) (stn_sh (stn_ld h1)) rfl (0 : Int32) rfl rfl rfl hS (iv_mem (stn_lt (stn_ld h1))) dX6_add_71 (fun H locs hN _ hu hS => ?_)
  refine lv_aload hx hb dX6_add_74 (lv_at hl 0 rfl) ?_
  refine lv_iconst (v := 0) hx hb dX6_add_76 (by decide) ?_
  refine w_put (k := (2 + 1 * (N 0 1).toNatClampNeg)) (v := .int 0) hx hb hw hown hE fl_X6_127 fw_X9_9 hN (stn_lt (stn_ld h1)) (stn_sh (stn_ld h1)) rfl (0 : Int32) rfl rfl rfl hS (iv_mem (stn_lt (stn_ld h1))) dX6_add_77 (fun H locs hN _ hu hS => ?_)
  refine lv_aload_n hx hb dX6_add_80 rfl (lv_at hl 2 rfl) ?_
  refine lv_dup hx hb dX6_add_81 rfl ?_
  refine w_get (k := 0) (v := .int ((up2 (up2 (up2 (up2 (up2 (up2 (up2 (up2 (up2 (up2 N (2 + 1 * (N 0 1).toNatClampNeg) 0 a1) (2 + 1 * (N 0 1).toNatClampNeg) 1 a2) (2 + 1 * (N 0 1).toNatClampNeg) 2 a3) (2 + 1 * (N 0 1).toNatClampNeg) 3 a4) (2 + 1 * (N 0 1).toNatClampNeg) 4 a5) (2 + 1 * (N 0 1).toNatClampNeg) 5 a6) (2 + 1 * (N 0 1).toNatClampNeg) 6 (0 : Int32)) (2 + 1 * (N 0 1).toNatClampNeg) 7 (0 : Int32)) (2 + 1 * (N 0 1).toNatClampNeg) 8 (0 : Int32)) (2 + 1 * (N 0 1).toNatClampNeg) 9 (0 : Int32)) 0 1)) hx hb hw hown hE fl_X6_18 hN (by decide) rfl rfl rfl dX6_add_82 ?_
  refine lv_iconst (v := 1) hx hb dX6_add_85 (by decide) ?_
  refine lv_iadd hx hb dX6_add_86 ?_
  refine w_put (k := 0) (v := .int (((up2 (up2 (up2 (up2 (up2 (up2 (up2 (up2 (up2 (up2 N (2 + 1 * (N 0 1).toNatClampNeg) 0 a1) (2 + 1 * (N 0 1).toNatClampNeg) 1 a2) (2 + 1 * (N 0 1).toNatClampNeg) 2 a3) (2 + 1 * (N 0 1).toNatClampNeg) 3 a4) (2 + 1 * (N 0 1).toNatClampNeg) 4 a5) (2 + 1 * (N 0 1).toNatClampNeg) 5 a6) (2 + 1 * (N 0 1).toNatClampNeg) 6 (0 : Int32)) (2 + 1 * (N 0 1).toNatClampNeg) 7 (0 : Int32)) (2 + 1 * (N 0 1).toNatClampNeg) 8 (0 : Int32)) (2 + 1 * (N 0 1).toNatClampNeg) 9 (0 : Int32)) 0 1) + 1)) hx hb hw hown hE fl_X6_18 fw_X6_1 hN (by decide) rfl rfl (((up2 (up2 (up2 (up2 (up2 (up2 (up2 (up2 (up2 (up2 N (2 + 1 * (N 0 1).toNatClampNeg) 0 a1) (2 + 1 * (N 0 1).toNatClampNeg) 1 a2) (2 + 1 * (N 0 1).toNatClampNeg) 2 a3) (2 + 1 * (N 0 1).toNatClampNeg) 3 a4) (2 + 1 * (N 0 1).toNatClampNeg) 4 a5) (2 + 1 * (N 0 1).toNatClampNeg) 5 a6) (2 + 1 * (N 0 1).toNatClampNeg) 6 (0 : Int32)) (2 + 1 * (N 0 1).toNatClampNeg) 7 (0 : Int32)) (2 + 1 * (N 0 1).toNatClampNeg) 8 (0 : Int32)) (2 + 1 * (N 0 1).toNatClampNeg) 9 (0 : Int32)) 0 1) + 1) rfl rfl rfl hS (iv_mem (by decide)) dX6_add_87 (fun H locs hN _ hu hS => ?_)
  refine lv_iload hx hb dX6_add_90 (lv_at hl 1 rfl) ?_
  have hre := Option.some.inj hf
  subst hre
  exact mu_i (v := (N 0 1)) hx hb hrt hlocks hN hS dX6_add_92
def fX6_moveTo_s (a1 : Int32) (a2 : Int32) (a3 : Int32) (z : Int32 × Int32 × Mem) : Option ((Int32 × Int32 × Mem) ⊕ (Int32 × Mem)) := (if (z.2.2 0 1) ≤ z.2.1 then some (.inr (z.1, z.2.2)) else gd (inb z.2.1 8) ((fX9_hears z.2.2 (2 + 1 * z.2.1.toNatClampNeg) (2 + 1 * a1.toNatClampNeg)).bind fun z4 => (if z4 = 0 then some (.inl (z.1, (z.2.1 + 1), z.2.2)) else some (.inl ((z.1 + 1), (z.2.1 + 1), z.2.2)))))
noncomputable def fX6_moveTo (N : Mem) (a1 : Int32) (a2 : Int32) (a3 : Int32) : Option (Int32 × Mem) := gd (inb a1 8) (lp (fX6_moveTo_s a1 a2 a3) (0, 0, (up2 (up2 N (2 + 1 * a1.toNatClampNeg) 2 a2) (2 + 1 * a1.toNatClampNeg) 3 a3)))
set_option maxHeartbeats 4000000 in
set_option maxRecDepth 100000 in
theorem mX6_moveTo (l : Launch) (E : EP) (B0 : Nat) (b : Nat) (hb0 : B0 ≤ b) (N : Mem) (a1 : Int32) (a2 : Int32) (a3 : Int32) (r : Int32 × Mem) (hf : fX6_moveTo N a1 a2 a3 = some r) : MU l E B0 yX6_moveTo cX6_moveTo 7 (some .int) 2 0 0 [.ref (b + 0), .int a1, .int a2, .int a3] (Blk E b netSh 15 N) (some (.int r.1)) (Blk E b netSh 15 r.2) (iv b 15) := by
  refine mu_of (by decide +kernel) (Nat.le_of_ble_eq_true rfl) ?_
  intro p e s m args below meth c hx hb hml hown hts hrt hlocks hE H hN hS ls hl
  have hown : s.vm.findClass RX6 = some m.cls := hown
  have hl : lv_has ls 7 [(0, .ref (b + 0)), (1, .int a1), (2, .int a2), (3, .int a3)] := hl
  have hw : ∀ w ∈ WA, w.before args s = true := fun w h => hts w (List.mem_cons_of_mem _ h)
  have hAB : ∀ q, (iv b 15) q → B0 ≤ q := (iv_ge (by omega))
  unfold fX6_moveTo at hf
  refine lv_aload_n hx hb dX6_moveTo_0 rfl (lv_at hl 0 rfl) ?_
  refine w_get (k := 0) (v := .ref (b + 1)) hx hb hw hown hE fl_X6_11 hN (by decide) rfl rfl rfl dX6_moveTo_1 ?_
  refine lv_iload_n hx hb dX6_moveTo_4 rfl (lv_at hl 1 rfl) ?_
  obtain ⟨h1, hf⟩ := gd_some hf
  refine w_aald (k := 1) (j := 0) (x9 := a1.toNatClampNeg) hx hb hE hN (by decide) rfl rfl rfl h1 dX6_moveTo_5 ?_
  refine lv_astore (lv' := [(4, .ref (b + (2 + 1 * a1.toNatClampNeg))), (0, .ref (b + 0)), (1, .int a1), (2, .int a2), (3, .int a3)]) hx hb dX6_moveTo_6 hl (by decide) rfl (fun ls hl => ?_)
  refine lv_aload hx hb dX6_moveTo_8 (lv_at hl 0 rfl) ?_
  refine lv_iload_n hx hb dX6_moveTo_10 rfl (lv_at hl 3 rfl) ?_
  refine w_put (k := (2 + 1 * a1.toNatClampNeg)) (v := .int a2) hx hb hw hown hE fl_X6_109 fw_X9_2 hN (stn_lt (stn_ld h1)) (stn_sh (stn_ld h1)) rfl a2 rfl rfl rfl hS (iv_mem (stn_lt (stn_ld h1))) dX6_moveTo_11 (fun H locs hN _ hu hS => ?_)
  refine lv_aload hx hb dX6_moveTo_14 (lv_at hl 0 rfl) ?_
  refine lv_iload_n hx hb dX6_moveTo_16 rfl (lv_at hl 4 rfl) ?_
  refine w_put (k := (2 + 1 * a1.toNatClampNeg)) (v := .int a3) hx hb hw hown hE fl_X6_112 fw_X9_3 hN (stn_lt (stn_ld h1)) (stn_sh (stn_ld h1)) rfl a3 rfl rfl rfl hS (iv_mem (stn_lt (stn_ld h1))) dX6_moveTo_17 (fun H locs hN _ hu hS => ?_)
  refine lv_iconst (v := 0) hx hb dX6_moveTo_20 (by decide) ?_
  refine lv_istore (lv' := [(5, .int 0), (4, .ref (b + (2 + 1 * a1.toNatClampNeg))), (0, .ref (b + 0)), (1, .int a1), (2, .int a2), (3, .int a3)]) hx hb dX6_moveTo_21 hl (by decide) rfl (fun ls hl => ?_)
  refine lv_iconst (v := 0) hx hb dX6_moveTo_23 (by decide) ?_
  refine lv_istore (lv' := [(6, .int 0), (5, .int 0), (4, .ref (b + (2 + 1 * a1.toNatClampNeg))), (0, .ref (b + 0)), (1, .int a1), (2, .int a2), (3, .int a3)]) hx hb dX6_moveTo_24 hl (by decide) rfl (fun ls hl => ?_)
  obtain ⟨fu, hfu⟩ := lp_some hf
  have loop : ∀ (fu : Nat) (z : Int32 × Int32 × Mem), lpI (fX6_moveTo_s a1 a2 a3) fu z = some r → (∀ (H : Heap) (locs : List Loc) (ls : Array Slot), Blk E b netSh 15 z.2.2 H → va_S (iv b 15) s.heap H locs → lv_has ls 7 [(0, .ref (b + 0)), (1, .int a1), (2, .int a2), (3, .int a3), (4, .ref (b + (2 + 1 * a1.toNatClampNeg))), (5, .int z.1), (6, .int z.2.1)] → W p l e (rmD 2 0 0) s m args below meth c H locs 0 0 (MQ below (QU (some (.int r.1)) (Blk E b netSh 15 r.2) (iv b 15)) args s 0 0 (iv b 15)) (F0 m 26 ls [])) := by
    intro fu
    induction fu with
    | zero =>
      intro z hn
      exact nomatch hn
    | succ fu ih =>
      intro z hn
      obtain ⟨y, hf, hy⟩ := lpI_succ hn
      intro H locs ls hN hS hl
      unfold fX6_moveTo_s at hf
      refine lv_iload hx hb dX6_moveTo_26 (lv_at hl 6 rfl) ?_
      refine lv_aload_n hx hb dX6_moveTo_28 rfl (lv_at hl 0 rfl) ?_
      refine w_get (k := 0) (v := .int (z.2.2 0 1)) hx hb hw hown hE fl_X6_18 hN (by decide) rfl rfl rfl dX6_moveTo_29 ?_
      refine lv_icmp_ge (tgt := 59) hx hb dX6_moveTo_32 (by decide) (fun c2 => ?_) (fun c2 => ?_)
      · rw [if_pos c2] at hf
        refine lv_iload hx hb dX6_moveTo_59 (lv_at hl 5 rfl) ?_
        have hre := lp_end hy (Option.some.inj hf).symm
        subst hre
        exact mu_i (v := z.1) hx hb hrt hlocks hN hS dX6_moveTo_61
      · rw [if_neg c2] at hf
        refine lv_aload_n hx hb dX6_moveTo_35 rfl (lv_at hl 0 rfl) ?_
        refine w_get (k := 0) (v := .ref (b + 1)) hx hb hw hown hE fl_X6_11 hN (by decide) rfl rfl rfl dX6_moveTo_36 ?_
        refine lv_iload hx hb dX6_moveTo_39 (lv_at hl 6 rfl) ?_
        obtain ⟨h3, hf⟩ := gd_some hf
        refine w_aald (k := 1) (j := 0) (x9 := z.2.1.toNatClampNeg) hx hb hE hN (by decide) rfl rfl rfl h3 dX6_moveTo_41 ?_
        refine lv_aload hx hb dX6_moveTo_42 (lv_at hl 4 rfl) ?_
        obtain ⟨z4, hc5, hf⟩ := br_some hf
        refine mu_cV (As := [.ref (b + (2 + 1 * a1.toNatClampNeg))]) (rest := []) hx hb hml hown hts hE (mX9_hears l E B0 b (by omega) z.2.2 (2 + 1 * z.2.1.toNatClampNeg) (2 + 1 * a1.toNatClampNeg) z4 hc5) cv_X6_130 (w_recv (k := (2 + 1 * z.2.1.toNatClampNeg)) (ci := 9) hE hN (stn_lt (stn_ld h3)) (stn_sh (stn_ld h3)) rfl) hN hS hAB (fun _ h => h.elim) rfl hl.1 rfl (by decide) (Nat.le_of_ble_eq_true rfl) ⟨Nat.le_refl _, Nat.le_refl _⟩ dX6_moveTo_44 (fun H locs hN _ hu hS => ?_)
        refine lv_if_eq (tgt := 53) hx hb dX6_moveTo_47 (by decide) (fun c6 => ?_) (fun c6 => ?_)
        · rw [if_pos c6] at hf
          refine lv_iinc (v := (z.2.1 + 1)) (lv' := [(6, .int (z.2.1 + 1)), (0, .ref (b + 0)), (1, .int a1), (2, .int a2), (3, .int a3), (4, .ref (b + (2 + 1 * a1.toNatClampNeg))), (5, .int z.1)]) hx hb dX6_moveTo_53 hl (k := 6) rfl rfl (by decide) rfl (fun ls hl => ?_)
          refine lv_goto (tgt := 26) hx hb dX6_moveTo_56 (by decide) ?_
          exact ih (z.1, (z.2.1 + 1), z.2.2) (lp_back hy (Option.some.inj hf).symm) _ _ _ hN hS (lv_sub hl [1, 2, 3, 4, 5, 6, 0] rfl)
        · rw [if_neg c6] at hf
          refine lv_iinc (v := (z.1 + 1)) (lv' := [(5, .int (z.1 + 1)), (0, .ref (b + 0)), (1, .int a1), (2, .int a2), (3, .int a3), (4, .ref (b + (2 + 1 * a1.toNatClampNeg))), (6, .int z.2.1)]) hx hb dX6_moveTo_50 hl (k := 5) rfl rfl (by decide) rfl (fun ls hl => ?_)
          refine lv_iinc (v := (z.2.1 + 1)) (lv' := [(6, .int (z.2.1 + 1)), (5, .int (z.1 + 1)), (0, .ref (b + 0)), (1, .int a1), (2, .int a2), (3, .int a3), (4, .ref (b + (2 + 1 * a1.toNatClampNeg)))]) hx hb dX6_moveTo_53 hl (k := 6) rfl rfl (by decide) rfl (fun ls hl => ?_)
          refine lv_goto (tgt := 26) hx hb dX6_moveTo_56 (by decide) ?_
          exact ih ((z.1 + 1), (z.2.1 + 1), z.2.2) (lp_back hy (Option.some.inj hf).symm) _ _ _ hN hS (lv_sub hl [2, 3, 4, 5, 6, 1, 0] rfl)
  exact (loop fu (0, 0, (up2 (up2 N (2 + 1 * a1.toNatClampNeg) 2 a2) (2 + 1 * a1.toNatClampNeg) 3 a3)) hfu) _ _ _ hN hS (lv_sub hl [3, 4, 5, 6, 2, 1, 0] rfl)
def fX6_changePower (N : Mem) (a1 : Int32) (a2 : Int32) : Option (Int32 × Mem) := gd (inb a1 8) (gd (inb a1 8) (some ((N (2 + 1 * a1.toNatClampNeg) 4), (up2 N (2 + 1 * a1.toNatClampNeg) 4 a2))))
set_option maxHeartbeats 4000000 in
set_option maxRecDepth 100000 in
theorem mX6_changePower (l : Launch) (E : EP) (B0 : Nat) (b : Nat) (hb0 : B0 ≤ b) (N : Mem) (a1 : Int32) (a2 : Int32) (r : Int32 × Mem) (hf : fX6_changePower N a1 a2 = some r) : MU l E B0 yX6_changePower cX6_changePower 4 (some .int) 0 0 0 [.ref (b + 0), .int a1, .int a2] (Blk E b netSh 15 N) (some (.int r.1)) (Blk E b netSh 15 r.2) (iv b 15) := by
  refine mu_of (by decide +kernel) (Nat.le_of_ble_eq_true rfl) ?_
  intro p e s m args below meth c hx hb hml hown hts hrt hlocks hE H hN hS ls hl
  have hown : s.vm.findClass RX6 = some m.cls := hown
  have hl : lv_has ls 4 [(0, .ref (b + 0)), (1, .int a1), (2, .int a2)] := hl
  have hw : ∀ w ∈ WA, w.before args s = true := fun w h => hts w (List.mem_cons_of_mem _ h)
  have hAB : ∀ q, (iv b 15) q → B0 ≤ q := (iv_ge (by omega))
  unfold fX6_changePower at hf
  refine lv_aload_n hx hb dX6_changePower_0 rfl (lv_at hl 0 rfl) ?_
  refine w_get (k := 0) (v := .ref (b + 1)) hx hb hw hown hE fl_X6_11 hN (by decide) rfl rfl rfl dX6_changePower_1 ?_
  refine lv_iload_n hx hb dX6_changePower_4 rfl (lv_at hl 1 rfl) ?_
  obtain ⟨h1, hf⟩ := gd_some hf
  refine w_aald (k := 1) (j := 0) (x9 := a1.toNatClampNeg) hx hb hE hN (by decide) rfl rfl rfl h1 dX6_changePower_5 ?_
  refine w_get (k := (2 + 1 * a1.toNatClampNeg)) (v := .int (N (2 + 1 * a1.toNatClampNeg) 4)) hx hb hw hown hE fl_X6_115 hN (stn_lt (stn_ld h1)) (stn_sh (stn_ld h1)) rfl rfl dX6_changePower_6 ?_
  refine lv_istore_n (lv' := [(3, .int (N (2 + 1 * a1.toNatClampNeg) 4)), (0, .ref (b + 0)), (1, .int a1), (2, .int a2)]) hx hb dX6_changePower_9 rfl hl (by decide) rfl (fun ls hl => ?_)
  refine lv_aload_n hx hb dX6_changePower_10 rfl (lv_at hl 1 rfl) ?_
  refine w_get (k := 0) (v := .ref (b + 1)) hx hb hw hown hE fl_X6_11 hN (by decide) rfl rfl rfl dX6_changePower_11 ?_
  refine lv_iload_n hx hb dX6_changePower_14 rfl (lv_at hl 2 rfl) ?_
  obtain ⟨h2, hf⟩ := gd_some hf
  refine w_aald (k := 1) (j := 0) (x9 := a1.toNatClampNeg) hx hb hE hN (by decide) rfl rfl rfl h2 dX6_changePower_15 ?_
  refine lv_iload_n hx hb dX6_changePower_16 rfl (lv_at hl 3 rfl) ?_
  refine w_put (k := (2 + 1 * a1.toNatClampNeg)) (v := .int a2) hx hb hw hown hE fl_X6_115 fw_X9_4 hN (stn_lt (stn_ld h2)) (stn_sh (stn_ld h2)) rfl a2 rfl rfl rfl hS (iv_mem (stn_lt (stn_ld h2))) dX6_changePower_17 (fun H locs hN _ hu hS => ?_)
  refine lv_iload_n hx hb dX6_changePower_20 rfl (lv_at hl 0 rfl) ?_
  have hre := Option.some.inj hf
  subst hre
  exact mu_i (v := (N (2 + 1 * a1.toNatClampNeg) 4)) hx hb hrt hlocks hN hS dX6_changePower_21
def fX6_changeChannel (N : Mem) (a1 : Int32) (a2 : Int32) : Option (Int32 × Mem) := gd (inb a1 8) (gd (inb a1 8) (some ((N (2 + 1 * a1.toNatClampNeg) 5), (up2 N (2 + 1 * a1.toNatClampNeg) 5 a2))))
set_option maxHeartbeats 4000000 in
set_option maxRecDepth 100000 in
theorem mX6_changeChannel (l : Launch) (E : EP) (B0 : Nat) (b : Nat) (hb0 : B0 ≤ b) (N : Mem) (a1 : Int32) (a2 : Int32) (r : Int32 × Mem) (hf : fX6_changeChannel N a1 a2 = some r) : MU l E B0 yX6_changeChannel cX6_changeChannel 4 (some .int) 0 0 0 [.ref (b + 0), .int a1, .int a2] (Blk E b netSh 15 N) (some (.int r.1)) (Blk E b netSh 15 r.2) (iv b 15) := by
  refine mu_of (by decide +kernel) (Nat.le_of_ble_eq_true rfl) ?_
  intro p e s m args below meth c hx hb hml hown hts hrt hlocks hE H hN hS ls hl
  have hown : s.vm.findClass RX6 = some m.cls := hown
  have hl : lv_has ls 4 [(0, .ref (b + 0)), (1, .int a1), (2, .int a2)] := hl
  have hw : ∀ w ∈ WA, w.before args s = true := fun w h => hts w (List.mem_cons_of_mem _ h)
  have hAB : ∀ q, (iv b 15) q → B0 ≤ q := (iv_ge (by omega))
  unfold fX6_changeChannel at hf
  refine lv_aload_n hx hb dX6_changeChannel_0 rfl (lv_at hl 0 rfl) ?_
  refine w_get (k := 0) (v := .ref (b + 1)) hx hb hw hown hE fl_X6_11 hN (by decide) rfl rfl rfl dX6_changeChannel_1 ?_
  refine lv_iload_n hx hb dX6_changeChannel_4 rfl (lv_at hl 1 rfl) ?_
  obtain ⟨h1, hf⟩ := gd_some hf
  refine w_aald (k := 1) (j := 0) (x9 := a1.toNatClampNeg) hx hb hE hN (by decide) rfl rfl rfl h1 dX6_changeChannel_5 ?_
  refine w_get (k := (2 + 1 * a1.toNatClampNeg)) (v := .int (N (2 + 1 * a1.toNatClampNeg) 5)) hx hb hw hown hE fl_X6_118 hN (stn_lt (stn_ld h1)) (stn_sh (stn_ld h1)) rfl rfl dX6_changeChannel_6 ?_
  refine lv_istore_n (lv' := [(3, .int (N (2 + 1 * a1.toNatClampNeg) 5)), (0, .ref (b + 0)), (1, .int a1), (2, .int a2)]) hx hb dX6_changeChannel_9 rfl hl (by decide) rfl (fun ls hl => ?_)
  refine lv_aload_n hx hb dX6_changeChannel_10 rfl (lv_at hl 1 rfl) ?_
  refine w_get (k := 0) (v := .ref (b + 1)) hx hb hw hown hE fl_X6_11 hN (by decide) rfl rfl rfl dX6_changeChannel_11 ?_
  refine lv_iload_n hx hb dX6_changeChannel_14 rfl (lv_at hl 2 rfl) ?_
  obtain ⟨h2, hf⟩ := gd_some hf
  refine w_aald (k := 1) (j := 0) (x9 := a1.toNatClampNeg) hx hb hE hN (by decide) rfl rfl rfl h2 dX6_changeChannel_15 ?_
  refine lv_iload_n hx hb dX6_changeChannel_16 rfl (lv_at hl 3 rfl) ?_
  refine w_put (k := (2 + 1 * a1.toNatClampNeg)) (v := .int a2) hx hb hw hown hE fl_X6_118 fw_X9_5 hN (stn_lt (stn_ld h2)) (stn_sh (stn_ld h2)) rfl a2 rfl rfl rfl hS (iv_mem (stn_lt (stn_ld h2))) dX6_changeChannel_17 (fun H locs hN _ hu hS => ?_)
  refine lv_iload_n hx hb dX6_changeChannel_20 rfl (lv_at hl 0 rfl) ?_
  have hre := Option.some.inj hf
  subst hre
  exact mu_i (v := (N (2 + 1 * a1.toNatClampNeg) 5)) hx hb hrt hlocks hN hS dX6_changeChannel_21
def fX6_changeTurnLimit (N : Mem) (a1 : Int32) : Option (Int32 × Mem) := some ((N 0 6), (up2 N 0 6 a1))
set_option maxHeartbeats 4000000 in
set_option maxRecDepth 100000 in
theorem mX6_changeTurnLimit (l : Launch) (E : EP) (B0 : Nat) (b : Nat) (hb0 : B0 ≤ b) (N : Mem) (a1 : Int32) (r : Int32 × Mem) (hf : fX6_changeTurnLimit N a1 = some r) : MU l E B0 yX6_changeTurnLimit cX6_changeTurnLimit 3 (some .int) 0 0 0 [.ref (b + 0), .int a1] (Blk E b netSh 15 N) (some (.int r.1)) (Blk E b netSh 15 r.2) (iv b 15) := by
  refine mu_of (by decide +kernel) (Nat.le_of_ble_eq_true rfl) ?_
  intro p e s m args below meth c hx hb hml hown hts hrt hlocks hE H hN hS ls hl
  have hown : s.vm.findClass RX6 = some m.cls := hown
  have hl : lv_has ls 3 [(0, .ref (b + 0)), (1, .int a1)] := hl
  have hw : ∀ w ∈ WA, w.before args s = true := fun w h => hts w (List.mem_cons_of_mem _ h)
  have hAB : ∀ q, (iv b 15) q → B0 ≤ q := (iv_ge (by omega))
  unfold fX6_changeTurnLimit at hf
  refine lv_aload_n hx hb dX6_changeTurnLimit_0 rfl (lv_at hl 0 rfl) ?_
  refine w_get (k := 0) (v := .int (N 0 6)) hx hb hw hown hE fl_X6_39 hN (by decide) rfl rfl rfl dX6_changeTurnLimit_1 ?_
  refine lv_istore_n (lv' := [(2, .int (N 0 6)), (0, .ref (b + 0)), (1, .int a1)]) hx hb dX6_changeTurnLimit_4 rfl hl (by decide) rfl (fun ls hl => ?_)
  refine lv_aload_n hx hb dX6_changeTurnLimit_5 rfl (lv_at hl 1 rfl) ?_
  refine lv_iload_n hx hb dX6_changeTurnLimit_6 rfl (lv_at hl 2 rfl) ?_
  refine w_put (k := 0) (v := .int a1) hx hb hw hown hE fl_X6_39 fw_X6_6 hN (by decide) rfl rfl a1 rfl rfl rfl hS (iv_mem (by decide)) dX6_changeTurnLimit_7 (fun H locs hN _ hu hS => ?_)
  refine lv_iload_n hx hb dX6_changeTurnLimit_10 rfl (lv_at hl 0 rfl) ?_
  have hre := Option.some.inj hf
  subst hre
  exact mu_i (v := (N 0 6)) hx hb hrt hlocks hN hS dX6_changeTurnLimit_11
def fX6_beginTurn (N : Mem) (a1 : Int32) : Option (Mem) := gd (inb a1 8) (gd (inb a1 8) (some (up2 (up2 N (2 + 1 * a1.toNatClampNeg) 6 (1 : Int32)) (2 + 1 * a1.toNatClampNeg) 7 ((up2 N (2 + 1 * a1.toNatClampNeg) 6 (1 : Int32)) 0 5))))
set_option maxHeartbeats 4000000 in
set_option maxRecDepth 100000 in
theorem mX6_beginTurn (l : Launch) (E : EP) (B0 : Nat) (b : Nat) (hb0 : B0 ≤ b) (N : Mem) (a1 : Int32) (r : Mem) (hf : fX6_beginTurn N a1 = some r) : MU l E B0 yX6_beginTurn cX6_beginTurn 2 none 0 0 0 [.ref (b + 0), .int a1] (Blk E b netSh 15 N) none (Blk E b netSh 15 r) (iv b 15) := by
  refine mu_of (by decide +kernel) (Nat.le_of_ble_eq_true rfl) ?_
  intro p e s m args below meth c hx hb hml hown hts hrt hlocks hE H hN hS ls hl
  have hown : s.vm.findClass RX6 = some m.cls := hown
  have hl : lv_has ls 2 [(0, .ref (b + 0)), (1, .int a1)] := hl
  have hw : ∀ w ∈ WA, w.before args s = true := fun w h => hts w (List.mem_cons_of_mem _ h)
  have hAB : ∀ q, (iv b 15) q → B0 ≤ q := (iv_ge (by omega))
  unfold fX6_beginTurn at hf
  refine lv_aload_n hx hb dX6_beginTurn_0 rfl (lv_at hl 0 rfl) ?_
  refine w_get (k := 0) (v := .ref (b + 1)) hx hb hw hown hE fl_X6_11 hN (by decide) rfl rfl rfl dX6_beginTurn_1 ?_
  refine lv_iload_n hx hb dX6_beginTurn_4 rfl (lv_at hl 1 rfl) ?_
  obtain ⟨h1, hf⟩ := gd_some hf
  refine w_aald (k := 1) (j := 0) (x9 := a1.toNatClampNeg) hx hb hE hN (by decide) rfl rfl rfl h1 dX6_beginTurn_5 ?_
  refine w_gs (i := 1) (z := 1) hx hb hw hown (EV.en0 hE) (by decide) hS hAB gs_X6_148 (by decide) dX6_beginTurn_6 ?_
  refine w_put (k := (2 + 1 * a1.toNatClampNeg)) (v := .ref (E.2.2 0 (1 : Int32).toNatClampNeg)) hx hb hw hown hE fl_X6_99 fw_X9_6 hN (stn_lt (stn_ld h1)) (stn_sh (stn_ld h1)) rfl (1 : Int32) rfl rfl rfl hS (iv_mem (stn_lt (stn_ld h1))) dX6_beginTurn_9 (fun H locs hN _ hu hS => ?_)
  refine lv_aload_n hx hb dX6_beginTurn_12 rfl (lv_at hl 0 rfl) ?_
  refine w_get (k := 0) (v := .ref (b + 1)) hx hb hw hown hE fl_X6_11 hN (by decide) rfl rfl rfl dX6_beginTurn_13 ?_
  refine lv_iload_n hx hb dX6_beginTurn_16 rfl (lv_at hl 1 rfl) ?_
  obtain ⟨h2, hf⟩ := gd_some hf
  refine w_aald (k := 1) (j := 0) (x9 := a1.toNatClampNeg) hx hb hE hN (by decide) rfl rfl rfl h2 dX6_beginTurn_17 ?_
  refine lv_aload_n hx hb dX6_beginTurn_18 rfl (lv_at hl 0 rfl) ?_
  refine w_get (k := 0) (v := .int ((up2 N (2 + 1 * a1.toNatClampNeg) 6 (1 : Int32)) 0 5)) hx hb hw hown hE fl_X6_36 hN (by decide) rfl rfl rfl dX6_beginTurn_19 ?_
  refine w_put (k := (2 + 1 * a1.toNatClampNeg)) (v := .int ((up2 N (2 + 1 * a1.toNatClampNeg) 6 (1 : Int32)) 0 5)) hx hb hw hown hE fl_X6_121 fw_X9_7 hN (stn_lt (stn_ld h2)) (stn_sh (stn_ld h2)) rfl ((up2 N (2 + 1 * a1.toNatClampNeg) 6 (1 : Int32)) 0 5) rfl rfl rfl hS (iv_mem (stn_lt (stn_ld h2))) dX6_beginTurn_22 (fun H locs hN _ hu hS => ?_)
  have hre := Option.some.inj hf
  subst hre
  exact mu_v hx hb hrt hlocks hN hS dX6_beginTurn_25
noncomputable def fX6_speakOrWait (N : Mem) (a1 : Int32) : Option (Int32 × Mem) := gd (inb a1 8) ((fX6_speakerOn N (N (2 + 1 * a1.toNatClampNeg) 5)).bind fun z2 => (if 0 ≤ z2 then gd (inb a1 8) ((if (8 : Int32) ≤ ((up2 N (2 + 1 * a1.toNatClampNeg) 6 (2 : Int32)) 0 3) then (fX6_waitingOn (up2 N (2 + 1 * a1.toNatClampNeg) 6 (2 : Int32)) (N (2 + 1 * a1.toNatClampNeg) 5)).bind fun z7 => some (z7, (up2 N (2 + 1 * a1.toNatClampNeg) 6 (2 : Int32))) else gd (inb ((up2 N (2 + 1 * a1.toNatClampNeg) 6 (2 : Int32)) 0 3) 8) ((fX6_waitingOn (up2 (up2 (up2 N (2 + 1 * a1.toNatClampNeg) 6 (2 : Int32)) 10 (((up2 N (2 + 1 * a1.toNatClampNeg) 6 (2 : Int32)) 0 3).toNatClampNeg) a1) 0 3 (((up2 (up2 N (2 + 1 * a1.toNatClampNeg) 6 (2 : Int32)) 10 (((up2 N (2 + 1 * a1.toNatClampNeg) 6 (2 : Int32)) 0 3).toNatClampNeg) a1) 0 3) + 1)) (N (2 + 1 * a1.toNatClampNeg) 5)).bind fun z10 => some (z10, (up2 (up2 (up2 N (2 + 1 * a1.toNatClampNeg) 6 (2 : Int32)) 10 (((up2 N (2 + 1 * a1.toNatClampNeg) 6 (2 : Int32)) 0 3).toNatClampNeg) a1) 0 3 (((up2 (up2 N (2 + 1 * a1.toNatClampNeg) 6 (2 : Int32)) 10 (((up2 N (2 + 1 * a1.toNatClampNeg) 6 (2 : Int32)) 0 3).toNatClampNeg) a1) 0 3) + 1)))))) else (fX6_beginTurn N a1).bind fun z12 => some (0, z12)))
set_option maxHeartbeats 4000000 in
set_option maxRecDepth 100000 in
theorem mX6_speakOrWait (l : Launch) (E : EP) (B0 : Nat) (b : Nat) (hb0 : B0 ≤ b) (N : Mem) (a1 : Int32) (r : Int32 × Mem) (hf : fX6_speakOrWait N a1 = some r) : MU l E B0 yX6_speakOrWait cX6_speakOrWait 3 (some .int) 1 0 0 [.ref (b + 0), .int a1] (Blk E b netSh 15 N) (some (.int r.1)) (Blk E b netSh 15 r.2) (iv b 15) := by
  refine mu_of (by decide +kernel) (Nat.le_of_ble_eq_true rfl) ?_
  intro p e s m args below meth c hx hb hml hown hts hrt hlocks hE H hN hS ls hl
  have hown : s.vm.findClass RX6 = some m.cls := hown
  have hl : lv_has ls 3 [(0, .ref (b + 0)), (1, .int a1)] := hl
  have hw : ∀ w ∈ WA, w.before args s = true := fun w h => hts w (List.mem_cons_of_mem _ h)
  have hAB : ∀ q, (iv b 15) q → B0 ≤ q := (iv_ge (by omega))
  unfold fX6_speakOrWait at hf
  refine lv_aload_n hx hb dX6_speakOrWait_0 rfl (lv_at hl 0 rfl) ?_
  refine w_get (k := 0) (v := .ref (b + 1)) hx hb hw hown hE fl_X6_11 hN (by decide) rfl rfl rfl dX6_speakOrWait_1 ?_
  refine lv_iload_n hx hb dX6_speakOrWait_4 rfl (lv_at hl 1 rfl) ?_
  obtain ⟨h1, hf⟩ := gd_some hf
  refine w_aald (k := 1) (j := 0) (x9 := a1.toNatClampNeg) hx hb hE hN (by decide) rfl rfl rfl h1 dX6_speakOrWait_5 ?_
  refine w_get (k := (2 + 1 * a1.toNatClampNeg)) (v := .int (N (2 + 1 * a1.toNatClampNeg) 5)) hx hb hw hown hE fl_X6_118 hN (stn_lt (stn_ld h1)) (stn_sh (stn_ld h1)) rfl rfl dX6_speakOrWait_6 ?_
  refine lv_istore_n (lv' := [(2, .int (N (2 + 1 * a1.toNatClampNeg) 5)), (0, .ref (b + 0)), (1, .int a1)]) hx hb dX6_speakOrWait_9 rfl hl (by decide) rfl (fun ls hl => ?_)
  refine lv_aload_n hx hb dX6_speakOrWait_10 rfl (lv_at hl 1 rfl) ?_
  refine lv_iload_n hx hb dX6_speakOrWait_11 rfl (lv_at hl 0 rfl) ?_
  obtain ⟨z2, hc3, hf⟩ := br_some hf
  refine mu_cV (As := [.int (N (2 + 1 * a1.toNatClampNeg) 5)]) (rest := []) hx hb hml hown hts hE (mX6_speakerOn l E B0 b (by omega) N (N (2 + 1 * a1.toNatClampNeg) 5) z2 hc3) cv_X6_134 (w_recv (k := 0) (ci := 6) hE hN (by decide) rfl rfl) hN hS hAB (fun _ h => h.elim) rfl hl.1 rfl (by decide) (Nat.le_of_ble_eq_true rfl) ⟨Nat.le_refl _, Nat.le_refl _⟩ dX6_speakOrWait_12 (fun H locs hN _ hu hS => ?_)
  refine lv_if_ge (tgt := 25) hx hb dX6_speakOrWait_15 (by decide) (fun c4 => ?_) (fun c4 => ?_)
  · rw [if_pos c4] at hf
    refine lv_aload_n hx hb dX6_speakOrWait_25 rfl (lv_at hl 1 rfl) ?_
    refine w_get (k := 0) (v := .ref (b + 1)) hx hb hw hown hE fl_X6_11 hN (by decide) rfl rfl rfl dX6_speakOrWait_26 ?_
    refine lv_iload_n hx hb dX6_speakOrWait_29 rfl (lv_at hl 2 rfl) ?_
    obtain ⟨h5, hf⟩ := gd_some hf
    refine w_aald (k := 1) (j := 0) (x9 := a1.toNatClampNeg) hx hb hE hN (by decide) rfl rfl rfl h5 dX6_speakOrWait_30 ?_
    refine w_gs (i := 2) (z := 2) hx hb hw hown (EV.en0 hE) (by decide) hS hAB gs_X6_142 (by decide) dX6_speakOrWait_31 ?_
    refine w_put (k := (2 + 1 * a1.toNatClampNeg)) (v := .ref (E.2.2 0 (2 : Int32).toNatClampNeg)) hx hb hw hown hE fl_X6_99 fw_X9_6 hN (stn_lt (stn_ld h5)) (stn_sh (stn_ld h5)) rfl (2 : Int32) rfl rfl rfl hS (iv_mem (stn_lt (stn_ld h5))) dX6_speakOrWait_34 (fun H locs hN _ hu hS => ?_)
    refine lv_aload_n hx hb dX6_speakOrWait_37 rfl (lv_at hl 1 rfl) ?_
    refine w_get (k := 0) (v := .int ((up2 N (2 + 1 * a1.toNatClampNeg) 6 (2 : Int32)) 0 3)) hx hb hw hown hE fl_X6_26 hN (by decide) rfl rfl rfl dX6_speakOrWait_38 ?_
    refine lv_bipush (v := 8) hx hb dX6_speakOrWait_41 (by decide) ?_
    refine lv_icmp_ge (tgt := 66) hx hb dX6_speakOrWait_43 (by decide) (fun c6 => ?_) (fun c6 => ?_)
    · rw [if_pos c6] at hf
      refine lv_aload_n hx hb dX6_speakOrWait_66 rfl (lv_at hl 1 rfl) ?_
      refine lv_iload_n hx hb dX6_speakOrWait_67 rfl (lv_at hl 0 rfl) ?_
      obtain ⟨z7, hc8, hf⟩ := br_some hf
      refine mu_cV (As := [.int (N (2 + 1 * a1.toNatClampNeg) 5)]) (rest := []) hx hb hml hown hts hE (mX6_waitingOn l E B0 b (by omega) (up2 N (2 + 1 * a1.toNatClampNeg) 6 (2 : Int32)) (N (2 + 1 * a1.toNatClampNeg) 5) z7 hc8) cv_X6_145 (w_recv (k := 0) (ci := 6) hE hN (by decide) rfl rfl) hN hS hAB (fun _ h => h.elim) rfl hl.1 rfl (by decide) (Nat.le_of_ble_eq_true rfl) ⟨Nat.le_refl _, Nat.le_refl _⟩ dX6_speakOrWait_68 (fun H locs hN _ hu hS => ?_)
      have hre := Option.some.inj hf
      subst hre
      exact mu_i (v := z7) hx hb hrt hlocks hN hS dX6_speakOrWait_71
    · rw [if_neg c6] at hf
      refine lv_aload_n hx hb dX6_speakOrWait_46 rfl (lv_at hl 1 rfl) ?_
      refine w_get (k := 0) (v := .ref (b + 10)) hx hb hw hown hE fl_X6_22 hN (by decide) rfl rfl rfl dX6_speakOrWait_47 ?_
      refine lv_aload_n hx hb dX6_speakOrWait_50 rfl (lv_at hl 1 rfl) ?_
      refine w_get (k := 0) (v := .int ((up2 N (2 + 1 * a1.toNatClampNeg) 6 (2 : Int32)) 0 3)) hx hb hw hown hE fl_X6_26 hN (by decide) rfl rfl rfl dX6_speakOrWait_51 ?_
      refine lv_iload_n hx hb dX6_speakOrWait_54 rfl (lv_at hl 2 rfl) ?_
      obtain ⟨h9, hf⟩ := gd_some hf
      refine w_iast (k := 10) (x9 := ((up2 N (2 + 1 * a1.toNatClampNeg) 6 (2 : Int32)) 0 3).toNatClampNeg) (x := a1) hx hb hE hN (by decide) rfl rfl h9 hS (iv_mem (by decide)) dX6_speakOrWait_55 (fun H locs hN _ hu hS => ?_)
      refine lv_aload_n hx hb dX6_speakOrWait_56 rfl (lv_at hl 1 rfl) ?_
      refine lv_dup hx hb dX6_speakOrWait_57 rfl ?_
      refine w_get (k := 0) (v := .int ((up2 (up2 N (2 + 1 * a1.toNatClampNeg) 6 (2 : Int32)) 10 (((up2 N (2 + 1 * a1.toNatClampNeg) 6 (2 : Int32)) 0 3).toNatClampNeg) a1) 0 3)) hx hb hw hown hE fl_X6_26 hN (by decide) rfl rfl rfl dX6_speakOrWait_58 ?_
      refine lv_iconst (v := 1) hx hb dX6_speakOrWait_61 (by decide) ?_
      refine lv_iadd hx hb dX6_speakOrWait_62 ?_
      refine w_put (k := 0) (v := .int (((up2 (up2 N (2 + 1 * a1.toNatClampNeg) 6 (2 : Int32)) 10 (((up2 N (2 + 1 * a1.toNatClampNeg) 6 (2 : Int32)) 0 3).toNatClampNeg) a1) 0 3) + 1)) hx hb hw hown hE fl_X6_26 fw_X6_3 hN (by decide) rfl rfl (((up2 (up2 N (2 + 1 * a1.toNatClampNeg) 6 (2 : Int32)) 10 (((up2 N (2 + 1 * a1.toNatClampNeg) 6 (2 : Int32)) 0 3).toNatClampNeg) a1) 0 3) + 1) rfl rfl rfl hS (iv_mem (by decide)) dX6_speakOrWait_63 (fun H locs hN _ hu hS => ?_)
      refine lv_aload_n hx hb dX6_speakOrWait_66 rfl (lv_at hl 1 rfl) ?_
      refine lv_iload_n hx hb dX6_speakOrWait_67 rfl (lv_at hl 0 rfl) ?_
      obtain ⟨z10, hc11, hf⟩ := br_some hf
      refine mu_cV (As := [.int (N (2 + 1 * a1.toNatClampNeg) 5)]) (rest := []) hx hb hml hown hts hE (mX6_waitingOn l E B0 b (by omega) (up2 (up2 (up2 N (2 + 1 * a1.toNatClampNeg) 6 (2 : Int32)) 10 (((up2 N (2 + 1 * a1.toNatClampNeg) 6 (2 : Int32)) 0 3).toNatClampNeg) a1) 0 3 (((up2 (up2 N (2 + 1 * a1.toNatClampNeg) 6 (2 : Int32)) 10 (((up2 N (2 + 1 * a1.toNatClampNeg) 6 (2 : Int32)) 0 3).toNatClampNeg) a1) 0 3) + 1)) (N (2 + 1 * a1.toNatClampNeg) 5) z10 hc11) cv_X6_145 (w_recv (k := 0) (ci := 6) hE hN (by decide) rfl rfl) hN hS hAB (fun _ h => h.elim) rfl hl.1 rfl (by decide) (Nat.le_of_ble_eq_true rfl) ⟨Nat.le_refl _, Nat.le_refl _⟩ dX6_speakOrWait_68 (fun H locs hN _ hu hS => ?_)
      have hre := Option.some.inj hf
      subst hre
      exact mu_i (v := z10) hx hb hrt hlocks hN hS dX6_speakOrWait_71
  · rw [if_neg c4] at hf
    refine lv_aload_n hx hb dX6_speakOrWait_18 rfl (lv_at hl 1 rfl) ?_
    refine lv_iload_n hx hb dX6_speakOrWait_19 rfl (lv_at hl 2 rfl) ?_
    obtain ⟨z12, hc13, hf⟩ := br_some hf
    refine mu_cV (As := [.int a1]) (rest := []) hx hb hml hown hts hE (mX6_beginTurn l E B0 b (by omega) N a1 z12 hc13) cv_X6_138 (w_recv (k := 0) (ci := 6) hE hN (by decide) rfl rfl) hN hS hAB (fun _ h => h) rfl hl.1 rfl (by decide) (Nat.le_of_ble_eq_true rfl) ⟨Nat.le_refl _, Nat.le_refl _⟩ dX6_speakOrWait_20 (fun H locs hN _ hu hS => ?_)
    refine lv_iconst (v := 0) hx hb dX6_speakOrWait_23 (by decide) ?_
    have hre := Option.some.inj hf
    subst hre
    exact mu_i (v := 0) hx hb hrt hlocks hN hS dX6_speakOrWait_24
def fX6_leaveLine_s (a1 : Int32) (z : Int32 × Int32 × Mem) : Option ((Int32 × Int32 × Mem) ⊕ (Mem)) := (if (z.2.2 0 3) ≤ z.2.1 then some (.inr (up2 z.2.2 0 3 z.1)) else gd (inb z.2.1 8) ((if (z.2.2 10 z.2.1.toNatClampNeg) = a1 then some (.inl (z.1, (z.2.1 + 1), z.2.2)) else gd (inb z.2.1 8) (gd (inb z.1 8) (some (.inl ((z.1 + 1), (z.2.1 + 1), (up2 z.2.2 10 z.1.toNatClampNeg (z.2.2 10 z.2.1.toNatClampNeg)))))))))
noncomputable def fX6_leaveLine (N : Mem) (a1 : Int32) : Option (Mem) := lp (fX6_leaveLine_s a1) (0, 0, N)
set_option maxHeartbeats 4000000 in
set_option maxRecDepth 100000 in
theorem mX6_leaveLine (l : Launch) (E : EP) (B0 : Nat) (b : Nat) (hb0 : B0 ≤ b) (N : Mem) (a1 : Int32) (r : Mem) (hf : fX6_leaveLine N a1 = some r) : MU l E B0 yX6_leaveLine cX6_leaveLine 4 none 0 0 0 [.ref (b + 0), .int a1] (Blk E b netSh 15 N) none (Blk E b netSh 15 r) (iv b 15) := by
  refine mu_of (by decide +kernel) (Nat.le_of_ble_eq_true rfl) ?_
  intro p e s m args below meth c hx hb hml hown hts hrt hlocks hE H hN hS ls hl
  have hown : s.vm.findClass RX6 = some m.cls := hown
  have hl : lv_has ls 4 [(0, .ref (b + 0)), (1, .int a1)] := hl
  have hw : ∀ w ∈ WA, w.before args s = true := fun w h => hts w (List.mem_cons_of_mem _ h)
  have hAB : ∀ q, (iv b 15) q → B0 ≤ q := (iv_ge (by omega))
  unfold fX6_leaveLine at hf
  have loop : ∀ (fu : Nat) (z : Int32 × Int32 × Mem), lpI (fX6_leaveLine_s a1) fu z = some r → (∀ (H : Heap) (locs : List Loc) (ls : Array Slot), Blk E b netSh 15 z.2.2 H → va_S (iv b 15) s.heap H locs → lv_has ls 4 [(0, .ref (b + 0)), (1, .int a1), (2, .int z.1), (3, .int z.2.1)] → W p l e (rmD 0 0 0) s m args below meth c H locs 0 0 (MQ below (QU none (Blk E b netSh 15 r) (iv b 15)) args s 0 0 (iv b 15)) (F0 m 4 ls [])) := by
    intro fu
    induction fu with
    | zero =>
      intro z hn
      exact nomatch hn
    | succ fu ih =>
      intro z hn
      obtain ⟨y, hf, hy⟩ := lpI_succ hn
      intro H locs ls hN hS hl
      unfold fX6_leaveLine_s at hf
      refine lv_iload_n hx hb dX6_leaveLine_4 rfl (lv_at hl 3 rfl) ?_
      refine lv_aload_n hx hb dX6_leaveLine_5 rfl (lv_at hl 0 rfl) ?_
      refine w_get (k := 0) (v := .int (z.2.2 0 3)) hx hb hw hown hE fl_X6_26 hN (by decide) rfl rfl rfl dX6_leaveLine_6 ?_
      refine lv_icmp_ge (tgt := 43) hx hb dX6_leaveLine_9 (by decide) (fun c1 => ?_) (fun c1 => ?_)
      · rw [if_pos c1] at hf
        refine lv_aload_n hx hb dX6_leaveLine_43 rfl (lv_at hl 0 rfl) ?_
        refine lv_iload_n hx hb dX6_leaveLine_44 rfl (lv_at hl 2 rfl) ?_
        refine w_put (k := 0) (v := .int z.1) hx hb hw hown hE fl_X6_26 fw_X6_3 hN (by decide) rfl rfl z.1 rfl rfl rfl hS (iv_mem (by decide)) dX6_leaveLine_45 (fun H locs hN _ hu hS => ?_)
        have hre := lp_end hy (Option.some.inj hf).symm
        subst hre
        exact mu_v hx hb hrt hlocks hN hS dX6_leaveLine_48
      · rw [if_neg c1] at hf
        refine lv_aload_n hx hb dX6_leaveLine_12 rfl (lv_at hl 0 rfl) ?_
        refine w_get (k := 0) (v := .ref (b + 10)) hx hb hw hown hE fl_X6_22 hN (by decide) rfl rfl rfl dX6_leaveLine_13 ?_
        refine lv_iload_n hx hb dX6_leaveLine_16 rfl (lv_at hl 3 rfl) ?_
        obtain ⟨h2, hf⟩ := gd_some hf
        refine w_iald (k := 10) (x9 := z.2.1.toNatClampNeg) hx hb hE hN (by decide) rfl rfl h2 dX6_leaveLine_17 ?_
        refine lv_iload_n hx hb dX6_leaveLine_18 rfl (lv_at hl 1 rfl) ?_
        refine lv_icmp_eq (tgt := 37) hx hb dX6_leaveLine_19 (by decide) (fun c3 => ?_) (fun c3 => ?_)
        · rw [if_pos c3] at hf
          refine lv_iinc (v := (z.2.1 + 1)) (lv' := [(3, .int (z.2.1 + 1)), (0, .ref (b + 0)), (1, .int a1), (2, .int z.1)]) hx hb dX6_leaveLine_37 hl (k := 3) rfl rfl (by decide) rfl (fun ls hl => ?_)
          refine lv_goto (tgt := 4) hx hb dX6_leaveLine_40 (by decide) ?_
          exact ih (z.1, (z.2.1 + 1), z.2.2) (lp_back hy (Option.some.inj hf).symm) _ _ _ hN hS (lv_sub hl [1, 2, 3, 0] rfl)
        · rw [if_neg c3] at hf
          refine lv_aload_n hx hb dX6_leaveLine_22 rfl (lv_at hl 0 rfl) ?_
          refine w_get (k := 0) (v := .ref (b + 10)) hx hb hw hown hE fl_X6_22 hN (by decide) rfl rfl rfl dX6_leaveLine_23 ?_
          refine lv_iload_n hx hb dX6_leaveLine_26 rfl (lv_at hl 2 rfl) ?_
          refine lv_aload_n hx hb dX6_leaveLine_27 rfl (lv_at hl 0 rfl) ?_
          refine w_get (k := 0) (v := .ref (b + 10)) hx hb hw hown hE fl_X6_22 hN (by decide) rfl rfl rfl dX6_leaveLine_28 ?_
          refine lv_iload_n hx hb dX6_leaveLine_31 rfl (lv_at hl 3 rfl) ?_
          obtain ⟨h4, hf⟩ := gd_some hf
          refine w_iald (k := 10) (x9 := z.2.1.toNatClampNeg) hx hb hE hN (by decide) rfl rfl h4 dX6_leaveLine_32 ?_
          obtain ⟨h5, hf⟩ := gd_some hf
          refine w_iast (k := 10) (x9 := z.1.toNatClampNeg) (x := (z.2.2 10 z.2.1.toNatClampNeg)) hx hb hE hN (by decide) rfl rfl h5 hS (iv_mem (by decide)) dX6_leaveLine_33 (fun H locs hN _ hu hS => ?_)
          refine lv_iinc (v := (z.1 + 1)) (lv' := [(2, .int (z.1 + 1)), (0, .ref (b + 0)), (1, .int a1), (3, .int z.2.1)]) hx hb dX6_leaveLine_34 hl (k := 2) rfl rfl (by decide) rfl (fun ls hl => ?_)
          refine lv_iinc (v := (z.2.1 + 1)) (lv' := [(3, .int (z.2.1 + 1)), (2, .int (z.1 + 1)), (0, .ref (b + 0)), (1, .int a1)]) hx hb dX6_leaveLine_37 hl (k := 3) rfl rfl (by decide) rfl (fun ls hl => ?_)
          refine lv_goto (tgt := 4) hx hb dX6_leaveLine_40 (by decide) ?_
          exact ih ((z.1 + 1), (z.2.1 + 1), (up2 z.2.2 10 z.1.toNatClampNeg (z.2.2 10 z.2.1.toNatClampNeg))) (lp_back hy (Option.some.inj hf).symm) _ _ _ hN hS (lv_sub hl [2, 3, 1, 0] rfl)
  refine lv_iconst (v := 0) hx hb dX6_leaveLine_0 (by decide) ?_
  refine lv_istore_n (lv' := [(2, .int 0), (0, .ref (b + 0)), (1, .int a1)]) hx hb dX6_leaveLine_1 rfl hl (by decide) rfl (fun ls hl => ?_)
  refine lv_iconst (v := 0) hx hb dX6_leaveLine_2 (by decide) ?_
  refine lv_istore_n (lv' := [(3, .int 0), (2, .int 0), (0, .ref (b + 0)), (1, .int a1)]) hx hb dX6_leaveLine_3 rfl hl (by decide) rfl (fun ls hl => ?_)
  obtain ⟨fu, hfu⟩ := lp_some hf
  exact (loop fu (0, 0, N) hfu) _ _ _ hN hS (lv_sub hl [2, 3, 1, 0] rfl)
noncomputable def fX6_endTurn (N : Mem) (a1 : Int32) : Option (Int32 × Mem) := gd (inb a1 8) ((fX10_add N a1 (N (2 + 1 * a1.toNatClampNeg) 7) ((N 0 5) - (N (2 + 1 * a1.toNatClampNeg) 7))).bind fun z2 => (fX6_stationInLine (up2 z2 (2 + 1 * a1.toNatClampNeg) 6 (0 : Int32)) ((up2 z2 (2 + 1 * a1.toNatClampNeg) 6 (0 : Int32)) (2 + 1 * a1.toNatClampNeg) 5) (1 : Int32)).bind fun z4 => (if z4 < 0 then some (((N 0 5) - (N (2 + 1 * a1.toNatClampNeg) 7)), (up2 z2 (2 + 1 * a1.toNatClampNeg) 6 (0 : Int32))) else (fX6_leaveLine (up2 z2 (2 + 1 * a1.toNatClampNeg) 6 (0 : Int32)) z4).bind fun z7 => (fX6_beginTurn z7 z4).bind fun z9 => some (((N 0 5) - (N (2 + 1 * a1.toNatClampNeg) 7)), z9)))
set_option maxHeartbeats 4000000 in
set_option maxRecDepth 100000 in
theorem mX6_endTurn (l : Launch) (E : EP) (B0 : Nat) (b : Nat) (hb0 : B0 ≤ b) (N : Mem) (a1 : Int32) (r : Int32 × Mem) (hf : fX6_endTurn N a1 = some r) : MU l E B0 yX6_endTurn cX6_endTurn 5 (some .int) 1 0 0 [.ref (b + 0), .int a1] (Blk E b netSh 15 N) (some (.int r.1)) (Blk E b netSh 15 r.2) (iv b 15) := by
  refine mu_of (by decide +kernel) (Nat.le_of_ble_eq_true rfl) ?_
  intro p e s m args below meth c hx hb hml hown hts hrt hlocks hE H hN hS ls hl
  have hown : s.vm.findClass RX6 = some m.cls := hown
  have hl : lv_has ls 5 [(0, .ref (b + 0)), (1, .int a1)] := hl
  have hw : ∀ w ∈ WA, w.before args s = true := fun w h => hts w (List.mem_cons_of_mem _ h)
  have hAB : ∀ q, (iv b 15) q → B0 ≤ q := (iv_ge (by omega))
  unfold fX6_endTurn at hf
  refine lv_aload_n hx hb dX6_endTurn_0 rfl (lv_at hl 0 rfl) ?_
  refine w_get (k := 0) (v := .ref (b + 1)) hx hb hw hown hE fl_X6_11 hN (by decide) rfl rfl rfl dX6_endTurn_1 ?_
  refine lv_iload_n hx hb dX6_endTurn_4 rfl (lv_at hl 1 rfl) ?_
  obtain ⟨h1, hf⟩ := gd_some hf
  refine w_aald (k := 1) (j := 0) (x9 := a1.toNatClampNeg) hx hb hE hN (by decide) rfl rfl rfl h1 dX6_endTurn_5 ?_
  refine lv_astore_n (lv' := [(2, .ref (b + (2 + 1 * a1.toNatClampNeg))), (0, .ref (b + 0)), (1, .int a1)]) hx hb dX6_endTurn_6 rfl hl (by decide) rfl (fun ls hl => ?_)
  refine lv_aload_n hx hb dX6_endTurn_7 rfl (lv_at hl 1 rfl) ?_
  refine w_get (k := 0) (v := .int (N 0 5)) hx hb hw hown hE fl_X6_36 hN (by decide) rfl rfl rfl dX6_endTurn_8 ?_
  refine lv_aload_n hx hb dX6_endTurn_11 rfl (lv_at hl 0 rfl) ?_
  refine w_get (k := (2 + 1 * a1.toNatClampNeg)) (v := .int (N (2 + 1 * a1.toNatClampNeg) 7)) hx hb hw hown hE fl_X6_121 hN (stn_lt (stn_ld h1)) (stn_sh (stn_ld h1)) rfl rfl dX6_endTurn_12 ?_
  refine lv_isub hx hb dX6_endTurn_15 ?_
  refine lv_istore_n (lv' := [(3, .int ((N 0 5) - (N (2 + 1 * a1.toNatClampNeg) 7))), (2, .ref (b + (2 + 1 * a1.toNatClampNeg))), (0, .ref (b + 0)), (1, .int a1)]) hx hb dX6_endTurn_16 rfl hl (by decide) rfl (fun ls hl => ?_)
  refine lv_aload_n hx hb dX6_endTurn_17 rfl (lv_at hl 2 rfl) ?_
  refine w_get (k := 0) (v := .ref (b + 11)) hx hb hw hown hE fl_X6_32 hN (by decide) rfl rfl rfl dX6_endTurn_18 ?_
  refine lv_iload_n hx hb dX6_endTurn_21 rfl (lv_at hl 3 rfl) ?_
  refine lv_aload_n hx hb dX6_endTurn_22 rfl (lv_at hl 1 rfl) ?_
  refine w_get (k := (2 + 1 * a1.toNatClampNeg)) (v := .int (N (2 + 1 * a1.toNatClampNeg) 7)) hx hb hw hown hE fl_X6_121 hN (stn_lt (stn_ld h1)) (stn_sh (stn_ld h1)) rfl rfl dX6_endTurn_23 ?_
  refine lv_iload_n hx hb dX6_endTurn_26 rfl (lv_at hl 0 rfl) ?_
  obtain ⟨z2, hc3, hf⟩ := br_some hf
  refine mu_cV (As := [.int a1, .int (N (2 + 1 * a1.toNatClampNeg) 7), .int ((N 0 5) - (N (2 + 1 * a1.toNatClampNeg) 7))]) (rest := []) hx hb hml hown hts hE (mX10_add l E B0 b (by omega) N a1 (N (2 + 1 * a1.toNatClampNeg) 7) ((N 0 5) - (N (2 + 1 * a1.toNatClampNeg) 7)) z2 hc3) cv_X6_151 (w_recv (k := 11) (ci := 10) hE hN (by decide) rfl rfl) hN hS hAB (fun _ h => h) rfl hl.1 rfl (by decide) (Nat.le_of_ble_eq_true rfl) ⟨Nat.le_refl _, Nat.le_refl _⟩ dX6_endTurn_27 (fun H locs hN _ hu hS => ?_)
  refine lv_aload_n hx hb dX6_endTurn_30 rfl (lv_at hl 1 rfl) ?_
  refine w_gs (i := 0) (z := 0) hx hb hw hown (EV.en0 hE) (by decide) hS hAB gs_X6_89 (by decide) dX6_endTurn_31 ?_
  refine w_put (k := (2 + 1 * a1.toNatClampNeg)) (v := .ref (E.2.2 0 (0 : Int32).toNatClampNeg)) hx hb hw hown hE fl_X6_99 fw_X9_6 hN (stn_lt (stn_ld h1)) (stn_sh (stn_ld h1)) rfl (0 : Int32) rfl rfl rfl hS (iv_mem (stn_lt (stn_ld h1))) dX6_endTurn_34 (fun H locs hN _ hu hS => ?_)
  refine lv_aload_n hx hb dX6_endTurn_37 rfl (lv_at hl 2 rfl) ?_
  refine lv_aload_n hx hb dX6_endTurn_38 rfl (lv_at hl 1 rfl) ?_
  refine w_get (k := (2 + 1 * a1.toNatClampNeg)) (v := .int ((up2 z2 (2 + 1 * a1.toNatClampNeg) 6 (0 : Int32)) (2 + 1 * a1.toNatClampNeg) 5)) hx hb hw hown hE fl_X6_118 hN (stn_lt (stn_ld h1)) (stn_sh (stn_ld h1)) rfl rfl dX6_endTurn_39 ?_
  refine lv_iconst (v := 1) hx hb dX6_endTurn_42 (by decide) ?_
  obtain ⟨z4, hc5, hf⟩ := br_some hf
  refine mu_cV (As := [.int ((up2 z2 (2 + 1 * a1.toNatClampNeg) 6 (0 : Int32)) (2 + 1 * a1.toNatClampNeg) 5), .int 1]) (rest := []) hx hb hml hown hts hE (mX6_stationInLine l E B0 b (by omega) (up2 z2 (2 + 1 * a1.toNatClampNeg) 6 (0 : Int32)) ((up2 z2 (2 + 1 * a1.toNatClampNeg) 6 (0 : Int32)) (2 + 1 * a1.toNatClampNeg) 5) (1 : Int32) z4 hc5) cv_X6_155 (w_recv (k := 0) (ci := 6) hE hN (by decide) rfl rfl) hN hS hAB (fun _ h => h.elim) rfl hl.1 rfl (by decide) (Nat.le_of_ble_eq_true rfl) ⟨Nat.le_refl _, Nat.le_refl _⟩ dX6_endTurn_43 (fun H locs hN _ hu hS => ?_)
  refine lv_istore (lv' := [(4, .int z4), (3, .int ((N 0 5) - (N (2 + 1 * a1.toNatClampNeg) 7))), (2, .ref (b + (2 + 1 * a1.toNatClampNeg))), (0, .ref (b + 0)), (1, .int a1)]) hx hb dX6_endTurn_46 hl (by decide) rfl (fun ls hl => ?_)
  refine lv_iload hx hb dX6_endTurn_48 (lv_at hl 0 rfl) ?_
  refine lv_if_lt (tgt := 65) hx hb dX6_endTurn_50 (by decide) (fun c6 => ?_) (fun c6 => ?_)
  · rw [if_pos c6] at hf
    refine lv_iload_n hx hb dX6_endTurn_65 rfl (lv_at hl 1 rfl) ?_
    have hre := Option.some.inj hf
    subst hre
    exact mu_i (v := ((N 0 5) - (N (2 + 1 * a1.toNatClampNeg) 7))) hx hb hrt hlocks hN hS dX6_endTurn_66
  · rw [if_neg c6] at hf
    refine lv_aload_n hx hb dX6_endTurn_53 rfl (lv_at hl 3 rfl) ?_
    refine lv_iload hx hb dX6_endTurn_54 (lv_at hl 0 rfl) ?_
    obtain ⟨z7, hc8, hf⟩ := br_some hf
    refine mu_cV (As := [.int z4]) (rest := []) hx hb hml hown hts hE (mX6_leaveLine l E B0 b (by omega) (up2 z2 (2 + 1 * a1.toNatClampNeg) 6 (0 : Int32)) z4 z7 hc8) cv_X6_159 (w_recv (k := 0) (ci := 6) hE hN (by decide) rfl rfl) hN hS hAB (fun _ h => h) rfl hl.1 rfl (by decide) (Nat.le_of_ble_eq_true rfl) ⟨Nat.le_refl _, Nat.le_refl _⟩ dX6_endTurn_56 (fun H locs hN _ hu hS => ?_)
    refine lv_aload_n hx hb dX6_endTurn_59 rfl (lv_at hl 3 rfl) ?_
    refine lv_iload hx hb dX6_endTurn_60 (lv_at hl 0 rfl) ?_
    obtain ⟨z9, hc10, hf⟩ := br_some hf
    refine mu_cV (As := [.int z4]) (rest := []) hx hb hml hown hts hE (mX6_beginTurn l E B0 b (by omega) z7 z4 z9 hc10) cv_X6_138 (w_recv (k := 0) (ci := 6) hE hN (by decide) rfl rfl) hN hS hAB (fun _ h => h) rfl hl.1 rfl (by decide) (Nat.le_of_ble_eq_true rfl) ⟨Nat.le_refl _, Nat.le_refl _⟩ dX6_endTurn_62 (fun H locs hN _ hu hS => ?_)
    refine lv_iload_n hx hb dX6_endTurn_65 rfl (lv_at hl 1 rfl) ?_
    have hre := Option.some.inj hf
    subst hre
    exact mu_i (v := ((N 0 5) - (N (2 + 1 * a1.toNatClampNeg) 7))) hx hb hrt hlocks hN hS dX6_endTurn_66
noncomputable def fX6_stopWaiting (N : Mem) (a1 : Int32) : Option (Int32 × Mem) := (fX6_leaveLine N a1).bind fun z1 => gd (inb a1 8) (gd (inb a1 8) ((fX6_waitingOn (up2 z1 (2 + 1 * a1.toNatClampNeg) 6 (0 : Int32)) ((up2 z1 (2 + 1 * a1.toNatClampNeg) 6 (0 : Int32)) (2 + 1 * a1.toNatClampNeg) 5)).bind fun z5 => some (z5, (up2 z1 (2 + 1 * a1.toNatClampNeg) 6 (0 : Int32)))))
set_option maxHeartbeats 4000000 in
set_option maxRecDepth 100000 in
theorem mX6_stopWaiting (l : Launch) (E : EP) (B0 : Nat) (b : Nat) (hb0 : B0 ≤ b) (N : Mem) (a1 : Int32) (r : Int32 × Mem) (hf : fX6_stopWaiting N a1 = some r) : MU l E B0 yX6_stopWaiting cX6_stopWaiting 2 (some .int) 1 0 0 [.ref (b + 0), .int a1] (Blk E b netSh 15 N) (some (.int r.1)) (Blk E b netSh 15 r.2) (iv b 15) := by
  refine mu_of (by decide +kernel) (Nat.le_of_ble_eq_true rfl) ?_
  intro p e s m args below meth c hx hb hml hown hts hrt hlocks hE H hN hS ls hl
  have hown : s.vm.findClass RX6 = some m.cls := hown
  have hl : lv_has ls 2 [(0, .ref (b + 0)), (1, .int a1)] := hl
  have hw : ∀ w ∈ WA, w.before args s = true := fun w h => hts w (List.mem_cons_of_mem _ h)
  have hAB : ∀ q, (iv b 15) q → B0 ≤ q := (iv_ge (by omega))
  unfold fX6_stopWaiting at hf
  refine lv_aload_n hx hb dX6_stopWaiting_0 rfl (lv_at hl 0 rfl) ?_
  refine lv_iload_n hx hb dX6_stopWaiting_1 rfl (lv_at hl 1 rfl) ?_
  obtain ⟨z1, hc2, hf⟩ := br_some hf
  refine mu_cV (As := [.int a1]) (rest := []) hx hb hml hown hts hE (mX6_leaveLine l E B0 b (by omega) N a1 z1 hc2) cv_X6_159 (w_recv (k := 0) (ci := 6) hE hN (by decide) rfl rfl) hN hS hAB (fun _ h => h) rfl hl.1 rfl (by decide) (Nat.le_of_ble_eq_true rfl) ⟨Nat.le_refl _, Nat.le_refl _⟩ dX6_stopWaiting_2 (fun H locs hN _ hu hS => ?_)
  refine lv_aload_n hx hb dX6_stopWaiting_5 rfl (lv_at hl 0 rfl) ?_
  refine w_get (k := 0) (v := .ref (b + 1)) hx hb hw hown hE fl_X6_11 hN (by decide) rfl rfl rfl dX6_stopWaiting_6 ?_
  refine lv_iload_n hx hb dX6_stopWaiting_9 rfl (lv_at hl 1 rfl) ?_
  obtain ⟨h3, hf⟩ := gd_some hf
  refine w_aald (k := 1) (j := 0) (x9 := a1.toNatClampNeg) hx hb hE hN (by decide) rfl rfl rfl h3 dX6_stopWaiting_10 ?_
  refine w_gs (i := 0) (z := 0) hx hb hw hown (EV.en0 hE) (by decide) hS hAB gs_X6_89 (by decide) dX6_stopWaiting_11 ?_
  refine w_put (k := (2 + 1 * a1.toNatClampNeg)) (v := .ref (E.2.2 0 (0 : Int32).toNatClampNeg)) hx hb hw hown hE fl_X6_99 fw_X9_6 hN (stn_lt (stn_ld h3)) (stn_sh (stn_ld h3)) rfl (0 : Int32) rfl rfl rfl hS (iv_mem (stn_lt (stn_ld h3))) dX6_stopWaiting_14 (fun H locs hN _ hu hS => ?_)
  refine lv_aload_n hx hb dX6_stopWaiting_17 rfl (lv_at hl 0 rfl) ?_
  refine lv_aload_n hx hb dX6_stopWaiting_18 rfl (lv_at hl 0 rfl) ?_
  refine w_get (k := 0) (v := .ref (b + 1)) hx hb hw hown hE fl_X6_11 hN (by decide) rfl rfl rfl dX6_stopWaiting_19 ?_
  refine lv_iload_n hx hb dX6_stopWaiting_22 rfl (lv_at hl 1 rfl) ?_
  obtain ⟨h4, hf⟩ := gd_some hf
  refine w_aald (k := 1) (j := 0) (x9 := a1.toNatClampNeg) hx hb hE hN (by decide) rfl rfl rfl h4 dX6_stopWaiting_23 ?_
  refine w_get (k := (2 + 1 * a1.toNatClampNeg)) (v := .int ((up2 z1 (2 + 1 * a1.toNatClampNeg) 6 (0 : Int32)) (2 + 1 * a1.toNatClampNeg) 5)) hx hb hw hown hE fl_X6_118 hN (stn_lt (stn_ld h4)) (stn_sh (stn_ld h4)) rfl rfl dX6_stopWaiting_24 ?_
  obtain ⟨z5, hc6, hf⟩ := br_some hf
  refine mu_cV (As := [.int ((up2 z1 (2 + 1 * a1.toNatClampNeg) 6 (0 : Int32)) (2 + 1 * a1.toNatClampNeg) 5)]) (rest := []) hx hb hml hown hts hE (mX6_waitingOn l E B0 b (by omega) (up2 z1 (2 + 1 * a1.toNatClampNeg) 6 (0 : Int32)) ((up2 z1 (2 + 1 * a1.toNatClampNeg) 6 (0 : Int32)) (2 + 1 * a1.toNatClampNeg) 5) z5 hc6) cv_X6_145 (w_recv (k := 0) (ci := 6) hE hN (by decide) rfl rfl) hN hS hAB (fun _ h => h.elim) rfl hl.1 rfl (by decide) (Nat.le_of_ble_eq_true rfl) ⟨Nat.le_refl _, Nat.le_refl _⟩ dX6_stopWaiting_27 (fun H locs hN _ hu hS => ?_)
  have hre := Option.some.inj hf
  subst hre
  exact mu_i (v := z5) hx hb hrt hlocks hN hS dX6_stopWaiting_30
noncomputable def fX6_endLongTurns_s  (z : Int32 × Mem) : Option ((Int32 × Mem) ⊕ (Mem)) := (if (z.2 0 1) ≤ z.1 then some (.inr z.2) else gd (inb z.1 8) (gd (inb (z.2 (2 + 1 * z.1.toNatClampNeg) 6) 3) ((if (z.2 (2 + 1 * z.1.toNatClampNeg) 6) = (1 : Int32) then gd (inb z.1 8) ((if ((z.2 0 5) - (z.2 (2 + 1 * z.1.toNatClampNeg) 7)) < (z.2 0 6) then some (.inl ((z.1 + 1), z.2)) else (fX6_endTurn z.2 z.1).bind fun z7 => some (.inl ((z.1 + 1), z7.2)))) else some (.inl ((z.1 + 1), z.2))))))
noncomputable def fX6_endLongTurns (N : Mem) : Option (Mem) := lp (fX6_endLongTurns_s) (0, N)
set_option maxHeartbeats 4000000 in
set_option maxRecDepth 100000 in
theorem mX6_endLongTurns (l : Launch) (E : EP) (B0 : Nat) (b : Nat) (hb0 : B0 ≤ b) (N : Mem) (r : Mem) (hf : fX6_endLongTurns N = some r) : MU l E B0 yX6_endLongTurns cX6_endLongTurns 2 none 2 0 0 [.ref (b + 0)] (Blk E b netSh 15 N) none (Blk E b netSh 15 r) (iv b 15) := by
  refine mu_of (by decide +kernel) (Nat.le_of_ble_eq_true rfl) ?_
  intro p e s m args below meth c hx hb hml hown hts hrt hlocks hE H hN hS ls hl
  have hown : s.vm.findClass RX6 = some m.cls := hown
  have hl : lv_has ls 2 [(0, .ref (b + 0))] := hl
  have hw : ∀ w ∈ WA, w.before args s = true := fun w h => hts w (List.mem_cons_of_mem _ h)
  have hAB : ∀ q, (iv b 15) q → B0 ≤ q := (iv_ge (by omega))
  unfold fX6_endLongTurns at hf
  have loop : ∀ (fu : Nat) (z : Int32 × Mem), lpI (fX6_endLongTurns_s) fu z = some r → (∀ (H : Heap) (locs : List Loc) (ls : Array Slot), Blk E b netSh 15 z.2 H → va_S (iv b 15) s.heap H locs → lv_has ls 2 [(0, .ref (b + 0)), (1, .int z.1)] → W p l e (rmD 2 0 0) s m args below meth c H locs 0 0 (MQ below (QU none (Blk E b netSh 15 r) (iv b 15)) args s 0 0 (iv b 15)) (F0 m 2 ls [])) := by
    intro fu
    induction fu with
    | zero =>
      intro z hn
      exact nomatch hn
    | succ fu ih =>
      intro z hn
      obtain ⟨y, hf, hy⟩ := lpI_succ hn
      intro H locs ls hN hS hl
      unfold fX6_endLongTurns_s at hf
      refine lv_iload_n hx hb dX6_endLongTurns_2 rfl (lv_at hl 1 rfl) ?_
      refine lv_aload_n hx hb dX6_endLongTurns_3 rfl (lv_at hl 0 rfl) ?_
      refine w_get (k := 0) (v := .int (z.2 0 1)) hx hb hw hown hE fl_X6_18 hN (by decide) rfl rfl rfl dX6_endLongTurns_4 ?_
      refine lv_icmp_ge (tgt := 58) hx hb dX6_endLongTurns_7 (by decide) (fun c1 => ?_) (fun c1 => ?_)
      · rw [if_pos c1] at hf
        have hre := lp_end hy (Option.some.inj hf).symm
        subst hre
        exact mu_v hx hb hrt hlocks hN hS dX6_endLongTurns_58
      · rw [if_neg c1] at hf
        refine lv_aload_n hx hb dX6_endLongTurns_10 rfl (lv_at hl 0 rfl) ?_
        refine w_get (k := 0) (v := .ref (b + 1)) hx hb hw hown hE fl_X6_11 hN (by decide) rfl rfl rfl dX6_endLongTurns_11 ?_
        refine lv_iload_n hx hb dX6_endLongTurns_14 rfl (lv_at hl 1 rfl) ?_
        obtain ⟨h2, hf⟩ := gd_some hf
        refine w_aald (k := 1) (j := 0) (x9 := z.1.toNatClampNeg) hx hb hE hN (by decide) rfl rfl rfl h2 dX6_endLongTurns_15 ?_
        refine w_get (k := (2 + 1 * z.1.toNatClampNeg)) (v := .ref (E.2.2 0 (z.2 (2 + 1 * z.1.toNatClampNeg) 6).toNatClampNeg)) hx hb hw hown hE fl_X6_99 hN (stn_lt (stn_ld h2)) (stn_sh (stn_ld h2)) rfl rfl dX6_endLongTurns_16 ?_
        refine w_gs (i := 1) (z := 1) hx hb hw hown (EV.en0 hE) (by decide) hS hAB gs_X6_148 (by decide) dX6_endLongTurns_19 ?_
        obtain ⟨h3, hf⟩ := gd_some hf
        refine w_acmpE_ne (tgt := 52) hx hb (EV.en0 hE) h3 (by decide) dX6_endLongTurns_22 (by decide) (fun c4 => ?_) (fun c4 => ?_)
        · rw [if_neg c4] at hf
          refine lv_iinc (v := (z.1 + 1)) (lv' := [(1, .int (z.1 + 1)), (0, .ref (b + 0))]) hx hb dX6_endLongTurns_52 hl (k := 1) rfl rfl (by decide) rfl (fun ls hl => ?_)
          refine lv_goto (tgt := 2) hx hb dX6_endLongTurns_55 (by decide) ?_
          exact ih ((z.1 + 1), z.2) (lp_back hy (Option.some.inj hf).symm) _ _ _ hN hS (lv_sub hl [1, 0] rfl)
        · rw [if_pos c4] at hf
          refine lv_aload_n hx hb dX6_endLongTurns_25 rfl (lv_at hl 0 rfl) ?_
          refine w_get (k := 0) (v := .int (z.2 0 5)) hx hb hw hown hE fl_X6_36 hN (by decide) rfl rfl rfl dX6_endLongTurns_26 ?_
          refine lv_aload_n hx hb dX6_endLongTurns_29 rfl (lv_at hl 0 rfl) ?_
          refine w_get (k := 0) (v := .ref (b + 1)) hx hb hw hown hE fl_X6_11 hN (by decide) rfl rfl rfl dX6_endLongTurns_30 ?_
          refine lv_iload_n hx hb dX6_endLongTurns_33 rfl (lv_at hl 1 rfl) ?_
          obtain ⟨h5, hf⟩ := gd_some hf
          refine w_aald (k := 1) (j := 0) (x9 := z.1.toNatClampNeg) hx hb hE hN (by decide) rfl rfl rfl h5 dX6_endLongTurns_34 ?_
          refine w_get (k := (2 + 1 * z.1.toNatClampNeg)) (v := .int (z.2 (2 + 1 * z.1.toNatClampNeg) 7)) hx hb hw hown hE fl_X6_121 hN (stn_lt (stn_ld h5)) (stn_sh (stn_ld h5)) rfl rfl dX6_endLongTurns_35 ?_
          refine lv_isub hx hb dX6_endLongTurns_38 ?_
          refine lv_aload_n hx hb dX6_endLongTurns_39 rfl (lv_at hl 0 rfl) ?_
          refine w_get (k := 0) (v := .int (z.2 0 6)) hx hb hw hown hE fl_X6_39 hN (by decide) rfl rfl rfl dX6_endLongTurns_40 ?_
          refine lv_icmp_lt (tgt := 52) hx hb dX6_endLongTurns_43 (by decide) (fun c6 => ?_) (fun c6 => ?_)
          · rw [if_pos c6] at hf
            refine lv_iinc (v := (z.1 + 1)) (lv' := [(1, .int (z.1 + 1)), (0, .ref (b + 0))]) hx hb dX6_endLongTurns_52 hl (k := 1) rfl rfl (by decide) rfl (fun ls hl => ?_)
            refine lv_goto (tgt := 2) hx hb dX6_endLongTurns_55 (by decide) ?_
            exact ih ((z.1 + 1), z.2) (lp_back hy (Option.some.inj hf).symm) _ _ _ hN hS (lv_sub hl [1, 0] rfl)
          · rw [if_neg c6] at hf
            refine lv_aload_n hx hb dX6_endLongTurns_46 rfl (lv_at hl 0 rfl) ?_
            refine lv_iload_n hx hb dX6_endLongTurns_47 rfl (lv_at hl 1 rfl) ?_
            obtain ⟨z7, hc8, hf⟩ := br_some hf
            refine mu_cV (As := [.int z.1]) (rest := []) hx hb hml hown hts hE (mX6_endTurn l E B0 b (by omega) z.2 z.1 z7 hc8) cv_X6_175 (w_recv (k := 0) (ci := 6) hE hN (by decide) rfl rfl) hN hS hAB (fun _ h => h) rfl hl.1 rfl (by decide) (Nat.le_of_ble_eq_true rfl) ⟨Nat.le_refl _, Nat.le_refl _⟩ dX6_endLongTurns_48 (fun H locs hN _ hu hS => ?_)
            refine lv_pop hx hb dX6_endLongTurns_51 rfl ?_
            refine lv_iinc (v := (z.1 + 1)) (lv' := [(1, .int (z.1 + 1)), (0, .ref (b + 0))]) hx hb dX6_endLongTurns_52 hl (k := 1) rfl rfl (by decide) rfl (fun ls hl => ?_)
            refine lv_goto (tgt := 2) hx hb dX6_endLongTurns_55 (by decide) ?_
            exact ih ((z.1 + 1), z7.2) (lp_back hy (Option.some.inj hf).symm) _ _ _ hN hS (lv_sub hl [1, 0] rfl)
  refine lv_iconst (v := 0) hx hb dX6_endLongTurns_0 (by decide) ?_
  refine lv_istore_n (lv' := [(1, .int 0), (0, .ref (b + 0))]) hx hb dX6_endLongTurns_1 rfl hl (by decide) rfl (fun ls hl => ?_)
  obtain ⟨fu, hfu⟩ := lp_some hf
  exact (loop fu (0, N) hfu) _ _ _ hN hS (lv_sub hl [1, 0] rfl)
noncomputable def fX6_passMinute_s  (z : Int32 × Int32 × Mem) : Option ((Int32 × Int32 × Mem) ⊕ (Int32 × Mem)) := (if (z.2.2 0 1) ≤ z.2.1 then (fX6_endLongTurns (up2 z.2.2 0 5 ((z.2.2 0 5) + 1))).bind fun z2 => some (.inr (z.1, z2)) else gd (inb z.2.1 8) (gd (inb (z.2.2 (2 + 1 * z.2.1.toNatClampNeg) 6) 3) ((if (z.2.2 (2 + 1 * z.2.1.toNatClampNeg) 6) = (1 : Int32) then (fX6_hearsSpeaker (up2 z.2.2 (2 + 1 * z.2.1.toNatClampNeg) 8 ((z.2.2 (2 + 1 * z.2.1.toNatClampNeg) 8) + 1)) (2 + 1 * z.2.1.toNatClampNeg)).bind fun z13 => (if z13 = 0 then some (.inl (z.1, (z.2.1 + 1), (up2 z.2.2 (2 + 1 * z.2.1.toNatClampNeg) 8 ((z.2.2 (2 + 1 * z.2.1.toNatClampNeg) 8) + 1)))) else (fX6_anyJams (up2 z.2.2 (2 + 1 * z.2.1.toNatClampNeg) 8 ((z.2.2 (2 + 1 * z.2.1.toNatClampNeg) 8) + 1)) (2 + 1 * z.2.1.toNatClampNeg)).bind fun z16 => (if z16 = 0 then some (.inl ((z.1 + 1), (z.2.1 + 1), (up2 (up2 z.2.2 (2 + 1 * z.2.1.toNatClampNeg) 8 ((z.2.2 (2 + 1 * z.2.1.toNatClampNeg) 8) + 1)) (2 + 1 * z.2.1.toNatClampNeg) 9 (((up2 z.2.2 (2 + 1 * z.2.1.toNatClampNeg) 8 ((z.2.2 (2 + 1 * z.2.1.toNatClampNeg) 8) + 1)) (2 + 1 * z.2.1.toNatClampNeg) 9) + 1)))) else some (.inl (z.1, (z.2.1 + 1), (up2 z.2.2 (2 + 1 * z.2.1.toNatClampNeg) 8 ((z.2.2 (2 + 1 * z.2.1.toNatClampNeg) 8) + 1)))))) else (fX6_hearsSpeaker z.2.2 (2 + 1 * z.2.1.toNatClampNeg)).bind fun z7 => (if z7 = 0 then some (.inl (z.1, (z.2.1 + 1), z.2.2)) else (fX6_anyJams z.2.2 (2 + 1 * z.2.1.toNatClampNeg)).bind fun z10 => (if z10 = 0 then some (.inl ((z.1 + 1), (z.2.1 + 1), (up2 z.2.2 (2 + 1 * z.2.1.toNatClampNeg) 9 ((z.2.2 (2 + 1 * z.2.1.toNatClampNeg) 9) + 1)))) else some (.inl (z.1, (z.2.1 + 1), z.2.2))))))))
noncomputable def fX6_passMinute (N : Mem) : Option (Int32 × Mem) := lp (fX6_passMinute_s) (0, 0, N)
set_option maxHeartbeats 4000000 in
set_option maxRecDepth 100000 in
theorem mX6_passMinute (l : Launch) (E : EP) (B0 : Nat) (b : Nat) (hb0 : B0 ≤ b) (N : Mem) (r : Int32 × Mem) (hf : fX6_passMinute N = some r) : MU l E B0 yX6_passMinute cX6_passMinute 4 (some .int) 3 0 0 [.ref (b + 0)] (Blk E b netSh 15 N) (some (.int r.1)) (Blk E b netSh 15 r.2) (iv b 15) := by
  refine mu_of (by decide +kernel) (Nat.le_of_ble_eq_true rfl) ?_
  intro p e s m args below meth c hx hb hml hown hts hrt hlocks hE H hN hS ls hl
  have hown : s.vm.findClass RX6 = some m.cls := hown
  have hl : lv_has ls 4 [(0, .ref (b + 0))] := hl
  have hw : ∀ w ∈ WA, w.before args s = true := fun w h => hts w (List.mem_cons_of_mem _ h)
  have hAB : ∀ q, (iv b 15) q → B0 ≤ q := (iv_ge (by omega))
  unfold fX6_passMinute at hf
  have loop : ∀ (fu : Nat) (z : Int32 × Int32 × Mem), lpI (fX6_passMinute_s) fu z = some r → (∀ (H : Heap) (locs : List Loc) (ls : Array Slot), Blk E b netSh 15 z.2.2 H → va_S (iv b 15) s.heap H locs → lv_has ls 4 [(0, .ref (b + 0)), (1, .int z.1), (2, .int z.2.1)] → W p l e (rmD 3 0 0) s m args below meth c H locs 0 0 (MQ below (QU (some (.int r.1)) (Blk E b netSh 15 r.2) (iv b 15)) args s 0 0 (iv b 15)) (F0 m 4 ls [])) := by
    intro fu
    induction fu with
    | zero =>
      intro z hn
      exact nomatch hn
    | succ fu ih =>
      intro z hn
      obtain ⟨y, hf, hy⟩ := lpI_succ hn
      intro H locs ls hN hS hl
      unfold fX6_passMinute_s at hf
      refine lv_iload_n hx hb dX6_passMinute_4 rfl (lv_at hl 2 rfl) ?_
      refine lv_aload_n hx hb dX6_passMinute_5 rfl (lv_at hl 0 rfl) ?_
      refine w_get (k := 0) (v := .int (z.2.2 0 1)) hx hb hw hown hE fl_X6_18 hN (by decide) rfl rfl rfl dX6_passMinute_6 ?_
      refine lv_icmp_ge (tgt := 74) hx hb dX6_passMinute_9 (by decide) (fun c1 => ?_) (fun c1 => ?_)
      · rw [if_pos c1] at hf
        refine lv_aload_n hx hb dX6_passMinute_74 rfl (lv_at hl 0 rfl) ?_
        refine lv_dup hx hb dX6_passMinute_75 rfl ?_
        refine w_get (k := 0) (v := .int (z.2.2 0 5)) hx hb hw hown hE fl_X6_36 hN (by decide) rfl rfl rfl dX6_passMinute_76 ?_
        refine lv_iconst (v := 1) hx hb dX6_passMinute_79 (by decide) ?_
        refine lv_iadd hx hb dX6_passMinute_80 ?_
        refine w_put (k := 0) (v := .int ((z.2.2 0 5) + 1)) hx hb hw hown hE fl_X6_36 fw_X6_5 hN (by decide) rfl rfl ((z.2.2 0 5) + 1) rfl rfl rfl hS (iv_mem (by decide)) dX6_passMinute_81 (fun H locs hN _ hu hS => ?_)
        refine lv_aload_n hx hb dX6_passMinute_84 rfl (lv_at hl 0 rfl) ?_
        obtain ⟨z2, hc3, hf⟩ := br_some hf
        refine mu_cV (As := []) (rest := []) hx hb hml hown hts hE (mX6_endLongTurns l E B0 b (by omega) (up2 z.2.2 0 5 ((z.2.2 0 5) + 1)) z2 hc3) cv_X6_172 (w_recv (k := 0) (ci := 6) hE hN (by decide) rfl rfl) hN hS hAB (fun _ h => h) rfl hl.1 rfl (by decide) (Nat.le_of_ble_eq_true rfl) ⟨Nat.le_refl _, Nat.le_refl _⟩ dX6_passMinute_85 (fun H locs hN _ hu hS => ?_)
        refine lv_iload_n hx hb dX6_passMinute_88 rfl (lv_at hl 1 rfl) ?_
        have hre := lp_end hy (Option.some.inj hf).symm
        subst hre
        exact mu_i (v := z.1) hx hb hrt hlocks hN hS dX6_passMinute_89
      · rw [if_neg c1] at hf
        refine lv_aload_n hx hb dX6_passMinute_12 rfl (lv_at hl 0 rfl) ?_
        refine w_get (k := 0) (v := .ref (b + 1)) hx hb hw hown hE fl_X6_11 hN (by decide) rfl rfl rfl dX6_passMinute_13 ?_
        refine lv_iload_n hx hb dX6_passMinute_16 rfl (lv_at hl 2 rfl) ?_
        obtain ⟨h4, hf⟩ := gd_some hf
        refine w_aald (k := 1) (j := 0) (x9 := z.2.1.toNatClampNeg) hx hb hE hN (by decide) rfl rfl rfl h4 dX6_passMinute_17 ?_
        refine lv_astore_n (lv' := [(3, .ref (b + (2 + 1 * z.2.1.toNatClampNeg))), (0, .ref (b + 0)), (1, .int z.1), (2, .int z.2.1)]) hx hb dX6_passMinute_18 rfl hl (by decide) rfl (fun ls hl => ?_)
        refine lv_aload_n hx hb dX6_passMinute_19 rfl (lv_at hl 0 rfl) ?_
        refine w_get (k := (2 + 1 * z.2.1.toNatClampNeg)) (v := .ref (E.2.2 0 (z.2.2 (2 + 1 * z.2.1.toNatClampNeg) 6).toNatClampNeg)) hx hb hw hown hE fl_X6_99 hN (stn_lt (stn_ld h4)) (stn_sh (stn_ld h4)) rfl rfl dX6_passMinute_20 ?_
        refine w_gs (i := 1) (z := 1) hx hb hw hown (EV.en0 hE) (by decide) hS hAB gs_X6_148 (by decide) dX6_passMinute_23 ?_
        obtain ⟨h5, hf⟩ := gd_some hf
        refine w_acmpE_ne (tgt := 39) hx hb (EV.en0 hE) h5 (by decide) dX6_passMinute_26 (by decide) (fun c6 => ?_) (fun c6 => ?_)
        · rw [if_neg c6] at hf
          refine lv_aload_n hx hb dX6_passMinute_39 rfl (lv_at hl 1 rfl) ?_
          refine lv_aload_n hx hb dX6_passMinute_40 rfl (lv_at hl 0 rfl) ?_
          obtain ⟨z7, hc8, hf⟩ := br_some hf
          refine mu_cV (As := [.ref (b + (2 + 1 * z.2.1.toNatClampNeg))]) (rest := []) hx hb hml hown hts hE (mX6_hearsSpeaker l E B0 b (by omega) z.2.2 (2 + 1 * z.2.1.toNatClampNeg) z7 hc8) cv_X6_166 (w_recv (k := 0) (ci := 6) hE hN (by decide) rfl rfl) hN hS hAB (fun _ h => h.elim) rfl hl.1 rfl (by decide) (Nat.le_of_ble_eq_true rfl) ⟨Nat.le_refl _, Nat.le_refl _⟩ dX6_passMinute_41 (fun H locs hN _ hu hS => ?_)
          refine lv_if_eq (tgt := 68) hx hb dX6_passMinute_44 (by decide) (fun c9 => ?_) (fun c9 => ?_)
          · rw [if_pos c9] at hf
            refine lv_iinc (v := (z.2.1 + 1)) (lv' := [(2, .int (z.2.1 + 1)), (3, .ref (b + (2 + 1 * z.2.1.toNatClampNeg))), (0, .ref (b + 0)), (1, .int z.1)]) hx hb dX6_passMinute_68 hl (k := 3) rfl rfl (by decide) rfl (fun ls hl => ?_)
            refine lv_goto (tgt := 4) hx hb dX6_passMinute_71 (by decide) ?_
            exact ih (z.1, (z.2.1 + 1), z.2.2) (lp_back hy (Option.some.inj hf).symm) _ _ _ hN hS (lv_sub hl [2, 3, 0] rfl)
          · rw [if_neg c9] at hf
            refine lv_aload_n hx hb dX6_passMinute_47 rfl (lv_at hl 1 rfl) ?_
            refine lv_aload_n hx hb dX6_passMinute_48 rfl (lv_at hl 0 rfl) ?_
            obtain ⟨z10, hc11, hf⟩ := br_some hf
            refine mu_cV (As := [.ref (b + (2 + 1 * z.2.1.toNatClampNeg))]) (rest := []) hx hb hml hown hts hE (mX6_anyJams l E B0 b (by omega) z.2.2 (2 + 1 * z.2.1.toNatClampNeg) z10 hc11) cv_X6_169 (w_recv (k := 0) (ci := 6) hE hN (by decide) rfl rfl) hN hS hAB (fun _ h => h.elim) rfl hl.1 rfl (by decide) (Nat.le_of_ble_eq_true rfl) ⟨Nat.le_refl _, Nat.le_refl _⟩ dX6_passMinute_49 (fun H locs hN _ hu hS => ?_)
            refine lv_if_ne (tgt := 68) hx hb dX6_passMinute_52 (by decide) (fun c12 => ?_) (fun c12 => ?_)
            · rw [if_neg c12] at hf
              refine lv_iinc (v := (z.2.1 + 1)) (lv' := [(2, .int (z.2.1 + 1)), (3, .ref (b + (2 + 1 * z.2.1.toNatClampNeg))), (0, .ref (b + 0)), (1, .int z.1)]) hx hb dX6_passMinute_68 hl (k := 3) rfl rfl (by decide) rfl (fun ls hl => ?_)
              refine lv_goto (tgt := 4) hx hb dX6_passMinute_71 (by decide) ?_
              exact ih (z.1, (z.2.1 + 1), z.2.2) (lp_back hy (Option.some.inj hf).symm) _ _ _ hN hS (lv_sub hl [2, 3, 0] rfl)
            · rw [if_pos c12] at hf
              refine lv_aload_n hx hb dX6_passMinute_55 rfl (lv_at hl 0 rfl) ?_
              refine lv_dup hx hb dX6_passMinute_56 rfl ?_
              refine w_get (k := (2 + 1 * z.2.1.toNatClampNeg)) (v := .int (z.2.2 (2 + 1 * z.2.1.toNatClampNeg) 9)) hx hb hw hown hE fl_X6_127 hN (stn_lt (stn_ld h4)) (stn_sh (stn_ld h4)) rfl rfl dX6_passMinute_57 ?_
              refine lv_iconst (v := 1) hx hb dX6_passMinute_60 (by decide) ?_
              refine lv_iadd hx hb dX6_passMinute_61 ?_
              refine w_put (k := (2 + 1 * z.2.1.toNatClampNeg)) (v := .int ((z.2.2 (2 + 1 * z.2.1.toNatClampNeg) 9) + 1)) hx hb hw hown hE fl_X6_127 fw_X9_9 hN (stn_lt (stn_ld h4)) (stn_sh (stn_ld h4)) rfl ((z.2.2 (2 + 1 * z.2.1.toNatClampNeg) 9) + 1) rfl rfl rfl hS (iv_mem (stn_lt (stn_ld h4))) dX6_passMinute_62 (fun H locs hN _ hu hS => ?_)
              refine lv_iinc (v := (z.1 + 1)) (lv' := [(1, .int (z.1 + 1)), (3, .ref (b + (2 + 1 * z.2.1.toNatClampNeg))), (0, .ref (b + 0)), (2, .int z.2.1)]) hx hb dX6_passMinute_65 hl (k := 2) rfl rfl (by decide) rfl (fun ls hl => ?_)
              refine lv_iinc (v := (z.2.1 + 1)) (lv' := [(2, .int (z.2.1 + 1)), (1, .int (z.1 + 1)), (3, .ref (b + (2 + 1 * z.2.1.toNatClampNeg))), (0, .ref (b + 0))]) hx hb dX6_passMinute_68 hl (k := 3) rfl rfl (by decide) rfl (fun ls hl => ?_)
              refine lv_goto (tgt := 4) hx hb dX6_passMinute_71 (by decide) ?_
              exact ih ((z.1 + 1), (z.2.1 + 1), (up2 z.2.2 (2 + 1 * z.2.1.toNatClampNeg) 9 ((z.2.2 (2 + 1 * z.2.1.toNatClampNeg) 9) + 1))) (lp_back hy (Option.some.inj hf).symm) _ _ _ hN hS (lv_sub hl [3, 1, 0] rfl)
        · rw [if_pos c6] at hf
          refine lv_aload_n hx hb dX6_passMinute_29 rfl (lv_at hl 0 rfl) ?_
          refine lv_dup hx hb dX6_passMinute_30 rfl ?_
          refine w_get (k := (2 + 1 * z.2.1.toNatClampNeg)) (v := .int (z.2.2 (2 + 1 * z.2.1.toNatClampNeg) 8)) hx hb hw hown hE fl_X6_124 hN (stn_lt (stn_ld h4)) (stn_sh (stn_ld h4)) rfl rfl dX6_passMinute_31 ?_
          refine lv_iconst (v := 1) hx hb dX6_passMinute_34 (by decide) ?_
          refine lv_iadd hx hb dX6_passMinute_35 ?_
          refine w_put (k := (2 + 1 * z.2.1.toNatClampNeg)) (v := .int ((z.2.2 (2 + 1 * z.2.1.toNatClampNeg) 8) + 1)) hx hb hw hown hE fl_X6_124 fw_X9_8 hN (stn_lt (stn_ld h4)) (stn_sh (stn_ld h4)) rfl ((z.2.2 (2 + 1 * z.2.1.toNatClampNeg) 8) + 1) rfl rfl rfl hS (iv_mem (stn_lt (stn_ld h4))) dX6_passMinute_36 (fun H locs hN _ hu hS => ?_)
          refine lv_aload_n hx hb dX6_passMinute_39 rfl (lv_at hl 1 rfl) ?_
          refine lv_aload_n hx hb dX6_passMinute_40 rfl (lv_at hl 0 rfl) ?_
          obtain ⟨z13, hc14, hf⟩ := br_some hf
          refine mu_cV (As := [.ref (b + (2 + 1 * z.2.1.toNatClampNeg))]) (rest := []) hx hb hml hown hts hE (mX6_hearsSpeaker l E B0 b (by omega) (up2 z.2.2 (2 + 1 * z.2.1.toNatClampNeg) 8 ((z.2.2 (2 + 1 * z.2.1.toNatClampNeg) 8) + 1)) (2 + 1 * z.2.1.toNatClampNeg) z13 hc14) cv_X6_166 (w_recv (k := 0) (ci := 6) hE hN (by decide) rfl rfl) hN hS hAB (fun _ h => h.elim) rfl hl.1 rfl (by decide) (Nat.le_of_ble_eq_true rfl) ⟨Nat.le_refl _, Nat.le_refl _⟩ dX6_passMinute_41 (fun H locs hN _ hu hS => ?_)
          refine lv_if_eq (tgt := 68) hx hb dX6_passMinute_44 (by decide) (fun c15 => ?_) (fun c15 => ?_)
          · rw [if_pos c15] at hf
            refine lv_iinc (v := (z.2.1 + 1)) (lv' := [(2, .int (z.2.1 + 1)), (3, .ref (b + (2 + 1 * z.2.1.toNatClampNeg))), (0, .ref (b + 0)), (1, .int z.1)]) hx hb dX6_passMinute_68 hl (k := 3) rfl rfl (by decide) rfl (fun ls hl => ?_)
            refine lv_goto (tgt := 4) hx hb dX6_passMinute_71 (by decide) ?_
            exact ih (z.1, (z.2.1 + 1), (up2 z.2.2 (2 + 1 * z.2.1.toNatClampNeg) 8 ((z.2.2 (2 + 1 * z.2.1.toNatClampNeg) 8) + 1))) (lp_back hy (Option.some.inj hf).symm) _ _ _ hN hS (lv_sub hl [2, 3, 0] rfl)
          · rw [if_neg c15] at hf
            refine lv_aload_n hx hb dX6_passMinute_47 rfl (lv_at hl 1 rfl) ?_
            refine lv_aload_n hx hb dX6_passMinute_48 rfl (lv_at hl 0 rfl) ?_
            obtain ⟨z16, hc17, hf⟩ := br_some hf
            refine mu_cV (As := [.ref (b + (2 + 1 * z.2.1.toNatClampNeg))]) (rest := []) hx hb hml hown hts hE (mX6_anyJams l E B0 b (by omega) (up2 z.2.2 (2 + 1 * z.2.1.toNatClampNeg) 8 ((z.2.2 (2 + 1 * z.2.1.toNatClampNeg) 8) + 1)) (2 + 1 * z.2.1.toNatClampNeg) z16 hc17) cv_X6_169 (w_recv (k := 0) (ci := 6) hE hN (by decide) rfl rfl) hN hS hAB (fun _ h => h.elim) rfl hl.1 rfl (by decide) (Nat.le_of_ble_eq_true rfl) ⟨Nat.le_refl _, Nat.le_refl _⟩ dX6_passMinute_49 (fun H locs hN _ hu hS => ?_)
            refine lv_if_ne (tgt := 68) hx hb dX6_passMinute_52 (by decide) (fun c18 => ?_) (fun c18 => ?_)
            · rw [if_neg c18] at hf
              refine lv_iinc (v := (z.2.1 + 1)) (lv' := [(2, .int (z.2.1 + 1)), (3, .ref (b + (2 + 1 * z.2.1.toNatClampNeg))), (0, .ref (b + 0)), (1, .int z.1)]) hx hb dX6_passMinute_68 hl (k := 3) rfl rfl (by decide) rfl (fun ls hl => ?_)
              refine lv_goto (tgt := 4) hx hb dX6_passMinute_71 (by decide) ?_
              exact ih (z.1, (z.2.1 + 1), (up2 z.2.2 (2 + 1 * z.2.1.toNatClampNeg) 8 ((z.2.2 (2 + 1 * z.2.1.toNatClampNeg) 8) + 1))) (lp_back hy (Option.some.inj hf).symm) _ _ _ hN hS (lv_sub hl [2, 3, 0] rfl)
            · rw [if_pos c18] at hf
              refine lv_aload_n hx hb dX6_passMinute_55 rfl (lv_at hl 0 rfl) ?_
              refine lv_dup hx hb dX6_passMinute_56 rfl ?_
              refine w_get (k := (2 + 1 * z.2.1.toNatClampNeg)) (v := .int ((up2 z.2.2 (2 + 1 * z.2.1.toNatClampNeg) 8 ((z.2.2 (2 + 1 * z.2.1.toNatClampNeg) 8) + 1)) (2 + 1 * z.2.1.toNatClampNeg) 9)) hx hb hw hown hE fl_X6_127 hN (stn_lt (stn_ld h4)) (stn_sh (stn_ld h4)) rfl rfl dX6_passMinute_57 ?_
              refine lv_iconst (v := 1) hx hb dX6_passMinute_60 (by decide) ?_
              refine lv_iadd hx hb dX6_passMinute_61 ?_
              refine w_put (k := (2 + 1 * z.2.1.toNatClampNeg)) (v := .int (((up2 z.2.2 (2 + 1 * z.2.1.toNatClampNeg) 8 ((z.2.2 (2 + 1 * z.2.1.toNatClampNeg) 8) + 1)) (2 + 1 * z.2.1.toNatClampNeg) 9) + 1)) hx hb hw hown hE fl_X6_127 fw_X9_9 hN (stn_lt (stn_ld h4)) (stn_sh (stn_ld h4)) rfl (((up2 z.2.2 (2 + 1 * z.2.1.toNatClampNeg) 8 ((z.2.2 (2 + 1 * z.2.1.toNatClampNeg) 8) + 1)) (2 + 1 * z.2.1.toNatClampNeg) 9) + 1) rfl rfl rfl hS (iv_mem (stn_lt (stn_ld h4))) dX6_passMinute_62 (fun H locs hN _ hu hS => ?_)
              refine lv_iinc (v := (z.1 + 1)) (lv' := [(1, .int (z.1 + 1)), (3, .ref (b + (2 + 1 * z.2.1.toNatClampNeg))), (0, .ref (b + 0)), (2, .int z.2.1)]) hx hb dX6_passMinute_65 hl (k := 2) rfl rfl (by decide) rfl (fun ls hl => ?_)
              refine lv_iinc (v := (z.2.1 + 1)) (lv' := [(2, .int (z.2.1 + 1)), (1, .int (z.1 + 1)), (3, .ref (b + (2 + 1 * z.2.1.toNatClampNeg))), (0, .ref (b + 0))]) hx hb dX6_passMinute_68 hl (k := 3) rfl rfl (by decide) rfl (fun ls hl => ?_)
              refine lv_goto (tgt := 4) hx hb dX6_passMinute_71 (by decide) ?_
              exact ih ((z.1 + 1), (z.2.1 + 1), (up2 (up2 z.2.2 (2 + 1 * z.2.1.toNatClampNeg) 8 ((z.2.2 (2 + 1 * z.2.1.toNatClampNeg) 8) + 1)) (2 + 1 * z.2.1.toNatClampNeg) 9 (((up2 z.2.2 (2 + 1 * z.2.1.toNatClampNeg) 8 ((z.2.2 (2 + 1 * z.2.1.toNatClampNeg) 8) + 1)) (2 + 1 * z.2.1.toNatClampNeg) 9) + 1))) (lp_back hy (Option.some.inj hf).symm) _ _ _ hN hS (lv_sub hl [3, 1, 0] rfl)
  refine lv_iconst (v := 0) hx hb dX6_passMinute_0 (by decide) ?_
  refine lv_istore_n (lv' := [(1, .int 0), (0, .ref (b + 0))]) hx hb dX6_passMinute_1 rfl hl (by decide) rfl (fun ls hl => ?_)
  refine lv_iconst (v := 0) hx hb dX6_passMinute_2 (by decide) ?_
  refine lv_istore_n (lv' := [(2, .int 0), (1, .int 0), (0, .ref (b + 0))]) hx hb dX6_passMinute_3 rfl hl (by decide) rfl (fun ls hl => ?_)
  obtain ⟨fu, hfu⟩ := lp_some hf
  exact (loop fu (0, 0, N) hfu) _ _ _ hN hS (lv_sub hl [2, 1, 0] rfl)
noncomputable def fX6_passMinutes_s (a1 : Int32) (z : Int32 × Int32 × Mem) : Option ((Int32 × Int32 × Mem) ⊕ (Int32 × Mem)) := (if a1 ≤ z.2.1 then some (.inr (z.1, z.2.2)) else (fX6_passMinute z.2.2).bind fun z2 => some (.inl ((z.1 + z2.1), (z.2.1 + 1), z2.2)))
noncomputable def fX6_passMinutes (N : Mem) (a1 : Int32) : Option (Int32 × Mem) := lp (fX6_passMinutes_s a1) (0, 0, N)
set_option maxHeartbeats 4000000 in
set_option maxRecDepth 100000 in
theorem mX6_passMinutes (l : Launch) (E : EP) (B0 : Nat) (b : Nat) (hb0 : B0 ≤ b) (N : Mem) (a1 : Int32) (r : Int32 × Mem) (hf : fX6_passMinutes N a1 = some r) : MU l E B0 yX6_passMinutes cX6_passMinutes 4 (some .int) 4 0 0 [.ref (b + 0), .int a1] (Blk E b netSh 15 N) (some (.int r.1)) (Blk E b netSh 15 r.2) (iv b 15) := by
  refine mu_of (by decide +kernel) (Nat.le_of_ble_eq_true rfl) ?_
  intro p e s m args below meth c hx hb hml hown hts hrt hlocks hE H hN hS ls hl
  have hown : s.vm.findClass RX6 = some m.cls := hown
  have hl : lv_has ls 4 [(0, .ref (b + 0)), (1, .int a1)] := hl
  have hw : ∀ w ∈ WA, w.before args s = true := fun w h => hts w (List.mem_cons_of_mem _ h)
  have hAB : ∀ q, (iv b 15) q → B0 ≤ q := (iv_ge (by omega))
  unfold fX6_passMinutes at hf
  have loop : ∀ (fu : Nat) (z : Int32 × Int32 × Mem), lpI (fX6_passMinutes_s a1) fu z = some r → (∀ (H : Heap) (locs : List Loc) (ls : Array Slot), Blk E b netSh 15 z.2.2 H → va_S (iv b 15) s.heap H locs → lv_has ls 4 [(0, .ref (b + 0)), (1, .int a1), (2, .int z.1), (3, .int z.2.1)] → W p l e (rmD 4 0 0) s m args below meth c H locs 0 0 (MQ below (QU (some (.int r.1)) (Blk E b netSh 15 r.2) (iv b 15)) args s 0 0 (iv b 15)) (F0 m 4 ls [])) := by
    intro fu
    induction fu with
    | zero =>
      intro z hn
      exact nomatch hn
    | succ fu ih =>
      intro z hn
      obtain ⟨y, hf, hy⟩ := lpI_succ hn
      intro H locs ls hN hS hl
      unfold fX6_passMinutes_s at hf
      refine lv_iload_n hx hb dX6_passMinutes_4 rfl (lv_at hl 3 rfl) ?_
      refine lv_iload_n hx hb dX6_passMinutes_5 rfl (lv_at hl 1 rfl) ?_
      refine lv_icmp_ge (tgt := 22) hx hb dX6_passMinutes_6 (by decide) (fun c1 => ?_) (fun c1 => ?_)
      · rw [if_pos c1] at hf
        refine lv_iload_n hx hb dX6_passMinutes_22 rfl (lv_at hl 2 rfl) ?_
        have hre := lp_end hy (Option.some.inj hf).symm
        subst hre
        exact mu_i (v := z.1) hx hb hrt hlocks hN hS dX6_passMinutes_23
      · rw [if_neg c1] at hf
        refine lv_iload_n hx hb dX6_passMinutes_9 rfl (lv_at hl 2 rfl) ?_
        refine lv_aload_n hx hb dX6_passMinutes_10 rfl (lv_at hl 0 rfl) ?_
        obtain ⟨z2, hc3, hf⟩ := br_some hf
        refine mu_cV (As := []) (rest := [.int z.1]) hx hb hml hown hts hE (mX6_passMinute l E B0 b (by omega) z.2.2 z2 hc3) cv_X6_162 (w_recv (k := 0) (ci := 6) hE hN (by decide) rfl rfl) hN hS hAB (fun _ h => h) rfl hl.1 rfl (by decide) (Nat.le_of_ble_eq_true rfl) ⟨Nat.le_refl _, Nat.le_refl _⟩ dX6_passMinutes_11 (fun H locs hN _ hu hS => ?_)
        refine lv_iadd hx hb dX6_passMinutes_14 ?_
        refine lv_istore_n (lv' := [(2, .int (z.1 + z2.1)), (0, .ref (b + 0)), (1, .int a1), (3, .int z.2.1)]) hx hb dX6_passMinutes_15 rfl hl (by decide) rfl (fun ls hl => ?_)
        refine lv_iinc (v := (z.2.1 + 1)) (lv' := [(3, .int (z.2.1 + 1)), (2, .int (z.1 + z2.1)), (0, .ref (b + 0)), (1, .int a1)]) hx hb dX6_passMinutes_16 hl (k := 3) rfl rfl (by decide) rfl (fun ls hl => ?_)
        refine lv_goto (tgt := 4) hx hb dX6_passMinutes_19 (by decide) ?_
        exact ih ((z.1 + z2.1), (z.2.1 + 1), z2.2) (lp_back hy (Option.some.inj hf).symm) _ _ _ hN hS (lv_sub hl [2, 3, 1, 0] rfl)
  refine lv_iconst (v := 0) hx hb dX6_passMinutes_0 (by decide) ?_
  refine lv_istore_n (lv' := [(2, .int 0), (0, .ref (b + 0)), (1, .int a1)]) hx hb dX6_passMinutes_1 rfl hl (by decide) rfl (fun ls hl => ?_)
  refine lv_iconst (v := 0) hx hb dX6_passMinutes_2 (by decide) ?_
  refine lv_istore_n (lv' := [(3, .int 0), (2, .int 0), (0, .ref (b + 0)), (1, .int a1)]) hx hb dX6_passMinutes_3 rfl hl (by decide) rfl (fun ls hl => ?_)
  obtain ⟨fu, hfu⟩ := lp_some hf
  exact (loop fu (0, 0, N) hfu) _ _ _ hN hS (lv_sub hl [2, 3, 1, 0] rfl)
def fX9_copyFrom (N : Mem) (O : Mem) (k0 : Nat) (k1 : Nat) : Option (Mem) := gd (stn k0) (gd (stn k1) (gd (isC (O k1 0)) (some (up2 (up2 (up2 (up2 (up2 (up2 (up2 (up2 (up2 (up2 N k0 0 (O k1 0)) k0 1 (O k1 1)) k0 2 (O k1 2)) k0 3 (O k1 3)) k0 4 (O k1 4)) k0 5 (O k1 5)) k0 6 (O k1 6)) k0 7 (O k1 7)) k0 8 (O k1 8)) k0 9 (O k1 9)))))
set_option maxHeartbeats 4000000 in
set_option maxRecDepth 100000 in
theorem mX9_copyFrom (l : Launch) (E : EP) (B0 : Nat) (b : Nat) (b2 : Nat) (hb0 : B0 ≤ b) (hb1 : B0 ≤ b2) (hb2 : b + 15 ≤ b2 ∨ b2 + 15 ≤ b) (N : Mem) (O : Mem) (k0 : Nat) (k1 : Nat) (r : Mem) (hf : fX9_copyFrom N O k0 k1 = some r) : MU l E B0 yX9_copyFrom cX9_copyFrom 2 none 0 0 0 [.ref (b + k0), .ref (b2 + k1)] (fun H => Blk E b netSh 15 N H ∧ Blk E b2 netSh 15 O H) none (fun H => Blk E b netSh 15 r H ∧ Blk E b2 netSh 15 O H) (iv b 15) := by
  refine mu_of (by decide +kernel) (Nat.le_of_ble_eq_true rfl) ?_
  intro p e s m args below meth c hx hb hml hown hts hrt hlocks hE H hP9 hS ls hl
  obtain ⟨hN, hO⟩ := hP9
  have hown : s.vm.findClass RX9 = some m.cls := hown
  have hl : lv_has ls 2 [(0, .ref (b + k0)), (1, .ref (b2 + k1))] := hl
  have hw : ∀ w ∈ WA, w.before args s = true := fun w h => hts w (List.mem_cons_of_mem _ h)
  have hAB : ∀ q, (iv b 15) q → B0 ≤ q := (iv_ge (by omega))
  unfold fX9_copyFrom at hf
  obtain ⟨g0, hf⟩ := gd_some hf
  obtain ⟨g1, hf⟩ := gd_some hf
  refine lv_aload_n hx hb dX9_copyFrom_0 rfl (lv_at hl 0 rfl) ?_
  refine lv_aload_n hx hb dX9_copyFrom_1 rfl (lv_at hl 1 rfl) ?_
  refine w_get (k := k1) (v := .int (O k1 0)) hx hb hw hown hE fl_X9_18 hO (stn_lt g1) (stn_sh g1) rfl rfl dX9_copyFrom_2 ?_
  obtain ⟨h1, hf⟩ := gd_some hf
  refine w_put (k := k0) (v := .int (O k1 0)) hx hb hw hown hE fl_X9_18 fw_X9_0 hN (stn_lt g0) (stn_sh g0) rfl (O k1 0) rfl (isC_n h1) (isC_f h1) hS (iv_mem (stn_lt g0)) dX9_copyFrom_5 (fun H locs hN _ hu hS => ?_)
  have hu := hu_iv (n := 15) (stn_lt g0) hu
  have hO := Blk.off hO hu (iv_dis (by omega))
  refine lv_aload_n hx hb dX9_copyFrom_8 rfl (lv_at hl 0 rfl) ?_
  refine lv_aload_n hx hb dX9_copyFrom_9 rfl (lv_at hl 1 rfl) ?_
  refine w_get (k := k1) (v := .int (O k1 1)) hx hb hw hown hE fl_X9_22 hO (stn_lt g1) (stn_sh g1) rfl rfl dX9_copyFrom_10 ?_
  refine w_put (k := k0) (v := .int (O k1 1)) hx hb hw hown hE fl_X9_22 fw_X9_1 hN (stn_lt g0) (stn_sh g0) rfl (O k1 1) rfl rfl rfl hS (iv_mem (stn_lt g0)) dX9_copyFrom_13 (fun H locs hN _ hu hS => ?_)
  have hu := hu_iv (n := 15) (stn_lt g0) hu
  have hO := Blk.off hO hu (iv_dis (by omega))
  refine lv_aload_n hx hb dX9_copyFrom_16 rfl (lv_at hl 0 rfl) ?_
  refine lv_aload_n hx hb dX9_copyFrom_17 rfl (lv_at hl 1 rfl) ?_
  refine w_get (k := k1) (v := .int (O k1 2)) hx hb hw hown hE fl_X9_26 hO (stn_lt g1) (stn_sh g1) rfl rfl dX9_copyFrom_18 ?_
  refine w_put (k := k0) (v := .int (O k1 2)) hx hb hw hown hE fl_X9_26 fw_X9_2 hN (stn_lt g0) (stn_sh g0) rfl (O k1 2) rfl rfl rfl hS (iv_mem (stn_lt g0)) dX9_copyFrom_21 (fun H locs hN _ hu hS => ?_)
  have hu := hu_iv (n := 15) (stn_lt g0) hu
  have hO := Blk.off hO hu (iv_dis (by omega))
  refine lv_aload_n hx hb dX9_copyFrom_24 rfl (lv_at hl 0 rfl) ?_
  refine lv_aload_n hx hb dX9_copyFrom_25 rfl (lv_at hl 1 rfl) ?_
  refine w_get (k := k1) (v := .int (O k1 3)) hx hb hw hown hE fl_X9_29 hO (stn_lt g1) (stn_sh g1) rfl rfl dX9_copyFrom_26 ?_
  refine w_put (k := k0) (v := .int (O k1 3)) hx hb hw hown hE fl_X9_29 fw_X9_3 hN (stn_lt g0) (stn_sh g0) rfl (O k1 3) rfl rfl rfl hS (iv_mem (stn_lt g0)) dX9_copyFrom_29 (fun H locs hN _ hu hS => ?_)
  have hu := hu_iv (n := 15) (stn_lt g0) hu
  have hO := Blk.off hO hu (iv_dis (by omega))
  refine lv_aload_n hx hb dX9_copyFrom_32 rfl (lv_at hl 0 rfl) ?_
  refine lv_aload_n hx hb dX9_copyFrom_33 rfl (lv_at hl 1 rfl) ?_
  refine w_get (k := k1) (v := .int (O k1 4)) hx hb hw hown hE fl_X9_32 hO (stn_lt g1) (stn_sh g1) rfl rfl dX9_copyFrom_34 ?_
  refine w_put (k := k0) (v := .int (O k1 4)) hx hb hw hown hE fl_X9_32 fw_X9_4 hN (stn_lt g0) (stn_sh g0) rfl (O k1 4) rfl rfl rfl hS (iv_mem (stn_lt g0)) dX9_copyFrom_37 (fun H locs hN _ hu hS => ?_)
  have hu := hu_iv (n := 15) (stn_lt g0) hu
  have hO := Blk.off hO hu (iv_dis (by omega))
  refine lv_aload_n hx hb dX9_copyFrom_40 rfl (lv_at hl 0 rfl) ?_
  refine lv_aload_n hx hb dX9_copyFrom_41 rfl (lv_at hl 1 rfl) ?_
  refine w_get (k := k1) (v := .int (O k1 5)) hx hb hw hown hE fl_X9_35 hO (stn_lt g1) (stn_sh g1) rfl rfl dX9_copyFrom_42 ?_
  refine w_put (k := k0) (v := .int (O k1 5)) hx hb hw hown hE fl_X9_35 fw_X9_5 hN (stn_lt g0) (stn_sh g0) rfl (O k1 5) rfl rfl rfl hS (iv_mem (stn_lt g0)) dX9_copyFrom_45 (fun H locs hN _ hu hS => ?_)
  have hu := hu_iv (n := 15) (stn_lt g0) hu
  have hO := Blk.off hO hu (iv_dis (by omega))
  refine lv_aload_n hx hb dX9_copyFrom_48 rfl (lv_at hl 0 rfl) ?_
  refine lv_aload_n hx hb dX9_copyFrom_49 rfl (lv_at hl 1 rfl) ?_
  refine w_get (k := k1) (v := .ref (E.2.2 0 (O k1 6).toNatClampNeg)) hx hb hw hown hE fl_X9_13 hO (stn_lt g1) (stn_sh g1) rfl rfl dX9_copyFrom_50 ?_
  refine w_put (k := k0) (v := .ref (E.2.2 0 (O k1 6).toNatClampNeg)) hx hb hw hown hE fl_X9_13 fw_X9_6 hN (stn_lt g0) (stn_sh g0) rfl (O k1 6) rfl rfl rfl hS (iv_mem (stn_lt g0)) dX9_copyFrom_53 (fun H locs hN _ hu hS => ?_)
  have hu := hu_iv (n := 15) (stn_lt g0) hu
  have hO := Blk.off hO hu (iv_dis (by omega))
  refine lv_aload_n hx hb dX9_copyFrom_56 rfl (lv_at hl 0 rfl) ?_
  refine lv_aload_n hx hb dX9_copyFrom_57 rfl (lv_at hl 1 rfl) ?_
  refine w_get (k := k1) (v := .int (O k1 7)) hx hb hw hown hE fl_X9_38 hO (stn_lt g1) (stn_sh g1) rfl rfl dX9_copyFrom_58 ?_
  refine w_put (k := k0) (v := .int (O k1 7)) hx hb hw hown hE fl_X9_38 fw_X9_7 hN (stn_lt g0) (stn_sh g0) rfl (O k1 7) rfl rfl rfl hS (iv_mem (stn_lt g0)) dX9_copyFrom_61 (fun H locs hN _ hu hS => ?_)
  have hu := hu_iv (n := 15) (stn_lt g0) hu
  have hO := Blk.off hO hu (iv_dis (by omega))
  refine lv_aload_n hx hb dX9_copyFrom_64 rfl (lv_at hl 0 rfl) ?_
  refine lv_aload_n hx hb dX9_copyFrom_65 rfl (lv_at hl 1 rfl) ?_
  refine w_get (k := k1) (v := .int (O k1 8)) hx hb hw hown hE fl_X9_41 hO (stn_lt g1) (stn_sh g1) rfl rfl dX9_copyFrom_66 ?_
  refine w_put (k := k0) (v := .int (O k1 8)) hx hb hw hown hE fl_X9_41 fw_X9_8 hN (stn_lt g0) (stn_sh g0) rfl (O k1 8) rfl rfl rfl hS (iv_mem (stn_lt g0)) dX9_copyFrom_69 (fun H locs hN _ hu hS => ?_)
  have hu := hu_iv (n := 15) (stn_lt g0) hu
  have hO := Blk.off hO hu (iv_dis (by omega))
  refine lv_aload_n hx hb dX9_copyFrom_72 rfl (lv_at hl 0 rfl) ?_
  refine lv_aload_n hx hb dX9_copyFrom_73 rfl (lv_at hl 1 rfl) ?_
  refine w_get (k := k1) (v := .int (O k1 9)) hx hb hw hown hE fl_X9_44 hO (stn_lt g1) (stn_sh g1) rfl rfl dX9_copyFrom_74 ?_
  refine w_put (k := k0) (v := .int (O k1 9)) hx hb hw hown hE fl_X9_44 fw_X9_9 hN (stn_lt g0) (stn_sh g0) rfl (O k1 9) rfl rfl rfl hS (iv_mem (stn_lt g0)) dX9_copyFrom_77 (fun H locs hN _ hu hS => ?_)
  have hu := hu_iv (n := 15) (stn_lt g0) hu
  have hO := Blk.off hO hu (iv_dis (by omega))
  have hre := Option.some.inj hf
  subst hre
  exact mu_v hx hb hrt hlocks ⟨hN, hO⟩ hS dX9_copyFrom_80
def fX10_copyFrom_s (O : Mem) (z : Int32 × Mem) : Option ((Int32 × Mem) ⊕ (Mem)) := (if (16 : Int32) ≤ z.1 then some (.inr z.2) else gd (inb z.1 16) (gd (inb z.1 16) (gd (inb z.1 16) (gd (inb z.1 16) (gd (inb z.1 16) (gd (inb z.1 16) (some (.inl ((z.1 + 1), (up2 (up2 (up2 z.2 12 z.1.toNatClampNeg (O 12 z.1.toNatClampNeg)) 13 z.1.toNatClampNeg (O 13 z.1.toNatClampNeg)) 14 z.1.toNatClampNeg (O 14 z.1.toNatClampNeg)))))))))))
noncomputable def fX10_copyFrom (N : Mem) (O : Mem) : Option (Mem) := lp (fX10_copyFrom_s O) (0, (up2 N 11 3 (O 11 3)))
set_option maxHeartbeats 4000000 in
set_option maxRecDepth 100000 in
theorem mX10_copyFrom (l : Launch) (E : EP) (B0 : Nat) (b : Nat) (b2 : Nat) (hb0 : B0 ≤ b) (hb1 : B0 ≤ b2) (hb2 : b + 15 ≤ b2 ∨ b2 + 15 ≤ b) (N : Mem) (O : Mem) (r : Mem) (hf : fX10_copyFrom N O = some r) : MU l E B0 yX10_copyFrom cX10_copyFrom 3 none 0 0 0 [.ref (b + 11), .ref (b2 + 11)] (fun H => Blk E b netSh 15 N H ∧ Blk E b2 netSh 15 O H) none (fun H => Blk E b netSh 15 r H ∧ Blk E b2 netSh 15 O H) (iv b 15) := by
  refine mu_of (by decide +kernel) (Nat.le_of_ble_eq_true rfl) ?_
  intro p e s m args below meth c hx hb hml hown hts hrt hlocks hE H hP9 hS ls hl
  obtain ⟨hN, hO⟩ := hP9
  have hown : s.vm.findClass RX10 = some m.cls := hown
  have hl : lv_has ls 3 [(0, .ref (b + 11)), (1, .ref (b2 + 11))] := hl
  have hw : ∀ w ∈ WA, w.before args s = true := fun w h => hts w (List.mem_cons_of_mem _ h)
  have hAB : ∀ q, (iv b 15) q → B0 ≤ q := (iv_ge (by omega))
  unfold fX10_copyFrom at hf
  have loop : ∀ (fu : Nat) (z : Int32 × Mem), lpI (fX10_copyFrom_s O) fu z = some r → (∀ (H : Heap) (locs : List Loc) (ls : Array Slot), Blk E b netSh 15 z.2 H → Blk E b2 netSh 15 O H → va_S (iv b 15) s.heap H locs → lv_has ls 3 [(0, .ref (b + 11)), (1, .ref (b2 + 11)), (2, .int z.1)] → W p l e (rmD 0 0 0) s m args below meth c H locs 0 0 (MQ below (QU none (fun H => Blk E b netSh 15 r H ∧ Blk E b2 netSh 15 O H) (iv b 15)) args s 0 0 (iv b 15)) (F0 m 10 ls [])) := by
    intro fu
    induction fu with
    | zero =>
      intro z hn
      exact nomatch hn
    | succ fu ih =>
      intro z hn
      obtain ⟨y, hf, hy⟩ := lpI_succ hn
      intro H locs ls hN hO hS hl
      unfold fX10_copyFrom_s at hf
      refine lv_iload_n hx hb dX10_copyFrom_10 rfl (lv_at hl 2 rfl) ?_
      refine lv_bipush (v := 16) hx hb dX10_copyFrom_11 (by decide) ?_
      refine lv_icmp_ge (tgt := 58) hx hb dX10_copyFrom_13 (by decide) (fun c1 => ?_) (fun c1 => ?_)
      · rw [if_pos c1] at hf
        have hre := lp_end hy (Option.some.inj hf).symm
        subst hre
        exact mu_v hx hb hrt hlocks ⟨hN, hO⟩ hS dX10_copyFrom_58
      · rw [if_neg c1] at hf
        refine lv_aload_n hx hb dX10_copyFrom_16 rfl (lv_at hl 0 rfl) ?_
        refine w_get (k := 11) (v := .ref (b + 12)) hx hb hw hown hE fl_X10_9 hN (by decide) rfl rfl rfl dX10_copyFrom_17 ?_
        refine lv_iload_n hx hb dX10_copyFrom_20 rfl (lv_at hl 2 rfl) ?_
        refine lv_aload_n hx hb dX10_copyFrom_21 rfl (lv_at hl 1 rfl) ?_
        refine w_get (k := 11) (v := .ref (b2 + 12)) hx hb hw hown hE fl_X10_9 hO (by decide) rfl rfl rfl dX10_copyFrom_22 ?_
        refine lv_iload_n hx hb dX10_copyFrom_25 rfl (lv_at hl 2 rfl) ?_
        obtain ⟨h2, hf⟩ := gd_some hf
        refine w_iald (k := 12) (x9 := z.1.toNatClampNeg) hx hb hE hO (by decide) rfl rfl h2 dX10_copyFrom_26 ?_
        obtain ⟨h3, hf⟩ := gd_some hf
        refine w_iast (k := 12) (x9 := z.1.toNatClampNeg) (x := (O 12 z.1.toNatClampNeg)) hx hb hE hN (by decide) rfl rfl h3 hS (iv_mem (by decide)) dX10_copyFrom_27 (fun H locs hN _ hu hS => ?_)
        have hu := hu_iv (n := 15) (by decide) hu
        have hO := Blk.off hO hu (iv_dis (by omega))
        refine lv_aload_n hx hb dX10_copyFrom_28 rfl (lv_at hl 0 rfl) ?_
        refine w_get (k := 11) (v := .ref (b + 13)) hx hb hw hown hE fl_X10_15 hN (by decide) rfl rfl rfl dX10_copyFrom_29 ?_
        refine lv_iload_n hx hb dX10_copyFrom_32 rfl (lv_at hl 2 rfl) ?_
        refine lv_aload_n hx hb dX10_copyFrom_33 rfl (lv_at hl 1 rfl) ?_
        refine w_get (k := 11) (v := .ref (b2 + 13)) hx hb hw hown hE fl_X10_15 hO (by decide) rfl rfl rfl dX10_copyFrom_34 ?_
        refine lv_iload_n hx hb dX10_copyFrom_37 rfl (lv_at hl 2 rfl) ?_
        obtain ⟨h4, hf⟩ := gd_some hf
        refine w_iald (k := 13) (x9 := z.1.toNatClampNeg) hx hb hE hO (by decide) rfl rfl h4 dX10_copyFrom_38 ?_
        obtain ⟨h5, hf⟩ := gd_some hf
        refine w_iast (k := 13) (x9 := z.1.toNatClampNeg) (x := (O 13 z.1.toNatClampNeg)) hx hb hE hN (by decide) rfl rfl h5 hS (iv_mem (by decide)) dX10_copyFrom_39 (fun H locs hN _ hu hS => ?_)
        have hu := hu_iv (n := 15) (by decide) hu
        have hO := Blk.off hO hu (iv_dis (by omega))
        refine lv_aload_n hx hb dX10_copyFrom_40 rfl (lv_at hl 0 rfl) ?_
        refine w_get (k := 11) (v := .ref (b + 14)) hx hb hw hown hE fl_X10_18 hN (by decide) rfl rfl rfl dX10_copyFrom_41 ?_
        refine lv_iload_n hx hb dX10_copyFrom_44 rfl (lv_at hl 2 rfl) ?_
        refine lv_aload_n hx hb dX10_copyFrom_45 rfl (lv_at hl 1 rfl) ?_
        refine w_get (k := 11) (v := .ref (b2 + 14)) hx hb hw hown hE fl_X10_18 hO (by decide) rfl rfl rfl dX10_copyFrom_46 ?_
        refine lv_iload_n hx hb dX10_copyFrom_49 rfl (lv_at hl 2 rfl) ?_
        obtain ⟨h6, hf⟩ := gd_some hf
        refine w_iald (k := 14) (x9 := z.1.toNatClampNeg) hx hb hE hO (by decide) rfl rfl h6 dX10_copyFrom_50 ?_
        obtain ⟨h7, hf⟩ := gd_some hf
        refine w_iast (k := 14) (x9 := z.1.toNatClampNeg) (x := (O 14 z.1.toNatClampNeg)) hx hb hE hN (by decide) rfl rfl h7 hS (iv_mem (by decide)) dX10_copyFrom_51 (fun H locs hN _ hu hS => ?_)
        have hu := hu_iv (n := 15) (by decide) hu
        have hO := Blk.off hO hu (iv_dis (by omega))
        refine lv_iinc (v := (z.1 + 1)) (lv' := [(2, .int (z.1 + 1)), (0, .ref (b + 11)), (1, .ref (b2 + 11))]) hx hb dX10_copyFrom_52 hl (k := 2) rfl rfl (by decide) rfl (fun ls hl => ?_)
        refine lv_goto (tgt := 10) hx hb dX10_copyFrom_55 (by decide) ?_
        exact ih ((z.1 + 1), (up2 (up2 (up2 z.2 12 z.1.toNatClampNeg (O 12 z.1.toNatClampNeg)) 13 z.1.toNatClampNeg (O 13 z.1.toNatClampNeg)) 14 z.1.toNatClampNeg (O 14 z.1.toNatClampNeg))) (lp_back hy (Option.some.inj hf).symm) _ _ _ hN hO hS (lv_sub hl [1, 2, 0] rfl)
  refine lv_aload_n hx hb dX10_copyFrom_0 rfl (lv_at hl 0 rfl) ?_
  refine lv_aload_n hx hb dX10_copyFrom_1 rfl (lv_at hl 1 rfl) ?_
  refine w_get (k := 11) (v := .int (O 11 3)) hx hb hw hown hE fl_X10_21 hO (by decide) rfl rfl rfl dX10_copyFrom_2 ?_
  refine w_put (k := 11) (v := .int (O 11 3)) hx hb hw hown hE fl_X10_21 fw_X10_3 hN (by decide) rfl rfl (O 11 3) rfl rfl rfl hS (iv_mem (by decide)) dX10_copyFrom_5 (fun H locs hN _ hu hS => ?_)
  have hu := hu_iv (n := 15) (by decide) hu
  have hO := Blk.off hO hu (iv_dis (by omega))
  refine lv_iconst (v := 0) hx hb dX10_copyFrom_8 (by decide) ?_
  refine lv_istore_n (lv' := [(2, .int 0), (0, .ref (b + 11)), (1, .ref (b2 + 11))]) hx hb dX10_copyFrom_9 rfl hl (by decide) rfl (fun ls hl => ?_)
  obtain ⟨fu, hfu⟩ := lp_some hf
  exact (loop fu (0, (up2 N 11 3 (O 11 3))) hfu) _ _ _ hN hO hS (lv_sub hl [1, 2, 0] rfl)
noncomputable def fX6_copyFrom_s (O : Mem) (z : Int32 × Mem) : Option ((Int32 × Mem) ⊕ (Mem)) := (if (8 : Int32) ≤ z.1 then (fX10_copyFrom (up2 (up2 z.2 0 1 (O 0 1)) 0 3 (O 0 3)) O).bind fun z2 => some (.inr (up2 (up2 z2 0 5 (O 0 5)) 0 6 (O 0 6))) else gd (inb z.1 8) (gd (inb z.1 8) ((fX9_copyFrom z.2 O (2 + 1 * z.1.toNatClampNeg) (2 + 1 * z.1.toNatClampNeg)).bind fun z6 => gd (inb z.1 8) (gd (inb z.1 8) (some (.inl ((z.1 + 1), (up2 z6 10 z.1.toNatClampNeg (O 10 z.1.toNatClampNeg)))))))))
noncomputable def fX6_copyFrom (N : Mem) (O : Mem) : Option (Mem) := lp (fX6_copyFrom_s O) (0, N)
set_option maxHeartbeats 4000000 in
set_option maxRecDepth 100000 in
theorem mX6_copyFrom (l : Launch) (E : EP) (B0 : Nat) (b : Nat) (b2 : Nat) (hb0 : B0 ≤ b) (hb1 : B0 ≤ b2) (hb2 : b + 15 ≤ b2 ∨ b2 + 15 ≤ b) (N : Mem) (O : Mem) (r : Mem) (hf : fX6_copyFrom N O = some r) : MU l E B0 yX6_copyFrom cX6_copyFrom 3 none 1 0 0 [.ref (b + 0), .ref (b2 + 0)] (fun H => Blk E b netSh 15 N H ∧ Blk E b2 netSh 15 O H) none (fun H => Blk E b netSh 15 r H ∧ Blk E b2 netSh 15 O H) (iv b 15) := by
  refine mu_of (by decide +kernel) (Nat.le_of_ble_eq_true rfl) ?_
  intro p e s m args below meth c hx hb hml hown hts hrt hlocks hE H hP9 hS ls hl
  obtain ⟨hN, hO⟩ := hP9
  have hown : s.vm.findClass RX6 = some m.cls := hown
  have hl : lv_has ls 3 [(0, .ref (b + 0)), (1, .ref (b2 + 0))] := hl
  have hw : ∀ w ∈ WA, w.before args s = true := fun w h => hts w (List.mem_cons_of_mem _ h)
  have hAB : ∀ q, (iv b 15) q → B0 ≤ q := (iv_ge (by omega))
  unfold fX6_copyFrom at hf
  have loop : ∀ (fu : Nat) (z : Int32 × Mem), lpI (fX6_copyFrom_s O) fu z = some r → (∀ (H : Heap) (locs : List Loc) (ls : Array Slot), Blk E b netSh 15 z.2 H → Blk E b2 netSh 15 O H → va_S (iv b 15) s.heap H locs → lv_has ls 3 [(0, .ref (b + 0)), (1, .ref (b2 + 0)), (2, .int z.1)] → W p l e (rmD 1 0 0) s m args below meth c H locs 0 0 (MQ below (QU none (fun H => Blk E b netSh 15 r H ∧ Blk E b2 netSh 15 O H) (iv b 15)) args s 0 0 (iv b 15)) (F0 m 2 ls [])) := by
    intro fu
    induction fu with
    | zero =>
      intro z hn
      exact nomatch hn
    | succ fu ih =>
      intro z hn
      obtain ⟨y, hf, hy⟩ := lpI_succ hn
      intro H locs ls hN hO hS hl
      unfold fX6_copyFrom_s at hf
      refine lv_iload_n hx hb dX6_copyFrom_2 rfl (lv_at hl 2 rfl) ?_
      refine lv_bipush (v := 8) hx hb dX6_copyFrom_3 (by decide) ?_
      refine lv_icmp_ge (tgt := 41) hx hb dX6_copyFrom_5 (by decide) (fun c1 => ?_) (fun c1 => ?_)
      · rw [if_pos c1] at hf
        refine lv_aload_n hx hb dX6_copyFrom_41 rfl (lv_at hl 0 rfl) ?_
        refine lv_aload_n hx hb dX6_copyFrom_42 rfl (lv_at hl 1 rfl) ?_
        refine w_get (k := 0) (v := .int (O 0 1)) hx hb hw hown hE fl_X6_18 hO (by decide) rfl rfl rfl dX6_copyFrom_43 ?_
        refine w_put (k := 0) (v := .int (O 0 1)) hx hb hw hown hE fl_X6_18 fw_X6_1 hN (by decide) rfl rfl (O 0 1) rfl rfl rfl hS (iv_mem (by decide)) dX6_copyFrom_46 (fun H locs hN _ hu hS => ?_)
        have hu := hu_iv (n := 15) (by decide) hu
        have hO := Blk.off hO hu (iv_dis (by omega))
        refine lv_aload_n hx hb dX6_copyFrom_49 rfl (lv_at hl 0 rfl) ?_
        refine lv_aload_n hx hb dX6_copyFrom_50 rfl (lv_at hl 1 rfl) ?_
        refine w_get (k := 0) (v := .int (O 0 3)) hx hb hw hown hE fl_X6_26 hO (by decide) rfl rfl rfl dX6_copyFrom_51 ?_
        refine w_put (k := 0) (v := .int (O 0 3)) hx hb hw hown hE fl_X6_26 fw_X6_3 hN (by decide) rfl rfl (O 0 3) rfl rfl rfl hS (iv_mem (by decide)) dX6_copyFrom_54 (fun H locs hN _ hu hS => ?_)
        have hu := hu_iv (n := 15) (by decide) hu
        have hO := Blk.off hO hu (iv_dis (by omega))
        refine lv_aload_n hx hb dX6_copyFrom_57 rfl (lv_at hl 0 rfl) ?_
        refine w_get (k := 0) (v := .ref (b + 11)) hx hb hw hown hE fl_X6_32 hN (by decide) rfl rfl rfl dX6_copyFrom_58 ?_
        refine lv_aload_n hx hb dX6_copyFrom_61 rfl (lv_at hl 1 rfl) ?_
        refine w_get (k := 0) (v := .ref (b2 + 11)) hx hb hw hown hE fl_X6_32 hO (by decide) rfl rfl rfl dX6_copyFrom_62 ?_
        obtain ⟨z2, hc3, hf⟩ := br_some hf
        refine mu_cV (As := [.ref (b2 + 11)]) (rest := []) hx hb hml hown hts hE (mX10_copyFrom l E B0 b b2 (by omega) (by omega) (by omega) (up2 (up2 z.2 0 1 (O 0 1)) 0 3 (O 0 3)) O z2 hc3) cv_X6_46 (w_recv (k := 11) (ci := 10) hE hN (by decide) rfl rfl) ⟨hN, hO⟩ hS hAB (fun _ h => h) rfl hl.1 rfl (by decide) (Nat.le_of_ble_eq_true rfl) ⟨Nat.le_refl _, Nat.le_refl _⟩ dX6_copyFrom_65 (fun H locs hP9 _ hu hS => ?_)
        obtain ⟨hN, hO⟩ := hP9
        refine lv_aload_n hx hb dX6_copyFrom_68 rfl (lv_at hl 0 rfl) ?_
        refine lv_aload_n hx hb dX6_copyFrom_69 rfl (lv_at hl 1 rfl) ?_
        refine w_get (k := 0) (v := .int (O 0 5)) hx hb hw hown hE fl_X6_36 hO (by decide) rfl rfl rfl dX6_copyFrom_70 ?_
        refine w_put (k := 0) (v := .int (O 0 5)) hx hb hw hown hE fl_X6_36 fw_X6_5 hN (by decide) rfl rfl (O 0 5) rfl rfl rfl hS (iv_mem (by decide)) dX6_copyFrom_73 (fun H locs hN _ hu hS => ?_)
        have hu := hu_iv (n := 15) (by decide) hu
        have hO := Blk.off hO hu (iv_dis (by omega))
        refine lv_aload_n hx hb dX6_copyFrom_76 rfl (lv_at hl 0 rfl) ?_
        refine lv_aload_n hx hb dX6_copyFrom_77 rfl (lv_at hl 1 rfl) ?_
        refine w_get (k := 0) (v := .int (O 0 6)) hx hb hw hown hE fl_X6_39 hO (by decide) rfl rfl rfl dX6_copyFrom_78 ?_
        refine w_put (k := 0) (v := .int (O 0 6)) hx hb hw hown hE fl_X6_39 fw_X6_6 hN (by decide) rfl rfl (O 0 6) rfl rfl rfl hS (iv_mem (by decide)) dX6_copyFrom_81 (fun H locs hN _ hu hS => ?_)
        have hu := hu_iv (n := 15) (by decide) hu
        have hO := Blk.off hO hu (iv_dis (by omega))
        have hre := lp_end hy (Option.some.inj hf).symm
        subst hre
        exact mu_v hx hb hrt hlocks ⟨hN, hO⟩ hS dX6_copyFrom_84
      · rw [if_neg c1] at hf
        refine lv_aload_n hx hb dX6_copyFrom_8 rfl (lv_at hl 0 rfl) ?_
        refine w_get (k := 0) (v := .ref (b + 1)) hx hb hw hown hE fl_X6_11 hN (by decide) rfl rfl rfl dX6_copyFrom_9 ?_
        refine lv_iload_n hx hb dX6_copyFrom_12 rfl (lv_at hl 2 rfl) ?_
        obtain ⟨h4, hf⟩ := gd_some hf
        refine w_aald (k := 1) (j := 0) (x9 := z.1.toNatClampNeg) hx hb hE hN (by decide) rfl rfl rfl h4 dX6_copyFrom_13 ?_
        refine lv_aload_n hx hb dX6_copyFrom_14 rfl (lv_at hl 1 rfl) ?_
        refine w_get (k := 0) (v := .ref (b2 + 1)) hx hb hw hown hE fl_X6_11 hO (by decide) rfl rfl rfl dX6_copyFrom_15 ?_
        refine lv_iload_n hx hb dX6_copyFrom_18 rfl (lv_at hl 2 rfl) ?_
        obtain ⟨h5, hf⟩ := gd_some hf
        refine w_aald (k := 1) (j := 0) (x9 := z.1.toNatClampNeg) hx hb hE hO (by decide) rfl rfl rfl h5 dX6_copyFrom_19 ?_
        obtain ⟨z6, hc7, hf⟩ := br_some hf
        refine mu_cV (As := [.ref (b2 + (2 + 1 * z.1.toNatClampNeg))]) (rest := []) hx hb hml hown hts hE (mX9_copyFrom l E B0 b b2 (by omega) (by omega) (by omega) z.2 O (2 + 1 * z.1.toNatClampNeg) (2 + 1 * z.1.toNatClampNeg) z6 hc7) cv_X6_42 (w_recv (k := (2 + 1 * z.1.toNatClampNeg)) (ci := 9) hE hN (stn_lt (stn_ld h4)) (stn_sh (stn_ld h4)) rfl) ⟨hN, hO⟩ hS hAB (fun _ h => h) rfl hl.1 rfl (by decide) (Nat.le_of_ble_eq_true rfl) ⟨Nat.le_refl _, Nat.le_refl _⟩ dX6_copyFrom_20 (fun H locs hP9 _ hu hS => ?_)
        obtain ⟨hN, hO⟩ := hP9
        refine lv_aload_n hx hb dX6_copyFrom_23 rfl (lv_at hl 0 rfl) ?_
        refine w_get (k := 0) (v := .ref (b + 10)) hx hb hw hown hE fl_X6_22 hN (by decide) rfl rfl rfl dX6_copyFrom_24 ?_
        refine lv_iload_n hx hb dX6_copyFrom_27 rfl (lv_at hl 2 rfl) ?_
        refine lv_aload_n hx hb dX6_copyFrom_28 rfl (lv_at hl 1 rfl) ?_
        refine w_get (k := 0) (v := .ref (b2 + 10)) hx hb hw hown hE fl_X6_22 hO (by decide) rfl rfl rfl dX6_copyFrom_29 ?_
        refine lv_iload_n hx hb dX6_copyFrom_32 rfl (lv_at hl 2 rfl) ?_
        obtain ⟨h8, hf⟩ := gd_some hf
        refine w_iald (k := 10) (x9 := z.1.toNatClampNeg) hx hb hE hO (by decide) rfl rfl h8 dX6_copyFrom_33 ?_
        obtain ⟨h9, hf⟩ := gd_some hf
        refine w_iast (k := 10) (x9 := z.1.toNatClampNeg) (x := (O 10 z.1.toNatClampNeg)) hx hb hE hN (by decide) rfl rfl h9 hS (iv_mem (by decide)) dX6_copyFrom_34 (fun H locs hN _ hu hS => ?_)
        have hu := hu_iv (n := 15) (by decide) hu
        have hO := Blk.off hO hu (iv_dis (by omega))
        refine lv_iinc (v := (z.1 + 1)) (lv' := [(2, .int (z.1 + 1)), (0, .ref (b + 0)), (1, .ref (b2 + 0))]) hx hb dX6_copyFrom_35 hl (k := 2) rfl rfl (by decide) rfl (fun ls hl => ?_)
        refine lv_goto (tgt := 2) hx hb dX6_copyFrom_38 (by decide) ?_
        exact ih ((z.1 + 1), (up2 z6 10 z.1.toNatClampNeg (O 10 z.1.toNatClampNeg))) (lp_back hy (Option.some.inj hf).symm) _ _ _ hN hO hS (lv_sub hl [1, 2, 0] rfl)
  refine lv_iconst (v := 0) hx hb dX6_copyFrom_0 (by decide) ?_
  refine lv_istore_n (lv' := [(2, .int 0), (0, .ref (b + 0)), (1, .ref (b2 + 0))]) hx hb dX6_copyFrom_1 rfl hl (by decide) rfl (fun ls hl => ?_)
  obtain ⟨fu, hfu⟩ := lp_some hf
  exact (loop fu (0, N) hfu) _ _ _ hN hO hS (lv_sub hl [1, 2, 0] rfl)
