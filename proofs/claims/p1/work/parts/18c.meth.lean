/-! ===== laid by program: the class ===== -/
def fX11_refuse (a1 : Int32) : Option ((Nat ⊕ Unit)) := gd (inb a1 5) (gd (inb a1 5) ((if (swF.getD a1.toNatClampNeg 0) = 1 then some (.inl 0) else (if (swF.getD a1.toNatClampNeg 0) = 2 then some (.inl 1) else (if (swF.getD a1.toNatClampNeg 0) = 3 then some (.inl 2) else (if (swF.getD a1.toNatClampNeg 0) = 4 then some (.inl 3) else some (.inr ())))))))
set_option maxHeartbeats 4000000 in
set_option maxRecDepth 100000 in
theorem mX11_refuse (l : Launch) (E : EP) (B0 : Nat) (htr : l.stackTraces = false) (a1 : Int32) (r : (Nat ⊕ Unit)) (hf : fX11_refuse a1 = some r) : MX l E B0 yX11_refuse cX11_refuse 1 none 8 1 6 [.ref (E.2.2 1 a1.toNatClampNeg)] (fun _ => True) r (fun _ => none) (fun _ => True) nv := by
  refine mx_of (by decide +kernel) (Nat.le_of_ble_eq_true rfl) ?_
  intro p e s m args below meth c hx hb hml hown hts hrt hlocks htab hE H _ hS ls hl
  have hown : s.vm.findClass RX11 = some m.cls := hown
  have hl : lv_has ls 1 [(0, .ref (E.2.2 1 a1.toNatClampNeg))] := hl
  have hw : ∀ w ∈ WA, w.before args s = true := fun w h => hts w (List.mem_cons_of_mem _ h)
  have hAB : ∀ q, nv q → B0 ≤ q := fun _ h => h.elim
  unfold fX11_refuse at hf
  refine w_sw2 hx hb hw hown hE gw_X11_380 hS hAB dX11_refuse_0 ?_
  refine lv_aload_n hx hb dX11_refuse_3 rfl (lv_at hl 0 rfl) ?_
  obtain ⟨h1, hf⟩ := gd_some hf
  refine w_ord (j := 1) (x := a1) hx hb hml hown hts hE (fun U H h => EV.en1 h) (ordL1 h1) h1 hS hAB po_X11_385 hl.1 (by decide) (Nat.le_of_ble_eq_true rfl) (Nat.zero_le _) (Nat.zero_le _) dX11_refuse_4 (fun H locs hz hu hS => ?_)
  obtain ⟨h2, hf⟩ := gd_some hf
  refine w_sald2 hx hb hE hS hAB h2 dX11_refuse_7 ?_
  by_cases c3 : (swF.getD a1.toNatClampNeg 0) = 1
  · rw [if_pos c3] at hf
    refine lv_tableIn (off := 32) (tgt := 40) hx hb dX11_refuse_8 (by rw [c3]; decide) (by rw [c3]; decide) (by rw [c3]; rfl) (by decide) ?_
    have hre := Option.some.inj hf
    subst hre
    exact mx_thrW (e9 := 0) hx hb htr htab hlocks hown hw hE th_X11_314_390_318 hS hAB (hl.1.trans hml.symm) dX11_refuse_40 dX11_refuse_43 dX11_refuse_44 dX11_refuse_47 dX11_refuse_50 (by decide) (Nat.le_of_ble_eq_true rfl) ⟨by decide, by decide⟩ ⟨by decide, by decide⟩ rfl rfl (fun _ _ => trivial)
  rw [if_neg c3] at hf
  by_cases c4 : (swF.getD a1.toNatClampNeg 0) = 2
  · rw [if_pos c4] at hf
    refine lv_tableIn (off := 43) (tgt := 51) hx hb dX11_refuse_8 (by rw [c4]; decide) (by rw [c4]; decide) (by rw [c4]; rfl) (by decide) ?_
    have hre := Option.some.inj hf
    subst hre
    exact mx_thrW (e9 := 1) hx hb htr htab hlocks hown hw hE th_X11_339_392_343 hS hAB (hl.1.trans hml.symm) dX11_refuse_51 dX11_refuse_54 dX11_refuse_55 dX11_refuse_58 dX11_refuse_61 (by decide) (Nat.le_of_ble_eq_true rfl) ⟨by decide, by decide⟩ ⟨by decide, by decide⟩ rfl rfl (fun _ _ => trivial)
  rw [if_neg c4] at hf
  by_cases c5 : (swF.getD a1.toNatClampNeg 0) = 3
  · rw [if_pos c5] at hf
    refine lv_tableIn (off := 54) (tgt := 62) hx hb dX11_refuse_8 (by rw [c5]; decide) (by rw [c5]; decide) (by rw [c5]; rfl) (by decide) ?_
    have hre := Option.some.inj hf
    subst hre
    exact mx_thrW (e9 := 2) hx hb htr htab hlocks hown hw hE th_X11_360_394_364 hS hAB (hl.1.trans hml.symm) dX11_refuse_62 dX11_refuse_65 dX11_refuse_66 dX11_refuse_69 dX11_refuse_72 (by decide) (Nat.le_of_ble_eq_true rfl) ⟨by decide, by decide⟩ ⟨by decide, by decide⟩ rfl rfl (fun _ _ => trivial)
  rw [if_neg c5] at hf
  by_cases c6 : (swF.getD a1.toNatClampNeg 0) = 4
  · rw [if_pos c6] at hf
    refine lv_tableIn (off := 65) (tgt := 73) hx hb dX11_refuse_8 (by rw [c6]; decide) (by rw [c6]; decide) (by rw [c6]; rfl) (by decide) ?_
    have hre := Option.some.inj hf
    subst hre
    exact mx_thrW (e9 := 3) hx hb htr htab hlocks hown hw hE th_X11_325_396_329 hS hAB (hl.1.trans hml.symm) dX11_refuse_73 dX11_refuse_76 dX11_refuse_77 dX11_refuse_80 dX11_refuse_83 (by decide) (Nat.le_of_ble_eq_true rfl) ⟨by decide, by decide⟩ ⟨by decide, by decide⟩ rfl rfl (fun _ _ => trivial)
  rw [if_neg c6] at hf
  refine lv_tableOut (tgt := 84) hx hb dX11_refuse_8 (by have q0 := i32ne (k := 1) c3 (by decide); have q1 := i32ne (k := 2) c4 (by decide); have q2 := i32ne (k := 3) c5 (by decide); have q3 := i32ne (k := 4) c6 (by decide); omega) (by decide) ?_
  have hre := Option.some.inj hf
  subst hre
  refine W.widen (k := 1) (n := 6) (by decide) (by decide) ?_
  refine mx_up (v := ()) rfl ?_
  exact mu_v hx hb hrt hlocks trivial hS dX11_refuse_84
noncomputable def fX11_addStation (G : Mem) (N : Mem) (Hs : Mem) (Q : Nat → Mem) (a1 : Int32) (a2 : Int32) (a3 : Int32) (a4 : Int32) (a5 : Int32) (a6 : Int32) : Option ((Nat ⊕ Int32) × Mem × Mem × (Nat → Mem)) := (fX6_faultOfAdding N a1 a2 a3 a4 a5 a6).bind fun z1 => (fX11_refuse z1).bind fun z3 => sx z3 (fun e9 => some (.inl e9, N, Hs, Q)) (fun v5 => (fX3_push Hs Q N).bind fun z6 => (fX6_add N a1 a2 a3 a4 a5 a6).bind fun z8 => some (.inr z8.1, z8.2, z6.1, z6.2))
set_option maxHeartbeats 4000000 in
set_option maxRecDepth 100000 in
theorem mX11_addStation (l : Launch) (E : EP) (B0 : Nat) (htr : l.stackTraces = false) (B : Nat) (L0 : Nat) (hb0 : B0 ≤ B) (hb1 : B + 202 ≤ L0) (G : Mem) (N : Mem) (Hs : Mem) (Q : Nat → Mem) (a1 : Int32) (a2 : Int32) (a3 : Int32) (a4 : Int32) (a5 : Int32) (a6 : Int32) (r : (Nat ⊕ Int32) × Mem × Mem × (Nat → Mem)) (hf : fX11_addStation G N Hs Q a1 a2 a3 a4 a5 a6 = some r) : MX l E B0 yX11_addStation cX11_addStation 7 (some .int) 9 1 6 [.ref (B + 0), .int a1, .int a2, .int a3, .int a4, .int a5, .int a6] (fun H => Blk E B rnSh 1 G H ∧ Blk E (B + 1) netSh 15 N H ∧ Blk E (B + 46) histSh 2 Hs H ∧ Fam E (B + 46 + 2) Q H) r.1 (fun v => (some (.int v))) (fun H => Blk E B rnSh 1 G H ∧ Blk E (B + 1) netSh 15 r.2.1 H ∧ Blk E (B + 46) histSh 2 r.2.2.1 H ∧ Fam E (B + 46 + 2) r.2.2.2 H) (orA (iv (B + 1) 15) (orA (iv (B + 46) 2) (iv (B + 46 + 2) 120))) := by
  refine mx_of (by decide +kernel) (Nat.le_of_ble_eq_true rfl) ?_
  intro p e s m args below meth c hx hb hml hown hts hrt hlocks htab hE H hP9 hS ls hl
  obtain ⟨hG, hN, hHs, hQ⟩ := hP9
  have hown : s.vm.findClass RX11 = some m.cls := hown
  have hl : lv_has ls 7 [(0, .ref (B + 0)), (1, .int a1), (2, .int a2), (3, .int a3), (4, .int a4), (5, .int a5), (6, .int a6)] := hl
  have hw : ∀ w ∈ WA, w.before args s = true := fun w h => hts w (List.mem_cons_of_mem _ h)
  have hAB : ∀ q, (orA (iv (B + 1) 15) (orA (iv (B + 46) 2) (iv (B + 46 + 2) 120))) q → B0 ≤ q := (or_ge (iv_ge (by omega)) (or_ge (iv_ge (by omega)) (iv_ge (by omega))))
  unfold fX11_addStation at hf
  refine lv_aload_n hx hb dX11_addStation_0 rfl (lv_at hl 0 rfl) ?_
  refine w_get (k := 0) (v := .ref ((B + 1) + 0)) hx hb hw hown hE fl_X11_12 hG (by decide) rfl rfl rfl dX11_addStation_1 ?_
  refine lv_iload_n hx hb dX11_addStation_4 rfl (lv_at hl 1 rfl) ?_
  refine lv_iload_n hx hb dX11_addStation_5 rfl (lv_at hl 2 rfl) ?_
  refine lv_iload_n hx hb dX11_addStation_6 rfl (lv_at hl 3 rfl) ?_
  refine lv_iload hx hb dX11_addStation_7 (lv_at hl 4 rfl) ?_
  refine lv_iload hx hb dX11_addStation_9 (lv_at hl 5 rfl) ?_
  refine lv_iload hx hb dX11_addStation_11 (lv_at hl 6 rfl) ?_
  obtain ⟨z1, hc2, hf⟩ := br_some hf
  refine mu_cV (As := [.int a1, .int a2, .int a3, .int a4, .int a5, .int a6]) (rest := []) hx hb hml hown hts hE (mX6_faultOfAdding l E B0 (B + 1) (by omega) N a1 a2 a3 a4 a5 a6 z1 hc2) cv_X11_61 (w_recv (k := 0) (ci := 6) hE hN (by decide) rfl rfl) hN hS hAB (fun _ h => h.elim) rfl hl.1 rfl (by decide) (Nat.le_of_ble_eq_true rfl) ⟨by decide, by decide⟩ dX11_addStation_13 (fun H locs hN _ hu hS => ?_)
  have hG := Blk.off hG hu (fun _ _ _ h => h)
  have hHs := Blk.off hHs hu (fun _ _ _ h => h)
  have hQ := Fam.off hQ hu (fun _ _ _ h => h)
  obtain ⟨z3, hc4, hf⟩ := br_some hf
  refine mx_cS (As := [.ref (E.2.2 1 z1.toNatClampNeg)]) (rest := []) htab hlocks hx hb hml hown hts hE (mX11_refuse l E B0 htr z1 z3 hc4) cs_X11_65 trivial hS hAB (fun _ h => h.elim) rfl hl.1 rfl (by decide) (Nat.le_of_ble_eq_true rfl) ⟨by decide, by decide⟩ ⟨by decide, by decide⟩ dX11_addStation_16 (fun e9 ee H _ _ hu => ?_) (fun v5 ev H locs _ _ hu hS => ?_)
  · have hf := sx_l ee hf
    have hG := Blk.off hG hu (fun _ _ _ h => h)
    have hN := Blk.off hN hu (fun _ _ _ h => h)
    have hHs := Blk.off hHs hu (fun _ _ _ h => h)
    have hQ := Fam.off hQ hu (fun _ _ _ h => h)
    have hre := Option.some.inj hf
    subst hre
    exact ⟨rfl, ⟨hG, hN, hHs, hQ⟩⟩
  have hf := sx_r ev hf
  have hG := Blk.off hG hu (fun _ _ _ h => h)
  have hN := Blk.off hN hu (fun _ _ _ h => h)
  have hHs := Blk.off hHs hu (fun _ _ _ h => h)
  have hQ := Fam.off hQ hu (fun _ _ _ h => h)
  refine lv_aload_n hx hb dX11_addStation_19 rfl (lv_at hl 0 rfl) ?_
  refine w_get (k := 0) (v := .ref ((B + 46) + 0)) hx hb hw hown hE fl_X11_29 hG (by decide) rfl rfl rfl dX11_addStation_20 ?_
  refine lv_aload_n hx hb dX11_addStation_23 rfl (lv_at hl 0 rfl) ?_
  refine w_get (k := 0) (v := .ref ((B + 1) + 0)) hx hb hw hown hE fl_X11_12 hG (by decide) rfl rfl rfl dX11_addStation_24 ?_
  obtain ⟨z6, hc7, hf⟩ := br_some hf
  refine mu_cV (As := [.ref ((B + 1) + 0)]) (rest := []) hx hb hml hown hts hE (mX3_push l E B0 (B + 46) (B + 1) (by omega) (by omega) (by omega) Hs Q N z6 hc7) cv_X11_69 (w_recv (k := 0) (ci := 5) hE hHs (by decide) rfl rfl) ⟨hHs, hQ, hN⟩ hS hAB (fun _ h => h.elim (fun h1 => Or.inr (Or.inl (h1))) (fun h2 => Or.inr (Or.inr (h2)))) rfl hl.1 rfl (by decide) (Nat.le_of_ble_eq_true rfl) ⟨by decide, by decide⟩ dX11_addStation_27 (fun H locs hP9 _ hu hS => ?_)
  obtain ⟨hHs, hQ, hN⟩ := hP9
  have hG := Blk.off hG hu (or_dis (iv_dis (by omega)) (iv_dis (by omega)))
  refine lv_aload_n hx hb dX11_addStation_30 rfl (lv_at hl 0 rfl) ?_
  refine w_get (k := 0) (v := .ref ((B + 1) + 0)) hx hb hw hown hE fl_X11_12 hG (by decide) rfl rfl rfl dX11_addStation_31 ?_
  refine lv_iload_n hx hb dX11_addStation_34 rfl (lv_at hl 1 rfl) ?_
  refine lv_iload_n hx hb dX11_addStation_35 rfl (lv_at hl 2 rfl) ?_
  refine lv_iload_n hx hb dX11_addStation_36 rfl (lv_at hl 3 rfl) ?_
  refine lv_iload hx hb dX11_addStation_37 (lv_at hl 4 rfl) ?_
  refine lv_iload hx hb dX11_addStation_39 (lv_at hl 5 rfl) ?_
  refine lv_iload hx hb dX11_addStation_41 (lv_at hl 6 rfl) ?_
  obtain ⟨z8, hc9, hf⟩ := br_some hf
  refine mu_cV (As := [.int a1, .int a2, .int a3, .int a4, .int a5, .int a6]) (rest := []) hx hb hml hown hts hE (mX6_add l E B0 (B + 1) (by omega) N a1 a2 a3 a4 a5 a6 z8 hc9) cv_X11_73 (w_recv (k := 0) (ci := 6) hE hN (by decide) rfl rfl) hN hS hAB (fun _ h => Or.inl (h)) rfl hl.1 rfl (by decide) (Nat.le_of_ble_eq_true rfl) ⟨by decide, by decide⟩ dX11_addStation_43 (fun H locs hN _ hu hS => ?_)
  have hG := Blk.off hG hu (iv_dis (by omega))
  have hHs := Blk.off hHs hu (iv_dis (by omega))
  have hQ := Fam.off hQ hu (iv_dis (by omega))
  have hre := Option.some.inj hf
  subst hre
  refine W.widen (k := 1) (n := 6) (by decide) (by decide) ?_
  refine mx_up (v := z8.1) rfl ?_
  exact mu_i (v := z8.1) hx hb hrt hlocks ⟨hG, hN, hHs, hQ⟩ hS dX11_addStation_46
noncomputable def fX11_move (G : Mem) (N : Mem) (Hs : Mem) (Q : Nat → Mem) (a1 : Int32) (a2 : Int32) (a3 : Int32) : Option ((Nat ⊕ Int32) × Mem × Mem × (Nat → Mem)) := (fX6_faultOfMoving N a1 a2 a3).bind fun z1 => (fX11_refuse z1).bind fun z3 => sx z3 (fun e9 => some (.inl e9, N, Hs, Q)) (fun v5 => (fX3_push Hs Q N).bind fun z6 => (fX6_moveTo N a1 a2 a3).bind fun z8 => some (.inr z8.1, z8.2, z6.1, z6.2))
set_option maxHeartbeats 4000000 in
set_option maxRecDepth 100000 in
theorem mX11_move (l : Launch) (E : EP) (B0 : Nat) (htr : l.stackTraces = false) (B : Nat) (L0 : Nat) (hb0 : B0 ≤ B) (hb1 : B + 202 ≤ L0) (G : Mem) (N : Mem) (Hs : Mem) (Q : Nat → Mem) (a1 : Int32) (a2 : Int32) (a3 : Int32) (r : (Nat ⊕ Int32) × Mem × Mem × (Nat → Mem)) (hf : fX11_move G N Hs Q a1 a2 a3 = some r) : MX l E B0 yX11_move cX11_move 4 (some .int) 9 1 6 [.ref (B + 0), .int a1, .int a2, .int a3] (fun H => Blk E B rnSh 1 G H ∧ Blk E (B + 1) netSh 15 N H ∧ Blk E (B + 46) histSh 2 Hs H ∧ Fam E (B + 46 + 2) Q H) r.1 (fun v => (some (.int v))) (fun H => Blk E B rnSh 1 G H ∧ Blk E (B + 1) netSh 15 r.2.1 H ∧ Blk E (B + 46) histSh 2 r.2.2.1 H ∧ Fam E (B + 46 + 2) r.2.2.2 H) (orA (iv (B + 1) 15) (orA (iv (B + 46) 2) (iv (B + 46 + 2) 120))) := by
  refine mx_of (by decide +kernel) (Nat.le_of_ble_eq_true rfl) ?_
  intro p e s m args below meth c hx hb hml hown hts hrt hlocks htab hE H hP9 hS ls hl
  obtain ⟨hG, hN, hHs, hQ⟩ := hP9
  have hown : s.vm.findClass RX11 = some m.cls := hown
  have hl : lv_has ls 4 [(0, .ref (B + 0)), (1, .int a1), (2, .int a2), (3, .int a3)] := hl
  have hw : ∀ w ∈ WA, w.before args s = true := fun w h => hts w (List.mem_cons_of_mem _ h)
  have hAB : ∀ q, (orA (iv (B + 1) 15) (orA (iv (B + 46) 2) (iv (B + 46 + 2) 120))) q → B0 ≤ q := (or_ge (iv_ge (by omega)) (or_ge (iv_ge (by omega)) (iv_ge (by omega))))
  unfold fX11_move at hf
  refine lv_aload_n hx hb dX11_move_0 rfl (lv_at hl 0 rfl) ?_
  refine w_get (k := 0) (v := .ref ((B + 1) + 0)) hx hb hw hown hE fl_X11_12 hG (by decide) rfl rfl rfl dX11_move_1 ?_
  refine lv_iload_n hx hb dX11_move_4 rfl (lv_at hl 1 rfl) ?_
  refine lv_iload_n hx hb dX11_move_5 rfl (lv_at hl 2 rfl) ?_
  refine lv_iload_n hx hb dX11_move_6 rfl (lv_at hl 3 rfl) ?_
  obtain ⟨z1, hc2, hf⟩ := br_some hf
  refine mu_cV (As := [.int a1, .int a2, .int a3]) (rest := []) hx hb hml hown hts hE (mX6_faultOfMoving l E B0 (B + 1) (by omega) N a1 a2 a3 z1 hc2) cv_X11_77 (w_recv (k := 0) (ci := 6) hE hN (by decide) rfl rfl) hN hS hAB (fun _ h => h.elim) rfl hl.1 rfl (by decide) (Nat.le_of_ble_eq_true rfl) ⟨by decide, by decide⟩ dX11_move_7 (fun H locs hN _ hu hS => ?_)
  have hG := Blk.off hG hu (fun _ _ _ h => h)
  have hHs := Blk.off hHs hu (fun _ _ _ h => h)
  have hQ := Fam.off hQ hu (fun _ _ _ h => h)
  obtain ⟨z3, hc4, hf⟩ := br_some hf
  refine mx_cS (As := [.ref (E.2.2 1 z1.toNatClampNeg)]) (rest := []) htab hlocks hx hb hml hown hts hE (mX11_refuse l E B0 htr z1 z3 hc4) cs_X11_65 trivial hS hAB (fun _ h => h.elim) rfl hl.1 rfl (by decide) (Nat.le_of_ble_eq_true rfl) ⟨by decide, by decide⟩ ⟨by decide, by decide⟩ dX11_move_10 (fun e9 ee H _ _ hu => ?_) (fun v5 ev H locs _ _ hu hS => ?_)
  · have hf := sx_l ee hf
    have hG := Blk.off hG hu (fun _ _ _ h => h)
    have hN := Blk.off hN hu (fun _ _ _ h => h)
    have hHs := Blk.off hHs hu (fun _ _ _ h => h)
    have hQ := Fam.off hQ hu (fun _ _ _ h => h)
    have hre := Option.some.inj hf
    subst hre
    exact ⟨rfl, ⟨hG, hN, hHs, hQ⟩⟩
  have hf := sx_r ev hf
  have hG := Blk.off hG hu (fun _ _ _ h => h)
  have hN := Blk.off hN hu (fun _ _ _ h => h)
  have hHs := Blk.off hHs hu (fun _ _ _ h => h)
  have hQ := Fam.off hQ hu (fun _ _ _ h => h)
  refine lv_aload_n hx hb dX11_move_13 rfl (lv_at hl 0 rfl) ?_
  refine w_get (k := 0) (v := .ref ((B + 46) + 0)) hx hb hw hown hE fl_X11_29 hG (by decide) rfl rfl rfl dX11_move_14 ?_
  refine lv_aload_n hx hb dX11_move_17 rfl (lv_at hl 0 rfl) ?_
  refine w_get (k := 0) (v := .ref ((B + 1) + 0)) hx hb hw hown hE fl_X11_12 hG (by decide) rfl rfl rfl dX11_move_18 ?_
  obtain ⟨z6, hc7, hf⟩ := br_some hf
  refine mu_cV (As := [.ref ((B + 1) + 0)]) (rest := []) hx hb hml hown hts hE (mX3_push l E B0 (B + 46) (B + 1) (by omega) (by omega) (by omega) Hs Q N z6 hc7) cv_X11_69 (w_recv (k := 0) (ci := 5) hE hHs (by decide) rfl rfl) ⟨hHs, hQ, hN⟩ hS hAB (fun _ h => h.elim (fun h1 => Or.inr (Or.inl (h1))) (fun h2 => Or.inr (Or.inr (h2)))) rfl hl.1 rfl (by decide) (Nat.le_of_ble_eq_true rfl) ⟨by decide, by decide⟩ dX11_move_21 (fun H locs hP9 _ hu hS => ?_)
  obtain ⟨hHs, hQ, hN⟩ := hP9
  have hG := Blk.off hG hu (or_dis (iv_dis (by omega)) (iv_dis (by omega)))
  refine lv_aload_n hx hb dX11_move_24 rfl (lv_at hl 0 rfl) ?_
  refine w_get (k := 0) (v := .ref ((B + 1) + 0)) hx hb hw hown hE fl_X11_12 hG (by decide) rfl rfl rfl dX11_move_25 ?_
  refine lv_iload_n hx hb dX11_move_28 rfl (lv_at hl 1 rfl) ?_
  refine lv_iload_n hx hb dX11_move_29 rfl (lv_at hl 2 rfl) ?_
  refine lv_iload_n hx hb dX11_move_30 rfl (lv_at hl 3 rfl) ?_
  obtain ⟨z8, hc9, hf⟩ := br_some hf
  refine mu_cV (As := [.int a1, .int a2, .int a3]) (rest := []) hx hb hml hown hts hE (mX6_moveTo l E B0 (B + 1) (by omega) N a1 a2 a3 z8 hc9) cv_X11_81 (w_recv (k := 0) (ci := 6) hE hN (by decide) rfl rfl) hN hS hAB (fun _ h => Or.inl (h)) rfl hl.1 rfl (by decide) (Nat.le_of_ble_eq_true rfl) ⟨by decide, by decide⟩ dX11_move_31 (fun H locs hN _ hu hS => ?_)
  have hG := Blk.off hG hu (iv_dis (by omega))
  have hHs := Blk.off hHs hu (iv_dis (by omega))
  have hQ := Fam.off hQ hu (iv_dis (by omega))
  have hre := Option.some.inj hf
  subst hre
  refine W.widen (k := 1) (n := 6) (by decide) (by decide) ?_
  refine mx_up (v := z8.1) rfl ?_
  exact mu_i (v := z8.1) hx hb hrt hlocks ⟨hG, hN, hHs, hQ⟩ hS dX11_move_34
noncomputable def fX11_setPower (G : Mem) (N : Mem) (Hs : Mem) (Q : Nat → Mem) (a1 : Int32) (a2 : Int32) : Option ((Nat ⊕ Int32) × Mem × Mem × (Nat → Mem)) := (fX6_faultOfPower N a1 a2).bind fun z1 => (fX11_refuse z1).bind fun z3 => sx z3 (fun e9 => some (.inl e9, N, Hs, Q)) (fun v5 => (fX3_push Hs Q N).bind fun z6 => (fX6_changePower N a1 a2).bind fun z8 => some (.inr z8.1, z8.2, z6.1, z6.2))
set_option maxHeartbeats 4000000 in
set_option maxRecDepth 100000 in
theorem mX11_setPower (l : Launch) (E : EP) (B0 : Nat) (htr : l.stackTraces = false) (B : Nat) (L0 : Nat) (hb0 : B0 ≤ B) (hb1 : B + 202 ≤ L0) (G : Mem) (N : Mem) (Hs : Mem) (Q : Nat → Mem) (a1 : Int32) (a2 : Int32) (r : (Nat ⊕ Int32) × Mem × Mem × (Nat → Mem)) (hf : fX11_setPower G N Hs Q a1 a2 = some r) : MX l E B0 yX11_setPower cX11_setPower 3 (some .int) 9 1 6 [.ref (B + 0), .int a1, .int a2] (fun H => Blk E B rnSh 1 G H ∧ Blk E (B + 1) netSh 15 N H ∧ Blk E (B + 46) histSh 2 Hs H ∧ Fam E (B + 46 + 2) Q H) r.1 (fun v => (some (.int v))) (fun H => Blk E B rnSh 1 G H ∧ Blk E (B + 1) netSh 15 r.2.1 H ∧ Blk E (B + 46) histSh 2 r.2.2.1 H ∧ Fam E (B + 46 + 2) r.2.2.2 H) (orA (iv (B + 1) 15) (orA (iv (B + 46) 2) (iv (B + 46 + 2) 120))) := by
  refine mx_of (by decide +kernel) (Nat.le_of_ble_eq_true rfl) ?_
  intro p e s m args below meth c hx hb hml hown hts hrt hlocks htab hE H hP9 hS ls hl
  obtain ⟨hG, hN, hHs, hQ⟩ := hP9
  have hown : s.vm.findClass RX11 = some m.cls := hown
  have hl : lv_has ls 3 [(0, .ref (B + 0)), (1, .int a1), (2, .int a2)] := hl
  have hw : ∀ w ∈ WA, w.before args s = true := fun w h => hts w (List.mem_cons_of_mem _ h)
  have hAB : ∀ q, (orA (iv (B + 1) 15) (orA (iv (B + 46) 2) (iv (B + 46 + 2) 120))) q → B0 ≤ q := (or_ge (iv_ge (by omega)) (or_ge (iv_ge (by omega)) (iv_ge (by omega))))
  unfold fX11_setPower at hf
  refine lv_aload_n hx hb dX11_setPower_0 rfl (lv_at hl 0 rfl) ?_
  refine w_get (k := 0) (v := .ref ((B + 1) + 0)) hx hb hw hown hE fl_X11_12 hG (by decide) rfl rfl rfl dX11_setPower_1 ?_
  refine lv_iload_n hx hb dX11_setPower_4 rfl (lv_at hl 1 rfl) ?_
  refine lv_iload_n hx hb dX11_setPower_5 rfl (lv_at hl 2 rfl) ?_
  obtain ⟨z1, hc2, hf⟩ := br_some hf
  refine mu_cV (As := [.int a1, .int a2]) (rest := []) hx hb hml hown hts hE (mX6_faultOfPower l E B0 (B + 1) (by omega) N a1 a2 z1 hc2) cv_X11_85 (w_recv (k := 0) (ci := 6) hE hN (by decide) rfl rfl) hN hS hAB (fun _ h => h.elim) rfl hl.1 rfl (by decide) (Nat.le_of_ble_eq_true rfl) ⟨by decide, by decide⟩ dX11_setPower_6 (fun H locs hN _ hu hS => ?_)
  have hG := Blk.off hG hu (fun _ _ _ h => h)
  have hHs := Blk.off hHs hu (fun _ _ _ h => h)
  have hQ := Fam.off hQ hu (fun _ _ _ h => h)
  obtain ⟨z3, hc4, hf⟩ := br_some hf
  refine mx_cS (As := [.ref (E.2.2 1 z1.toNatClampNeg)]) (rest := []) htab hlocks hx hb hml hown hts hE (mX11_refuse l E B0 htr z1 z3 hc4) cs_X11_65 trivial hS hAB (fun _ h => h.elim) rfl hl.1 rfl (by decide) (Nat.le_of_ble_eq_true rfl) ⟨by decide, by decide⟩ ⟨by decide, by decide⟩ dX11_setPower_9 (fun e9 ee H _ _ hu => ?_) (fun v5 ev H locs _ _ hu hS => ?_)
  · have hf := sx_l ee hf
    have hG := Blk.off hG hu (fun _ _ _ h => h)
    have hN := Blk.off hN hu (fun _ _ _ h => h)
    have hHs := Blk.off hHs hu (fun _ _ _ h => h)
    have hQ := Fam.off hQ hu (fun _ _ _ h => h)
    have hre := Option.some.inj hf
    subst hre
    exact ⟨rfl, ⟨hG, hN, hHs, hQ⟩⟩
  have hf := sx_r ev hf
  have hG := Blk.off hG hu (fun _ _ _ h => h)
  have hN := Blk.off hN hu (fun _ _ _ h => h)
  have hHs := Blk.off hHs hu (fun _ _ _ h => h)
  have hQ := Fam.off hQ hu (fun _ _ _ h => h)
  refine lv_aload_n hx hb dX11_setPower_12 rfl (lv_at hl 0 rfl) ?_
  refine w_get (k := 0) (v := .ref ((B + 46) + 0)) hx hb hw hown hE fl_X11_29 hG (by decide) rfl rfl rfl dX11_setPower_13 ?_
  refine lv_aload_n hx hb dX11_setPower_16 rfl (lv_at hl 0 rfl) ?_
  refine w_get (k := 0) (v := .ref ((B + 1) + 0)) hx hb hw hown hE fl_X11_12 hG (by decide) rfl rfl rfl dX11_setPower_17 ?_
  obtain ⟨z6, hc7, hf⟩ := br_some hf
  refine mu_cV (As := [.ref ((B + 1) + 0)]) (rest := []) hx hb hml hown hts hE (mX3_push l E B0 (B + 46) (B + 1) (by omega) (by omega) (by omega) Hs Q N z6 hc7) cv_X11_69 (w_recv (k := 0) (ci := 5) hE hHs (by decide) rfl rfl) ⟨hHs, hQ, hN⟩ hS hAB (fun _ h => h.elim (fun h1 => Or.inr (Or.inl (h1))) (fun h2 => Or.inr (Or.inr (h2)))) rfl hl.1 rfl (by decide) (Nat.le_of_ble_eq_true rfl) ⟨by decide, by decide⟩ dX11_setPower_20 (fun H locs hP9 _ hu hS => ?_)
  obtain ⟨hHs, hQ, hN⟩ := hP9
  have hG := Blk.off hG hu (or_dis (iv_dis (by omega)) (iv_dis (by omega)))
  refine lv_aload_n hx hb dX11_setPower_23 rfl (lv_at hl 0 rfl) ?_
  refine w_get (k := 0) (v := .ref ((B + 1) + 0)) hx hb hw hown hE fl_X11_12 hG (by decide) rfl rfl rfl dX11_setPower_24 ?_
  refine lv_iload_n hx hb dX11_setPower_27 rfl (lv_at hl 1 rfl) ?_
  refine lv_iload_n hx hb dX11_setPower_28 rfl (lv_at hl 2 rfl) ?_
  obtain ⟨z8, hc9, hf⟩ := br_some hf
  refine mu_cV (As := [.int a1, .int a2]) (rest := []) hx hb hml hown hts hE (mX6_changePower l E B0 (B + 1) (by omega) N a1 a2 z8 hc9) cv_X11_89 (w_recv (k := 0) (ci := 6) hE hN (by decide) rfl rfl) hN hS hAB (fun _ h => Or.inl (h)) rfl hl.1 rfl (by decide) (Nat.le_of_ble_eq_true rfl) ⟨by decide, by decide⟩ dX11_setPower_29 (fun H locs hN _ hu hS => ?_)
  have hG := Blk.off hG hu (iv_dis (by omega))
  have hHs := Blk.off hHs hu (iv_dis (by omega))
  have hQ := Fam.off hQ hu (iv_dis (by omega))
  have hre := Option.some.inj hf
  subst hre
  refine W.widen (k := 1) (n := 6) (by decide) (by decide) ?_
  refine mx_up (v := z8.1) rfl ?_
  exact mu_i (v := z8.1) hx hb hrt hlocks ⟨hG, hN, hHs, hQ⟩ hS dX11_setPower_32
noncomputable def fX11_tune (G : Mem) (N : Mem) (Hs : Mem) (Q : Nat → Mem) (a1 : Int32) (a2 : Int32) : Option ((Nat ⊕ Int32) × Mem × Mem × (Nat → Mem)) := (fX6_faultOfTuning N a1 a2).bind fun z1 => (fX11_refuse z1).bind fun z3 => sx z3 (fun e9 => some (.inl e9, N, Hs, Q)) (fun v5 => (fX3_push Hs Q N).bind fun z6 => (fX6_changeChannel N a1 a2).bind fun z8 => some (.inr z8.1, z8.2, z6.1, z6.2))
set_option maxHeartbeats 4000000 in
set_option maxRecDepth 100000 in
theorem mX11_tune (l : Launch) (E : EP) (B0 : Nat) (htr : l.stackTraces = false) (B : Nat) (L0 : Nat) (hb0 : B0 ≤ B) (hb1 : B + 202 ≤ L0) (G : Mem) (N : Mem) (Hs : Mem) (Q : Nat → Mem) (a1 : Int32) (a2 : Int32) (r : (Nat ⊕ Int32) × Mem × Mem × (Nat → Mem)) (hf : fX11_tune G N Hs Q a1 a2 = some r) : MX l E B0 yX11_tune cX11_tune 3 (some .int) 9 1 6 [.ref (B + 0), .int a1, .int a2] (fun H => Blk E B rnSh 1 G H ∧ Blk E (B + 1) netSh 15 N H ∧ Blk E (B + 46) histSh 2 Hs H ∧ Fam E (B + 46 + 2) Q H) r.1 (fun v => (some (.int v))) (fun H => Blk E B rnSh 1 G H ∧ Blk E (B + 1) netSh 15 r.2.1 H ∧ Blk E (B + 46) histSh 2 r.2.2.1 H ∧ Fam E (B + 46 + 2) r.2.2.2 H) (orA (iv (B + 1) 15) (orA (iv (B + 46) 2) (iv (B + 46 + 2) 120))) := by
  refine mx_of (by decide +kernel) (Nat.le_of_ble_eq_true rfl) ?_
  intro p e s m args below meth c hx hb hml hown hts hrt hlocks htab hE H hP9 hS ls hl
  obtain ⟨hG, hN, hHs, hQ⟩ := hP9
  have hown : s.vm.findClass RX11 = some m.cls := hown
  have hl : lv_has ls 3 [(0, .ref (B + 0)), (1, .int a1), (2, .int a2)] := hl
  have hw : ∀ w ∈ WA, w.before args s = true := fun w h => hts w (List.mem_cons_of_mem _ h)
  have hAB : ∀ q, (orA (iv (B + 1) 15) (orA (iv (B + 46) 2) (iv (B + 46 + 2) 120))) q → B0 ≤ q := (or_ge (iv_ge (by omega)) (or_ge (iv_ge (by omega)) (iv_ge (by omega))))
  unfold fX11_tune at hf
  refine lv_aload_n hx hb dX11_tune_0 rfl (lv_at hl 0 rfl) ?_
  refine w_get (k := 0) (v := .ref ((B + 1) + 0)) hx hb hw hown hE fl_X11_12 hG (by decide) rfl rfl rfl dX11_tune_1 ?_
  refine lv_iload_n hx hb dX11_tune_4 rfl (lv_at hl 1 rfl) ?_
  refine lv_iload_n hx hb dX11_tune_5 rfl (lv_at hl 2 rfl) ?_
  obtain ⟨z1, hc2, hf⟩ := br_some hf
  refine mu_cV (As := [.int a1, .int a2]) (rest := []) hx hb hml hown hts hE (mX6_faultOfTuning l E B0 (B + 1) (by omega) N a1 a2 z1 hc2) cv_X11_93 (w_recv (k := 0) (ci := 6) hE hN (by decide) rfl rfl) hN hS hAB (fun _ h => h.elim) rfl hl.1 rfl (by decide) (Nat.le_of_ble_eq_true rfl) ⟨by decide, by decide⟩ dX11_tune_6 (fun H locs hN _ hu hS => ?_)
  have hG := Blk.off hG hu (fun _ _ _ h => h)
  have hHs := Blk.off hHs hu (fun _ _ _ h => h)
  have hQ := Fam.off hQ hu (fun _ _ _ h => h)
  obtain ⟨z3, hc4, hf⟩ := br_some hf
  refine mx_cS (As := [.ref (E.2.2 1 z1.toNatClampNeg)]) (rest := []) htab hlocks hx hb hml hown hts hE (mX11_refuse l E B0 htr z1 z3 hc4) cs_X11_65 trivial hS hAB (fun _ h => h.elim) rfl hl.1 rfl (by decide) (Nat.le_of_ble_eq_true rfl) ⟨by decide, by decide⟩ ⟨by decide, by decide⟩ dX11_tune_9 (fun e9 ee H _ _ hu => ?_) (fun v5 ev H locs _ _ hu hS => ?_)
  · have hf := sx_l ee hf
    have hG := Blk.off hG hu (fun _ _ _ h => h)
    have hN := Blk.off hN hu (fun _ _ _ h => h)
    have hHs := Blk.off hHs hu (fun _ _ _ h => h)
    have hQ := Fam.off hQ hu (fun _ _ _ h => h)
    have hre := Option.some.inj hf
    subst hre
    exact ⟨rfl, ⟨hG, hN, hHs, hQ⟩⟩
  have hf := sx_r ev hf
  have hG := Blk.off hG hu (fun _ _ _ h => h)
  have hN := Blk.off hN hu (fun _ _ _ h => h)
  have hHs := Blk.off hHs hu (fun _ _ _ h => h)
  have hQ := Fam.off hQ hu (fun _ _ _ h => h)
  refine lv_aload_n hx hb dX11_tune_12 rfl (lv_at hl 0 rfl) ?_
  refine w_get (k := 0) (v := .ref ((B + 46) + 0)) hx hb hw hown hE fl_X11_29 hG (by decide) rfl rfl rfl dX11_tune_13 ?_
  refine lv_aload_n hx hb dX11_tune_16 rfl (lv_at hl 0 rfl) ?_
  refine w_get (k := 0) (v := .ref ((B + 1) + 0)) hx hb hw hown hE fl_X11_12 hG (by decide) rfl rfl rfl dX11_tune_17 ?_
  obtain ⟨z6, hc7, hf⟩ := br_some hf
  refine mu_cV (As := [.ref ((B + 1) + 0)]) (rest := []) hx hb hml hown hts hE (mX3_push l E B0 (B + 46) (B + 1) (by omega) (by omega) (by omega) Hs Q N z6 hc7) cv_X11_69 (w_recv (k := 0) (ci := 5) hE hHs (by decide) rfl rfl) ⟨hHs, hQ, hN⟩ hS hAB (fun _ h => h.elim (fun h1 => Or.inr (Or.inl (h1))) (fun h2 => Or.inr (Or.inr (h2)))) rfl hl.1 rfl (by decide) (Nat.le_of_ble_eq_true rfl) ⟨by decide, by decide⟩ dX11_tune_20 (fun H locs hP9 _ hu hS => ?_)
  obtain ⟨hHs, hQ, hN⟩ := hP9
  have hG := Blk.off hG hu (or_dis (iv_dis (by omega)) (iv_dis (by omega)))
  refine lv_aload_n hx hb dX11_tune_23 rfl (lv_at hl 0 rfl) ?_
  refine w_get (k := 0) (v := .ref ((B + 1) + 0)) hx hb hw hown hE fl_X11_12 hG (by decide) rfl rfl rfl dX11_tune_24 ?_
  refine lv_iload_n hx hb dX11_tune_27 rfl (lv_at hl 1 rfl) ?_
  refine lv_iload_n hx hb dX11_tune_28 rfl (lv_at hl 2 rfl) ?_
  obtain ⟨z8, hc9, hf⟩ := br_some hf
  refine mu_cV (As := [.int a1, .int a2]) (rest := []) hx hb hml hown hts hE (mX6_changeChannel l E B0 (B + 1) (by omega) N a1 a2 z8 hc9) cv_X11_96 (w_recv (k := 0) (ci := 6) hE hN (by decide) rfl rfl) hN hS hAB (fun _ h => Or.inl (h)) rfl hl.1 rfl (by decide) (Nat.le_of_ble_eq_true rfl) ⟨by decide, by decide⟩ dX11_tune_29 (fun H locs hN _ hu hS => ?_)
  have hG := Blk.off hG hu (iv_dis (by omega))
  have hHs := Blk.off hHs hu (iv_dis (by omega))
  have hQ := Fam.off hQ hu (iv_dis (by omega))
  have hre := Option.some.inj hf
  subst hre
  refine W.widen (k := 1) (n := 6) (by decide) (by decide) ?_
  refine mx_up (v := z8.1) rfl ?_
  exact mu_i (v := z8.1) hx hb hrt hlocks ⟨hG, hN, hHs, hQ⟩ hS dX11_tune_32
noncomputable def fX11_request (G : Mem) (N : Mem) (Hs : Mem) (Q : Nat → Mem) (a1 : Int32) : Option ((Nat ⊕ Int32) × Mem × Mem × (Nat → Mem)) := (fX6_faultOfMode N a1 (0 : Int32)).bind fun z1 => (fX11_refuse z1).bind fun z3 => sx z3 (fun e9 => some (.inl e9, N, Hs, Q)) (fun v5 => (fX3_push Hs Q N).bind fun z6 => (fX6_speakOrWait N a1).bind fun z8 => some (.inr z8.1, z8.2, z6.1, z6.2))
set_option maxHeartbeats 4000000 in
set_option maxRecDepth 100000 in
theorem mX11_request (l : Launch) (E : EP) (B0 : Nat) (htr : l.stackTraces = false) (B : Nat) (L0 : Nat) (hb0 : B0 ≤ B) (hb1 : B + 202 ≤ L0) (G : Mem) (N : Mem) (Hs : Mem) (Q : Nat → Mem) (a1 : Int32) (r : (Nat ⊕ Int32) × Mem × Mem × (Nat → Mem)) (hf : fX11_request G N Hs Q a1 = some r) : MX l E B0 yX11_request cX11_request 2 (some .int) 9 1 6 [.ref (B + 0), .int a1] (fun H => Blk E B rnSh 1 G H ∧ Blk E (B + 1) netSh 15 N H ∧ Blk E (B + 46) histSh 2 Hs H ∧ Fam E (B + 46 + 2) Q H) r.1 (fun v => (some (.int v))) (fun H => Blk E B rnSh 1 G H ∧ Blk E (B + 1) netSh 15 r.2.1 H ∧ Blk E (B + 46) histSh 2 r.2.2.1 H ∧ Fam E (B + 46 + 2) r.2.2.2 H) (orA (iv (B + 1) 15) (orA (iv (B + 46) 2) (iv (B + 46 + 2) 120))) := by
  refine mx_of (by decide +kernel) (Nat.le_of_ble_eq_true rfl) ?_
  intro p e s m args below meth c hx hb hml hown hts hrt hlocks htab hE H hP9 hS ls hl
  obtain ⟨hG, hN, hHs, hQ⟩ := hP9
  have hown : s.vm.findClass RX11 = some m.cls := hown
  have hl : lv_has ls 2 [(0, .ref (B + 0)), (1, .int a1)] := hl
  have hw : ∀ w ∈ WA, w.before args s = true := fun w h => hts w (List.mem_cons_of_mem _ h)
  have hAB : ∀ q, (orA (iv (B + 1) 15) (orA (iv (B + 46) 2) (iv (B + 46 + 2) 120))) q → B0 ≤ q := (or_ge (iv_ge (by omega)) (or_ge (iv_ge (by omega)) (iv_ge (by omega))))
  unfold fX11_request at hf
  refine lv_aload_n hx hb dX11_request_0 rfl (lv_at hl 0 rfl) ?_
  refine w_get (k := 0) (v := .ref ((B + 1) + 0)) hx hb hw hown hE fl_X11_12 hG (by decide) rfl rfl rfl dX11_request_1 ?_
  refine lv_iload_n hx hb dX11_request_4 rfl (lv_at hl 1 rfl) ?_
  refine w_gs (i := 0) (z := 0) hx hb hw hown (EV.en0 hE) (by decide) hS hAB gs_X11_99 (by decide) dX11_request_5 ?_
  obtain ⟨z1, hc2, hf⟩ := br_some hf
  refine mu_cV (As := [.int a1, .ref (E.2.2 0 (0 : Int32).toNatClampNeg)]) (rest := []) hx hb hml hown hts hE (mX6_faultOfMode l E B0 (B + 1) (by omega) N a1 (0 : Int32) z1 hc2) cv_X11_105 (w_recv (k := 0) (ci := 6) hE hN (by decide) rfl rfl) hN hS hAB (fun _ h => h.elim) rfl hl.1 rfl (by decide) (Nat.le_of_ble_eq_true rfl) ⟨by decide, by decide⟩ dX11_request_8 (fun H locs hN _ hu hS => ?_)
  have hG := Blk.off hG hu (fun _ _ _ h => h)
  have hHs := Blk.off hHs hu (fun _ _ _ h => h)
  have hQ := Fam.off hQ hu (fun _ _ _ h => h)
  obtain ⟨z3, hc4, hf⟩ := br_some hf
  refine mx_cS (As := [.ref (E.2.2 1 z1.toNatClampNeg)]) (rest := []) htab hlocks hx hb hml hown hts hE (mX11_refuse l E B0 htr z1 z3 hc4) cs_X11_65 trivial hS hAB (fun _ h => h.elim) rfl hl.1 rfl (by decide) (Nat.le_of_ble_eq_true rfl) ⟨by decide, by decide⟩ ⟨by decide, by decide⟩ dX11_request_11 (fun e9 ee H _ _ hu => ?_) (fun v5 ev H locs _ _ hu hS => ?_)
  · have hf := sx_l ee hf
    have hG := Blk.off hG hu (fun _ _ _ h => h)
    have hN := Blk.off hN hu (fun _ _ _ h => h)
    have hHs := Blk.off hHs hu (fun _ _ _ h => h)
    have hQ := Fam.off hQ hu (fun _ _ _ h => h)
    have hre := Option.some.inj hf
    subst hre
    exact ⟨rfl, ⟨hG, hN, hHs, hQ⟩⟩
  have hf := sx_r ev hf
  have hG := Blk.off hG hu (fun _ _ _ h => h)
  have hN := Blk.off hN hu (fun _ _ _ h => h)
  have hHs := Blk.off hHs hu (fun _ _ _ h => h)
  have hQ := Fam.off hQ hu (fun _ _ _ h => h)
  refine lv_aload_n hx hb dX11_request_14 rfl (lv_at hl 0 rfl) ?_
  refine w_get (k := 0) (v := .ref ((B + 46) + 0)) hx hb hw hown hE fl_X11_29 hG (by decide) rfl rfl rfl dX11_request_15 ?_
  refine lv_aload_n hx hb dX11_request_18 rfl (lv_at hl 0 rfl) ?_
  refine w_get (k := 0) (v := .ref ((B + 1) + 0)) hx hb hw hown hE fl_X11_12 hG (by decide) rfl rfl rfl dX11_request_19 ?_
  obtain ⟨z6, hc7, hf⟩ := br_some hf
  refine mu_cV (As := [.ref ((B + 1) + 0)]) (rest := []) hx hb hml hown hts hE (mX3_push l E B0 (B + 46) (B + 1) (by omega) (by omega) (by omega) Hs Q N z6 hc7) cv_X11_69 (w_recv (k := 0) (ci := 5) hE hHs (by decide) rfl rfl) ⟨hHs, hQ, hN⟩ hS hAB (fun _ h => h.elim (fun h1 => Or.inr (Or.inl (h1))) (fun h2 => Or.inr (Or.inr (h2)))) rfl hl.1 rfl (by decide) (Nat.le_of_ble_eq_true rfl) ⟨by decide, by decide⟩ dX11_request_22 (fun H locs hP9 _ hu hS => ?_)
  obtain ⟨hHs, hQ, hN⟩ := hP9
  have hG := Blk.off hG hu (or_dis (iv_dis (by omega)) (iv_dis (by omega)))
  refine lv_aload_n hx hb dX11_request_25 rfl (lv_at hl 0 rfl) ?_
  refine w_get (k := 0) (v := .ref ((B + 1) + 0)) hx hb hw hown hE fl_X11_12 hG (by decide) rfl rfl rfl dX11_request_26 ?_
  refine lv_iload_n hx hb dX11_request_29 rfl (lv_at hl 1 rfl) ?_
  obtain ⟨z8, hc9, hf⟩ := br_some hf
  refine mu_cV (As := [.int a1]) (rest := []) hx hb hml hown hts hE (mX6_speakOrWait l E B0 (B + 1) (by omega) N a1 z8 hc9) cv_X11_109 (w_recv (k := 0) (ci := 6) hE hN (by decide) rfl rfl) hN hS hAB (fun _ h => Or.inl (h)) rfl hl.1 rfl (by decide) (Nat.le_of_ble_eq_true rfl) ⟨by decide, by decide⟩ dX11_request_30 (fun H locs hN _ hu hS => ?_)
  have hG := Blk.off hG hu (iv_dis (by omega))
  have hHs := Blk.off hHs hu (iv_dis (by omega))
  have hQ := Fam.off hQ hu (iv_dis (by omega))
  have hre := Option.some.inj hf
  subst hre
  refine W.widen (k := 1) (n := 6) (by decide) (by decide) ?_
  refine mx_up (v := z8.1) rfl ?_
  exact mu_i (v := z8.1) hx hb hrt hlocks ⟨hG, hN, hHs, hQ⟩ hS dX11_request_33
noncomputable def fX11_release (G : Mem) (N : Mem) (Hs : Mem) (Q : Nat → Mem) (a1 : Int32) : Option ((Nat ⊕ Int32) × Mem × Mem × (Nat → Mem)) := (fX6_faultOfMode N a1 (1 : Int32)).bind fun z1 => (fX11_refuse z1).bind fun z3 => sx z3 (fun e9 => some (.inl e9, N, Hs, Q)) (fun v5 => (fX3_push Hs Q N).bind fun z6 => (fX6_endTurn N a1).bind fun z8 => some (.inr z8.1, z8.2, z6.1, z6.2))
set_option maxHeartbeats 4000000 in
set_option maxRecDepth 100000 in
theorem mX11_release (l : Launch) (E : EP) (B0 : Nat) (htr : l.stackTraces = false) (B : Nat) (L0 : Nat) (hb0 : B0 ≤ B) (hb1 : B + 202 ≤ L0) (G : Mem) (N : Mem) (Hs : Mem) (Q : Nat → Mem) (a1 : Int32) (r : (Nat ⊕ Int32) × Mem × Mem × (Nat → Mem)) (hf : fX11_release G N Hs Q a1 = some r) : MX l E B0 yX11_release cX11_release 2 (some .int) 9 1 6 [.ref (B + 0), .int a1] (fun H => Blk E B rnSh 1 G H ∧ Blk E (B + 1) netSh 15 N H ∧ Blk E (B + 46) histSh 2 Hs H ∧ Fam E (B + 46 + 2) Q H) r.1 (fun v => (some (.int v))) (fun H => Blk E B rnSh 1 G H ∧ Blk E (B + 1) netSh 15 r.2.1 H ∧ Blk E (B + 46) histSh 2 r.2.2.1 H ∧ Fam E (B + 46 + 2) r.2.2.2 H) (orA (iv (B + 1) 15) (orA (iv (B + 46) 2) (iv (B + 46 + 2) 120))) := by
  refine mx_of (by decide +kernel) (Nat.le_of_ble_eq_true rfl) ?_
  intro p e s m args below meth c hx hb hml hown hts hrt hlocks htab hE H hP9 hS ls hl
  obtain ⟨hG, hN, hHs, hQ⟩ := hP9
  have hown : s.vm.findClass RX11 = some m.cls := hown
  have hl : lv_has ls 2 [(0, .ref (B + 0)), (1, .int a1)] := hl
  have hw : ∀ w ∈ WA, w.before args s = true := fun w h => hts w (List.mem_cons_of_mem _ h)
  have hAB : ∀ q, (orA (iv (B + 1) 15) (orA (iv (B + 46) 2) (iv (B + 46 + 2) 120))) q → B0 ≤ q := (or_ge (iv_ge (by omega)) (or_ge (iv_ge (by omega)) (iv_ge (by omega))))
  unfold fX11_release at hf
  refine lv_aload_n hx hb dX11_release_0 rfl (lv_at hl 0 rfl) ?_
  refine w_get (k := 0) (v := .ref ((B + 1) + 0)) hx hb hw hown hE fl_X11_12 hG (by decide) rfl rfl rfl dX11_release_1 ?_
  refine lv_iload_n hx hb dX11_release_4 rfl (lv_at hl 1 rfl) ?_
  refine w_gs (i := 1) (z := 1) hx hb hw hown (EV.en0 hE) (by decide) hS hAB gs_X11_113 (by decide) dX11_release_5 ?_
  obtain ⟨z1, hc2, hf⟩ := br_some hf
  refine mu_cV (As := [.int a1, .ref (E.2.2 0 (1 : Int32).toNatClampNeg)]) (rest := []) hx hb hml hown hts hE (mX6_faultOfMode l E B0 (B + 1) (by omega) N a1 (1 : Int32) z1 hc2) cv_X11_105 (w_recv (k := 0) (ci := 6) hE hN (by decide) rfl rfl) hN hS hAB (fun _ h => h.elim) rfl hl.1 rfl (by decide) (Nat.le_of_ble_eq_true rfl) ⟨by decide, by decide⟩ dX11_release_8 (fun H locs hN _ hu hS => ?_)
  have hG := Blk.off hG hu (fun _ _ _ h => h)
  have hHs := Blk.off hHs hu (fun _ _ _ h => h)
  have hQ := Fam.off hQ hu (fun _ _ _ h => h)
  obtain ⟨z3, hc4, hf⟩ := br_some hf
  refine mx_cS (As := [.ref (E.2.2 1 z1.toNatClampNeg)]) (rest := []) htab hlocks hx hb hml hown hts hE (mX11_refuse l E B0 htr z1 z3 hc4) cs_X11_65 trivial hS hAB (fun _ h => h.elim) rfl hl.1 rfl (by decide) (Nat.le_of_ble_eq_true rfl) ⟨by decide, by decide⟩ ⟨by decide, by decide⟩ dX11_release_11 (fun e9 ee H _ _ hu => ?_) (fun v5 ev H locs _ _ hu hS => ?_)
  · have hf := sx_l ee hf
    have hG := Blk.off hG hu (fun _ _ _ h => h)
    have hN := Blk.off hN hu (fun _ _ _ h => h)
    have hHs := Blk.off hHs hu (fun _ _ _ h => h)
    have hQ := Fam.off hQ hu (fun _ _ _ h => h)
    have hre := Option.some.inj hf
    subst hre
    exact ⟨rfl, ⟨hG, hN, hHs, hQ⟩⟩
  have hf := sx_r ev hf
  have hG := Blk.off hG hu (fun _ _ _ h => h)
  have hN := Blk.off hN hu (fun _ _ _ h => h)
  have hHs := Blk.off hHs hu (fun _ _ _ h => h)
  have hQ := Fam.off hQ hu (fun _ _ _ h => h)
  refine lv_aload_n hx hb dX11_release_14 rfl (lv_at hl 0 rfl) ?_
  refine w_get (k := 0) (v := .ref ((B + 46) + 0)) hx hb hw hown hE fl_X11_29 hG (by decide) rfl rfl rfl dX11_release_15 ?_
  refine lv_aload_n hx hb dX11_release_18 rfl (lv_at hl 0 rfl) ?_
  refine w_get (k := 0) (v := .ref ((B + 1) + 0)) hx hb hw hown hE fl_X11_12 hG (by decide) rfl rfl rfl dX11_release_19 ?_
  obtain ⟨z6, hc7, hf⟩ := br_some hf
  refine mu_cV (As := [.ref ((B + 1) + 0)]) (rest := []) hx hb hml hown hts hE (mX3_push l E B0 (B + 46) (B + 1) (by omega) (by omega) (by omega) Hs Q N z6 hc7) cv_X11_69 (w_recv (k := 0) (ci := 5) hE hHs (by decide) rfl rfl) ⟨hHs, hQ, hN⟩ hS hAB (fun _ h => h.elim (fun h1 => Or.inr (Or.inl (h1))) (fun h2 => Or.inr (Or.inr (h2)))) rfl hl.1 rfl (by decide) (Nat.le_of_ble_eq_true rfl) ⟨by decide, by decide⟩ dX11_release_22 (fun H locs hP9 _ hu hS => ?_)
  obtain ⟨hHs, hQ, hN⟩ := hP9
  have hG := Blk.off hG hu (or_dis (iv_dis (by omega)) (iv_dis (by omega)))
  refine lv_aload_n hx hb dX11_release_25 rfl (lv_at hl 0 rfl) ?_
  refine w_get (k := 0) (v := .ref ((B + 1) + 0)) hx hb hw hown hE fl_X11_12 hG (by decide) rfl rfl rfl dX11_release_26 ?_
  refine lv_iload_n hx hb dX11_release_29 rfl (lv_at hl 1 rfl) ?_
  obtain ⟨z8, hc9, hf⟩ := br_some hf
  refine mu_cV (As := [.int a1]) (rest := []) hx hb hml hown hts hE (mX6_endTurn l E B0 (B + 1) (by omega) N a1 z8 hc9) cv_X11_116 (w_recv (k := 0) (ci := 6) hE hN (by decide) rfl rfl) hN hS hAB (fun _ h => Or.inl (h)) rfl hl.1 rfl (by decide) (Nat.le_of_ble_eq_true rfl) ⟨by decide, by decide⟩ dX11_release_30 (fun H locs hN _ hu hS => ?_)
  have hG := Blk.off hG hu (iv_dis (by omega))
  have hHs := Blk.off hHs hu (iv_dis (by omega))
  have hQ := Fam.off hQ hu (iv_dis (by omega))
  have hre := Option.some.inj hf
  subst hre
  refine W.widen (k := 1) (n := 6) (by decide) (by decide) ?_
  refine mx_up (v := z8.1) rfl ?_
  exact mu_i (v := z8.1) hx hb hrt hlocks ⟨hG, hN, hHs, hQ⟩ hS dX11_release_33
noncomputable def fX11_cancel (G : Mem) (N : Mem) (Hs : Mem) (Q : Nat → Mem) (a1 : Int32) : Option ((Nat ⊕ Int32) × Mem × Mem × (Nat → Mem)) := (fX6_faultOfMode N a1 (2 : Int32)).bind fun z1 => (fX11_refuse z1).bind fun z3 => sx z3 (fun e9 => some (.inl e9, N, Hs, Q)) (fun v5 => (fX3_push Hs Q N).bind fun z6 => (fX6_stopWaiting N a1).bind fun z8 => some (.inr z8.1, z8.2, z6.1, z6.2))
set_option maxHeartbeats 4000000 in
set_option maxRecDepth 100000 in
theorem mX11_cancel (l : Launch) (E : EP) (B0 : Nat) (htr : l.stackTraces = false) (B : Nat) (L0 : Nat) (hb0 : B0 ≤ B) (hb1 : B + 202 ≤ L0) (G : Mem) (N : Mem) (Hs : Mem) (Q : Nat → Mem) (a1 : Int32) (r : (Nat ⊕ Int32) × Mem × Mem × (Nat → Mem)) (hf : fX11_cancel G N Hs Q a1 = some r) : MX l E B0 yX11_cancel cX11_cancel 2 (some .int) 9 1 6 [.ref (B + 0), .int a1] (fun H => Blk E B rnSh 1 G H ∧ Blk E (B + 1) netSh 15 N H ∧ Blk E (B + 46) histSh 2 Hs H ∧ Fam E (B + 46 + 2) Q H) r.1 (fun v => (some (.int v))) (fun H => Blk E B rnSh 1 G H ∧ Blk E (B + 1) netSh 15 r.2.1 H ∧ Blk E (B + 46) histSh 2 r.2.2.1 H ∧ Fam E (B + 46 + 2) r.2.2.2 H) (orA (iv (B + 1) 15) (orA (iv (B + 46) 2) (iv (B + 46 + 2) 120))) := by
  refine mx_of (by decide +kernel) (Nat.le_of_ble_eq_true rfl) ?_
  intro p e s m args below meth c hx hb hml hown hts hrt hlocks htab hE H hP9 hS ls hl
  obtain ⟨hG, hN, hHs, hQ⟩ := hP9
  have hown : s.vm.findClass RX11 = some m.cls := hown
  have hl : lv_has ls 2 [(0, .ref (B + 0)), (1, .int a1)] := hl
  have hw : ∀ w ∈ WA, w.before args s = true := fun w h => hts w (List.mem_cons_of_mem _ h)
  have hAB : ∀ q, (orA (iv (B + 1) 15) (orA (iv (B + 46) 2) (iv (B + 46 + 2) 120))) q → B0 ≤ q := (or_ge (iv_ge (by omega)) (or_ge (iv_ge (by omega)) (iv_ge (by omega))))
  unfold fX11_cancel at hf
  refine lv_aload_n hx hb dX11_cancel_0 rfl (lv_at hl 0 rfl) ?_
  refine w_get (k := 0) (v := .ref ((B + 1) + 0)) hx hb hw hown hE fl_X11_12 hG (by decide) rfl rfl rfl dX11_cancel_1 ?_
  refine lv_iload_n hx hb dX11_cancel_4 rfl (lv_at hl 1 rfl) ?_
  refine w_gs (i := 2) (z := 2) hx hb hw hown (EV.en0 hE) (by decide) hS hAB gs_X11_119 (by decide) dX11_cancel_5 ?_
  obtain ⟨z1, hc2, hf⟩ := br_some hf
  refine mu_cV (As := [.int a1, .ref (E.2.2 0 (2 : Int32).toNatClampNeg)]) (rest := []) hx hb hml hown hts hE (mX6_faultOfMode l E B0 (B + 1) (by omega) N a1 (2 : Int32) z1 hc2) cv_X11_105 (w_recv (k := 0) (ci := 6) hE hN (by decide) rfl rfl) hN hS hAB (fun _ h => h.elim) rfl hl.1 rfl (by decide) (Nat.le_of_ble_eq_true rfl) ⟨by decide, by decide⟩ dX11_cancel_8 (fun H locs hN _ hu hS => ?_)
  have hG := Blk.off hG hu (fun _ _ _ h => h)
  have hHs := Blk.off hHs hu (fun _ _ _ h => h)
  have hQ := Fam.off hQ hu (fun _ _ _ h => h)
  obtain ⟨z3, hc4, hf⟩ := br_some hf
  refine mx_cS (As := [.ref (E.2.2 1 z1.toNatClampNeg)]) (rest := []) htab hlocks hx hb hml hown hts hE (mX11_refuse l E B0 htr z1 z3 hc4) cs_X11_65 trivial hS hAB (fun _ h => h.elim) rfl hl.1 rfl (by decide) (Nat.le_of_ble_eq_true rfl) ⟨by decide, by decide⟩ ⟨by decide, by decide⟩ dX11_cancel_11 (fun e9 ee H _ _ hu => ?_) (fun v5 ev H locs _ _ hu hS => ?_)
  · have hf := sx_l ee hf
    have hG := Blk.off hG hu (fun _ _ _ h => h)
    have hN := Blk.off hN hu (fun _ _ _ h => h)
    have hHs := Blk.off hHs hu (fun _ _ _ h => h)
    have hQ := Fam.off hQ hu (fun _ _ _ h => h)
    have hre := Option.some.inj hf
    subst hre
    exact ⟨rfl, ⟨hG, hN, hHs, hQ⟩⟩
  have hf := sx_r ev hf
  have hG := Blk.off hG hu (fun _ _ _ h => h)
  have hN := Blk.off hN hu (fun _ _ _ h => h)
  have hHs := Blk.off hHs hu (fun _ _ _ h => h)
  have hQ := Fam.off hQ hu (fun _ _ _ h => h)
  refine lv_aload_n hx hb dX11_cancel_14 rfl (lv_at hl 0 rfl) ?_
  refine w_get (k := 0) (v := .ref ((B + 46) + 0)) hx hb hw hown hE fl_X11_29 hG (by decide) rfl rfl rfl dX11_cancel_15 ?_
  refine lv_aload_n hx hb dX11_cancel_18 rfl (lv_at hl 0 rfl) ?_
  refine w_get (k := 0) (v := .ref ((B + 1) + 0)) hx hb hw hown hE fl_X11_12 hG (by decide) rfl rfl rfl dX11_cancel_19 ?_
  obtain ⟨z6, hc7, hf⟩ := br_some hf
  refine mu_cV (As := [.ref ((B + 1) + 0)]) (rest := []) hx hb hml hown hts hE (mX3_push l E B0 (B + 46) (B + 1) (by omega) (by omega) (by omega) Hs Q N z6 hc7) cv_X11_69 (w_recv (k := 0) (ci := 5) hE hHs (by decide) rfl rfl) ⟨hHs, hQ, hN⟩ hS hAB (fun _ h => h.elim (fun h1 => Or.inr (Or.inl (h1))) (fun h2 => Or.inr (Or.inr (h2)))) rfl hl.1 rfl (by decide) (Nat.le_of_ble_eq_true rfl) ⟨by decide, by decide⟩ dX11_cancel_22 (fun H locs hP9 _ hu hS => ?_)
  obtain ⟨hHs, hQ, hN⟩ := hP9
  have hG := Blk.off hG hu (or_dis (iv_dis (by omega)) (iv_dis (by omega)))
  refine lv_aload_n hx hb dX11_cancel_25 rfl (lv_at hl 0 rfl) ?_
  refine w_get (k := 0) (v := .ref ((B + 1) + 0)) hx hb hw hown hE fl_X11_12 hG (by decide) rfl rfl rfl dX11_cancel_26 ?_
  refine lv_iload_n hx hb dX11_cancel_29 rfl (lv_at hl 1 rfl) ?_
  obtain ⟨z8, hc9, hf⟩ := br_some hf
  refine mu_cV (As := [.int a1]) (rest := []) hx hb hml hown hts hE (mX6_stopWaiting l E B0 (B + 1) (by omega) N a1 z8 hc9) cv_X11_122 (w_recv (k := 0) (ci := 6) hE hN (by decide) rfl rfl) hN hS hAB (fun _ h => Or.inl (h)) rfl hl.1 rfl (by decide) (Nat.le_of_ble_eq_true rfl) ⟨by decide, by decide⟩ dX11_cancel_30 (fun H locs hN _ hu hS => ?_)
  have hG := Blk.off hG hu (iv_dis (by omega))
  have hHs := Blk.off hHs hu (iv_dis (by omega))
  have hQ := Fam.off hQ hu (iv_dis (by omega))
  have hre := Option.some.inj hf
  subst hre
  refine W.widen (k := 1) (n := 6) (by decide) (by decide) ?_
  refine mx_up (v := z8.1) rfl ?_
  exact mu_i (v := z8.1) hx hb hrt hlocks ⟨hG, hN, hHs, hQ⟩ hS dX11_cancel_33
noncomputable def fX11_setTurnLimit (G : Mem) (N : Mem) (Hs : Mem) (Q : Nat → Mem) (a1 : Int32) : Option ((Nat ⊕ Int32) × Mem × Mem × (Nat → Mem)) := (fX11_faultOfMinutes a1).bind fun z1 => (fX11_refuse z1).bind fun z3 => sx z3 (fun e9 => some (.inl e9, N, Hs, Q)) (fun v5 => (fX3_push Hs Q N).bind fun z6 => (fX6_changeTurnLimit N a1).bind fun z8 => some (.inr z8.1, z8.2, z6.1, z6.2))
set_option maxHeartbeats 4000000 in
set_option maxRecDepth 100000 in
theorem mX11_setTurnLimit (l : Launch) (E : EP) (B0 : Nat) (htr : l.stackTraces = false) (B : Nat) (L0 : Nat) (hb0 : B0 ≤ B) (hb1 : B + 202 ≤ L0) (G : Mem) (N : Mem) (Hs : Mem) (Q : Nat → Mem) (a1 : Int32) (r : (Nat ⊕ Int32) × Mem × Mem × (Nat → Mem)) (hf : fX11_setTurnLimit G N Hs Q a1 = some r) : MX l E B0 yX11_setTurnLimit cX11_setTurnLimit 2 (some .int) 9 1 6 [.ref (B + 0), .int a1] (fun H => Blk E B rnSh 1 G H ∧ Blk E (B + 1) netSh 15 N H ∧ Blk E (B + 46) histSh 2 Hs H ∧ Fam E (B + 46 + 2) Q H) r.1 (fun v => (some (.int v))) (fun H => Blk E B rnSh 1 G H ∧ Blk E (B + 1) netSh 15 r.2.1 H ∧ Blk E (B + 46) histSh 2 r.2.2.1 H ∧ Fam E (B + 46 + 2) r.2.2.2 H) (orA (iv (B + 1) 15) (orA (iv (B + 46) 2) (iv (B + 46 + 2) 120))) := by
  refine mx_of (by decide +kernel) (Nat.le_of_ble_eq_true rfl) ?_
  intro p e s m args below meth c hx hb hml hown hts hrt hlocks htab hE H hP9 hS ls hl
  obtain ⟨hG, hN, hHs, hQ⟩ := hP9
  have hown : s.vm.findClass RX11 = some m.cls := hown
  have hl : lv_has ls 2 [(0, .ref (B + 0)), (1, .int a1)] := hl
  have hw : ∀ w ∈ WA, w.before args s = true := fun w h => hts w (List.mem_cons_of_mem _ h)
  have hAB : ∀ q, (orA (iv (B + 1) 15) (orA (iv (B + 46) 2) (iv (B + 46 + 2) 120))) q → B0 ≤ q := (or_ge (iv_ge (by omega)) (or_ge (iv_ge (by omega)) (iv_ge (by omega))))
  unfold fX11_setTurnLimit at hf
  refine lv_iload_n hx hb dX11_setTurnLimit_0 rfl (lv_at hl 1 rfl) ?_
  obtain ⟨z1, hc2, hf⟩ := br_some hf
  refine mu_cS (As := [.int a1]) (rest := []) hx hb hml hown hts hE (mX11_faultOfMinutes l E B0 a1 z1 hc2) cs_X11_125 trivial hS hAB (fun _ h => h.elim) rfl hl.1 rfl (by decide) (Nat.le_of_ble_eq_true rfl) ⟨by decide, by decide⟩ dX11_setTurnLimit_1 (fun H locs _ _ hu hS => ?_)
  have hG := Blk.off hG hu (fun _ _ _ h => h)
  have hN := Blk.off hN hu (fun _ _ _ h => h)
  have hHs := Blk.off hHs hu (fun _ _ _ h => h)
  have hQ := Fam.off hQ hu (fun _ _ _ h => h)
  obtain ⟨z3, hc4, hf⟩ := br_some hf
  refine mx_cS (As := [.ref (E.2.2 1 z1.toNatClampNeg)]) (rest := []) htab hlocks hx hb hml hown hts hE (mX11_refuse l E B0 htr z1 z3 hc4) cs_X11_65 trivial hS hAB (fun _ h => h.elim) rfl hl.1 rfl (by decide) (Nat.le_of_ble_eq_true rfl) ⟨by decide, by decide⟩ ⟨by decide, by decide⟩ dX11_setTurnLimit_4 (fun e9 ee H _ _ hu => ?_) (fun v5 ev H locs _ _ hu hS => ?_)
  · have hf := sx_l ee hf
    have hG := Blk.off hG hu (fun _ _ _ h => h)
    have hN := Blk.off hN hu (fun _ _ _ h => h)
    have hHs := Blk.off hHs hu (fun _ _ _ h => h)
    have hQ := Fam.off hQ hu (fun _ _ _ h => h)
    have hre := Option.some.inj hf
    subst hre
    exact ⟨rfl, ⟨hG, hN, hHs, hQ⟩⟩
  have hf := sx_r ev hf
  have hG := Blk.off hG hu (fun _ _ _ h => h)
  have hN := Blk.off hN hu (fun _ _ _ h => h)
  have hHs := Blk.off hHs hu (fun _ _ _ h => h)
  have hQ := Fam.off hQ hu (fun _ _ _ h => h)
  refine lv_aload_n hx hb dX11_setTurnLimit_7 rfl (lv_at hl 0 rfl) ?_
  refine w_get (k := 0) (v := .ref ((B + 46) + 0)) hx hb hw hown hE fl_X11_29 hG (by decide) rfl rfl rfl dX11_setTurnLimit_8 ?_
  refine lv_aload_n hx hb dX11_setTurnLimit_11 rfl (lv_at hl 0 rfl) ?_
  refine w_get (k := 0) (v := .ref ((B + 1) + 0)) hx hb hw hown hE fl_X11_12 hG (by decide) rfl rfl rfl dX11_setTurnLimit_12 ?_
  obtain ⟨z6, hc7, hf⟩ := br_some hf
  refine mu_cV (As := [.ref ((B + 1) + 0)]) (rest := []) hx hb hml hown hts hE (mX3_push l E B0 (B + 46) (B + 1) (by omega) (by omega) (by omega) Hs Q N z6 hc7) cv_X11_69 (w_recv (k := 0) (ci := 5) hE hHs (by decide) rfl rfl) ⟨hHs, hQ, hN⟩ hS hAB (fun _ h => h.elim (fun h1 => Or.inr (Or.inl (h1))) (fun h2 => Or.inr (Or.inr (h2)))) rfl hl.1 rfl (by decide) (Nat.le_of_ble_eq_true rfl) ⟨by decide, by decide⟩ dX11_setTurnLimit_15 (fun H locs hP9 _ hu hS => ?_)
  obtain ⟨hHs, hQ, hN⟩ := hP9
  have hG := Blk.off hG hu (or_dis (iv_dis (by omega)) (iv_dis (by omega)))
  refine lv_aload_n hx hb dX11_setTurnLimit_18 rfl (lv_at hl 0 rfl) ?_
  refine w_get (k := 0) (v := .ref ((B + 1) + 0)) hx hb hw hown hE fl_X11_12 hG (by decide) rfl rfl rfl dX11_setTurnLimit_19 ?_
  refine lv_iload_n hx hb dX11_setTurnLimit_22 rfl (lv_at hl 1 rfl) ?_
  obtain ⟨z8, hc9, hf⟩ := br_some hf
  refine mu_cV (As := [.int a1]) (rest := []) hx hb hml hown hts hE (mX6_changeTurnLimit l E B0 (B + 1) (by omega) N a1 z8 hc9) cv_X11_129 (w_recv (k := 0) (ci := 6) hE hN (by decide) rfl rfl) hN hS hAB (fun _ h => Or.inl (h)) rfl hl.1 rfl (by decide) (Nat.le_of_ble_eq_true rfl) ⟨by decide, by decide⟩ dX11_setTurnLimit_23 (fun H locs hN _ hu hS => ?_)
  have hG := Blk.off hG hu (iv_dis (by omega))
  have hHs := Blk.off hHs hu (iv_dis (by omega))
  have hQ := Fam.off hQ hu (iv_dis (by omega))
  have hre := Option.some.inj hf
  subst hre
  refine W.widen (k := 1) (n := 6) (by decide) (by decide) ?_
  refine mx_up (v := z8.1) rfl ?_
  exact mu_i (v := z8.1) hx hb hrt hlocks ⟨hG, hN, hHs, hQ⟩ hS dX11_setTurnLimit_26
noncomputable def fX11_pass (G : Mem) (N : Mem) (Hs : Mem) (Q : Nat → Mem) (a1 : Int32) : Option ((Nat ⊕ Int32) × Mem × Mem × (Nat → Mem)) := (fX11_faultOfMinutes a1).bind fun z1 => (fX11_refuse z1).bind fun z3 => sx z3 (fun e9 => some (.inl e9, N, Hs, Q)) (fun v5 => (fX3_push Hs Q N).bind fun z6 => (fX6_passMinutes N a1).bind fun z8 => some (.inr z8.1, z8.2, z6.1, z6.2))
set_option maxHeartbeats 4000000 in
set_option maxRecDepth 100000 in
theorem mX11_pass (l : Launch) (E : EP) (B0 : Nat) (htr : l.stackTraces = false) (B : Nat) (L0 : Nat) (hb0 : B0 ≤ B) (hb1 : B + 202 ≤ L0) (G : Mem) (N : Mem) (Hs : Mem) (Q : Nat → Mem) (a1 : Int32) (r : (Nat ⊕ Int32) × Mem × Mem × (Nat → Mem)) (hf : fX11_pass G N Hs Q a1 = some r) : MX l E B0 yX11_pass cX11_pass 2 (some .int) 9 1 6 [.ref (B + 0), .int a1] (fun H => Blk E B rnSh 1 G H ∧ Blk E (B + 1) netSh 15 N H ∧ Blk E (B + 46) histSh 2 Hs H ∧ Fam E (B + 46 + 2) Q H) r.1 (fun v => (some (.int v))) (fun H => Blk E B rnSh 1 G H ∧ Blk E (B + 1) netSh 15 r.2.1 H ∧ Blk E (B + 46) histSh 2 r.2.2.1 H ∧ Fam E (B + 46 + 2) r.2.2.2 H) (orA (iv (B + 1) 15) (orA (iv (B + 46) 2) (iv (B + 46 + 2) 120))) := by
  refine mx_of (by decide +kernel) (Nat.le_of_ble_eq_true rfl) ?_
  intro p e s m args below meth c hx hb hml hown hts hrt hlocks htab hE H hP9 hS ls hl
  obtain ⟨hG, hN, hHs, hQ⟩ := hP9
  have hown : s.vm.findClass RX11 = some m.cls := hown
  have hl : lv_has ls 2 [(0, .ref (B + 0)), (1, .int a1)] := hl
  have hw : ∀ w ∈ WA, w.before args s = true := fun w h => hts w (List.mem_cons_of_mem _ h)
  have hAB : ∀ q, (orA (iv (B + 1) 15) (orA (iv (B + 46) 2) (iv (B + 46 + 2) 120))) q → B0 ≤ q := (or_ge (iv_ge (by omega)) (or_ge (iv_ge (by omega)) (iv_ge (by omega))))
  unfold fX11_pass at hf
  refine lv_iload_n hx hb dX11_pass_0 rfl (lv_at hl 1 rfl) ?_
  obtain ⟨z1, hc2, hf⟩ := br_some hf
  refine mu_cS (As := [.int a1]) (rest := []) hx hb hml hown hts hE (mX11_faultOfMinutes l E B0 a1 z1 hc2) cs_X11_125 trivial hS hAB (fun _ h => h.elim) rfl hl.1 rfl (by decide) (Nat.le_of_ble_eq_true rfl) ⟨by decide, by decide⟩ dX11_pass_1 (fun H locs _ _ hu hS => ?_)
  have hG := Blk.off hG hu (fun _ _ _ h => h)
  have hN := Blk.off hN hu (fun _ _ _ h => h)
  have hHs := Blk.off hHs hu (fun _ _ _ h => h)
  have hQ := Fam.off hQ hu (fun _ _ _ h => h)
  obtain ⟨z3, hc4, hf⟩ := br_some hf
  refine mx_cS (As := [.ref (E.2.2 1 z1.toNatClampNeg)]) (rest := []) htab hlocks hx hb hml hown hts hE (mX11_refuse l E B0 htr z1 z3 hc4) cs_X11_65 trivial hS hAB (fun _ h => h.elim) rfl hl.1 rfl (by decide) (Nat.le_of_ble_eq_true rfl) ⟨by decide, by decide⟩ ⟨by decide, by decide⟩ dX11_pass_4 (fun e9 ee H _ _ hu => ?_) (fun v5 ev H locs _ _ hu hS => ?_)
  · have hf := sx_l ee hf
    have hG := Blk.off hG hu (fun _ _ _ h => h)
    have hN := Blk.off hN hu (fun _ _ _ h => h)
    have hHs := Blk.off hHs hu (fun _ _ _ h => h)
    have hQ := Fam.off hQ hu (fun _ _ _ h => h)
    have hre := Option.some.inj hf
    subst hre
    exact ⟨rfl, ⟨hG, hN, hHs, hQ⟩⟩
  have hf := sx_r ev hf
  have hG := Blk.off hG hu (fun _ _ _ h => h)
  have hN := Blk.off hN hu (fun _ _ _ h => h)
  have hHs := Blk.off hHs hu (fun _ _ _ h => h)
  have hQ := Fam.off hQ hu (fun _ _ _ h => h)
  refine lv_aload_n hx hb dX11_pass_7 rfl (lv_at hl 0 rfl) ?_
  refine w_get (k := 0) (v := .ref ((B + 46) + 0)) hx hb hw hown hE fl_X11_29 hG (by decide) rfl rfl rfl dX11_pass_8 ?_
  refine lv_aload_n hx hb dX11_pass_11 rfl (lv_at hl 0 rfl) ?_
  refine w_get (k := 0) (v := .ref ((B + 1) + 0)) hx hb hw hown hE fl_X11_12 hG (by decide) rfl rfl rfl dX11_pass_12 ?_
  obtain ⟨z6, hc7, hf⟩ := br_some hf
  refine mu_cV (As := [.ref ((B + 1) + 0)]) (rest := []) hx hb hml hown hts hE (mX3_push l E B0 (B + 46) (B + 1) (by omega) (by omega) (by omega) Hs Q N z6 hc7) cv_X11_69 (w_recv (k := 0) (ci := 5) hE hHs (by decide) rfl rfl) ⟨hHs, hQ, hN⟩ hS hAB (fun _ h => h.elim (fun h1 => Or.inr (Or.inl (h1))) (fun h2 => Or.inr (Or.inr (h2)))) rfl hl.1 rfl (by decide) (Nat.le_of_ble_eq_true rfl) ⟨by decide, by decide⟩ dX11_pass_15 (fun H locs hP9 _ hu hS => ?_)
  obtain ⟨hHs, hQ, hN⟩ := hP9
  have hG := Blk.off hG hu (or_dis (iv_dis (by omega)) (iv_dis (by omega)))
  refine lv_aload_n hx hb dX11_pass_18 rfl (lv_at hl 0 rfl) ?_
  refine w_get (k := 0) (v := .ref ((B + 1) + 0)) hx hb hw hown hE fl_X11_12 hG (by decide) rfl rfl rfl dX11_pass_19 ?_
  refine lv_iload_n hx hb dX11_pass_22 rfl (lv_at hl 1 rfl) ?_
  obtain ⟨z8, hc9, hf⟩ := br_some hf
  refine mu_cV (As := [.int a1]) (rest := []) hx hb hml hown hts hE (mX6_passMinutes l E B0 (B + 1) (by omega) N a1 z8 hc9) cv_X11_132 (w_recv (k := 0) (ci := 6) hE hN (by decide) rfl rfl) hN hS hAB (fun _ h => Or.inl (h)) rfl hl.1 rfl (by decide) (Nat.le_of_ble_eq_true rfl) ⟨by decide, by decide⟩ dX11_pass_23 (fun H locs hN _ hu hS => ?_)
  have hG := Blk.off hG hu (iv_dis (by omega))
  have hHs := Blk.off hHs hu (iv_dis (by omega))
  have hQ := Fam.off hQ hu (iv_dis (by omega))
  have hre := Option.some.inj hf
  subst hre
  refine W.widen (k := 1) (n := 6) (by decide) (by decide) ?_
  refine mx_up (v := z8.1) rfl ?_
  exact mu_i (v := z8.1) hx hb hrt hlocks ⟨hG, hN, hHs, hQ⟩ hS dX11_pass_26
def fX11_stations (G : Mem) (N : Mem) : Option (Int32) := some (N 0 1)
set_option maxHeartbeats 4000000 in
set_option maxRecDepth 100000 in
theorem mX11_stations (l : Launch) (E : EP) (B0 : Nat) (B : Nat) (L0 : Nat) (hb0 : B0 ≤ B) (hb1 : B + 202 ≤ L0) (G : Mem) (N : Mem) (r : Int32) (hf : fX11_stations G N = some r) : MU l E B0 yX11_stations cX11_stations 1 (some .int) 0 0 0 [.ref (B + 0)] (fun H => Blk E B rnSh 1 G H ∧ Blk E (B + 1) netSh 15 N H) (some (.int r)) (fun H => Blk E B rnSh 1 G H ∧ Blk E (B + 1) netSh 15 N H) nv := by
  refine mu_of (by decide +kernel) (Nat.le_of_ble_eq_true rfl) ?_
  intro p e s m args below meth c hx hb hml hown hts hrt hlocks hE H hP9 hS ls hl
  obtain ⟨hG, hN⟩ := hP9
  have hown : s.vm.findClass RX11 = some m.cls := hown
  have hl : lv_has ls 1 [(0, .ref (B + 0))] := hl
  have hw : ∀ w ∈ WA, w.before args s = true := fun w h => hts w (List.mem_cons_of_mem _ h)
  have hAB : ∀ q, nv q → B0 ≤ q := fun _ h => h.elim
  unfold fX11_stations at hf
  refine lv_aload_n hx hb dX11_stations_0 rfl (lv_at hl 0 rfl) ?_
  refine w_get (k := 0) (v := .ref ((B + 1) + 0)) hx hb hw hown hE fl_X11_12 hG (by decide) rfl rfl rfl dX11_stations_1 ?_
  refine w_get (k := 0) (v := .int (N 0 1)) hx hb hw hown hE fl_X11_135 hN (by decide) rfl rfl rfl dX11_stations_4 ?_
  have hre := Option.some.inj hf
  subst hre
  exact mu_i (v := (N 0 1)) hx hb hrt hlocks ⟨hG, hN⟩ hS dX11_stations_7
noncomputable def fX11_find (G : Mem) (N : Mem) (a1 : Int32) (a2 : Int32) : Option ((Nat ⊕ Int32)) := (fX6_stationOfSign N a1 a2).bind fun z1 => (if 0 ≤ z1 then some (.inr z1) else some (.inl 5))
set_option maxHeartbeats 4000000 in
set_option maxRecDepth 100000 in
theorem mX11_find (l : Launch) (E : EP) (B0 : Nat) (htr : l.stackTraces = false) (B : Nat) (L0 : Nat) (hb0 : B0 ≤ B) (hb1 : B + 202 ≤ L0) (G : Mem) (N : Mem) (a1 : Int32) (a2 : Int32) (r : (Nat ⊕ Int32)) (hf : fX11_find G N a1 a2 = some r) : MX l E B0 yX11_find cX11_find 4 (some .int) 8 1 6 [.ref (B + 0), .int a1, .int a2] (fun H => Blk E B rnSh 1 G H ∧ Blk E (B + 1) netSh 15 N H) r (fun v => (some (.int v))) (fun H => Blk E B rnSh 1 G H ∧ Blk E (B + 1) netSh 15 N H) nv := by
  refine mx_of (by decide +kernel) (Nat.le_of_ble_eq_true rfl) ?_
  intro p e s m args below meth c hx hb hml hown hts hrt hlocks htab hE H hP9 hS ls hl
  obtain ⟨hG, hN⟩ := hP9
  have hown : s.vm.findClass RX11 = some m.cls := hown
  have hl : lv_has ls 4 [(0, .ref (B + 0)), (1, .int a1), (2, .int a2)] := hl
  have hw : ∀ w ∈ WA, w.before args s = true := fun w h => hts w (List.mem_cons_of_mem _ h)
  have hAB : ∀ q, nv q → B0 ≤ q := fun _ h => h.elim
  unfold fX11_find at hf
  refine lv_aload_n hx hb dX11_find_0 rfl (lv_at hl 0 rfl) ?_
  refine w_get (k := 0) (v := .ref ((B + 1) + 0)) hx hb hw hown hE fl_X11_12 hG (by decide) rfl rfl rfl dX11_find_1 ?_
  refine lv_iload_n hx hb dX11_find_4 rfl (lv_at hl 1 rfl) ?_
  refine lv_iload_n hx hb dX11_find_5 rfl (lv_at hl 2 rfl) ?_
  obtain ⟨z1, hc2, hf⟩ := br_some hf
  refine mu_cV (As := [.int a1, .int a2]) (rest := []) hx hb hml hown hts hE (mX6_stationOfSign l E B0 (B + 1) (by omega) N a1 a2 z1 hc2) cv_X11_138 (w_recv (k := 0) (ci := 6) hE hN (by decide) rfl rfl) hN hS hAB (fun _ h => h.elim) rfl hl.1 rfl (by decide) (Nat.le_of_ble_eq_true rfl) ⟨by decide, by decide⟩ dX11_find_6 (fun H locs hN _ hu hS => ?_)
  have hG := Blk.off hG hu (fun _ _ _ h => h)
  refine lv_istore_n (lv' := [(3, .int z1), (0, .ref (B + 0)), (1, .int a1), (2, .int a2)]) hx hb dX11_find_9 rfl hl (by decide) rfl (fun ls hl => ?_)
  refine lv_iload_n hx hb dX11_find_10 rfl (lv_at hl 0 rfl) ?_
  refine lv_if_ge (tgt := 24) hx hb dX11_find_11 (by decide) (fun c3 => ?_) (fun c3 => ?_)
  · rw [if_pos c3] at hf
    refine lv_iload_n hx hb dX11_find_24 rfl (lv_at hl 0 rfl) ?_
    have hre := Option.some.inj hf
    subst hre
    refine W.widen (k := 1) (n := 6) (by decide) (by decide) ?_
    refine mx_up (v := z1) rfl ?_
    exact mu_i (v := z1) hx hb hrt hlocks ⟨hG, hN⟩ hS dX11_find_25
  · rw [if_neg c3] at hf
    have hre := Option.some.inj hf
    subst hre
    exact mx_thrN (e9 := 5) hx hb htr htab hlocks hown hw hE th_X11_142_144_146 hS hAB (hl.1.trans hml.symm) dX11_find_14 dX11_find_17 dX11_find_18 dX11_find_20 dX11_find_23 (by decide) (Nat.le_of_ble_eq_true rfl) ⟨by decide, by decide⟩ ⟨by decide, by decide⟩ rfl rfl (fun H1 hq => ⟨Blk.ext hG hq, Blk.ext hN hq⟩)
def fX11_requireStation (G : Mem) (N : Mem) (a1 : Int32) : Option ((Nat ⊕ Unit)) := (fX6_has N a1).bind fun z1 => (if z1 = 0 then some (.inl 0) else some (.inr ()))
set_option maxHeartbeats 4000000 in
set_option maxRecDepth 100000 in
theorem mX11_requireStation (l : Launch) (E : EP) (B0 : Nat) (htr : l.stackTraces = false) (B : Nat) (L0 : Nat) (hb0 : B0 ≤ B) (hb1 : B + 202 ≤ L0) (G : Mem) (N : Mem) (a1 : Int32) (r : (Nat ⊕ Unit)) (hf : fX11_requireStation G N a1 = some r) : MX l E B0 yX11_requireStation cX11_requireStation 2 none 8 1 6 [.ref (B + 0), .int a1] (fun H => Blk E B rnSh 1 G H ∧ Blk E (B + 1) netSh 15 N H) r (fun _ => none) (fun H => Blk E B rnSh 1 G H ∧ Blk E (B + 1) netSh 15 N H) nv := by
  refine mx_of (by decide +kernel) (Nat.le_of_ble_eq_true rfl) ?_
  intro p e s m args below meth c hx hb hml hown hts hrt hlocks htab hE H hP9 hS ls hl
  obtain ⟨hG, hN⟩ := hP9
  have hown : s.vm.findClass RX11 = some m.cls := hown
  have hl : lv_has ls 2 [(0, .ref (B + 0)), (1, .int a1)] := hl
  have hw : ∀ w ∈ WA, w.before args s = true := fun w h => hts w (List.mem_cons_of_mem _ h)
  have hAB : ∀ q, nv q → B0 ≤ q := fun _ h => h.elim
  unfold fX11_requireStation at hf
  refine lv_aload_n hx hb dX11_requireStation_0 rfl (lv_at hl 0 rfl) ?_
  refine w_get (k := 0) (v := .ref ((B + 1) + 0)) hx hb hw hown hE fl_X11_12 hG (by decide) rfl rfl rfl dX11_requireStation_1 ?_
  refine lv_iload_n hx hb dX11_requireStation_4 rfl (lv_at hl 1 rfl) ?_
  obtain ⟨z1, hc2, hf⟩ := br_some hf
  refine mu_cV (As := [.int a1]) (rest := []) hx hb hml hown hts hE (mX6_has l E B0 (B + 1) (by omega) N a1 z1 hc2) cv_X11_398 (w_recv (k := 0) (ci := 6) hE hN (by decide) rfl rfl) hN hS hAB (fun _ h => h.elim) rfl hl.1 rfl (by decide) (Nat.le_of_ble_eq_true rfl) ⟨by decide, by decide⟩ dX11_requireStation_5 (fun H locs hN _ hu hS => ?_)
  have hG := Blk.off hG hu (fun _ _ _ h => h)
  refine lv_if_ne (tgt := 22) hx hb dX11_requireStation_8 (by decide) (fun c3 => ?_) (fun c3 => ?_)
  · rw [if_neg c3] at hf
    have hre := Option.some.inj hf
    subst hre
    refine W.widen (k := 1) (n := 6) (by decide) (by decide) ?_
    refine mx_up (v := ()) rfl ?_
    exact mu_v hx hb hrt hlocks ⟨hG, hN⟩ hS dX11_requireStation_22
  · rw [if_pos c3] at hf
    have hre := Option.some.inj hf
    subst hre
    exact mx_thrW (e9 := 0) hx hb htr htab hlocks hown hw hE th_X11_314_390_318 hS hAB (hl.1.trans hml.symm) dX11_requireStation_11 dX11_requireStation_14 dX11_requireStation_15 dX11_requireStation_18 dX11_requireStation_21 (by decide) (Nat.le_of_ble_eq_true rfl) ⟨by decide, by decide⟩ ⟨by decide, by decide⟩ rfl rfl (fun H1 hq => ⟨Blk.ext hG hq, Blk.ext hN hq⟩)
def fX11_known (G : Mem) (N : Mem) (a1 : Int32) : Option ((Nat ⊕ Nat)) := (fX11_requireStation G N a1).bind fun z1 => sx z1 (fun e9 => some (.inl e9)) (fun v3 => gd (inb a1 8) (some (.inr (2 + 1 * a1.toNatClampNeg))))
set_option maxHeartbeats 4000000 in
set_option maxRecDepth 100000 in
theorem mX11_known (l : Launch) (E : EP) (B0 : Nat) (htr : l.stackTraces = false) (B : Nat) (L0 : Nat) (hb0 : B0 ≤ B) (hb1 : B + 202 ≤ L0) (G : Mem) (N : Mem) (a1 : Int32) (r : (Nat ⊕ Nat)) (hf : fX11_known G N a1 = some r) : MX l E B0 yX11_known cX11_known 2 (some (.object "RadioNet$Station")) 9 1 6 [.ref (B + 0), .int a1] (fun H => Blk E B rnSh 1 G H ∧ Blk E (B + 1) netSh 15 N H) r (fun v => (some (.ref ((B + 1) + v)))) (fun H => Blk E B rnSh 1 G H ∧ Blk E (B + 1) netSh 15 N H) nv := by
  refine mx_of (by decide +kernel) (Nat.le_of_ble_eq_true rfl) ?_
  intro p e s m args below meth c hx hb hml hown hts hrt hlocks htab hE H hP9 hS ls hl
  obtain ⟨hG, hN⟩ := hP9
  have hown : s.vm.findClass RX11 = some m.cls := hown
  have hl : lv_has ls 2 [(0, .ref (B + 0)), (1, .int a1)] := hl
  have hw : ∀ w ∈ WA, w.before args s = true := fun w h => hts w (List.mem_cons_of_mem _ h)
  have hAB : ∀ q, nv q → B0 ≤ q := fun _ h => h.elim
  unfold fX11_known at hf
  refine lv_aload_n hx hb dX11_known_0 rfl (lv_at hl 0 rfl) ?_
  refine lv_iload_n hx hb dX11_known_1 rfl (lv_at hl 1 rfl) ?_
  obtain ⟨z1, hc2, hf⟩ := br_some hf
  refine mx_cV (As := [.int a1]) (rest := []) htab hlocks hx hb hml hown hts hE (mX11_requireStation l E B0 htr B L0 (by omega) (by omega) G N a1 z1 hc2) cv_X11_219 (w_recv (k := 0) (ci := 11) hE hG (by decide) rfl rfl) ⟨hG, hN⟩ hS hAB (fun _ h => h.elim) rfl hl.1 rfl (by decide) (Nat.le_of_ble_eq_true rfl) ⟨by decide, by decide⟩ ⟨by decide, by decide⟩ dX11_known_2 (fun e9 ee H hP9 _ hu => ?_) (fun v3 ev H locs hP9 _ hu hS => ?_)
  · have hf := sx_l ee hf
    obtain ⟨hG, hN⟩ := hP9
    have hre := Option.some.inj hf
    subst hre
    exact ⟨rfl, ⟨hG, hN⟩⟩
  have hf := sx_r ev hf
  obtain ⟨hG, hN⟩ := hP9
  refine lv_aload_n hx hb dX11_known_5 rfl (lv_at hl 0 rfl) ?_
  refine w_get (k := 0) (v := .ref ((B + 1) + 0)) hx hb hw hown hE fl_X11_12 hG (by decide) rfl rfl rfl dX11_known_6 ?_
  refine w_get (k := 0) (v := .ref ((B + 1) + 1)) hx hb hw hown hE fl_X11_308 hN (by decide) rfl rfl rfl dX11_known_9 ?_
  refine lv_iload_n hx hb dX11_known_12 rfl (lv_at hl 1 rfl) ?_
  obtain ⟨h4, hf⟩ := gd_some hf
  refine w_aald (k := 1) (j := 0) (x9 := a1.toNatClampNeg) hx hb hE hN (by decide) rfl rfl rfl h4 dX11_known_13 ?_
  have hre := Option.some.inj hf
  subst hre
  refine W.widen (k := 1) (n := 6) (by decide) (by decide) ?_
  refine mx_up (v := (2 + 1 * a1.toNatClampNeg)) rfl ?_
  exact mu_a hx hb hrt hlocks ⟨hG, hN⟩ hS dX11_known_14
def fX11_letter (G : Mem) (N : Mem) (a1 : Int32) : Option ((Nat ⊕ Int32)) := (fX11_known G N a1).bind fun z1 => sx z1 (fun e9 => some (.inl e9)) (fun v3 => gd (stn v3) (gd (isC (N v3 0)) (some (.inr (N v3 0)))))
set_option maxHeartbeats 4000000 in
set_option maxRecDepth 100000 in
theorem mX11_letter (l : Launch) (E : EP) (B0 : Nat) (htr : l.stackTraces = false) (B : Nat) (L0 : Nat) (hb0 : B0 ≤ B) (hb1 : B + 202 ≤ L0) (G : Mem) (N : Mem) (a1 : Int32) (r : (Nat ⊕ Int32)) (hf : fX11_letter G N a1 = some r) : MX l E B0 yX11_letter cX11_letter 2 (some .char) 10 1 6 [.ref (B + 0), .int a1] (fun H => Blk E B rnSh 1 G H ∧ Blk E (B + 1) netSh 15 N H) r (fun v => (some (.int v))) (fun H => Blk E B rnSh 1 G H ∧ Blk E (B + 1) netSh 15 N H) nv := by
  refine mx_of (by decide +kernel) (Nat.le_of_ble_eq_true rfl) ?_
  intro p e s m args below meth c hx hb hml hown hts hrt hlocks htab hE H hP9 hS ls hl
  obtain ⟨hG, hN⟩ := hP9
  have hown : s.vm.findClass RX11 = some m.cls := hown
  have hl : lv_has ls 2 [(0, .ref (B + 0)), (1, .int a1)] := hl
  have hw : ∀ w ∈ WA, w.before args s = true := fun w h => hts w (List.mem_cons_of_mem _ h)
  have hAB : ∀ q, nv q → B0 ≤ q := fun _ h => h.elim
  unfold fX11_letter at hf
  refine lv_aload_n hx hb dX11_letter_0 rfl (lv_at hl 0 rfl) ?_
  refine lv_iload_n hx hb dX11_letter_1 rfl (lv_at hl 1 rfl) ?_
  obtain ⟨z1, hc2, hf⟩ := br_some hf
  refine mx_cV (As := [.int a1]) (rest := []) htab hlocks hx hb hml hown hts hE (mX11_known l E B0 htr B L0 (by omega) (by omega) G N a1 z1 hc2) cv_X11_149 (w_recv (k := 0) (ci := 11) hE hG (by decide) rfl rfl) ⟨hG, hN⟩ hS hAB (fun _ h => h.elim) rfl hl.1 rfl (by decide) (Nat.le_of_ble_eq_true rfl) ⟨by decide, by decide⟩ ⟨by decide, by decide⟩ dX11_letter_2 (fun e9 ee H hP9 _ hu => ?_) (fun v3 ev H locs hP9 _ hu hS => ?_)
  · have hf := sx_l ee hf
    obtain ⟨hG, hN⟩ := hP9
    have hre := Option.some.inj hf
    subst hre
    exact ⟨rfl, ⟨hG, hN⟩⟩
  have hf := sx_r ev hf
  obtain ⟨hG, hN⟩ := hP9
  obtain ⟨h4, hf⟩ := gd_some hf
  refine w_get (k := v3) (v := .int (N v3 0)) hx hb hw hown hE fl_X11_153 hN (stn_lt h4) (stn_sh h4) rfl rfl dX11_letter_5 ?_
  obtain ⟨h5, hf⟩ := gd_some hf
  have hre := Option.some.inj hf
  subst hre
  refine W.widen (k := 1) (n := 6) (by decide) (by decide) ?_
  refine mx_up (v := (N v3 0)) rfl ?_
  exact mu_z (v := (N v3 0)) hx hb hrt (isC_n h5) hlocks ⟨hG, hN⟩ hS dX11_letter_8
def fX11_digit (G : Mem) (N : Mem) (a1 : Int32) : Option ((Nat ⊕ Int32)) := (fX11_known G N a1).bind fun z1 => sx z1 (fun e9 => some (.inl e9)) (fun v3 => gd (stn v3) (some (.inr (N v3 1))))
set_option maxHeartbeats 4000000 in
set_option maxRecDepth 100000 in
theorem mX11_digit (l : Launch) (E : EP) (B0 : Nat) (htr : l.stackTraces = false) (B : Nat) (L0 : Nat) (hb0 : B0 ≤ B) (hb1 : B + 202 ≤ L0) (G : Mem) (N : Mem) (a1 : Int32) (r : (Nat ⊕ Int32)) (hf : fX11_digit G N a1 = some r) : MX l E B0 yX11_digit cX11_digit 2 (some .int) 10 1 6 [.ref (B + 0), .int a1] (fun H => Blk E B rnSh 1 G H ∧ Blk E (B + 1) netSh 15 N H) r (fun v => (some (.int v))) (fun H => Blk E B rnSh 1 G H ∧ Blk E (B + 1) netSh 15 N H) nv := by
  refine mx_of (by decide +kernel) (Nat.le_of_ble_eq_true rfl) ?_
  intro p e s m args below meth c hx hb hml hown hts hrt hlocks htab hE H hP9 hS ls hl
  obtain ⟨hG, hN⟩ := hP9
  have hown : s.vm.findClass RX11 = some m.cls := hown
  have hl : lv_has ls 2 [(0, .ref (B + 0)), (1, .int a1)] := hl
  have hw : ∀ w ∈ WA, w.before args s = true := fun w h => hts w (List.mem_cons_of_mem _ h)
  have hAB : ∀ q, nv q → B0 ≤ q := fun _ h => h.elim
  unfold fX11_digit at hf
  refine lv_aload_n hx hb dX11_digit_0 rfl (lv_at hl 0 rfl) ?_
  refine lv_iload_n hx hb dX11_digit_1 rfl (lv_at hl 1 rfl) ?_
  obtain ⟨z1, hc2, hf⟩ := br_some hf
  refine mx_cV (As := [.int a1]) (rest := []) htab hlocks hx hb hml hown hts hE (mX11_known l E B0 htr B L0 (by omega) (by omega) G N a1 z1 hc2) cv_X11_149 (w_recv (k := 0) (ci := 11) hE hG (by decide) rfl rfl) ⟨hG, hN⟩ hS hAB (fun _ h => h.elim) rfl hl.1 rfl (by decide) (Nat.le_of_ble_eq_true rfl) ⟨by decide, by decide⟩ ⟨by decide, by decide⟩ dX11_digit_2 (fun e9 ee H hP9 _ hu => ?_) (fun v3 ev H locs hP9 _ hu hS => ?_)
  · have hf := sx_l ee hf
    obtain ⟨hG, hN⟩ := hP9
    have hre := Option.some.inj hf
    subst hre
    exact ⟨rfl, ⟨hG, hN⟩⟩
  have hf := sx_r ev hf
  obtain ⟨hG, hN⟩ := hP9
  obtain ⟨h4, hf⟩ := gd_some hf
  refine w_get (k := v3) (v := .int (N v3 1)) hx hb hw hown hE fl_X11_159 hN (stn_lt h4) (stn_sh h4) rfl rfl dX11_digit_5 ?_
  have hre := Option.some.inj hf
  subst hre
  refine W.widen (k := 1) (n := 6) (by decide) (by decide) ?_
  refine mx_up (v := (N v3 1)) rfl ?_
  exact mu_i (v := (N v3 1)) hx hb hrt hlocks ⟨hG, hN⟩ hS dX11_digit_8
def fX11_channel (G : Mem) (N : Mem) (a1 : Int32) : Option ((Nat ⊕ Int32)) := (fX11_known G N a1).bind fun z1 => sx z1 (fun e9 => some (.inl e9)) (fun v3 => gd (stn v3) (some (.inr (N v3 5))))
set_option maxHeartbeats 4000000 in
set_option maxRecDepth 100000 in
theorem mX11_channel (l : Launch) (E : EP) (B0 : Nat) (htr : l.stackTraces = false) (B : Nat) (L0 : Nat) (hb0 : B0 ≤ B) (hb1 : B + 202 ≤ L0) (G : Mem) (N : Mem) (a1 : Int32) (r : (Nat ⊕ Int32)) (hf : fX11_channel G N a1 = some r) : MX l E B0 yX11_channel cX11_channel 2 (some .int) 10 1 6 [.ref (B + 0), .int a1] (fun H => Blk E B rnSh 1 G H ∧ Blk E (B + 1) netSh 15 N H) r (fun v => (some (.int v))) (fun H => Blk E B rnSh 1 G H ∧ Blk E (B + 1) netSh 15 N H) nv := by
  refine mx_of (by decide +kernel) (Nat.le_of_ble_eq_true rfl) ?_
  intro p e s m args below meth c hx hb hml hown hts hrt hlocks htab hE H hP9 hS ls hl
  obtain ⟨hG, hN⟩ := hP9
  have hown : s.vm.findClass RX11 = some m.cls := hown
  have hl : lv_has ls 2 [(0, .ref (B + 0)), (1, .int a1)] := hl
  have hw : ∀ w ∈ WA, w.before args s = true := fun w h => hts w (List.mem_cons_of_mem _ h)
  have hAB : ∀ q, nv q → B0 ≤ q := fun _ h => h.elim
  unfold fX11_channel at hf
  refine lv_aload_n hx hb dX11_channel_0 rfl (lv_at hl 0 rfl) ?_
  refine lv_iload_n hx hb dX11_channel_1 rfl (lv_at hl 1 rfl) ?_
  obtain ⟨z1, hc2, hf⟩ := br_some hf
  refine mx_cV (As := [.int a1]) (rest := []) htab hlocks hx hb hml hown hts hE (mX11_known l E B0 htr B L0 (by omega) (by omega) G N a1 z1 hc2) cv_X11_149 (w_recv (k := 0) (ci := 11) hE hG (by decide) rfl rfl) ⟨hG, hN⟩ hS hAB (fun _ h => h.elim) rfl hl.1 rfl (by decide) (Nat.le_of_ble_eq_true rfl) ⟨by decide, by decide⟩ ⟨by decide, by decide⟩ dX11_channel_2 (fun e9 ee H hP9 _ hu => ?_) (fun v3 ev H locs hP9 _ hu hS => ?_)
  · have hf := sx_l ee hf
    obtain ⟨hG, hN⟩ := hP9
    have hre := Option.some.inj hf
    subst hre
    exact ⟨rfl, ⟨hG, hN⟩⟩
  have hf := sx_r ev hf
  obtain ⟨hG, hN⟩ := hP9
  obtain ⟨h4, hf⟩ := gd_some hf
  refine w_get (k := v3) (v := .int (N v3 5)) hx hb hw hown hE fl_X11_162 hN (stn_lt h4) (stn_sh h4) rfl rfl dX11_channel_5 ?_
  have hre := Option.some.inj hf
  subst hre
  refine W.widen (k := 1) (n := 6) (by decide) (by decide) ?_
  refine mx_up (v := (N v3 5)) rfl ?_
  exact mu_i (v := (N v3 5)) hx hb hrt hlocks ⟨hG, hN⟩ hS dX11_channel_8
def fX11_power (G : Mem) (N : Mem) (a1 : Int32) : Option ((Nat ⊕ Int32)) := (fX11_known G N a1).bind fun z1 => sx z1 (fun e9 => some (.inl e9)) (fun v3 => gd (stn v3) (some (.inr (N v3 4))))
set_option maxHeartbeats 4000000 in
set_option maxRecDepth 100000 in
theorem mX11_power (l : Launch) (E : EP) (B0 : Nat) (htr : l.stackTraces = false) (B : Nat) (L0 : Nat) (hb0 : B0 ≤ B) (hb1 : B + 202 ≤ L0) (G : Mem) (N : Mem) (a1 : Int32) (r : (Nat ⊕ Int32)) (hf : fX11_power G N a1 = some r) : MX l E B0 yX11_power cX11_power 2 (some .int) 10 1 6 [.ref (B + 0), .int a1] (fun H => Blk E B rnSh 1 G H ∧ Blk E (B + 1) netSh 15 N H) r (fun v => (some (.int v))) (fun H => Blk E B rnSh 1 G H ∧ Blk E (B + 1) netSh 15 N H) nv := by
  refine mx_of (by decide +kernel) (Nat.le_of_ble_eq_true rfl) ?_
  intro p e s m args below meth c hx hb hml hown hts hrt hlocks htab hE H hP9 hS ls hl
  obtain ⟨hG, hN⟩ := hP9
  have hown : s.vm.findClass RX11 = some m.cls := hown
  have hl : lv_has ls 2 [(0, .ref (B + 0)), (1, .int a1)] := hl
  have hw : ∀ w ∈ WA, w.before args s = true := fun w h => hts w (List.mem_cons_of_mem _ h)
  have hAB : ∀ q, nv q → B0 ≤ q := fun _ h => h.elim
  unfold fX11_power at hf
  refine lv_aload_n hx hb dX11_power_0 rfl (lv_at hl 0 rfl) ?_
  refine lv_iload_n hx hb dX11_power_1 rfl (lv_at hl 1 rfl) ?_
  obtain ⟨z1, hc2, hf⟩ := br_some hf
  refine mx_cV (As := [.int a1]) (rest := []) htab hlocks hx hb hml hown hts hE (mX11_known l E B0 htr B L0 (by omega) (by omega) G N a1 z1 hc2) cv_X11_149 (w_recv (k := 0) (ci := 11) hE hG (by decide) rfl rfl) ⟨hG, hN⟩ hS hAB (fun _ h => h.elim) rfl hl.1 rfl (by decide) (Nat.le_of_ble_eq_true rfl) ⟨by decide, by decide⟩ ⟨by decide, by decide⟩ dX11_power_2 (fun e9 ee H hP9 _ hu => ?_) (fun v3 ev H locs hP9 _ hu hS => ?_)
  · have hf := sx_l ee hf
    obtain ⟨hG, hN⟩ := hP9
    have hre := Option.some.inj hf
    subst hre
    exact ⟨rfl, ⟨hG, hN⟩⟩
  have hf := sx_r ev hf
  obtain ⟨hG, hN⟩ := hP9
  obtain ⟨h4, hf⟩ := gd_some hf
  refine w_get (k := v3) (v := .int (N v3 4)) hx hb hw hown hE fl_X11_165 hN (stn_lt h4) (stn_sh h4) rfl rfl dX11_power_5 ?_
  have hre := Option.some.inj hf
  subst hre
  refine W.widen (k := 1) (n := 6) (by decide) (by decide) ?_
  refine mx_up (v := (N v3 4)) rfl ?_
  exact mu_i (v := (N v3 4)) hx hb hrt hlocks ⟨hG, hN⟩ hS dX11_power_8
def fX11_isSpeaking (G : Mem) (N : Mem) (a1 : Int32) : Option ((Nat ⊕ Int32)) := (fX11_known G N a1).bind fun z1 => sx z1 (fun e9 => some (.inl e9)) (fun v3 => gd (stn v3) (gd (inb (N v3 6) 3) ((if (N v3 6) = (1 : Int32) then some (.inr 1) else some (.inr 0)))))
set_option maxHeartbeats 4000000 in
set_option maxRecDepth 100000 in
theorem mX11_isSpeaking (l : Launch) (E : EP) (B0 : Nat) (htr : l.stackTraces = false) (B : Nat) (L0 : Nat) (hb0 : B0 ≤ B) (hb1 : B + 202 ≤ L0) (G : Mem) (N : Mem) (a1 : Int32) (r : (Nat ⊕ Int32)) (hf : fX11_isSpeaking G N a1 = some r) : MX l E B0 yX11_isSpeaking cX11_isSpeaking 2 (some .boolean) 10 1 6 [.ref (B + 0), .int a1] (fun H => Blk E B rnSh 1 G H ∧ Blk E (B + 1) netSh 15 N H) r (fun v => (some (.int v))) (fun H => Blk E B rnSh 1 G H ∧ Blk E (B + 1) netSh 15 N H) nv := by
  refine mx_of (by decide +kernel) (Nat.le_of_ble_eq_true rfl) ?_
  intro p e s m args below meth c hx hb hml hown hts hrt hlocks htab hE H hP9 hS ls hl
  obtain ⟨hG, hN⟩ := hP9
  have hown : s.vm.findClass RX11 = some m.cls := hown
  have hl : lv_has ls 2 [(0, .ref (B + 0)), (1, .int a1)] := hl
  have hw : ∀ w ∈ WA, w.before args s = true := fun w h => hts w (List.mem_cons_of_mem _ h)
  have hAB : ∀ q, nv q → B0 ≤ q := fun _ h => h.elim
  unfold fX11_isSpeaking at hf
  refine lv_aload_n hx hb dX11_isSpeaking_0 rfl (lv_at hl 0 rfl) ?_
  refine lv_iload_n hx hb dX11_isSpeaking_1 rfl (lv_at hl 1 rfl) ?_
  obtain ⟨z1, hc2, hf⟩ := br_some hf
  refine mx_cV (As := [.int a1]) (rest := []) htab hlocks hx hb hml hown hts hE (mX11_known l E B0 htr B L0 (by omega) (by omega) G N a1 z1 hc2) cv_X11_149 (w_recv (k := 0) (ci := 11) hE hG (by decide) rfl rfl) ⟨hG, hN⟩ hS hAB (fun _ h => h.elim) rfl hl.1 rfl (by decide) (Nat.le_of_ble_eq_true rfl) ⟨by decide, by decide⟩ ⟨by decide, by decide⟩ dX11_isSpeaking_2 (fun e9 ee H hP9 _ hu => ?_) (fun v3 ev H locs hP9 _ hu hS => ?_)
  · have hf := sx_l ee hf
    obtain ⟨hG, hN⟩ := hP9
    have hre := Option.some.inj hf
    subst hre
    exact ⟨rfl, ⟨hG, hN⟩⟩
  have hf := sx_r ev hf
  obtain ⟨hG, hN⟩ := hP9
  obtain ⟨h4, hf⟩ := gd_some hf
  refine w_get (k := v3) (v := .ref (E.2.2 0 (N v3 6).toNatClampNeg)) hx hb hw hown hE fl_X11_168 hN (stn_lt h4) (stn_sh h4) rfl rfl dX11_isSpeaking_5 ?_
  refine w_gs (i := 1) (z := 1) hx hb hw hown (EV.en0 hE) (by decide) hS hAB gs_X11_113 (by decide) dX11_isSpeaking_8 ?_
  obtain ⟨h5, hf⟩ := gd_some hf
  refine w_acmpE_ne (tgt := 18) hx hb (EV.en0 hE) h5 (by decide) dX11_isSpeaking_11 (by decide) (fun c6 => ?_) (fun c6 => ?_)
  · rw [if_neg c6] at hf
    refine lv_iconst (v := 0) hx hb dX11_isSpeaking_18 (by decide) ?_
    have hre := Option.some.inj hf
    subst hre
    refine W.widen (k := 1) (n := 6) (by decide) (by decide) ?_
    refine mx_up (v := 0) rfl ?_
    exact mu_z (v := 0) hx hb hrt rfl hlocks ⟨hG, hN⟩ hS dX11_isSpeaking_19
  · rw [if_pos c6] at hf
    refine lv_iconst (v := 1) hx hb dX11_isSpeaking_14 (by decide) ?_
    refine lv_goto (tgt := 19) hx hb dX11_isSpeaking_15 (by decide) ?_
    have hre := Option.some.inj hf
    subst hre
    refine W.widen (k := 1) (n := 6) (by decide) (by decide) ?_
    refine mx_up (v := 1) rfl ?_
    exact mu_z (v := 1) hx hb hrt rfl hlocks ⟨hG, hN⟩ hS dX11_isSpeaking_19
def fX11_isWaiting (G : Mem) (N : Mem) (a1 : Int32) : Option ((Nat ⊕ Int32)) := (fX11_known G N a1).bind fun z1 => sx z1 (fun e9 => some (.inl e9)) (fun v3 => gd (stn v3) (gd (inb (N v3 6) 3) ((if (N v3 6) = (2 : Int32) then some (.inr 1) else some (.inr 0)))))
set_option maxHeartbeats 4000000 in
set_option maxRecDepth 100000 in
theorem mX11_isWaiting (l : Launch) (E : EP) (B0 : Nat) (htr : l.stackTraces = false) (B : Nat) (L0 : Nat) (hb0 : B0 ≤ B) (hb1 : B + 202 ≤ L0) (G : Mem) (N : Mem) (a1 : Int32) (r : (Nat ⊕ Int32)) (hf : fX11_isWaiting G N a1 = some r) : MX l E B0 yX11_isWaiting cX11_isWaiting 2 (some .boolean) 10 1 6 [.ref (B + 0), .int a1] (fun H => Blk E B rnSh 1 G H ∧ Blk E (B + 1) netSh 15 N H) r (fun v => (some (.int v))) (fun H => Blk E B rnSh 1 G H ∧ Blk E (B + 1) netSh 15 N H) nv := by
  refine mx_of (by decide +kernel) (Nat.le_of_ble_eq_true rfl) ?_
  intro p e s m args below meth c hx hb hml hown hts hrt hlocks htab hE H hP9 hS ls hl
  obtain ⟨hG, hN⟩ := hP9
  have hown : s.vm.findClass RX11 = some m.cls := hown
  have hl : lv_has ls 2 [(0, .ref (B + 0)), (1, .int a1)] := hl
  have hw : ∀ w ∈ WA, w.before args s = true := fun w h => hts w (List.mem_cons_of_mem _ h)
  have hAB : ∀ q, nv q → B0 ≤ q := fun _ h => h.elim
  unfold fX11_isWaiting at hf
  refine lv_aload_n hx hb dX11_isWaiting_0 rfl (lv_at hl 0 rfl) ?_
  refine lv_iload_n hx hb dX11_isWaiting_1 rfl (lv_at hl 1 rfl) ?_
  obtain ⟨z1, hc2, hf⟩ := br_some hf
  refine mx_cV (As := [.int a1]) (rest := []) htab hlocks hx hb hml hown hts hE (mX11_known l E B0 htr B L0 (by omega) (by omega) G N a1 z1 hc2) cv_X11_149 (w_recv (k := 0) (ci := 11) hE hG (by decide) rfl rfl) ⟨hG, hN⟩ hS hAB (fun _ h => h.elim) rfl hl.1 rfl (by decide) (Nat.le_of_ble_eq_true rfl) ⟨by decide, by decide⟩ ⟨by decide, by decide⟩ dX11_isWaiting_2 (fun e9 ee H hP9 _ hu => ?_) (fun v3 ev H locs hP9 _ hu hS => ?_)
  · have hf := sx_l ee hf
    obtain ⟨hG, hN⟩ := hP9
    have hre := Option.some.inj hf
    subst hre
    exact ⟨rfl, ⟨hG, hN⟩⟩
  have hf := sx_r ev hf
  obtain ⟨hG, hN⟩ := hP9
  obtain ⟨h4, hf⟩ := gd_some hf
  refine w_get (k := v3) (v := .ref (E.2.2 0 (N v3 6).toNatClampNeg)) hx hb hw hown hE fl_X11_168 hN (stn_lt h4) (stn_sh h4) rfl rfl dX11_isWaiting_5 ?_
  refine w_gs (i := 2) (z := 2) hx hb hw hown (EV.en0 hE) (by decide) hS hAB gs_X11_119 (by decide) dX11_isWaiting_8 ?_
  obtain ⟨h5, hf⟩ := gd_some hf
  refine w_acmpE_ne (tgt := 18) hx hb (EV.en0 hE) h5 (by decide) dX11_isWaiting_11 (by decide) (fun c6 => ?_) (fun c6 => ?_)
  · rw [if_neg c6] at hf
    refine lv_iconst (v := 0) hx hb dX11_isWaiting_18 (by decide) ?_
    have hre := Option.some.inj hf
    subst hre
    refine W.widen (k := 1) (n := 6) (by decide) (by decide) ?_
    refine mx_up (v := 0) rfl ?_
    exact mu_z (v := 0) hx hb hrt rfl hlocks ⟨hG, hN⟩ hS dX11_isWaiting_19
  · rw [if_pos c6] at hf
    refine lv_iconst (v := 1) hx hb dX11_isWaiting_14 (by decide) ?_
    refine lv_goto (tgt := 19) hx hb dX11_isWaiting_15 (by decide) ?_
    have hre := Option.some.inj hf
    subst hre
    refine W.widen (k := 1) (n := 6) (by decide) (by decide) ?_
    refine mx_up (v := 1) rfl ?_
    exact mu_z (v := 1) hx hb hrt rfl hlocks ⟨hG, hN⟩ hS dX11_isWaiting_19
def fX11_minutesSpoken (G : Mem) (N : Mem) (a1 : Int32) : Option ((Nat ⊕ Int32)) := (fX11_known G N a1).bind fun z1 => sx z1 (fun e9 => some (.inl e9)) (fun v3 => gd (stn v3) (some (.inr (N v3 8))))
set_option maxHeartbeats 4000000 in
set_option maxRecDepth 100000 in
theorem mX11_minutesSpoken (l : Launch) (E : EP) (B0 : Nat) (htr : l.stackTraces = false) (B : Nat) (L0 : Nat) (hb0 : B0 ≤ B) (hb1 : B + 202 ≤ L0) (G : Mem) (N : Mem) (a1 : Int32) (r : (Nat ⊕ Int32)) (hf : fX11_minutesSpoken G N a1 = some r) : MX l E B0 yX11_minutesSpoken cX11_minutesSpoken 2 (some .int) 10 1 6 [.ref (B + 0), .int a1] (fun H => Blk E B rnSh 1 G H ∧ Blk E (B + 1) netSh 15 N H) r (fun v => (some (.int v))) (fun H => Blk E B rnSh 1 G H ∧ Blk E (B + 1) netSh 15 N H) nv := by
  refine mx_of (by decide +kernel) (Nat.le_of_ble_eq_true rfl) ?_
  intro p e s m args below meth c hx hb hml hown hts hrt hlocks htab hE H hP9 hS ls hl
  obtain ⟨hG, hN⟩ := hP9
  have hown : s.vm.findClass RX11 = some m.cls := hown
  have hl : lv_has ls 2 [(0, .ref (B + 0)), (1, .int a1)] := hl
  have hw : ∀ w ∈ WA, w.before args s = true := fun w h => hts w (List.mem_cons_of_mem _ h)
  have hAB : ∀ q, nv q → B0 ≤ q := fun _ h => h.elim
  unfold fX11_minutesSpoken at hf
  refine lv_aload_n hx hb dX11_minutesSpoken_0 rfl (lv_at hl 0 rfl) ?_
  refine lv_iload_n hx hb dX11_minutesSpoken_1 rfl (lv_at hl 1 rfl) ?_
  obtain ⟨z1, hc2, hf⟩ := br_some hf
  refine mx_cV (As := [.int a1]) (rest := []) htab hlocks hx hb hml hown hts hE (mX11_known l E B0 htr B L0 (by omega) (by omega) G N a1 z1 hc2) cv_X11_149 (w_recv (k := 0) (ci := 11) hE hG (by decide) rfl rfl) ⟨hG, hN⟩ hS hAB (fun _ h => h.elim) rfl hl.1 rfl (by decide) (Nat.le_of_ble_eq_true rfl) ⟨by decide, by decide⟩ ⟨by decide, by decide⟩ dX11_minutesSpoken_2 (fun e9 ee H hP9 _ hu => ?_) (fun v3 ev H locs hP9 _ hu hS => ?_)
  · have hf := sx_l ee hf
    obtain ⟨hG, hN⟩ := hP9
    have hre := Option.some.inj hf
    subst hre
    exact ⟨rfl, ⟨hG, hN⟩⟩
  have hf := sx_r ev hf
  obtain ⟨hG, hN⟩ := hP9
  obtain ⟨h4, hf⟩ := gd_some hf
  refine w_get (k := v3) (v := .int (N v3 8)) hx hb hw hown hE fl_X11_171 hN (stn_lt h4) (stn_sh h4) rfl rfl dX11_minutesSpoken_5 ?_
  have hre := Option.some.inj hf
  subst hre
  refine W.widen (k := 1) (n := 6) (by decide) (by decide) ?_
  refine mx_up (v := (N v3 8)) rfl ?_
  exact mu_i (v := (N v3 8)) hx hb hrt hlocks ⟨hG, hN⟩ hS dX11_minutesSpoken_8
def fX11_minutesReceived (G : Mem) (N : Mem) (a1 : Int32) : Option ((Nat ⊕ Int32)) := (fX11_known G N a1).bind fun z1 => sx z1 (fun e9 => some (.inl e9)) (fun v3 => gd (stn v3) (some (.inr (N v3 9))))
set_option maxHeartbeats 4000000 in
set_option maxRecDepth 100000 in
theorem mX11_minutesReceived (l : Launch) (E : EP) (B0 : Nat) (htr : l.stackTraces = false) (B : Nat) (L0 : Nat) (hb0 : B0 ≤ B) (hb1 : B + 202 ≤ L0) (G : Mem) (N : Mem) (a1 : Int32) (r : (Nat ⊕ Int32)) (hf : fX11_minutesReceived G N a1 = some r) : MX l E B0 yX11_minutesReceived cX11_minutesReceived 2 (some .int) 10 1 6 [.ref (B + 0), .int a1] (fun H => Blk E B rnSh 1 G H ∧ Blk E (B + 1) netSh 15 N H) r (fun v => (some (.int v))) (fun H => Blk E B rnSh 1 G H ∧ Blk E (B + 1) netSh 15 N H) nv := by
  refine mx_of (by decide +kernel) (Nat.le_of_ble_eq_true rfl) ?_
  intro p e s m args below meth c hx hb hml hown hts hrt hlocks htab hE H hP9 hS ls hl
  obtain ⟨hG, hN⟩ := hP9
  have hown : s.vm.findClass RX11 = some m.cls := hown
  have hl : lv_has ls 2 [(0, .ref (B + 0)), (1, .int a1)] := hl
  have hw : ∀ w ∈ WA, w.before args s = true := fun w h => hts w (List.mem_cons_of_mem _ h)
  have hAB : ∀ q, nv q → B0 ≤ q := fun _ h => h.elim
  unfold fX11_minutesReceived at hf
  refine lv_aload_n hx hb dX11_minutesReceived_0 rfl (lv_at hl 0 rfl) ?_
  refine lv_iload_n hx hb dX11_minutesReceived_1 rfl (lv_at hl 1 rfl) ?_
  obtain ⟨z1, hc2, hf⟩ := br_some hf
  refine mx_cV (As := [.int a1]) (rest := []) htab hlocks hx hb hml hown hts hE (mX11_known l E B0 htr B L0 (by omega) (by omega) G N a1 z1 hc2) cv_X11_149 (w_recv (k := 0) (ci := 11) hE hG (by decide) rfl rfl) ⟨hG, hN⟩ hS hAB (fun _ h => h.elim) rfl hl.1 rfl (by decide) (Nat.le_of_ble_eq_true rfl) ⟨by decide, by decide⟩ ⟨by decide, by decide⟩ dX11_minutesReceived_2 (fun e9 ee H hP9 _ hu => ?_) (fun v3 ev H locs hP9 _ hu hS => ?_)
  · have hf := sx_l ee hf
    obtain ⟨hG, hN⟩ := hP9
    have hre := Option.some.inj hf
    subst hre
    exact ⟨rfl, ⟨hG, hN⟩⟩
  have hf := sx_r ev hf
  obtain ⟨hG, hN⟩ := hP9
  obtain ⟨h4, hf⟩ := gd_some hf
  refine w_get (k := v3) (v := .int (N v3 9)) hx hb hw hown hE fl_X11_174 hN (stn_lt h4) (stn_sh h4) rfl rfl dX11_minutesReceived_5 ?_
  have hre := Option.some.inj hf
  subst hre
  refine W.widen (k := 1) (n := 6) (by decide) (by decide) ?_
  refine mx_up (v := (N v3 9)) rfl ?_
  exact mu_i (v := (N v3 9)) hx hb hrt hlocks ⟨hG, hN⟩ hS dX11_minutesReceived_8
noncomputable def fX11_stationByMinutes (G : Mem) (N : Mem) (a1 : Int32) : Option ((Nat ⊕ Int32)) := (fX6_stationOfRank N a1).bind fun z1 => (if 0 ≤ z1 then some (.inr z1) else some (.inl 5))
set_option maxHeartbeats 4000000 in
set_option maxRecDepth 100000 in
theorem mX11_stationByMinutes (l : Launch) (E : EP) (B0 : Nat) (htr : l.stackTraces = false) (B : Nat) (L0 : Nat) (hb0 : B0 ≤ B) (hb1 : B + 202 ≤ L0) (G : Mem) (N : Mem) (a1 : Int32) (r : (Nat ⊕ Int32)) (hf : fX11_stationByMinutes G N a1 = some r) : MX l E B0 yX11_stationByMinutes cX11_stationByMinutes 3 (some .int) 8 1 6 [.ref (B + 0), .int a1] (fun H => Blk E B rnSh 1 G H ∧ Blk E (B + 1) netSh 15 N H) r (fun v => (some (.int v))) (fun H => Blk E B rnSh 1 G H ∧ Blk E (B + 1) netSh 15 N H) nv := by
  refine mx_of (by decide +kernel) (Nat.le_of_ble_eq_true rfl) ?_
  intro p e s m args below meth c hx hb hml hown hts hrt hlocks htab hE H hP9 hS ls hl
  obtain ⟨hG, hN⟩ := hP9
  have hown : s.vm.findClass RX11 = some m.cls := hown
  have hl : lv_has ls 3 [(0, .ref (B + 0)), (1, .int a1)] := hl
  have hw : ∀ w ∈ WA, w.before args s = true := fun w h => hts w (List.mem_cons_of_mem _ h)
  have hAB : ∀ q, nv q → B0 ≤ q := fun _ h => h.elim
  unfold fX11_stationByMinutes at hf
  refine lv_aload_n hx hb dX11_stationByMinutes_0 rfl (lv_at hl 0 rfl) ?_
  refine w_get (k := 0) (v := .ref ((B + 1) + 0)) hx hb hw hown hE fl_X11_12 hG (by decide) rfl rfl rfl dX11_stationByMinutes_1 ?_
  refine lv_iload_n hx hb dX11_stationByMinutes_4 rfl (lv_at hl 1 rfl) ?_
  obtain ⟨z1, hc2, hf⟩ := br_some hf
  refine mu_cV (As := [.int a1]) (rest := []) hx hb hml hown hts hE (mX6_stationOfRank l E B0 (B + 1) (by omega) N a1 z1 hc2) cv_X11_177 (w_recv (k := 0) (ci := 6) hE hN (by decide) rfl rfl) hN hS hAB (fun _ h => h.elim) rfl hl.1 rfl (by decide) (Nat.le_of_ble_eq_true rfl) ⟨by decide, by decide⟩ dX11_stationByMinutes_5 (fun H locs hN _ hu hS => ?_)
  have hG := Blk.off hG hu (fun _ _ _ h => h)
  refine lv_istore_n (lv' := [(2, .int z1), (0, .ref (B + 0)), (1, .int a1)]) hx hb dX11_stationByMinutes_8 rfl hl (by decide) rfl (fun ls hl => ?_)
  refine lv_iload_n hx hb dX11_stationByMinutes_9 rfl (lv_at hl 0 rfl) ?_
  refine lv_if_ge (tgt := 23) hx hb dX11_stationByMinutes_10 (by decide) (fun c3 => ?_) (fun c3 => ?_)
  · rw [if_pos c3] at hf
    refine lv_iload_n hx hb dX11_stationByMinutes_23 rfl (lv_at hl 0 rfl) ?_
    have hre := Option.some.inj hf
    subst hre
    refine W.widen (k := 1) (n := 6) (by decide) (by decide) ?_
    refine mx_up (v := z1) rfl ?_
    exact mu_i (v := z1) hx hb hrt hlocks ⟨hG, hN⟩ hS dX11_stationByMinutes_24
  · rw [if_neg c3] at hf
    have hre := Option.some.inj hf
    subst hre
    exact mx_thrN (e9 := 5) hx hb htr htab hlocks hown hw hE th_X11_142_180_146 hS hAB (hl.1.trans hml.symm) dX11_stationByMinutes_13 dX11_stationByMinutes_16 dX11_stationByMinutes_17 dX11_stationByMinutes_19 dX11_stationByMinutes_22 (by decide) (Nat.le_of_ble_eq_true rfl) ⟨by decide, by decide⟩ ⟨by decide, by decide⟩ rfl rfl (fun H1 hq => ⟨Blk.ext hG hq, Blk.ext hN hq⟩)
def fX11_requireChannel (a1 : Int32) : Option ((Nat ⊕ Unit)) := (fX11_isChannel a1).bind fun z1 => (if z1 = 0 then some (.inl 0) else some (.inr ()))
set_option maxHeartbeats 4000000 in
set_option maxRecDepth 100000 in
theorem mX11_requireChannel (l : Launch) (E : EP) (B0 : Nat) (htr : l.stackTraces = false) (a1 : Int32) (r : (Nat ⊕ Unit)) (hf : fX11_requireChannel a1 = some r) : MX l E B0 yX11_requireChannel cX11_requireChannel 1 none 8 1 6 [.int a1] (fun _ => True) r (fun _ => none) (fun _ => True) nv := by
  refine mx_of (by decide +kernel) (Nat.le_of_ble_eq_true rfl) ?_
  intro p e s m args below meth c hx hb hml hown hts hrt hlocks htab hE H _ hS ls hl
  have hown : s.vm.findClass RX11 = some m.cls := hown
  have hl : lv_has ls 1 [(0, .int a1)] := hl
  have hw : ∀ w ∈ WA, w.before args s = true := fun w h => hts w (List.mem_cons_of_mem _ h)
  have hAB : ∀ q, nv q → B0 ≤ q := fun _ h => h.elim
  unfold fX11_requireChannel at hf
  refine lv_iload_n hx hb dX11_requireChannel_0 rfl (lv_at hl 0 rfl) ?_
  obtain ⟨z1, hc2, hf⟩ := br_some hf
  refine mu_cS (As := [.int a1]) (rest := []) hx hb hml hown hts hE (mX11_isChannel l E B0 a1 z1 hc2) cs_X11_402 trivial hS hAB (fun _ h => h.elim) rfl hl.1 rfl (by decide) (Nat.le_of_ble_eq_true rfl) ⟨by decide, by decide⟩ dX11_requireChannel_1 (fun H locs _ _ hu hS => ?_)
  refine lv_if_ne (tgt := 18) hx hb dX11_requireChannel_4 (by decide) (fun c3 => ?_) (fun c3 => ?_)
  · rw [if_neg c3] at hf
    have hre := Option.some.inj hf
    subst hre
    refine W.widen (k := 1) (n := 6) (by decide) (by decide) ?_
    refine mx_up (v := ()) rfl ?_
    exact mu_v hx hb hrt hlocks trivial hS dX11_requireChannel_18
  · rw [if_pos c3] at hf
    have hre := Option.some.inj hf
    subst hre
    exact mx_thrW (e9 := 0) hx hb htr htab hlocks hown hw hE th_X11_314_405_318 hS hAB (hl.1.trans hml.symm) dX11_requireChannel_7 dX11_requireChannel_10 dX11_requireChannel_11 dX11_requireChannel_14 dX11_requireChannel_17 (by decide) (Nat.le_of_ble_eq_true rfl) ⟨by decide, by decide⟩ ⟨by decide, by decide⟩ rfl rfl (fun _ _ => trivial)
noncomputable def fX11_speaker (G : Mem) (N : Mem) (a1 : Int32) : Option ((Nat ⊕ Int32)) := (fX11_requireChannel a1).bind fun z1 => sx z1 (fun e9 => some (.inl e9)) (fun v3 => (fX6_speakerOn N a1).bind fun z4 => (if 0 ≤ z4 then some (.inr z4) else some (.inl 5)))
set_option maxHeartbeats 4000000 in
set_option maxRecDepth 100000 in
theorem mX11_speaker (l : Launch) (E : EP) (B0 : Nat) (htr : l.stackTraces = false) (B : Nat) (L0 : Nat) (hb0 : B0 ≤ B) (hb1 : B + 202 ≤ L0) (G : Mem) (N : Mem) (a1 : Int32) (r : (Nat ⊕ Int32)) (hf : fX11_speaker G N a1 = some r) : MX l E B0 yX11_speaker cX11_speaker 3 (some .int) 9 2 12 [.ref (B + 0), .int a1] (fun H => Blk E B rnSh 1 G H ∧ Blk E (B + 1) netSh 15 N H) r (fun v => (some (.int v))) (fun H => Blk E B rnSh 1 G H ∧ Blk E (B + 1) netSh 15 N H) nv := by
  refine mx_of (by decide +kernel) (Nat.le_of_ble_eq_true rfl) ?_
  intro p e s m args below meth c hx hb hml hown hts hrt hlocks htab hE H hP9 hS ls hl
  obtain ⟨hG, hN⟩ := hP9
  have hown : s.vm.findClass RX11 = some m.cls := hown
  have hl : lv_has ls 3 [(0, .ref (B + 0)), (1, .int a1)] := hl
  have hw : ∀ w ∈ WA, w.before args s = true := fun w h => hts w (List.mem_cons_of_mem _ h)
  have hAB : ∀ q, nv q → B0 ≤ q := fun _ h => h.elim
  unfold fX11_speaker at hf
  refine lv_iload_n hx hb dX11_speaker_0 rfl (lv_at hl 1 rfl) ?_
  obtain ⟨z1, hc2, hf⟩ := br_some hf
  refine mx_cS (As := [.int a1]) (rest := []) htab hlocks hx hb hml hown hts hE (mX11_requireChannel l E B0 htr a1 z1 hc2) cs_X11_182 trivial hS hAB (fun _ h => h.elim) rfl hl.1 rfl (by decide) (Nat.le_of_ble_eq_true rfl) ⟨by decide, by decide⟩ ⟨by decide, by decide⟩ dX11_speaker_1 (fun e9 ee H _ _ hu => ?_) (fun v3 ev H locs _ _ hu hS => ?_)
  · have hf := sx_l ee hf
    have hG := Blk.off hG hu (fun _ _ _ h => h)
    have hN := Blk.off hN hu (fun _ _ _ h => h)
    have hre := Option.some.inj hf
    subst hre
    exact ⟨rfl, ⟨hG, hN⟩⟩
  have hf := sx_r ev hf
  have hG := Blk.off hG hu (fun _ _ _ h => h)
  have hN := Blk.off hN hu (fun _ _ _ h => h)
  refine lv_aload_n hx hb dX11_speaker_4 rfl (lv_at hl 0 rfl) ?_
  refine w_get (k := 0) (v := .ref ((B + 1) + 0)) hx hb hw hown hE fl_X11_12 hG (by decide) rfl rfl rfl dX11_speaker_5 ?_
  refine lv_iload_n hx hb dX11_speaker_8 rfl (lv_at hl 1 rfl) ?_
  obtain ⟨z4, hc5, hf⟩ := br_some hf
  refine mu_cV (As := [.int a1]) (rest := []) hx hb hml hown hts hE (mX6_speakerOn l E B0 (B + 1) (by omega) N a1 z4 hc5) cv_X11_186 (w_recv (k := 0) (ci := 6) hE hN (by decide) rfl rfl) hN hS hAB (fun _ h => h.elim) rfl hl.1 rfl (by decide) (Nat.le_of_ble_eq_true rfl) ⟨by decide, by decide⟩ dX11_speaker_9 (fun H locs hN _ hu hS => ?_)
  have hG := Blk.off hG hu (fun _ _ _ h => h)
  refine lv_istore_n (lv' := [(2, .int z4), (0, .ref (B + 0)), (1, .int a1)]) hx hb dX11_speaker_12 rfl hl (by decide) rfl (fun ls hl => ?_)
  refine lv_iload_n hx hb dX11_speaker_13 rfl (lv_at hl 0 rfl) ?_
  refine lv_if_ge (tgt := 27) hx hb dX11_speaker_14 (by decide) (fun c6 => ?_) (fun c6 => ?_)
  · rw [if_pos c6] at hf
    refine lv_iload_n hx hb dX11_speaker_27 rfl (lv_at hl 0 rfl) ?_
    have hre := Option.some.inj hf
    subst hre
    refine W.widen (k := 2) (n := 12) (by decide) (by decide) ?_
    refine mx_up (v := z4) rfl ?_
    exact mu_i (v := z4) hx hb hrt hlocks ⟨hG, hN⟩ hS dX11_speaker_28
  · rw [if_neg c6] at hf
    have hre := Option.some.inj hf
    subst hre
    exact mx_thrN (e9 := 5) hx hb htr htab hlocks hown hw hE th_X11_142_189_146 hS hAB (hl.1.trans hml.symm) dX11_speaker_17 dX11_speaker_20 dX11_speaker_21 dX11_speaker_23 dX11_speaker_26 (by decide) (Nat.le_of_ble_eq_true rfl) ⟨by decide, by decide⟩ ⟨by decide, by decide⟩ rfl rfl (fun H1 hq => ⟨Blk.ext hG hq, Blk.ext hN hq⟩)
noncomputable def fX11_lineLength (G : Mem) (N : Mem) (a1 : Int32) : Option ((Nat ⊕ Int32)) := (fX11_requireChannel a1).bind fun z1 => sx z1 (fun e9 => some (.inl e9)) (fun v3 => (fX6_waitingOn N a1).bind fun z4 => some (.inr z4))
set_option maxHeartbeats 4000000 in
set_option maxRecDepth 100000 in
theorem mX11_lineLength (l : Launch) (E : EP) (B0 : Nat) (htr : l.stackTraces = false) (B : Nat) (L0 : Nat) (hb0 : B0 ≤ B) (hb1 : B + 202 ≤ L0) (G : Mem) (N : Mem) (a1 : Int32) (r : (Nat ⊕ Int32)) (hf : fX11_lineLength G N a1 = some r) : MX l E B0 yX11_lineLength cX11_lineLength 2 (some .int) 9 1 6 [.ref (B + 0), .int a1] (fun H => Blk E B rnSh 1 G H ∧ Blk E (B + 1) netSh 15 N H) r (fun v => (some (.int v))) (fun H => Blk E B rnSh 1 G H ∧ Blk E (B + 1) netSh 15 N H) nv := by
  refine mx_of (by decide +kernel) (Nat.le_of_ble_eq_true rfl) ?_
  intro p e s m args below meth c hx hb hml hown hts hrt hlocks htab hE H hP9 hS ls hl
  obtain ⟨hG, hN⟩ := hP9
  have hown : s.vm.findClass RX11 = some m.cls := hown
  have hl : lv_has ls 2 [(0, .ref (B + 0)), (1, .int a1)] := hl
  have hw : ∀ w ∈ WA, w.before args s = true := fun w h => hts w (List.mem_cons_of_mem _ h)
  have hAB : ∀ q, nv q → B0 ≤ q := fun _ h => h.elim
  unfold fX11_lineLength at hf
  refine lv_iload_n hx hb dX11_lineLength_0 rfl (lv_at hl 1 rfl) ?_
  obtain ⟨z1, hc2, hf⟩ := br_some hf
  refine mx_cS (As := [.int a1]) (rest := []) htab hlocks hx hb hml hown hts hE (mX11_requireChannel l E B0 htr a1 z1 hc2) cs_X11_182 trivial hS hAB (fun _ h => h.elim) rfl hl.1 rfl (by decide) (Nat.le_of_ble_eq_true rfl) ⟨by decide, by decide⟩ ⟨by decide, by decide⟩ dX11_lineLength_1 (fun e9 ee H _ _ hu => ?_) (fun v3 ev H locs _ _ hu hS => ?_)
  · have hf := sx_l ee hf
    have hG := Blk.off hG hu (fun _ _ _ h => h)
    have hN := Blk.off hN hu (fun _ _ _ h => h)
    have hre := Option.some.inj hf
    subst hre
    exact ⟨rfl, ⟨hG, hN⟩⟩
  have hf := sx_r ev hf
  have hG := Blk.off hG hu (fun _ _ _ h => h)
  have hN := Blk.off hN hu (fun _ _ _ h => h)
  refine lv_aload_n hx hb dX11_lineLength_4 rfl (lv_at hl 0 rfl) ?_
  refine w_get (k := 0) (v := .ref ((B + 1) + 0)) hx hb hw hown hE fl_X11_12 hG (by decide) rfl rfl rfl dX11_lineLength_5 ?_
  refine lv_iload_n hx hb dX11_lineLength_8 rfl (lv_at hl 1 rfl) ?_
  obtain ⟨z4, hc5, hf⟩ := br_some hf
  refine mu_cV (As := [.int a1]) (rest := []) hx hb hml hown hts hE (mX6_waitingOn l E B0 (B + 1) (by omega) N a1 z4 hc5) cv_X11_191 (w_recv (k := 0) (ci := 6) hE hN (by decide) rfl rfl) hN hS hAB (fun _ h => h.elim) rfl hl.1 rfl (by decide) (Nat.le_of_ble_eq_true rfl) ⟨by decide, by decide⟩ dX11_lineLength_9 (fun H locs hN _ hu hS => ?_)
  have hG := Blk.off hG hu (fun _ _ _ h => h)
  have hre := Option.some.inj hf
  subst hre
  refine W.widen (k := 1) (n := 6) (by decide) (by decide) ?_
  refine mx_up (v := z4) rfl ?_
  exact mu_i (v := z4) hx hb hrt hlocks ⟨hG, hN⟩ hS dX11_lineLength_12
noncomputable def fX11_waiting (G : Mem) (N : Mem) (a1 : Int32) (a2 : Int32) : Option ((Nat ⊕ Int32)) := (fX11_requireChannel a1).bind fun z1 => sx z1 (fun e9 => some (.inl e9)) (fun v3 => (fX6_stationInLine N a1 a2).bind fun z4 => (if 0 ≤ z4 then some (.inr z4) else some (.inl 5)))
set_option maxHeartbeats 4000000 in
set_option maxRecDepth 100000 in
theorem mX11_waiting (l : Launch) (E : EP) (B0 : Nat) (htr : l.stackTraces = false) (B : Nat) (L0 : Nat) (hb0 : B0 ≤ B) (hb1 : B + 202 ≤ L0) (G : Mem) (N : Mem) (a1 : Int32) (a2 : Int32) (r : (Nat ⊕ Int32)) (hf : fX11_waiting G N a1 a2 = some r) : MX l E B0 yX11_waiting cX11_waiting 4 (some .int) 9 2 12 [.ref (B + 0), .int a1, .int a2] (fun H => Blk E B rnSh 1 G H ∧ Blk E (B + 1) netSh 15 N H) r (fun v => (some (.int v))) (fun H => Blk E B rnSh 1 G H ∧ Blk E (B + 1) netSh 15 N H) nv := by
  refine mx_of (by decide +kernel) (Nat.le_of_ble_eq_true rfl) ?_
  intro p e s m args below meth c hx hb hml hown hts hrt hlocks htab hE H hP9 hS ls hl
  obtain ⟨hG, hN⟩ := hP9
  have hown : s.vm.findClass RX11 = some m.cls := hown
  have hl : lv_has ls 4 [(0, .ref (B + 0)), (1, .int a1), (2, .int a2)] := hl
  have hw : ∀ w ∈ WA, w.before args s = true := fun w h => hts w (List.mem_cons_of_mem _ h)
  have hAB : ∀ q, nv q → B0 ≤ q := fun _ h => h.elim
  unfold fX11_waiting at hf
  refine lv_iload_n hx hb dX11_waiting_0 rfl (lv_at hl 1 rfl) ?_
  obtain ⟨z1, hc2, hf⟩ := br_some hf
  refine mx_cS (As := [.int a1]) (rest := []) htab hlocks hx hb hml hown hts hE (mX11_requireChannel l E B0 htr a1 z1 hc2) cs_X11_182 trivial hS hAB (fun _ h => h.elim) rfl hl.1 rfl (by decide) (Nat.le_of_ble_eq_true rfl) ⟨by decide, by decide⟩ ⟨by decide, by decide⟩ dX11_waiting_1 (fun e9 ee H _ _ hu => ?_) (fun v3 ev H locs _ _ hu hS => ?_)
  · have hf := sx_l ee hf
    have hG := Blk.off hG hu (fun _ _ _ h => h)
    have hN := Blk.off hN hu (fun _ _ _ h => h)
    have hre := Option.some.inj hf
    subst hre
    exact ⟨rfl, ⟨hG, hN⟩⟩
  have hf := sx_r ev hf
  have hG := Blk.off hG hu (fun _ _ _ h => h)
  have hN := Blk.off hN hu (fun _ _ _ h => h)
  refine lv_aload_n hx hb dX11_waiting_4 rfl (lv_at hl 0 rfl) ?_
  refine w_get (k := 0) (v := .ref ((B + 1) + 0)) hx hb hw hown hE fl_X11_12 hG (by decide) rfl rfl rfl dX11_waiting_5 ?_
  refine lv_iload_n hx hb dX11_waiting_8 rfl (lv_at hl 1 rfl) ?_
  refine lv_iload_n hx hb dX11_waiting_9 rfl (lv_at hl 2 rfl) ?_
  obtain ⟨z4, hc5, hf⟩ := br_some hf
  refine mu_cV (As := [.int a1, .int a2]) (rest := []) hx hb hml hown hts hE (mX6_stationInLine l E B0 (B + 1) (by omega) N a1 a2 z4 hc5) cv_X11_194 (w_recv (k := 0) (ci := 6) hE hN (by decide) rfl rfl) hN hS hAB (fun _ h => h.elim) rfl hl.1 rfl (by decide) (Nat.le_of_ble_eq_true rfl) ⟨by decide, by decide⟩ dX11_waiting_10 (fun H locs hN _ hu hS => ?_)
  have hG := Blk.off hG hu (fun _ _ _ h => h)
  refine lv_istore_n (lv' := [(3, .int z4), (0, .ref (B + 0)), (1, .int a1), (2, .int a2)]) hx hb dX11_waiting_13 rfl hl (by decide) rfl (fun ls hl => ?_)
  refine lv_iload_n hx hb dX11_waiting_14 rfl (lv_at hl 0 rfl) ?_
  refine lv_if_ge (tgt := 28) hx hb dX11_waiting_15 (by decide) (fun c6 => ?_) (fun c6 => ?_)
  · rw [if_pos c6] at hf
    refine lv_iload_n hx hb dX11_waiting_28 rfl (lv_at hl 0 rfl) ?_
    have hre := Option.some.inj hf
    subst hre
    refine W.widen (k := 2) (n := 12) (by decide) (by decide) ?_
    refine mx_up (v := z4) rfl ?_
    exact mu_i (v := z4) hx hb hrt hlocks ⟨hG, hN⟩ hS dX11_waiting_29
  · rw [if_neg c6] at hf
    have hre := Option.some.inj hf
    subst hre
    exact mx_thrN (e9 := 5) hx hb htr htab hlocks hown hw hE th_X11_142_197_146 hS hAB (hl.1.trans hml.symm) dX11_waiting_18 dX11_waiting_21 dX11_waiting_22 dX11_waiting_24 dX11_waiting_27 (by decide) (Nat.le_of_ble_eq_true rfl) ⟨by decide, by decide⟩ ⟨by decide, by decide⟩ rfl rfl (fun H1 hq => ⟨Blk.ext hG hq, Blk.ext hN hq⟩)
noncomputable def fX11_minutesUntilTurn (G : Mem) (N : Mem) (a1 : Int32) : Option ((Nat ⊕ Int32)) := (fX6_faultOfMode N a1 (2 : Int32)).bind fun z1 => (fX11_refuse z1).bind fun z3 => sx z3 (fun e9 => some (.inl e9)) (fun v5 => (fX6_computedMinutes N a1).bind fun z6 => some (.inr z6))
set_option maxHeartbeats 4000000 in
set_option maxRecDepth 100000 in
theorem mX11_minutesUntilTurn (l : Launch) (E : EP) (B0 : Nat) (htr : l.stackTraces = false) (B : Nat) (L0 : Nat) (hb0 : B0 ≤ B) (hb1 : B + 202 ≤ L0) (G : Mem) (N : Mem) (a1 : Int32) (r : (Nat ⊕ Int32)) (hf : fX11_minutesUntilTurn G N a1 = some r) : MX l E B0 yX11_minutesUntilTurn cX11_minutesUntilTurn 2 (some .int) 9 1 6 [.ref (B + 0), .int a1] (fun H => Blk E B rnSh 1 G H ∧ Blk E (B + 1) netSh 15 N H) r (fun v => (some (.int v))) (fun H => Blk E B rnSh 1 G H ∧ Blk E (B + 1) netSh 15 N H) nv := by
  refine mx_of (by decide +kernel) (Nat.le_of_ble_eq_true rfl) ?_
  intro p e s m args below meth c hx hb hml hown hts hrt hlocks htab hE H hP9 hS ls hl
  obtain ⟨hG, hN⟩ := hP9
  have hown : s.vm.findClass RX11 = some m.cls := hown
  have hl : lv_has ls 2 [(0, .ref (B + 0)), (1, .int a1)] := hl
  have hw : ∀ w ∈ WA, w.before args s = true := fun w h => hts w (List.mem_cons_of_mem _ h)
  have hAB : ∀ q, nv q → B0 ≤ q := fun _ h => h.elim
  unfold fX11_minutesUntilTurn at hf
  refine lv_aload_n hx hb dX11_minutesUntilTurn_0 rfl (lv_at hl 0 rfl) ?_
  refine w_get (k := 0) (v := .ref ((B + 1) + 0)) hx hb hw hown hE fl_X11_12 hG (by decide) rfl rfl rfl dX11_minutesUntilTurn_1 ?_
  refine lv_iload_n hx hb dX11_minutesUntilTurn_4 rfl (lv_at hl 1 rfl) ?_
  refine w_gs (i := 2) (z := 2) hx hb hw hown (EV.en0 hE) (by decide) hS hAB gs_X11_119 (by decide) dX11_minutesUntilTurn_5 ?_
  obtain ⟨z1, hc2, hf⟩ := br_some hf
  refine mu_cV (As := [.int a1, .ref (E.2.2 0 (2 : Int32).toNatClampNeg)]) (rest := []) hx hb hml hown hts hE (mX6_faultOfMode l E B0 (B + 1) (by omega) N a1 (2 : Int32) z1 hc2) cv_X11_105 (w_recv (k := 0) (ci := 6) hE hN (by decide) rfl rfl) hN hS hAB (fun _ h => h.elim) rfl hl.1 rfl (by decide) (Nat.le_of_ble_eq_true rfl) ⟨by decide, by decide⟩ dX11_minutesUntilTurn_8 (fun H locs hN _ hu hS => ?_)
  have hG := Blk.off hG hu (fun _ _ _ h => h)
  obtain ⟨z3, hc4, hf⟩ := br_some hf
  refine mx_cS (As := [.ref (E.2.2 1 z1.toNatClampNeg)]) (rest := []) htab hlocks hx hb hml hown hts hE (mX11_refuse l E B0 htr z1 z3 hc4) cs_X11_65 trivial hS hAB (fun _ h => h.elim) rfl hl.1 rfl (by decide) (Nat.le_of_ble_eq_true rfl) ⟨by decide, by decide⟩ ⟨by decide, by decide⟩ dX11_minutesUntilTurn_11 (fun e9 ee H _ _ hu => ?_) (fun v5 ev H locs _ _ hu hS => ?_)
  · have hf := sx_l ee hf
    have hG := Blk.off hG hu (fun _ _ _ h => h)
    have hN := Blk.off hN hu (fun _ _ _ h => h)
    have hre := Option.some.inj hf
    subst hre
    exact ⟨rfl, ⟨hG, hN⟩⟩
  have hf := sx_r ev hf
  have hG := Blk.off hG hu (fun _ _ _ h => h)
  have hN := Blk.off hN hu (fun _ _ _ h => h)
  refine lv_aload_n hx hb dX11_minutesUntilTurn_14 rfl (lv_at hl 0 rfl) ?_
  refine w_get (k := 0) (v := .ref ((B + 1) + 0)) hx hb hw hown hE fl_X11_12 hG (by decide) rfl rfl rfl dX11_minutesUntilTurn_15 ?_
  refine lv_iload_n hx hb dX11_minutesUntilTurn_18 rfl (lv_at hl 1 rfl) ?_
  obtain ⟨z6, hc7, hf⟩ := br_some hf
  refine mu_cV (As := [.int a1]) (rest := []) hx hb hml hown hts hE (mX6_computedMinutes l E B0 (B + 1) (by omega) N a1 z6 hc7) cv_X11_199 (w_recv (k := 0) (ci := 6) hE hN (by decide) rfl rfl) hN hS hAB (fun _ h => h.elim) rfl hl.1 rfl (by decide) (Nat.le_of_ble_eq_true rfl) ⟨by decide, by decide⟩ dX11_minutesUntilTurn_19 (fun H locs hN _ hu hS => ?_)
  have hG := Blk.off hG hu (fun _ _ _ h => h)
  have hre := Option.some.inj hf
  subst hre
  refine W.widen (k := 1) (n := 6) (by decide) (by decide) ?_
  refine mx_up (v := z6) rfl ?_
  exact mu_i (v := z6) hx hb hrt hlocks ⟨hG, hN⟩ hS dX11_minutesUntilTurn_22
noncomputable def fX11_simulatedMinutes_s (G : Mem) (N : Mem) (a1 : Int32) (z : Int32 × Mem) : Option ((Int32 × Mem) ⊕ (Int32 × Mem)) := (if (480 : Int32) < z.1 then some (.inr (-1, z.2)) else (fX6_passMinute z.2).bind fun z2 => gd (inb a1 8) (gd (inb (z2.2 (2 + 1 * a1.toNatClampNeg) 6) 3) ((if (z2.2 (2 + 1 * a1.toNatClampNeg) 6) = (1 : Int32) then some (.inr (z.1, z2.2)) else some (.inl ((z.1 + 1), z2.2))))))
noncomputable def fX11_simulatedMinutes (G : Mem) (N : Mem) (T : Mem) (a1 : Int32) : Option (Int32 × Mem) := (fX6_copyFrom T N).bind fun z7 => lp (fX11_simulatedMinutes_s G N a1) (1, z7)
set_option maxHeartbeats 4000000 in
set_option maxRecDepth 100000 in
theorem mX11_simulatedMinutes (l : Launch) (E : EP) (B0 : Nat) (B : Nat) (L0 : Nat) (hb0 : B0 ≤ B) (hb1 : B + 202 ≤ L0) (G : Mem) (N : Mem) (T : Mem) (a1 : Int32) (r : Int32 × Mem) (hf : fX11_simulatedMinutes G N T a1 = some r) : MU l E B0 yX11_simulatedMinutes cX11_simulatedMinutes 3 (some .int) 4 0 0 [.ref (B + 0), .int a1] (fun H => Blk E B rnSh 1 G H ∧ Blk E (B + 1) netSh 15 N H ∧ Blk E (B + 16) netSh 15 T H) (some (.int r.1)) (fun H => Blk E B rnSh 1 G H ∧ Blk E (B + 1) netSh 15 N H ∧ Blk E (B + 16) netSh 15 r.2 H) (iv (B + 16) 15) := by
  refine mu_of (by decide +kernel) (Nat.le_of_ble_eq_true rfl) ?_
  intro p e s m args below meth c hx hb hml hown hts hrt hlocks hE H hP9 hS ls hl
  obtain ⟨hG, hN, hT⟩ := hP9
  have hown : s.vm.findClass RX11 = some m.cls := hown
  have hl : lv_has ls 3 [(0, .ref (B + 0)), (1, .int a1)] := hl
  have hw : ∀ w ∈ WA, w.before args s = true := fun w h => hts w (List.mem_cons_of_mem _ h)
  have hAB : ∀ q, (iv (B + 16) 15) q → B0 ≤ q := (iv_ge (by omega))
  unfold fX11_simulatedMinutes at hf
  have loop : ∀ (fu : Nat) (z : Int32 × Mem), lpI (fX11_simulatedMinutes_s G N a1) fu z = some r → (∀ (H : Heap) (locs : List Loc) (ls : Array Slot), Blk E B rnSh 1 G H → Blk E (B + 1) netSh 15 N H → Blk E (B + 16) netSh 15 z.2 H → va_S (iv (B + 16) 15) s.heap H locs → lv_has ls 3 [(0, .ref (B + 0)), (1, .int a1), (2, .int z.1)] → W p l e (rmD 4 0 0) s m args below meth c H locs 0 0 (MQ below (QU (some (.int r.1)) (fun H => Blk E B rnSh 1 G H ∧ Blk E (B + 1) netSh 15 N H ∧ Blk E (B + 16) netSh 15 r.2 H) (iv (B + 16) 15)) args s 0 0 (iv (B + 16) 15)) (F0 m 13 ls [])) := by
    intro fu
    induction fu with
    | zero =>
      intro z hn
      exact nomatch hn
    | succ fu ih =>
      intro z hn
      obtain ⟨y, hf, hy⟩ := lpI_succ hn
      intro H locs ls hG hN hT hS hl
      unfold fX11_simulatedMinutes_s at hf
      refine lv_iload_n hx hb dX11_simulatedMinutes_13 rfl (lv_at hl 2 rfl) ?_
      refine lv_sipush (v := 480) hx hb dX11_simulatedMinutes_14 (by decide) ?_
      refine lv_icmp_gt (tgt := 54) hx hb dX11_simulatedMinutes_17 (by decide) (fun c1 => ?_) (fun c1 => ?_)
      · rw [if_pos c1] at hf
        refine lv_iconst (v := -1) hx hb dX11_simulatedMinutes_54 (by decide) ?_
        have hre := lp_end hy (Option.some.inj hf).symm
        subst hre
        exact mu_i (v := -1) hx hb hrt hlocks ⟨hG, hN, hT⟩ hS dX11_simulatedMinutes_55
      · rw [if_neg c1] at hf
        refine lv_aload_n hx hb dX11_simulatedMinutes_20 rfl (lv_at hl 0 rfl) ?_
        refine w_get (k := 0) (v := .ref ((B + 16) + 0)) hx hb hw hown hE fl_X11_16 hG (by decide) rfl rfl rfl dX11_simulatedMinutes_21 ?_
        obtain ⟨z2, hc3, hf⟩ := br_some hf
        refine mu_cV (As := []) (rest := []) hx hb hml hown hts hE (mX6_passMinute l E B0 (B + 16) (by omega) z.2 z2 hc3) cv_X11_418 (w_recv (k := 0) (ci := 6) hE hT (by decide) rfl rfl) hT hS hAB (fun _ h => h) rfl hl.1 rfl (by decide) (Nat.le_of_ble_eq_true rfl) ⟨Nat.le_refl _, Nat.le_refl _⟩ dX11_simulatedMinutes_24 (fun H locs hT _ hu hS => ?_)
        have hG := Blk.off hG hu (iv_dis (by omega))
        have hN := Blk.off hN hu (iv_dis (by omega))
        refine lv_pop hx hb dX11_simulatedMinutes_27 rfl ?_
        refine lv_aload_n hx hb dX11_simulatedMinutes_28 rfl (lv_at hl 0 rfl) ?_
        refine w_get (k := 0) (v := .ref ((B + 16) + 0)) hx hb hw hown hE fl_X11_16 hG (by decide) rfl rfl rfl dX11_simulatedMinutes_29 ?_
        refine w_get (k := 0) (v := .ref ((B + 16) + 1)) hx hb hw hown hE fl_X11_308 hT (by decide) rfl rfl rfl dX11_simulatedMinutes_32 ?_
        refine lv_iload_n hx hb dX11_simulatedMinutes_35 rfl (lv_at hl 1 rfl) ?_
        obtain ⟨h4, hf⟩ := gd_some hf
        refine w_aald (k := 1) (j := 0) (x9 := a1.toNatClampNeg) hx hb hE hT (by decide) rfl rfl rfl h4 dX11_simulatedMinutes_36 ?_
        refine w_get (k := (2 + 1 * a1.toNatClampNeg)) (v := .ref (E.2.2 0 (z2.2 (2 + 1 * a1.toNatClampNeg) 6).toNatClampNeg)) hx hb hw hown hE fl_X11_168 hT (stn_lt (stn_ld h4)) (stn_sh (stn_ld h4)) rfl rfl dX11_simulatedMinutes_37 ?_
        refine w_gs (i := 1) (z := 1) hx hb hw hown (EV.en0 hE) (by decide) hS hAB gs_X11_113 (by decide) dX11_simulatedMinutes_40 ?_
        obtain ⟨h5, hf⟩ := gd_some hf
        refine w_acmpE_ne (tgt := 48) hx hb (EV.en0 hE) h5 (by decide) dX11_simulatedMinutes_43 (by decide) (fun c6 => ?_) (fun c6 => ?_)
        · rw [if_neg c6] at hf
          refine lv_iinc (v := (z.1 + 1)) (lv' := [(2, .int (z.1 + 1)), (0, .ref (B + 0)), (1, .int a1)]) hx hb dX11_simulatedMinutes_48 hl (k := 2) rfl rfl (by decide) rfl (fun ls hl => ?_)
          refine lv_goto (tgt := 13) hx hb dX11_simulatedMinutes_51 (by decide) ?_
          exact ih ((z.1 + 1), z2.2) (lp_back hy (Option.some.inj hf).symm) _ _ _ hG hN hT hS (lv_sub hl [1, 2, 0] rfl)
        · rw [if_pos c6] at hf
          refine lv_iload_n hx hb dX11_simulatedMinutes_46 rfl (lv_at hl 2 rfl) ?_
          have hre := lp_end hy (Option.some.inj hf).symm
          subst hre
          exact mu_i (v := z.1) hx hb hrt hlocks ⟨hG, hN, hT⟩ hS dX11_simulatedMinutes_47
  refine lv_aload_n hx hb dX11_simulatedMinutes_0 rfl (lv_at hl 0 rfl) ?_
  refine w_get (k := 0) (v := .ref ((B + 16) + 0)) hx hb hw hown hE fl_X11_16 hG (by decide) rfl rfl rfl dX11_simulatedMinutes_1 ?_
  refine lv_aload_n hx hb dX11_simulatedMinutes_4 rfl (lv_at hl 0 rfl) ?_
  refine w_get (k := 0) (v := .ref ((B + 1) + 0)) hx hb hw hown hE fl_X11_12 hG (by decide) rfl rfl rfl dX11_simulatedMinutes_5 ?_
  obtain ⟨z7, hc8, hf⟩ := br_some hf
  refine mu_cV (As := [.ref ((B + 1) + 0)]) (rest := []) hx hb hml hown hts hE (mX6_copyFrom l E B0 (B + 16) (B + 1) (by omega) (by omega) (by omega) T N z7 hc8) cv_X11_344 (w_recv (k := 0) (ci := 6) hE hT (by decide) rfl rfl) ⟨hT, hN⟩ hS hAB (fun _ h => h) rfl hl.1 rfl (by decide) (Nat.le_of_ble_eq_true rfl) ⟨Nat.le_refl _, Nat.le_refl _⟩ dX11_simulatedMinutes_8 (fun H locs hP9 _ hu hS => ?_)
  obtain ⟨hT, hN⟩ := hP9
  have hG := Blk.off hG hu (iv_dis (by omega))
  refine lv_iconst (v := 1) hx hb dX11_simulatedMinutes_11 (by decide) ?_
  refine lv_istore_n (lv' := [(2, .int 1), (0, .ref (B + 0)), (1, .int a1)]) hx hb dX11_simulatedMinutes_12 rfl hl (by decide) rfl (fun ls hl => ?_)
  obtain ⟨fu, hfu⟩ := lp_some hf
  exact (loop fu (1, z7) hfu) _ _ _ hG hN hT hS (lv_sub hl [1, 2, 0] rfl)
noncomputable def fX11_minutesUntilTurnBySimulation (G : Mem) (N : Mem) (T : Mem) (a1 : Int32) : Option ((Nat ⊕ Int32) × Mem) := (fX6_faultOfMode N a1 (2 : Int32)).bind fun z1 => (fX11_refuse z1).bind fun z3 => sx z3 (fun e9 => some (.inl e9, T)) (fun v5 => (fX11_simulatedMinutes G N T a1).bind fun z6 => some (.inr z6.1, z6.2))
set_option maxHeartbeats 4000000 in
set_option maxRecDepth 100000 in
theorem mX11_minutesUntilTurnBySimulation (l : Launch) (E : EP) (B0 : Nat) (htr : l.stackTraces = false) (B : Nat) (L0 : Nat) (hb0 : B0 ≤ B) (hb1 : B + 202 ≤ L0) (G : Mem) (N : Mem) (T : Mem) (a1 : Int32) (r : (Nat ⊕ Int32) × Mem) (hf : fX11_minutesUntilTurnBySimulation G N T a1 = some r) : MX l E B0 yX11_minutesUntilTurnBySimulation cX11_minutesUntilTurnBySimulation 2 (some .int) 9 1 6 [.ref (B + 0), .int a1] (fun H => Blk E B rnSh 1 G H ∧ Blk E (B + 1) netSh 15 N H ∧ Blk E (B + 16) netSh 15 T H) r.1 (fun v => (some (.int v))) (fun H => Blk E B rnSh 1 G H ∧ Blk E (B + 1) netSh 15 N H ∧ Blk E (B + 16) netSh 15 r.2 H) (iv (B + 16) 15) := by
  refine mx_of (by decide +kernel) (Nat.le_of_ble_eq_true rfl) ?_
  intro p e s m args below meth c hx hb hml hown hts hrt hlocks htab hE H hP9 hS ls hl
  obtain ⟨hG, hN, hT⟩ := hP9
  have hown : s.vm.findClass RX11 = some m.cls := hown
  have hl : lv_has ls 2 [(0, .ref (B + 0)), (1, .int a1)] := hl
  have hw : ∀ w ∈ WA, w.before args s = true := fun w h => hts w (List.mem_cons_of_mem _ h)
  have hAB : ∀ q, (iv (B + 16) 15) q → B0 ≤ q := (iv_ge (by omega))
  unfold fX11_minutesUntilTurnBySimulation at hf
  refine lv_aload_n hx hb dX11_minutesUntilTurnBySimulation_0 rfl (lv_at hl 0 rfl) ?_
  refine w_get (k := 0) (v := .ref ((B + 1) + 0)) hx hb hw hown hE fl_X11_12 hG (by decide) rfl rfl rfl dX11_minutesUntilTurnBySimulation_1 ?_
  refine lv_iload_n hx hb dX11_minutesUntilTurnBySimulation_4 rfl (lv_at hl 1 rfl) ?_
  refine w_gs (i := 2) (z := 2) hx hb hw hown (EV.en0 hE) (by decide) hS hAB gs_X11_119 (by decide) dX11_minutesUntilTurnBySimulation_5 ?_
  obtain ⟨z1, hc2, hf⟩ := br_some hf
  refine mu_cV (As := [.int a1, .ref (E.2.2 0 (2 : Int32).toNatClampNeg)]) (rest := []) hx hb hml hown hts hE (mX6_faultOfMode l E B0 (B + 1) (by omega) N a1 (2 : Int32) z1 hc2) cv_X11_105 (w_recv (k := 0) (ci := 6) hE hN (by decide) rfl rfl) hN hS hAB (fun _ h => h.elim) rfl hl.1 rfl (by decide) (Nat.le_of_ble_eq_true rfl) ⟨by decide, by decide⟩ dX11_minutesUntilTurnBySimulation_8 (fun H locs hN _ hu hS => ?_)
  have hG := Blk.off hG hu (fun _ _ _ h => h)
  have hT := Blk.off hT hu (fun _ _ _ h => h)
  obtain ⟨z3, hc4, hf⟩ := br_some hf
  refine mx_cS (As := [.ref (E.2.2 1 z1.toNatClampNeg)]) (rest := []) htab hlocks hx hb hml hown hts hE (mX11_refuse l E B0 htr z1 z3 hc4) cs_X11_65 trivial hS hAB (fun _ h => h.elim) rfl hl.1 rfl (by decide) (Nat.le_of_ble_eq_true rfl) ⟨by decide, by decide⟩ ⟨by decide, by decide⟩ dX11_minutesUntilTurnBySimulation_11 (fun e9 ee H _ _ hu => ?_) (fun v5 ev H locs _ _ hu hS => ?_)
  · have hf := sx_l ee hf
    have hG := Blk.off hG hu (fun _ _ _ h => h)
    have hN := Blk.off hN hu (fun _ _ _ h => h)
    have hT := Blk.off hT hu (fun _ _ _ h => h)
    have hre := Option.some.inj hf
    subst hre
    exact ⟨rfl, ⟨hG, hN, hT⟩⟩
  have hf := sx_r ev hf
  have hG := Blk.off hG hu (fun _ _ _ h => h)
  have hN := Blk.off hN hu (fun _ _ _ h => h)
  have hT := Blk.off hT hu (fun _ _ _ h => h)
  refine lv_aload_n hx hb dX11_minutesUntilTurnBySimulation_14 rfl (lv_at hl 0 rfl) ?_
  refine lv_iload_n hx hb dX11_minutesUntilTurnBySimulation_15 rfl (lv_at hl 1 rfl) ?_
  obtain ⟨z6, hc7, hf⟩ := br_some hf
  refine mu_cV (As := [.int a1]) (rest := []) hx hb hml hown hts hE (mX11_simulatedMinutes l E B0 B L0 (by omega) (by omega) G N T a1 z6 hc7) cv_X11_202 (w_recv (k := 0) (ci := 11) hE hG (by decide) rfl rfl) ⟨hG, hN, hT⟩ hS hAB (fun _ h => h) rfl hl.1 rfl (by decide) (Nat.le_of_ble_eq_true rfl) ⟨by decide, by decide⟩ dX11_minutesUntilTurnBySimulation_16 (fun H locs hP9 _ hu hS => ?_)
  obtain ⟨hG, hN, hT⟩ := hP9
  have hre := Option.some.inj hf
  subst hre
  refine W.widen (k := 1) (n := 6) (by decide) (by decide) ?_
  refine mx_up (v := z6.1) rfl ?_
  exact mu_i (v := z6.1) hx hb hrt hlocks ⟨hG, hN, hT⟩ hS dX11_minutesUntilTurnBySimulation_19
def fX11_canHear (G : Mem) (N : Mem) (a1 : Int32) (a2 : Int32) : Option ((Nat ⊕ Int32)) := (fX11_known G N a1).bind fun z1 => sx z1 (fun e9 => some (.inl e9)) (fun v3 => gd (stn v3) ((fX11_known G N a2).bind fun z5 => sx z5 (fun e9 => some (.inl e9)) (fun v7 => gd (stn v7) ((fX9_hears N v3 v7).bind fun z9 => gd (isZ z9) (some (.inr z9))))))
set_option maxHeartbeats 4000000 in
set_option maxRecDepth 100000 in
theorem mX11_canHear (l : Launch) (E : EP) (B0 : Nat) (htr : l.stackTraces = false) (B : Nat) (L0 : Nat) (hb0 : B0 ≤ B) (hb1 : B + 202 ≤ L0) (G : Mem) (N : Mem) (a1 : Int32) (a2 : Int32) (r : (Nat ⊕ Int32)) (hf : fX11_canHear G N a1 a2 = some r) : MX l E B0 yX11_canHear cX11_canHear 3 (some .boolean) 10 2 12 [.ref (B + 0), .int a1, .int a2] (fun H => Blk E B rnSh 1 G H ∧ Blk E (B + 1) netSh 15 N H) r (fun v => (some (.int v))) (fun H => Blk E B rnSh 1 G H ∧ Blk E (B + 1) netSh 15 N H) nv := by
  refine mx_of (by decide +kernel) (Nat.le_of_ble_eq_true rfl) ?_
  intro p e s m args below meth c hx hb hml hown hts hrt hlocks htab hE H hP9 hS ls hl
  obtain ⟨hG, hN⟩ := hP9
  have hown : s.vm.findClass RX11 = some m.cls := hown
  have hl : lv_has ls 3 [(0, .ref (B + 0)), (1, .int a1), (2, .int a2)] := hl
  have hw : ∀ w ∈ WA, w.before args s = true := fun w h => hts w (List.mem_cons_of_mem _ h)
  have hAB : ∀ q, nv q → B0 ≤ q := fun _ h => h.elim
  unfold fX11_canHear at hf
  refine lv_aload_n hx hb dX11_canHear_0 rfl (lv_at hl 0 rfl) ?_
  refine lv_iload_n hx hb dX11_canHear_1 rfl (lv_at hl 1 rfl) ?_
  obtain ⟨z1, hc2, hf⟩ := br_some hf
  refine mx_cV (As := [.int a1]) (rest := []) htab hlocks hx hb hml hown hts hE (mX11_known l E B0 htr B L0 (by omega) (by omega) G N a1 z1 hc2) cv_X11_149 (w_recv (k := 0) (ci := 11) hE hG (by decide) rfl rfl) ⟨hG, hN⟩ hS hAB (fun _ h => h.elim) rfl hl.1 rfl (by decide) (Nat.le_of_ble_eq_true rfl) ⟨by decide, by decide⟩ ⟨by decide, by decide⟩ dX11_canHear_2 (fun e9 ee H hP9 _ hu => ?_) (fun v3 ev H locs hP9 _ hu hS => ?_)
  · have hf := sx_l ee hf
    obtain ⟨hG, hN⟩ := hP9
    have hre := Option.some.inj hf
    subst hre
    exact ⟨rfl, ⟨hG, hN⟩⟩
  have hf := sx_r ev hf
  obtain ⟨hG, hN⟩ := hP9
  obtain ⟨h4, hf⟩ := gd_some hf
  refine lv_aload_n hx hb dX11_canHear_5 rfl (lv_at hl 0 rfl) ?_
  refine lv_iload_n hx hb dX11_canHear_6 rfl (lv_at hl 2 rfl) ?_
  obtain ⟨z5, hc6, hf⟩ := br_some hf
  refine mx_cV (As := [.int a2]) (rest := [.ref ((B + 1) + v3)]) htab hlocks hx hb hml hown hts hE (mX11_known l E B0 htr B L0 (by omega) (by omega) G N a2 z5 hc6) cv_X11_149 (w_recv (k := 0) (ci := 11) hE hG (by decide) rfl rfl) ⟨hG, hN⟩ hS hAB (fun _ h => h.elim) rfl hl.1 rfl (by decide) (Nat.le_of_ble_eq_true rfl) ⟨by decide, by decide⟩ ⟨by decide, by decide⟩ dX11_canHear_7 (fun e9 ee H hP9 _ hu => ?_) (fun v7 ev H locs hP9 _ hu hS => ?_)
  · have hf := sx_l ee hf
    obtain ⟨hG, hN⟩ := hP9
    have hre := Option.some.inj hf
    subst hre
    exact ⟨rfl, ⟨hG, hN⟩⟩
  have hf := sx_r ev hf
  obtain ⟨hG, hN⟩ := hP9
  obtain ⟨h8, hf⟩ := gd_some hf
  obtain ⟨z9, hc10, hf⟩ := br_some hf
  refine mu_cV (As := [.ref ((B + 1) + v7)]) (rest := []) hx hb hml hown hts hE (mX9_hears l E B0 (B + 1) (by omega) N v3 v7 z9 hc10) cv_X11_205 (w_recv (k := v3) (ci := 9) hE hN (stn_lt h4) (stn_sh h4) rfl) hN hS hAB (fun _ h => h.elim) rfl hl.1 rfl (by decide) (Nat.le_of_ble_eq_true rfl) ⟨by decide, by decide⟩ dX11_canHear_10 (fun H locs hN _ hu hS => ?_)
  have hG := Blk.off hG hu (fun _ _ _ h => h)
  obtain ⟨h11, hf⟩ := gd_some hf
  have hre := Option.some.inj hf
  subst hre
  refine W.widen (k := 2) (n := 12) (by decide) (by decide) ?_
  refine mx_up (v := z9) rfl ?_
  exact mu_z (v := z9) hx hb hrt (isZ_n h11) hlocks ⟨hG, hN⟩ hS dX11_canHear_13
noncomputable def fX11_isJammed (G : Mem) (N : Mem) (a1 : Int32) : Option ((Nat ⊕ Int32)) := (fX11_known G N a1).bind fun z1 => sx z1 (fun e9 => some (.inl e9)) (fun v3 => gd (stn v3) ((fX6_anyJams N v3).bind fun z5 => gd (isZ z5) (some (.inr z5))))
set_option maxHeartbeats 4000000 in
set_option maxRecDepth 100000 in
theorem mX11_isJammed (l : Launch) (E : EP) (B0 : Nat) (htr : l.stackTraces = false) (B : Nat) (L0 : Nat) (hb0 : B0 ≤ B) (hb1 : B + 202 ≤ L0) (G : Mem) (N : Mem) (a1 : Int32) (r : (Nat ⊕ Int32)) (hf : fX11_isJammed G N a1 = some r) : MX l E B0 yX11_isJammed cX11_isJammed 2 (some .boolean) 10 1 6 [.ref (B + 0), .int a1] (fun H => Blk E B rnSh 1 G H ∧ Blk E (B + 1) netSh 15 N H) r (fun v => (some (.int v))) (fun H => Blk E B rnSh 1 G H ∧ Blk E (B + 1) netSh 15 N H) nv := by
  refine mx_of (by decide +kernel) (Nat.le_of_ble_eq_true rfl) ?_
  intro p e s m args below meth c hx hb hml hown hts hrt hlocks htab hE H hP9 hS ls hl
  obtain ⟨hG, hN⟩ := hP9
  have hown : s.vm.findClass RX11 = some m.cls := hown
  have hl : lv_has ls 2 [(0, .ref (B + 0)), (1, .int a1)] := hl
  have hw : ∀ w ∈ WA, w.before args s = true := fun w h => hts w (List.mem_cons_of_mem _ h)
  have hAB : ∀ q, nv q → B0 ≤ q := fun _ h => h.elim
  unfold fX11_isJammed at hf
  refine lv_aload_n hx hb dX11_isJammed_0 rfl (lv_at hl 0 rfl) ?_
  refine w_get (k := 0) (v := .ref ((B + 1) + 0)) hx hb hw hown hE fl_X11_12 hG (by decide) rfl rfl rfl dX11_isJammed_1 ?_
  refine lv_aload_n hx hb dX11_isJammed_4 rfl (lv_at hl 0 rfl) ?_
  refine lv_iload_n hx hb dX11_isJammed_5 rfl (lv_at hl 1 rfl) ?_
  obtain ⟨z1, hc2, hf⟩ := br_some hf
  refine mx_cV (As := [.int a1]) (rest := [.ref ((B + 1) + 0)]) htab hlocks hx hb hml hown hts hE (mX11_known l E B0 htr B L0 (by omega) (by omega) G N a1 z1 hc2) cv_X11_149 (w_recv (k := 0) (ci := 11) hE hG (by decide) rfl rfl) ⟨hG, hN⟩ hS hAB (fun _ h => h.elim) rfl hl.1 rfl (by decide) (Nat.le_of_ble_eq_true rfl) ⟨by decide, by decide⟩ ⟨by decide, by decide⟩ dX11_isJammed_6 (fun e9 ee H hP9 _ hu => ?_) (fun v3 ev H locs hP9 _ hu hS => ?_)
  · have hf := sx_l ee hf
    obtain ⟨hG, hN⟩ := hP9
    have hre := Option.some.inj hf
    subst hre
    exact ⟨rfl, ⟨hG, hN⟩⟩
  have hf := sx_r ev hf
  obtain ⟨hG, hN⟩ := hP9
  obtain ⟨h4, hf⟩ := gd_some hf
  obtain ⟨z5, hc6, hf⟩ := br_some hf
  refine mu_cV (As := [.ref ((B + 1) + v3)]) (rest := []) hx hb hml hown hts hE (mX6_anyJams l E B0 (B + 1) (by omega) N v3 z5 hc6) cv_X11_209 (w_recv (k := 0) (ci := 6) hE hN (by decide) rfl rfl) hN hS hAB (fun _ h => h.elim) rfl hl.1 rfl (by decide) (Nat.le_of_ble_eq_true rfl) ⟨by decide, by decide⟩ dX11_isJammed_9 (fun H locs hN _ hu hS => ?_)
  have hG := Blk.off hG hu (fun _ _ _ h => h)
  obtain ⟨h7, hf⟩ := gd_some hf
  have hre := Option.some.inj hf
  subst hre
  refine W.widen (k := 1) (n := 6) (by decide) (by decide) ?_
  refine mx_up (v := z5) rfl ?_
  exact mu_z (v := z5) hx hb hrt (isZ_n h7) hlocks ⟨hG, hN⟩ hS dX11_isJammed_12
noncomputable def fX11_jams (G : Mem) (N : Mem) : Option (Int32) := (fX6_jamsOfStations N).bind fun z1 => some z1
set_option maxHeartbeats 4000000 in
set_option maxRecDepth 100000 in
theorem mX11_jams (l : Launch) (E : EP) (B0 : Nat) (B : Nat) (L0 : Nat) (hb0 : B0 ≤ B) (hb1 : B + 202 ≤ L0) (G : Mem) (N : Mem) (r : Int32) (hf : fX11_jams G N = some r) : MU l E B0 yX11_jams cX11_jams 1 (some .int) 3 0 0 [.ref (B + 0)] (fun H => Blk E B rnSh 1 G H ∧ Blk E (B + 1) netSh 15 N H) (some (.int r)) (fun H => Blk E B rnSh 1 G H ∧ Blk E (B + 1) netSh 15 N H) nv := by
  refine mu_of (by decide +kernel) (Nat.le_of_ble_eq_true rfl) ?_
  intro p e s m args below meth c hx hb hml hown hts hrt hlocks hE H hP9 hS ls hl
  obtain ⟨hG, hN⟩ := hP9
  have hown : s.vm.findClass RX11 = some m.cls := hown
  have hl : lv_has ls 1 [(0, .ref (B + 0))] := hl
  have hw : ∀ w ∈ WA, w.before args s = true := fun w h => hts w (List.mem_cons_of_mem _ h)
  have hAB : ∀ q, nv q → B0 ≤ q := fun _ h => h.elim
  unfold fX11_jams at hf
  refine lv_aload_n hx hb dX11_jams_0 rfl (lv_at hl 0 rfl) ?_
  refine w_get (k := 0) (v := .ref ((B + 1) + 0)) hx hb hw hown hE fl_X11_12 hG (by decide) rfl rfl rfl dX11_jams_1 ?_
  obtain ⟨z1, hc2, hf⟩ := br_some hf
  refine mu_cV (As := []) (rest := []) hx hb hml hown hts hE (mX6_jamsOfStations l E B0 (B + 1) (by omega) N z1 hc2) cv_X11_212 (w_recv (k := 0) (ci := 6) hE hN (by decide) rfl rfl) hN hS hAB (fun _ h => h.elim) rfl hl.1 rfl (by decide) (Nat.le_of_ble_eq_true rfl) ⟨Nat.le_refl _, Nat.le_refl _⟩ dX11_jams_4 (fun H locs hN _ hu hS => ?_)
  have hG := Blk.off hG hu (fun _ _ _ h => h)
  have hre := Option.some.inj hf
  subst hre
  exact mu_i (v := z1) hx hb hrt hlocks ⟨hG, hN⟩ hS dX11_jams_7
noncomputable def fX11_jamsByChannels (G : Mem) (N : Mem) : Option (Int32) := (fX6_jamsOfChannels N).bind fun z1 => some z1
set_option maxHeartbeats 4000000 in
set_option maxRecDepth 100000 in
theorem mX11_jamsByChannels (l : Launch) (E : EP) (B0 : Nat) (B : Nat) (L0 : Nat) (hb0 : B0 ≤ B) (hb1 : B + 202 ≤ L0) (G : Mem) (N : Mem) (r : Int32) (hf : fX11_jamsByChannels G N = some r) : MU l E B0 yX11_jamsByChannels cX11_jamsByChannels 1 (some .int) 4 0 0 [.ref (B + 0)] (fun H => Blk E B rnSh 1 G H ∧ Blk E (B + 1) netSh 15 N H) (some (.int r)) (fun H => Blk E B rnSh 1 G H ∧ Blk E (B + 1) netSh 15 N H) nv := by
  refine mu_of (by decide +kernel) (Nat.le_of_ble_eq_true rfl) ?_
  intro p e s m args below meth c hx hb hml hown hts hrt hlocks hE H hP9 hS ls hl
  obtain ⟨hG, hN⟩ := hP9
  have hown : s.vm.findClass RX11 = some m.cls := hown
  have hl : lv_has ls 1 [(0, .ref (B + 0))] := hl
  have hw : ∀ w ∈ WA, w.before args s = true := fun w h => hts w (List.mem_cons_of_mem _ h)
  have hAB : ∀ q, nv q → B0 ≤ q := fun _ h => h.elim
  unfold fX11_jamsByChannels at hf
  refine lv_aload_n hx hb dX11_jamsByChannels_0 rfl (lv_at hl 0 rfl) ?_
  refine w_get (k := 0) (v := .ref ((B + 1) + 0)) hx hb hw hown hE fl_X11_12 hG (by decide) rfl rfl rfl dX11_jamsByChannels_1 ?_
  obtain ⟨z1, hc2, hf⟩ := br_some hf
  refine mu_cV (As := []) (rest := []) hx hb hml hown hts hE (mX6_jamsOfChannels l E B0 (B + 1) (by omega) N z1 hc2) cv_X11_216 (w_recv (k := 0) (ci := 6) hE hN (by decide) rfl rfl) hN hS hAB (fun _ h => h.elim) rfl hl.1 rfl (by decide) (Nat.le_of_ble_eq_true rfl) ⟨Nat.le_refl _, Nat.le_refl _⟩ dX11_jamsByChannels_4 (fun H locs hN _ hu hS => ?_)
  have hG := Blk.off hG hu (fun _ _ _ h => h)
  have hre := Option.some.inj hf
  subst hre
  exact mu_i (v := z1) hx hb hrt hlocks ⟨hG, hN⟩ hS dX11_jamsByChannels_7
def fX11_requireHops (a1 : Int32) : Option ((Nat ⊕ Int32)) := (if 0 ≤ a1 then some (.inr a1) else some (.inl 5))
set_option maxHeartbeats 4000000 in
set_option maxRecDepth 100000 in
theorem mX11_requireHops (l : Launch) (E : EP) (B0 : Nat) (htr : l.stackTraces = false) (a1 : Int32) (r : (Nat ⊕ Int32)) (hf : fX11_requireHops a1 = some r) : MX l E B0 yX11_requireHops cX11_requireHops 1 (some .int) 8 1 6 [.int a1] (fun _ => True) r (fun v => (some (.int v))) (fun _ => True) nv := by
  refine mx_of (by decide +kernel) (Nat.le_of_ble_eq_true rfl) ?_
  intro p e s m args below meth c hx hb hml hown hts hrt hlocks htab hE H _ hS ls hl
  have hown : s.vm.findClass RX11 = some m.cls := hown
  have hl : lv_has ls 1 [(0, .int a1)] := hl
  have hw : ∀ w ∈ WA, w.before args s = true := fun w h => hts w (List.mem_cons_of_mem _ h)
  have hAB : ∀ q, nv q → B0 ≤ q := fun _ h => h.elim
  unfold fX11_requireHops at hf
  refine lv_iload_n hx hb dX11_requireHops_0 rfl (lv_at hl 0 rfl) ?_
  refine lv_if_ge (tgt := 15) hx hb dX11_requireHops_1 (by decide) (fun c1 => ?_) (fun c1 => ?_)
  · rw [if_pos c1] at hf
    refine lv_iload_n hx hb dX11_requireHops_15 rfl (lv_at hl 0 rfl) ?_
    have hre := Option.some.inj hf
    subst hre
    refine W.widen (k := 1) (n := 6) (by decide) (by decide) ?_
    refine mx_up (v := a1) rfl ?_
    exact mu_i (v := a1) hx hb hrt hlocks trivial hS dX11_requireHops_16
  · rw [if_neg c1] at hf
    have hre := Option.some.inj hf
    subst hre
    exact mx_thrWN (e9 := 5) hx hb htr htab hlocks hown hw hE th_X11_142_409_146 hS hAB (hl.1.trans hml.symm) dX11_requireHops_4 dX11_requireHops_7 dX11_requireHops_8 dX11_requireHops_11 dX11_requireHops_14 (by decide) (Nat.le_of_ble_eq_true rfl) ⟨by decide, by decide⟩ ⟨by decide, by decide⟩ rfl rfl (fun _ _ => trivial)
noncomputable def fX11_hops (G : Mem) (N : Mem) (R : Mem) (a1 : Int32) (a2 : Int32) : Option ((Nat ⊕ Int32) × Mem) := (fX11_requireStation G N a1).bind fun z1 => sx z1 (fun e9 => some (.inl e9, R)) (fun v3 => (fX11_requireStation G N a2).bind fun z4 => sx z4 (fun e9 => some (.inl e9, R)) (fun v6 => (fX8_hopsByBreadth R N a1 a2).bind fun z7 => (fX11_requireHops z7.1).bind fun z9 => sx z9 (fun e9 => some (.inl e9, z7.2)) (fun v11 => some (.inr v11, z7.2))))
set_option maxHeartbeats 4000000 in
set_option maxRecDepth 100000 in
theorem mX11_hops (l : Launch) (E : EP) (B0 : Nat) (htr : l.stackTraces = false) (B : Nat) (L0 : Nat) (hb0 : B0 ≤ B) (hb1 : B + 202 ≤ L0) (G : Mem) (N : Mem) (R : Mem) (a1 : Int32) (a2 : Int32) (r : (Nat ⊕ Int32) × Mem) (hf : fX11_hops G N R a1 a2 = some r) : MX l E B0 yX11_hops cX11_hops 3 (some .int) 9 3 18 [.ref (B + 0), .int a1, .int a2] (fun H => Blk E B rnSh 1 G H ∧ Blk E (B + 1) netSh 15 N H ∧ Blk E (B + 168) relSh 3 R H) r.1 (fun v => (some (.int v))) (fun H => Blk E B rnSh 1 G H ∧ Blk E (B + 1) netSh 15 N H ∧ Blk E (B + 168) relSh 3 r.2 H) (iv (B + 168) 3) := by
  refine mx_of (by decide +kernel) (Nat.le_of_ble_eq_true rfl) ?_
  intro p e s m args below meth c hx hb hml hown hts hrt hlocks htab hE H hP9 hS ls hl
  obtain ⟨hG, hN, hR⟩ := hP9
  have hown : s.vm.findClass RX11 = some m.cls := hown
  have hl : lv_has ls 3 [(0, .ref (B + 0)), (1, .int a1), (2, .int a2)] := hl
  have hw : ∀ w ∈ WA, w.before args s = true := fun w h => hts w (List.mem_cons_of_mem _ h)
  have hAB : ∀ q, (iv (B + 168) 3) q → B0 ≤ q := (iv_ge (by omega))
  unfold fX11_hops at hf
  refine lv_aload_n hx hb dX11_hops_0 rfl (lv_at hl 0 rfl) ?_
  refine lv_iload_n hx hb dX11_hops_1 rfl (lv_at hl 1 rfl) ?_
  obtain ⟨z1, hc2, hf⟩ := br_some hf
  refine mx_cV (As := [.int a1]) (rest := []) htab hlocks hx hb hml hown hts hE (mX11_requireStation l E B0 htr B L0 (by omega) (by omega) G N a1 z1 hc2) cv_X11_219 (w_recv (k := 0) (ci := 11) hE hG (by decide) rfl rfl) ⟨hG, hN⟩ hS hAB (fun _ h => h.elim) rfl hl.1 rfl (by decide) (Nat.le_of_ble_eq_true rfl) ⟨by decide, by decide⟩ ⟨by decide, by decide⟩ dX11_hops_2 (fun e9 ee H hP9 _ hu => ?_) (fun v3 ev H locs hP9 _ hu hS => ?_)
  · have hf := sx_l ee hf
    obtain ⟨hG, hN⟩ := hP9
    have hR := Blk.off hR hu (fun _ _ _ h => h)
    have hre := Option.some.inj hf
    subst hre
    exact ⟨rfl, ⟨hG, hN, hR⟩⟩
  have hf := sx_r ev hf
  obtain ⟨hG, hN⟩ := hP9
  have hR := Blk.off hR hu (fun _ _ _ h => h)
  refine lv_aload_n hx hb dX11_hops_5 rfl (lv_at hl 0 rfl) ?_
  refine lv_iload_n hx hb dX11_hops_6 rfl (lv_at hl 2 rfl) ?_
  obtain ⟨z4, hc5, hf⟩ := br_some hf
  refine mx_cV (As := [.int a2]) (rest := []) htab hlocks hx hb hml hown hts hE (mX11_requireStation l E B0 htr B L0 (by omega) (by omega) G N a2 z4 hc5) cv_X11_219 (w_recv (k := 0) (ci := 11) hE hG (by decide) rfl rfl) ⟨hG, hN⟩ hS hAB (fun _ h => h.elim) rfl hl.1 rfl (by decide) (Nat.le_of_ble_eq_true rfl) ⟨by decide, by decide⟩ ⟨by decide, by decide⟩ dX11_hops_7 (fun e9 ee H hP9 _ hu => ?_) (fun v6 ev H locs hP9 _ hu hS => ?_)
  · have hf := sx_l ee hf
    obtain ⟨hG, hN⟩ := hP9
    have hR := Blk.off hR hu (fun _ _ _ h => h)
    have hre := Option.some.inj hf
    subst hre
    exact ⟨rfl, ⟨hG, hN, hR⟩⟩
  have hf := sx_r ev hf
  obtain ⟨hG, hN⟩ := hP9
  have hR := Blk.off hR hu (fun _ _ _ h => h)
  refine lv_aload_n hx hb dX11_hops_10 rfl (lv_at hl 0 rfl) ?_
  refine w_get (k := 0) (v := .ref ((B + 168) + 0)) hx hb hw hown hE fl_X11_36 hG (by decide) rfl rfl rfl dX11_hops_11 ?_
  refine lv_aload_n hx hb dX11_hops_14 rfl (lv_at hl 0 rfl) ?_
  refine w_get (k := 0) (v := .ref ((B + 1) + 0)) hx hb hw hown hE fl_X11_12 hG (by decide) rfl rfl rfl dX11_hops_15 ?_
  refine lv_iload_n hx hb dX11_hops_18 rfl (lv_at hl 1 rfl) ?_
  refine lv_iload_n hx hb dX11_hops_19 rfl (lv_at hl 2 rfl) ?_
  obtain ⟨z7, hc8, hf⟩ := br_some hf
  refine mu_cV (As := [.ref ((B + 1) + 0), .int a1, .int a2]) (rest := []) hx hb hml hown hts hE (mX8_hopsByBreadth l E B0 (B + 168) (B + 1) (by omega) (by omega) (by omega) R N a1 a2 z7 hc8) cv_X11_222 (w_recv (k := 0) (ci := 8) hE hR (by decide) rfl rfl) ⟨hR, hN⟩ hS hAB (fun _ h => h) rfl hl.1 rfl (by decide) (Nat.le_of_ble_eq_true rfl) ⟨by decide, by decide⟩ dX11_hops_20 (fun H locs hP9 _ hu hS => ?_)
  obtain ⟨hR, hN⟩ := hP9
  have hG := Blk.off hG hu (iv_dis (by omega))
  obtain ⟨z9, hc10, hf⟩ := br_some hf
  refine mx_cS (As := [.int z7.1]) (rest := []) htab hlocks hx hb hml hown hts hE (mX11_requireHops l E B0 htr z7.1 z9 hc10) cs_X11_226 trivial hS hAB (fun _ h => h.elim) rfl hl.1 rfl (by decide) (Nat.le_of_ble_eq_true rfl) ⟨by decide, by decide⟩ ⟨by decide, by decide⟩ dX11_hops_23 (fun e9 ee H _ _ hu => ?_) (fun v11 ev H locs _ _ hu hS => ?_)
  · have hf := sx_l ee hf
    have hG := Blk.off hG hu (fun _ _ _ h => h)
    have hN := Blk.off hN hu (fun _ _ _ h => h)
    have hR := Blk.off hR hu (fun _ _ _ h => h)
    have hre := Option.some.inj hf
    subst hre
    exact ⟨rfl, ⟨hG, hN, hR⟩⟩
  have hf := sx_r ev hf
  have hG := Blk.off hG hu (fun _ _ _ h => h)
  have hN := Blk.off hN hu (fun _ _ _ h => h)
  have hR := Blk.off hR hu (fun _ _ _ h => h)
  have hre := Option.some.inj hf
  subst hre
  refine W.widen (k := 3) (n := 18) (by decide) (by decide) ?_
  refine mx_up (v := v11) rfl ?_
  exact mu_i (v := v11) hx hb hrt hlocks ⟨hG, hN, hR⟩ hS dX11_hops_26
noncomputable def fX11_hopsBySets (G : Mem) (N : Mem) (R : Mem) (a1 : Int32) (a2 : Int32) : Option ((Nat ⊕ Int32)) := (fX11_requireStation G N a1).bind fun z1 => sx z1 (fun e9 => some (.inl e9)) (fun v3 => (fX11_requireStation G N a2).bind fun z4 => sx z4 (fun e9 => some (.inl e9)) (fun v6 => (fX8_hopsOfSets R N a1 a2).bind fun z7 => (fX11_requireHops z7).bind fun z9 => sx z9 (fun e9 => some (.inl e9)) (fun v11 => some (.inr v11))))
set_option maxHeartbeats 4000000 in
set_option maxRecDepth 100000 in
theorem mX11_hopsBySets (l : Launch) (E : EP) (B0 : Nat) (htr : l.stackTraces = false) (B : Nat) (L0 : Nat) (hb0 : B0 ≤ B) (hb1 : B + 202 ≤ L0) (G : Mem) (N : Mem) (R : Mem) (a1 : Int32) (a2 : Int32) (r : (Nat ⊕ Int32)) (hf : fX11_hopsBySets G N R a1 a2 = some r) : MX l E B0 yX11_hopsBySets cX11_hopsBySets 3 (some .int) 9 3 18 [.ref (B + 0), .int a1, .int a2] (fun H => Blk E B rnSh 1 G H ∧ Blk E (B + 1) netSh 15 N H ∧ Blk E (B + 168) relSh 3 R H) r (fun v => (some (.int v))) (fun H => Blk E B rnSh 1 G H ∧ Blk E (B + 1) netSh 15 N H ∧ Blk E (B + 168) relSh 3 R H) nv := by
  refine mx_of (by decide +kernel) (Nat.le_of_ble_eq_true rfl) ?_
  intro p e s m args below meth c hx hb hml hown hts hrt hlocks htab hE H hP9 hS ls hl
  obtain ⟨hG, hN, hR⟩ := hP9
  have hown : s.vm.findClass RX11 = some m.cls := hown
  have hl : lv_has ls 3 [(0, .ref (B + 0)), (1, .int a1), (2, .int a2)] := hl
  have hw : ∀ w ∈ WA, w.before args s = true := fun w h => hts w (List.mem_cons_of_mem _ h)
  have hAB : ∀ q, nv q → B0 ≤ q := fun _ h => h.elim
  unfold fX11_hopsBySets at hf
  refine lv_aload_n hx hb dX11_hopsBySets_0 rfl (lv_at hl 0 rfl) ?_
  refine lv_iload_n hx hb dX11_hopsBySets_1 rfl (lv_at hl 1 rfl) ?_
  obtain ⟨z1, hc2, hf⟩ := br_some hf
  refine mx_cV (As := [.int a1]) (rest := []) htab hlocks hx hb hml hown hts hE (mX11_requireStation l E B0 htr B L0 (by omega) (by omega) G N a1 z1 hc2) cv_X11_219 (w_recv (k := 0) (ci := 11) hE hG (by decide) rfl rfl) ⟨hG, hN⟩ hS hAB (fun _ h => h.elim) rfl hl.1 rfl (by decide) (Nat.le_of_ble_eq_true rfl) ⟨by decide, by decide⟩ ⟨by decide, by decide⟩ dX11_hopsBySets_2 (fun e9 ee H hP9 _ hu => ?_) (fun v3 ev H locs hP9 _ hu hS => ?_)
  · have hf := sx_l ee hf
    obtain ⟨hG, hN⟩ := hP9
    have hR := Blk.off hR hu (fun _ _ _ h => h)
    have hre := Option.some.inj hf
    subst hre
    exact ⟨rfl, ⟨hG, hN, hR⟩⟩
  have hf := sx_r ev hf
  obtain ⟨hG, hN⟩ := hP9
  have hR := Blk.off hR hu (fun _ _ _ h => h)
  refine lv_aload_n hx hb dX11_hopsBySets_5 rfl (lv_at hl 0 rfl) ?_
  refine lv_iload_n hx hb dX11_hopsBySets_6 rfl (lv_at hl 2 rfl) ?_
  obtain ⟨z4, hc5, hf⟩ := br_some hf
  refine mx_cV (As := [.int a2]) (rest := []) htab hlocks hx hb hml hown hts hE (mX11_requireStation l E B0 htr B L0 (by omega) (by omega) G N a2 z4 hc5) cv_X11_219 (w_recv (k := 0) (ci := 11) hE hG (by decide) rfl rfl) ⟨hG, hN⟩ hS hAB (fun _ h => h.elim) rfl hl.1 rfl (by decide) (Nat.le_of_ble_eq_true rfl) ⟨by decide, by decide⟩ ⟨by decide, by decide⟩ dX11_hopsBySets_7 (fun e9 ee H hP9 _ hu => ?_) (fun v6 ev H locs hP9 _ hu hS => ?_)
  · have hf := sx_l ee hf
    obtain ⟨hG, hN⟩ := hP9
    have hR := Blk.off hR hu (fun _ _ _ h => h)
    have hre := Option.some.inj hf
    subst hre
    exact ⟨rfl, ⟨hG, hN, hR⟩⟩
  have hf := sx_r ev hf
  obtain ⟨hG, hN⟩ := hP9
  have hR := Blk.off hR hu (fun _ _ _ h => h)
  refine lv_aload_n hx hb dX11_hopsBySets_10 rfl (lv_at hl 0 rfl) ?_
  refine w_get (k := 0) (v := .ref ((B + 168) + 0)) hx hb hw hown hE fl_X11_36 hG (by decide) rfl rfl rfl dX11_hopsBySets_11 ?_
  refine lv_aload_n hx hb dX11_hopsBySets_14 rfl (lv_at hl 0 rfl) ?_
  refine w_get (k := 0) (v := .ref ((B + 1) + 0)) hx hb hw hown hE fl_X11_12 hG (by decide) rfl rfl rfl dX11_hopsBySets_15 ?_
  refine lv_iload_n hx hb dX11_hopsBySets_18 rfl (lv_at hl 1 rfl) ?_
  refine lv_iload_n hx hb dX11_hopsBySets_19 rfl (lv_at hl 2 rfl) ?_
  obtain ⟨z7, hc8, hf⟩ := br_some hf
  refine mu_cV (As := [.ref ((B + 1) + 0), .int a1, .int a2]) (rest := []) hx hb hml hown hts hE (mX8_hopsOfSets l E B0 (B + 168) (B + 1) (by omega) (by omega) (by omega) R N a1 a2 z7 hc8) cv_X11_229 (w_recv (k := 0) (ci := 8) hE hR (by decide) rfl rfl) ⟨hR, hN⟩ hS hAB (fun _ h => h.elim) rfl hl.1 rfl (by decide) (Nat.le_of_ble_eq_true rfl) ⟨by decide, by decide⟩ dX11_hopsBySets_20 (fun H locs hP9 _ hu hS => ?_)
  obtain ⟨hR, hN⟩ := hP9
  have hG := Blk.off hG hu (fun _ _ _ h => h)
  obtain ⟨z9, hc10, hf⟩ := br_some hf
  refine mx_cS (As := [.int z7]) (rest := []) htab hlocks hx hb hml hown hts hE (mX11_requireHops l E B0 htr z7 z9 hc10) cs_X11_226 trivial hS hAB (fun _ h => h.elim) rfl hl.1 rfl (by decide) (Nat.le_of_ble_eq_true rfl) ⟨by decide, by decide⟩ ⟨by decide, by decide⟩ dX11_hopsBySets_23 (fun e9 ee H _ _ hu => ?_) (fun v11 ev H locs _ _ hu hS => ?_)
  · have hf := sx_l ee hf
    have hG := Blk.off hG hu (fun _ _ _ h => h)
    have hN := Blk.off hN hu (fun _ _ _ h => h)
    have hR := Blk.off hR hu (fun _ _ _ h => h)
    have hre := Option.some.inj hf
    subst hre
    exact ⟨rfl, ⟨hG, hN, hR⟩⟩
  have hf := sx_r ev hf
  have hG := Blk.off hG hu (fun _ _ _ h => h)
  have hN := Blk.off hN hu (fun _ _ _ h => h)
  have hR := Blk.off hR hu (fun _ _ _ h => h)
  have hre := Option.some.inj hf
  subst hre
  refine W.widen (k := 3) (n := 18) (by decide) (by decide) ?_
  refine mx_up (v := v11) rfl ?_
  exact mu_i (v := v11) hx hb hrt hlocks ⟨hG, hN, hR⟩ hS dX11_hopsBySets_26
noncomputable def fX11_reachable (G : Mem) (N : Mem) (R : Mem) (a1 : Int32) : Option ((Nat ⊕ Int32)) := (fX11_requireStation G N a1).bind fun z1 => sx z1 (fun e9 => some (.inl e9)) (fun v3 => (fX8_countReached R N a1).bind fun z4 => some (.inr z4))
set_option maxHeartbeats 4000000 in
set_option maxRecDepth 100000 in
theorem mX11_reachable (l : Launch) (E : EP) (B0 : Nat) (htr : l.stackTraces = false) (B : Nat) (L0 : Nat) (hb0 : B0 ≤ B) (hb1 : B + 202 ≤ L0) (G : Mem) (N : Mem) (R : Mem) (a1 : Int32) (r : (Nat ⊕ Int32)) (hf : fX11_reachable G N R a1 = some r) : MX l E B0 yX11_reachable cX11_reachable 2 (some .int) 9 1 6 [.ref (B + 0), .int a1] (fun H => Blk E B rnSh 1 G H ∧ Blk E (B + 1) netSh 15 N H ∧ Blk E (B + 168) relSh 3 R H) r (fun v => (some (.int v))) (fun H => Blk E B rnSh 1 G H ∧ Blk E (B + 1) netSh 15 N H ∧ Blk E (B + 168) relSh 3 R H) nv := by
  refine mx_of (by decide +kernel) (Nat.le_of_ble_eq_true rfl) ?_
  intro p e s m args below meth c hx hb hml hown hts hrt hlocks htab hE H hP9 hS ls hl
  obtain ⟨hG, hN, hR⟩ := hP9
  have hown : s.vm.findClass RX11 = some m.cls := hown
  have hl : lv_has ls 2 [(0, .ref (B + 0)), (1, .int a1)] := hl
  have hw : ∀ w ∈ WA, w.before args s = true := fun w h => hts w (List.mem_cons_of_mem _ h)
  have hAB : ∀ q, nv q → B0 ≤ q := fun _ h => h.elim
  unfold fX11_reachable at hf
  refine lv_aload_n hx hb dX11_reachable_0 rfl (lv_at hl 0 rfl) ?_
  refine lv_iload_n hx hb dX11_reachable_1 rfl (lv_at hl 1 rfl) ?_
  obtain ⟨z1, hc2, hf⟩ := br_some hf
  refine mx_cV (As := [.int a1]) (rest := []) htab hlocks hx hb hml hown hts hE (mX11_requireStation l E B0 htr B L0 (by omega) (by omega) G N a1 z1 hc2) cv_X11_219 (w_recv (k := 0) (ci := 11) hE hG (by decide) rfl rfl) ⟨hG, hN⟩ hS hAB (fun _ h => h.elim) rfl hl.1 rfl (by decide) (Nat.le_of_ble_eq_true rfl) ⟨by decide, by decide⟩ ⟨by decide, by decide⟩ dX11_reachable_2 (fun e9 ee H hP9 _ hu => ?_) (fun v3 ev H locs hP9 _ hu hS => ?_)
  · have hf := sx_l ee hf
    obtain ⟨hG, hN⟩ := hP9
    have hR := Blk.off hR hu (fun _ _ _ h => h)
    have hre := Option.some.inj hf
    subst hre
    exact ⟨rfl, ⟨hG, hN, hR⟩⟩
  have hf := sx_r ev hf
  obtain ⟨hG, hN⟩ := hP9
  have hR := Blk.off hR hu (fun _ _ _ h => h)
  refine lv_aload_n hx hb dX11_reachable_5 rfl (lv_at hl 0 rfl) ?_
  refine w_get (k := 0) (v := .ref ((B + 168) + 0)) hx hb hw hown hE fl_X11_36 hG (by decide) rfl rfl rfl dX11_reachable_6 ?_
  refine lv_aload_n hx hb dX11_reachable_9 rfl (lv_at hl 0 rfl) ?_
  refine w_get (k := 0) (v := .ref ((B + 1) + 0)) hx hb hw hown hE fl_X11_12 hG (by decide) rfl rfl rfl dX11_reachable_10 ?_
  refine lv_iload_n hx hb dX11_reachable_13 rfl (lv_at hl 1 rfl) ?_
  obtain ⟨z4, hc5, hf⟩ := br_some hf
  refine mu_cV (As := [.ref ((B + 1) + 0), .int a1]) (rest := []) hx hb hml hown hts hE (mX8_countReached l E B0 (B + 168) (B + 1) (by omega) (by omega) (by omega) R N a1 z4 hc5) cv_X11_232 (w_recv (k := 0) (ci := 8) hE hR (by decide) rfl rfl) ⟨hR, hN⟩ hS hAB (fun _ h => h.elim) rfl hl.1 rfl (by decide) (Nat.le_of_ble_eq_true rfl) ⟨by decide, by decide⟩ dX11_reachable_14 (fun H locs hP9 _ hu hS => ?_)
  obtain ⟨hR, hN⟩ := hP9
  have hG := Blk.off hG hu (fun _ _ _ h => h)
  have hre := Option.some.inj hf
  subst hre
  refine W.widen (k := 1) (n := 6) (by decide) (by decide) ?_
  refine mx_up (v := z4) rfl ?_
  exact mu_i (v := z4) hx hb hrt hlocks ⟨hG, hN, hR⟩ hS dX11_reachable_17
def fX11_logLength (G : Mem) (N : Mem) : Option (Int32) := some (N 11 3)
set_option maxHeartbeats 4000000 in
set_option maxRecDepth 100000 in
theorem mX11_logLength (l : Launch) (E : EP) (B0 : Nat) (B : Nat) (L0 : Nat) (hb0 : B0 ≤ B) (hb1 : B + 202 ≤ L0) (G : Mem) (N : Mem) (r : Int32) (hf : fX11_logLength G N = some r) : MU l E B0 yX11_logLength cX11_logLength 1 (some .int) 0 0 0 [.ref (B + 0)] (fun H => Blk E B rnSh 1 G H ∧ Blk E (B + 1) netSh 15 N H) (some (.int r)) (fun H => Blk E B rnSh 1 G H ∧ Blk E (B + 1) netSh 15 N H) nv := by
  refine mu_of (by decide +kernel) (Nat.le_of_ble_eq_true rfl) ?_
  intro p e s m args below meth c hx hb hml hown hts hrt hlocks hE H hP9 hS ls hl
  obtain ⟨hG, hN⟩ := hP9
  have hown : s.vm.findClass RX11 = some m.cls := hown
  have hl : lv_has ls 1 [(0, .ref (B + 0))] := hl
  have hw : ∀ w ∈ WA, w.before args s = true := fun w h => hts w (List.mem_cons_of_mem _ h)
  have hAB : ∀ q, nv q → B0 ≤ q := fun _ h => h.elim
  unfold fX11_logLength at hf
  refine lv_aload_n hx hb dX11_logLength_0 rfl (lv_at hl 0 rfl) ?_
  refine w_get (k := 0) (v := .ref ((B + 1) + 0)) hx hb hw hown hE fl_X11_12 hG (by decide) rfl rfl rfl dX11_logLength_1 ?_
  refine w_get (k := 0) (v := .ref ((B + 1) + 11)) hx hb hw hown hE fl_X11_236 hN (by decide) rfl rfl rfl dX11_logLength_4 ?_
  refine w_get (k := 11) (v := .int (N 11 3)) hx hb hw hown hE fl_X11_240 hN (by decide) rfl rfl rfl dX11_logLength_7 ?_
  have hre := Option.some.inj hf
  subst hre
  exact mu_i (v := (N 11 3)) hx hb hrt hlocks ⟨hG, hN⟩ hS dX11_logLength_10
def fX11_requireEntry (G : Mem) (N : Mem) (a1 : Int32) : Option ((Nat ⊕ Unit)) := (if a1 < 0 then some (.inl 0) else (if a1 < (N 11 3) then some (.inr ()) else some (.inl 0)))
set_option maxHeartbeats 4000000 in
set_option maxRecDepth 100000 in
theorem mX11_requireEntry (l : Launch) (E : EP) (B0 : Nat) (htr : l.stackTraces = false) (B : Nat) (L0 : Nat) (hb0 : B0 ≤ B) (hb1 : B + 202 ≤ L0) (G : Mem) (N : Mem) (a1 : Int32) (r : (Nat ⊕ Unit)) (hf : fX11_requireEntry G N a1 = some r) : MX l E B0 yX11_requireEntry cX11_requireEntry 2 none 8 1 6 [.ref (B + 0), .int a1] (fun H => Blk E B rnSh 1 G H ∧ Blk E (B + 1) netSh 15 N H) r (fun _ => none) (fun H => Blk E B rnSh 1 G H ∧ Blk E (B + 1) netSh 15 N H) nv := by
  refine mx_of (by decide +kernel) (Nat.le_of_ble_eq_true rfl) ?_
  intro p e s m args below meth c hx hb hml hown hts hrt hlocks htab hE H hP9 hS ls hl
  obtain ⟨hG, hN⟩ := hP9
  have hown : s.vm.findClass RX11 = some m.cls := hown
  have hl : lv_has ls 2 [(0, .ref (B + 0)), (1, .int a1)] := hl
  have hw : ∀ w ∈ WA, w.before args s = true := fun w h => hts w (List.mem_cons_of_mem _ h)
  have hAB : ∀ q, nv q → B0 ≤ q := fun _ h => h.elim
  unfold fX11_requireEntry at hf
  refine lv_iload_n hx hb dX11_requireEntry_0 rfl (lv_at hl 1 rfl) ?_
  refine lv_if_lt (tgt := 18) hx hb dX11_requireEntry_1 (by decide) (fun c1 => ?_) (fun c1 => ?_)
  · rw [if_pos c1] at hf
    have hre := Option.some.inj hf
    subst hre
    exact mx_thrW (e9 := 0) hx hb htr htab hlocks hown hw hE th_X11_314_407_318 hS hAB (hl.1.trans hml.symm) dX11_requireEntry_18 dX11_requireEntry_21 dX11_requireEntry_22 dX11_requireEntry_25 dX11_requireEntry_28 (by decide) (Nat.le_of_ble_eq_true rfl) ⟨by decide, by decide⟩ ⟨by decide, by decide⟩ rfl rfl (fun H1 hq => ⟨Blk.ext hG hq, Blk.ext hN hq⟩)
  · rw [if_neg c1] at hf
    refine lv_iload_n hx hb dX11_requireEntry_4 rfl (lv_at hl 1 rfl) ?_
    refine lv_aload_n hx hb dX11_requireEntry_5 rfl (lv_at hl 0 rfl) ?_
    refine w_get (k := 0) (v := .ref ((B + 1) + 0)) hx hb hw hown hE fl_X11_12 hG (by decide) rfl rfl rfl dX11_requireEntry_6 ?_
    refine w_get (k := 0) (v := .ref ((B + 1) + 11)) hx hb hw hown hE fl_X11_236 hN (by decide) rfl rfl rfl dX11_requireEntry_9 ?_
    refine w_get (k := 11) (v := .int (N 11 3)) hx hb hw hown hE fl_X11_240 hN (by decide) rfl rfl rfl dX11_requireEntry_12 ?_
    refine lv_icmp_lt (tgt := 29) hx hb dX11_requireEntry_15 (by decide) (fun c2 => ?_) (fun c2 => ?_)
    · rw [if_pos c2] at hf
      have hre := Option.some.inj hf
      subst hre
      refine W.widen (k := 1) (n := 6) (by decide) (by decide) ?_
      refine mx_up (v := ()) rfl ?_
      exact mu_v hx hb hrt hlocks ⟨hG, hN⟩ hS dX11_requireEntry_29
    · rw [if_neg c2] at hf
      have hre := Option.some.inj hf
      subst hre
      exact mx_thrW (e9 := 0) hx hb htr htab hlocks hown hw hE th_X11_314_407_318 hS hAB (hl.1.trans hml.symm) dX11_requireEntry_18 dX11_requireEntry_21 dX11_requireEntry_22 dX11_requireEntry_25 dX11_requireEntry_28 (by decide) (Nat.le_of_ble_eq_true rfl) ⟨by decide, by decide⟩ ⟨by decide, by decide⟩ rfl rfl (fun H1 hq => ⟨Blk.ext hG hq, Blk.ext hN hq⟩)
def fX11_logStation (G : Mem) (N : Mem) (a1 : Int32) : Option ((Nat ⊕ Int32)) := (fX11_requireEntry G N a1).bind fun z1 => sx z1 (fun e9 => some (.inl e9)) (fun v3 => gd (inb a1 16) (some (.inr (N 12 a1.toNatClampNeg))))
set_option maxHeartbeats 4000000 in
set_option maxRecDepth 100000 in
theorem mX11_logStation (l : Launch) (E : EP) (B0 : Nat) (htr : l.stackTraces = false) (B : Nat) (L0 : Nat) (hb0 : B0 ≤ B) (hb1 : B + 202 ≤ L0) (G : Mem) (N : Mem) (a1 : Int32) (r : (Nat ⊕ Int32)) (hf : fX11_logStation G N a1 = some r) : MX l E B0 yX11_logStation cX11_logStation 2 (some .int) 9 1 6 [.ref (B + 0), .int a1] (fun H => Blk E B rnSh 1 G H ∧ Blk E (B + 1) netSh 15 N H) r (fun v => (some (.int v))) (fun H => Blk E B rnSh 1 G H ∧ Blk E (B + 1) netSh 15 N H) nv := by
  refine mx_of (by decide +kernel) (Nat.le_of_ble_eq_true rfl) ?_
  intro p e s m args below meth c hx hb hml hown hts hrt hlocks htab hE H hP9 hS ls hl
  obtain ⟨hG, hN⟩ := hP9
  have hown : s.vm.findClass RX11 = some m.cls := hown
  have hl : lv_has ls 2 [(0, .ref (B + 0)), (1, .int a1)] := hl
  have hw : ∀ w ∈ WA, w.before args s = true := fun w h => hts w (List.mem_cons_of_mem _ h)
  have hAB : ∀ q, nv q → B0 ≤ q := fun _ h => h.elim
  unfold fX11_logStation at hf
  refine lv_aload_n hx hb dX11_logStation_0 rfl (lv_at hl 0 rfl) ?_
  refine lv_iload_n hx hb dX11_logStation_1 rfl (lv_at hl 1 rfl) ?_
  obtain ⟨z1, hc2, hf⟩ := br_some hf
  refine mx_cV (As := [.int a1]) (rest := []) htab hlocks hx hb hml hown hts hE (mX11_requireEntry l E B0 htr B L0 (by omega) (by omega) G N a1 z1 hc2) cv_X11_243 (w_recv (k := 0) (ci := 11) hE hG (by decide) rfl rfl) ⟨hG, hN⟩ hS hAB (fun _ h => h.elim) rfl hl.1 rfl (by decide) (Nat.le_of_ble_eq_true rfl) ⟨by decide, by decide⟩ ⟨by decide, by decide⟩ dX11_logStation_2 (fun e9 ee H hP9 _ hu => ?_) (fun v3 ev H locs hP9 _ hu hS => ?_)
  · have hf := sx_l ee hf
    obtain ⟨hG, hN⟩ := hP9
    have hre := Option.some.inj hf
    subst hre
    exact ⟨rfl, ⟨hG, hN⟩⟩
  have hf := sx_r ev hf
  obtain ⟨hG, hN⟩ := hP9
  refine lv_aload_n hx hb dX11_logStation_5 rfl (lv_at hl 0 rfl) ?_
  refine w_get (k := 0) (v := .ref ((B + 1) + 0)) hx hb hw hown hE fl_X11_12 hG (by decide) rfl rfl rfl dX11_logStation_6 ?_
  refine w_get (k := 0) (v := .ref ((B + 1) + 11)) hx hb hw hown hE fl_X11_236 hN (by decide) rfl rfl rfl dX11_logStation_9 ?_
  refine w_get (k := 11) (v := .ref ((B + 1) + 12)) hx hb hw hown hE fl_X11_246 hN (by decide) rfl rfl rfl dX11_logStation_12 ?_
  refine lv_iload_n hx hb dX11_logStation_15 rfl (lv_at hl 1 rfl) ?_
  obtain ⟨h4, hf⟩ := gd_some hf
  refine w_iald (k := 12) (x9 := a1.toNatClampNeg) hx hb hE hN (by decide) rfl rfl h4 dX11_logStation_16 ?_
  have hre := Option.some.inj hf
  subst hre
  refine W.widen (k := 1) (n := 6) (by decide) (by decide) ?_
  refine mx_up (v := (N 12 a1.toNatClampNeg)) rfl ?_
  exact mu_i (v := (N 12 a1.toNatClampNeg)) hx hb hrt hlocks ⟨hG, hN⟩ hS dX11_logStation_17
def fX11_logBegin (G : Mem) (N : Mem) (a1 : Int32) : Option ((Nat ⊕ Int32)) := (fX11_requireEntry G N a1).bind fun z1 => sx z1 (fun e9 => some (.inl e9)) (fun v3 => gd (inb a1 16) (some (.inr (N 13 a1.toNatClampNeg))))
set_option maxHeartbeats 4000000 in
set_option maxRecDepth 100000 in
theorem mX11_logBegin (l : Launch) (E : EP) (B0 : Nat) (htr : l.stackTraces = false) (B : Nat) (L0 : Nat) (hb0 : B0 ≤ B) (hb1 : B + 202 ≤ L0) (G : Mem) (N : Mem) (a1 : Int32) (r : (Nat ⊕ Int32)) (hf : fX11_logBegin G N a1 = some r) : MX l E B0 yX11_logBegin cX11_logBegin 2 (some .int) 9 1 6 [.ref (B + 0), .int a1] (fun H => Blk E B rnSh 1 G H ∧ Blk E (B + 1) netSh 15 N H) r (fun v => (some (.int v))) (fun H => Blk E B rnSh 1 G H ∧ Blk E (B + 1) netSh 15 N H) nv := by
  refine mx_of (by decide +kernel) (Nat.le_of_ble_eq_true rfl) ?_
  intro p e s m args below meth c hx hb hml hown hts hrt hlocks htab hE H hP9 hS ls hl
  obtain ⟨hG, hN⟩ := hP9
  have hown : s.vm.findClass RX11 = some m.cls := hown
  have hl : lv_has ls 2 [(0, .ref (B + 0)), (1, .int a1)] := hl
  have hw : ∀ w ∈ WA, w.before args s = true := fun w h => hts w (List.mem_cons_of_mem _ h)
  have hAB : ∀ q, nv q → B0 ≤ q := fun _ h => h.elim
  unfold fX11_logBegin at hf
  refine lv_aload_n hx hb dX11_logBegin_0 rfl (lv_at hl 0 rfl) ?_
  refine lv_iload_n hx hb dX11_logBegin_1 rfl (lv_at hl 1 rfl) ?_
  obtain ⟨z1, hc2, hf⟩ := br_some hf
  refine mx_cV (As := [.int a1]) (rest := []) htab hlocks hx hb hml hown hts hE (mX11_requireEntry l E B0 htr B L0 (by omega) (by omega) G N a1 z1 hc2) cv_X11_243 (w_recv (k := 0) (ci := 11) hE hG (by decide) rfl rfl) ⟨hG, hN⟩ hS hAB (fun _ h => h.elim) rfl hl.1 rfl (by decide) (Nat.le_of_ble_eq_true rfl) ⟨by decide, by decide⟩ ⟨by decide, by decide⟩ dX11_logBegin_2 (fun e9 ee H hP9 _ hu => ?_) (fun v3 ev H locs hP9 _ hu hS => ?_)
  · have hf := sx_l ee hf
    obtain ⟨hG, hN⟩ := hP9
    have hre := Option.some.inj hf
    subst hre
    exact ⟨rfl, ⟨hG, hN⟩⟩
  have hf := sx_r ev hf
  obtain ⟨hG, hN⟩ := hP9
  refine lv_aload_n hx hb dX11_logBegin_5 rfl (lv_at hl 0 rfl) ?_
  refine w_get (k := 0) (v := .ref ((B + 1) + 0)) hx hb hw hown hE fl_X11_12 hG (by decide) rfl rfl rfl dX11_logBegin_6 ?_
  refine w_get (k := 0) (v := .ref ((B + 1) + 11)) hx hb hw hown hE fl_X11_236 hN (by decide) rfl rfl rfl dX11_logBegin_9 ?_
  refine w_get (k := 11) (v := .ref ((B + 1) + 13)) hx hb hw hown hE fl_X11_250 hN (by decide) rfl rfl rfl dX11_logBegin_12 ?_
  refine lv_iload_n hx hb dX11_logBegin_15 rfl (lv_at hl 1 rfl) ?_
  obtain ⟨h4, hf⟩ := gd_some hf
  refine w_iald (k := 13) (x9 := a1.toNatClampNeg) hx hb hE hN (by decide) rfl rfl h4 dX11_logBegin_16 ?_
  have hre := Option.some.inj hf
  subst hre
  refine W.widen (k := 1) (n := 6) (by decide) (by decide) ?_
  refine mx_up (v := (N 13 a1.toNatClampNeg)) rfl ?_
  exact mu_i (v := (N 13 a1.toNatClampNeg)) hx hb hrt hlocks ⟨hG, hN⟩ hS dX11_logBegin_17
def fX11_logMinutes (G : Mem) (N : Mem) (a1 : Int32) : Option ((Nat ⊕ Int32)) := (fX11_requireEntry G N a1).bind fun z1 => sx z1 (fun e9 => some (.inl e9)) (fun v3 => gd (inb a1 16) (some (.inr (N 14 a1.toNatClampNeg))))
set_option maxHeartbeats 4000000 in
set_option maxRecDepth 100000 in
theorem mX11_logMinutes (l : Launch) (E : EP) (B0 : Nat) (htr : l.stackTraces = false) (B : Nat) (L0 : Nat) (hb0 : B0 ≤ B) (hb1 : B + 202 ≤ L0) (G : Mem) (N : Mem) (a1 : Int32) (r : (Nat ⊕ Int32)) (hf : fX11_logMinutes G N a1 = some r) : MX l E B0 yX11_logMinutes cX11_logMinutes 2 (some .int) 9 1 6 [.ref (B + 0), .int a1] (fun H => Blk E B rnSh 1 G H ∧ Blk E (B + 1) netSh 15 N H) r (fun v => (some (.int v))) (fun H => Blk E B rnSh 1 G H ∧ Blk E (B + 1) netSh 15 N H) nv := by
  refine mx_of (by decide +kernel) (Nat.le_of_ble_eq_true rfl) ?_
  intro p e s m args below meth c hx hb hml hown hts hrt hlocks htab hE H hP9 hS ls hl
  obtain ⟨hG, hN⟩ := hP9
  have hown : s.vm.findClass RX11 = some m.cls := hown
  have hl : lv_has ls 2 [(0, .ref (B + 0)), (1, .int a1)] := hl
  have hw : ∀ w ∈ WA, w.before args s = true := fun w h => hts w (List.mem_cons_of_mem _ h)
  have hAB : ∀ q, nv q → B0 ≤ q := fun _ h => h.elim
  unfold fX11_logMinutes at hf
  refine lv_aload_n hx hb dX11_logMinutes_0 rfl (lv_at hl 0 rfl) ?_
  refine lv_iload_n hx hb dX11_logMinutes_1 rfl (lv_at hl 1 rfl) ?_
  obtain ⟨z1, hc2, hf⟩ := br_some hf
  refine mx_cV (As := [.int a1]) (rest := []) htab hlocks hx hb hml hown hts hE (mX11_requireEntry l E B0 htr B L0 (by omega) (by omega) G N a1 z1 hc2) cv_X11_243 (w_recv (k := 0) (ci := 11) hE hG (by decide) rfl rfl) ⟨hG, hN⟩ hS hAB (fun _ h => h.elim) rfl hl.1 rfl (by decide) (Nat.le_of_ble_eq_true rfl) ⟨by decide, by decide⟩ ⟨by decide, by decide⟩ dX11_logMinutes_2 (fun e9 ee H hP9 _ hu => ?_) (fun v3 ev H locs hP9 _ hu hS => ?_)
  · have hf := sx_l ee hf
    obtain ⟨hG, hN⟩ := hP9
    have hre := Option.some.inj hf
    subst hre
    exact ⟨rfl, ⟨hG, hN⟩⟩
  have hf := sx_r ev hf
  obtain ⟨hG, hN⟩ := hP9
  refine lv_aload_n hx hb dX11_logMinutes_5 rfl (lv_at hl 0 rfl) ?_
  refine w_get (k := 0) (v := .ref ((B + 1) + 0)) hx hb hw hown hE fl_X11_12 hG (by decide) rfl rfl rfl dX11_logMinutes_6 ?_
  refine w_get (k := 0) (v := .ref ((B + 1) + 11)) hx hb hw hown hE fl_X11_236 hN (by decide) rfl rfl rfl dX11_logMinutes_9 ?_
  refine w_get (k := 11) (v := .ref ((B + 1) + 14)) hx hb hw hown hE fl_X11_253 hN (by decide) rfl rfl rfl dX11_logMinutes_12 ?_
  refine lv_iload_n hx hb dX11_logMinutes_15 rfl (lv_at hl 1 rfl) ?_
  obtain ⟨h4, hf⟩ := gd_some hf
  refine w_iald (k := 14) (x9 := a1.toNatClampNeg) hx hb hE hN (by decide) rfl rfl h4 dX11_logMinutes_16 ?_
  have hre := Option.some.inj hf
  subst hre
  refine W.widen (k := 1) (n := 6) (by decide) (by decide) ?_
  refine mx_up (v := (N 14 a1.toNatClampNeg)) rfl ?_
  exact mu_i (v := (N 14 a1.toNatClampNeg)) hx hb hrt hlocks ⟨hG, hN⟩ hS dX11_logMinutes_17
def fX11_time (G : Mem) (N : Mem) : Option (Int32) := some (N 0 5)
set_option maxHeartbeats 4000000 in
set_option maxRecDepth 100000 in
theorem mX11_time (l : Launch) (E : EP) (B0 : Nat) (B : Nat) (L0 : Nat) (hb0 : B0 ≤ B) (hb1 : B + 202 ≤ L0) (G : Mem) (N : Mem) (r : Int32) (hf : fX11_time G N = some r) : MU l E B0 yX11_time cX11_time 1 (some .int) 0 0 0 [.ref (B + 0)] (fun H => Blk E B rnSh 1 G H ∧ Blk E (B + 1) netSh 15 N H) (some (.int r)) (fun H => Blk E B rnSh 1 G H ∧ Blk E (B + 1) netSh 15 N H) nv := by
  refine mu_of (by decide +kernel) (Nat.le_of_ble_eq_true rfl) ?_
  intro p e s m args below meth c hx hb hml hown hts hrt hlocks hE H hP9 hS ls hl
  obtain ⟨hG, hN⟩ := hP9
  have hown : s.vm.findClass RX11 = some m.cls := hown
  have hl : lv_has ls 1 [(0, .ref (B + 0))] := hl
  have hw : ∀ w ∈ WA, w.before args s = true := fun w h => hts w (List.mem_cons_of_mem _ h)
  have hAB : ∀ q, nv q → B0 ≤ q := fun _ h => h.elim
  unfold fX11_time at hf
  refine lv_aload_n hx hb dX11_time_0 rfl (lv_at hl 0 rfl) ?_
  refine w_get (k := 0) (v := .ref ((B + 1) + 0)) hx hb hw hown hE fl_X11_12 hG (by decide) rfl rfl rfl dX11_time_1 ?_
  refine w_get (k := 0) (v := .int (N 0 5)) hx hb hw hown hE fl_X11_256 hN (by decide) rfl rfl rfl dX11_time_4 ?_
  have hre := Option.some.inj hf
  subst hre
  exact mu_i (v := (N 0 5)) hx hb hrt hlocks ⟨hG, hN⟩ hS dX11_time_7
def fX11_turnLimit (G : Mem) (N : Mem) : Option (Int32) := some (N 0 6)
set_option maxHeartbeats 4000000 in
set_option maxRecDepth 100000 in
theorem mX11_turnLimit (l : Launch) (E : EP) (B0 : Nat) (B : Nat) (L0 : Nat) (hb0 : B0 ≤ B) (hb1 : B + 202 ≤ L0) (G : Mem) (N : Mem) (r : Int32) (hf : fX11_turnLimit G N = some r) : MU l E B0 yX11_turnLimit cX11_turnLimit 1 (some .int) 0 0 0 [.ref (B + 0)] (fun H => Blk E B rnSh 1 G H ∧ Blk E (B + 1) netSh 15 N H) (some (.int r)) (fun H => Blk E B rnSh 1 G H ∧ Blk E (B + 1) netSh 15 N H) nv := by
  refine mu_of (by decide +kernel) (Nat.le_of_ble_eq_true rfl) ?_
  intro p e s m args below meth c hx hb hml hown hts hrt hlocks hE H hP9 hS ls hl
  obtain ⟨hG, hN⟩ := hP9
  have hown : s.vm.findClass RX11 = some m.cls := hown
  have hl : lv_has ls 1 [(0, .ref (B + 0))] := hl
  have hw : ∀ w ∈ WA, w.before args s = true := fun w h => hts w (List.mem_cons_of_mem _ h)
  have hAB : ∀ q, nv q → B0 ≤ q := fun _ h => h.elim
  unfold fX11_turnLimit at hf
  refine lv_aload_n hx hb dX11_turnLimit_0 rfl (lv_at hl 0 rfl) ?_
  refine w_get (k := 0) (v := .ref ((B + 1) + 0)) hx hb hw hown hE fl_X11_12 hG (by decide) rfl rfl rfl dX11_turnLimit_1 ?_
  refine w_get (k := 0) (v := .int (N 0 6)) hx hb hw hown hE fl_X11_259 hN (by decide) rfl rfl rfl dX11_turnLimit_4 ?_
  have hre := Option.some.inj hf
  subst hre
  exact mu_i (v := (N 0 6)) hx hb hrt hlocks ⟨hG, hN⟩ hS dX11_turnLimit_7
noncomputable def fX11_hopsAgree_s (G : Mem) (N : Mem) (z : Nat × Int32 × Int32 × Mem) : Option ((Nat × Int32 × Int32 × Mem) ⊕ (Int32 × Mem)) := (if z.1 = 0 then (if (N 0 1) ≤ z.2.1 then some (.inr (1, z.2.2.2)) else some (.inl (1, z.2.1, 0, z.2.2.2))) else (if (N 0 1) ≤ z.2.2.1 then some (.inl (0, (z.2.1 + 1), 0, z.2.2.2)) else (fX8_hopsByBreadth z.2.2.2 N z.2.1 z.2.2.1).bind fun z3 => (fX8_hopsOfSets z3.2 N z.2.1 z.2.2.1).bind fun z5 => (if z3.1 = z5 then some (.inl (1, z.2.1, (z.2.2.1 + 1), z3.2)) else some (.inr (0, z3.2)))))
noncomputable def fX11_hopsAgree (G : Mem) (N : Mem) (R : Mem) : Option (Int32 × Mem) := lp (fX11_hopsAgree_s G N) (0, 0, 0, R)
set_option maxHeartbeats 4000000 in
set_option maxRecDepth 100000 in
theorem mX11_hopsAgree (l : Launch) (E : EP) (B0 : Nat) (B : Nat) (L0 : Nat) (hb0 : B0 ≤ B) (hb1 : B + 202 ≤ L0) (G : Mem) (N : Mem) (R : Mem) (r : Int32 × Mem) (hf : fX11_hopsAgree G N R = some r) : MU l E B0 yX11_hopsAgree cX11_hopsAgree 3 (some .boolean) 4 0 0 [.ref (B + 0)] (fun H => Blk E B rnSh 1 G H ∧ Blk E (B + 1) netSh 15 N H ∧ Blk E (B + 168) relSh 3 R H) (some (.int r.1)) (fun H => Blk E B rnSh 1 G H ∧ Blk E (B + 1) netSh 15 N H ∧ Blk E (B + 168) relSh 3 r.2 H) (iv (B + 168) 3) := by
  refine mu_of (by decide +kernel) (Nat.le_of_ble_eq_true rfl) ?_
  intro p e s m args below meth c hx hb hml hown hts hrt hlocks hE H hP9 hS ls hl
  obtain ⟨hG, hN, hR⟩ := hP9
  have hown : s.vm.findClass RX11 = some m.cls := hown
  have hl : lv_has ls 3 [(0, .ref (B + 0))] := hl
  have hw : ∀ w ∈ WA, w.before args s = true := fun w h => hts w (List.mem_cons_of_mem _ h)
  have hAB : ∀ q, (iv (B + 168) 3) q → B0 ≤ q := (iv_ge (by omega))
  unfold fX11_hopsAgree at hf
  have loop : ∀ (fu : Nat) (z : Nat × Int32 × Int32 × Mem), lpI (fX11_hopsAgree_s G N) fu z = some r → (∀ (H : Heap) (locs : List Loc) (ls : Array Slot), z.1 = 0 → Blk E B rnSh 1 G H → Blk E (B + 1) netSh 15 N H → Blk E (B + 168) relSh 3 z.2.2.2 H → va_S (iv (B + 168) 3) s.heap H locs → lv_has ls 3 [(0, .ref (B + 0)), (1, .int z.2.1)] → W p l e (rmD 4 0 0) s m args below meth c H locs 0 0 (MQ below (QU (some (.int r.1)) (fun H => Blk E B rnSh 1 G H ∧ Blk E (B + 1) netSh 15 N H ∧ Blk E (B + 168) relSh 3 r.2 H) (iv (B + 168) 3)) args s 0 0 (iv (B + 168) 3)) (F0 m 2 ls [])) ∧ (∀ (H : Heap) (locs : List Loc) (ls : Array Slot), z.1 = 1 → Blk E B rnSh 1 G H → Blk E (B + 1) netSh 15 N H → Blk E (B + 168) relSh 3 z.2.2.2 H → va_S (iv (B + 168) 3) s.heap H locs → lv_has ls 3 [(0, .ref (B + 0)), (1, .int z.2.1), (2, .int z.2.2.1)] → W p l e (rmD 4 0 0) s m args below meth c H locs 0 0 (MQ below (QU (some (.int r.1)) (fun H => Blk E B rnSh 1 G H ∧ Blk E (B + 1) netSh 15 N H ∧ Blk E (B + 168) relSh 3 r.2 H) (iv (B + 168) 3)) args s 0 0 (iv (B + 168) 3)) (F0 m 15 ls [])) := by
    intro fu
    induction fu with
    | zero =>
      intro z hn
      exact nomatch hn
    | succ fu ih =>
      intro z hn
      obtain ⟨y, hf, hy⟩ := lpI_succ hn
      refine ⟨?_, ?_⟩
      · intro H locs ls hz hG hN hR hS hl
        unfold fX11_hopsAgree_s at hf
        rw [if_pos hz] at hf
        refine lv_iload_n hx hb dX11_hopsAgree_2 rfl (lv_at hl 1 rfl) ?_
        refine lv_aload_n hx hb dX11_hopsAgree_3 rfl (lv_at hl 0 rfl) ?_
        refine w_get (k := 0) (v := .ref ((B + 1) + 0)) hx hb hw hown hE fl_X11_12 hG (by decide) rfl rfl rfl dX11_hopsAgree_4 ?_
        refine w_get (k := 0) (v := .int (N 0 1)) hx hb hw hown hE fl_X11_135 hN (by decide) rfl rfl rfl dX11_hopsAgree_7 ?_
        refine lv_icmp_ge (tgt := 69) hx hb dX11_hopsAgree_10 (by decide) (fun c1 => ?_) (fun c1 => ?_)
        · rw [if_pos c1] at hf
          refine lv_iconst (v := 1) hx hb dX11_hopsAgree_69 (by decide) ?_
          have hre := lp_end hy (Option.some.inj hf).symm
          subst hre
          exact mu_z (v := 1) hx hb hrt rfl hlocks ⟨hG, hN, hR⟩ hS dX11_hopsAgree_70
        · rw [if_neg c1] at hf
          refine lv_iconst (v := 0) hx hb dX11_hopsAgree_13 (by decide) ?_
          refine lv_istore_n (lv' := [(2, .int 0), (0, .ref (B + 0)), (1, .int z.2.1)]) hx hb dX11_hopsAgree_14 rfl hl (by decide) rfl (fun ls hl => ?_)
          exact (ih (1, z.2.1, 0, z.2.2.2) (lp_back hy (Option.some.inj hf).symm)).2 _ _ _ rfl hG hN hR hS (lv_sub hl [1, 2, 0] rfl)
      · intro H locs ls hz hG hN hR hS hl
        unfold fX11_hopsAgree_s at hf
        rw [if_neg (by rw [hz]; decide)] at hf
        refine lv_iload_n hx hb dX11_hopsAgree_15 rfl (lv_at hl 2 rfl) ?_
        refine lv_aload_n hx hb dX11_hopsAgree_16 rfl (lv_at hl 0 rfl) ?_
        refine w_get (k := 0) (v := .ref ((B + 1) + 0)) hx hb hw hown hE fl_X11_12 hG (by decide) rfl rfl rfl dX11_hopsAgree_17 ?_
        refine w_get (k := 0) (v := .int (N 0 1)) hx hb hw hown hE fl_X11_135 hN (by decide) rfl rfl rfl dX11_hopsAgree_20 ?_
        refine lv_icmp_ge (tgt := 63) hx hb dX11_hopsAgree_23 (by decide) (fun c2 => ?_) (fun c2 => ?_)
        · rw [if_pos c2] at hf
          refine lv_iinc (v := (z.2.1 + 1)) (lv' := [(1, .int (z.2.1 + 1)), (0, .ref (B + 0)), (2, .int z.2.2.1)]) hx hb dX11_hopsAgree_63 hl (k := 1) rfl rfl (by decide) rfl (fun ls hl => ?_)
          refine lv_goto (tgt := 2) hx hb dX11_hopsAgree_66 (by decide) ?_
          exact (ih (0, (z.2.1 + 1), 0, z.2.2.2) (lp_back hy (Option.some.inj hf).symm)).1 _ _ _ rfl hG hN hR hS (lv_sub hl [1, 0] rfl)
        · rw [if_neg c2] at hf
          refine lv_aload_n hx hb dX11_hopsAgree_26 rfl (lv_at hl 0 rfl) ?_
          refine w_get (k := 0) (v := .ref ((B + 168) + 0)) hx hb hw hown hE fl_X11_36 hG (by decide) rfl rfl rfl dX11_hopsAgree_27 ?_
          refine lv_aload_n hx hb dX11_hopsAgree_30 rfl (lv_at hl 0 rfl) ?_
          refine w_get (k := 0) (v := .ref ((B + 1) + 0)) hx hb hw hown hE fl_X11_12 hG (by decide) rfl rfl rfl dX11_hopsAgree_31 ?_
          refine lv_iload_n hx hb dX11_hopsAgree_34 rfl (lv_at hl 1 rfl) ?_
          refine lv_iload_n hx hb dX11_hopsAgree_35 rfl (lv_at hl 2 rfl) ?_
          obtain ⟨z3, hc4, hf⟩ := br_some hf
          refine mu_cV (As := [.ref ((B + 1) + 0), .int z.2.1, .int z.2.2.1]) (rest := []) hx hb hml hown hts hE (mX8_hopsByBreadth l E B0 (B + 168) (B + 1) (by omega) (by omega) (by omega) z.2.2.2 N z.2.1 z.2.2.1 z3 hc4) cv_X11_222 (w_recv (k := 0) (ci := 8) hE hR (by decide) rfl rfl) ⟨hR, hN⟩ hS hAB (fun _ h => h) rfl hl.1 rfl (by decide) (Nat.le_of_ble_eq_true rfl) ⟨Nat.le_refl _, Nat.le_refl _⟩ dX11_hopsAgree_36 (fun H locs hP9 _ hu hS => ?_)
          obtain ⟨hR, hN⟩ := hP9
          have hG := Blk.off hG hu (iv_dis (by omega))
          refine lv_aload_n hx hb dX11_hopsAgree_39 rfl (lv_at hl 0 rfl) ?_
          refine w_get (k := 0) (v := .ref ((B + 168) + 0)) hx hb hw hown hE fl_X11_36 hG (by decide) rfl rfl rfl dX11_hopsAgree_40 ?_
          refine lv_aload_n hx hb dX11_hopsAgree_43 rfl (lv_at hl 0 rfl) ?_
          refine w_get (k := 0) (v := .ref ((B + 1) + 0)) hx hb hw hown hE fl_X11_12 hG (by decide) rfl rfl rfl dX11_hopsAgree_44 ?_
          refine lv_iload_n hx hb dX11_hopsAgree_47 rfl (lv_at hl 1 rfl) ?_
          refine lv_iload_n hx hb dX11_hopsAgree_48 rfl (lv_at hl 2 rfl) ?_
          obtain ⟨z5, hc6, hf⟩ := br_some hf
          refine mu_cV (As := [.ref ((B + 1) + 0), .int z.2.1, .int z.2.2.1]) (rest := [.int z3.1]) hx hb hml hown hts hE (mX8_hopsOfSets l E B0 (B + 168) (B + 1) (by omega) (by omega) (by omega) z3.2 N z.2.1 z.2.2.1 z5 hc6) cv_X11_229 (w_recv (k := 0) (ci := 8) hE hR (by decide) rfl rfl) ⟨hR, hN⟩ hS hAB (fun _ h => h.elim) rfl hl.1 rfl (by decide) (Nat.le_of_ble_eq_true rfl) ⟨Nat.le_refl _, Nat.le_refl _⟩ dX11_hopsAgree_49 (fun H locs hP9 _ hu hS => ?_)
          obtain ⟨hR, hN⟩ := hP9
          have hG := Blk.off hG hu (fun _ _ _ h => h)
          refine lv_icmp_eq (tgt := 57) hx hb dX11_hopsAgree_52 (by decide) (fun c7 => ?_) (fun c7 => ?_)
          · rw [if_pos c7] at hf
            refine lv_iinc (v := (z.2.2.1 + 1)) (lv' := [(2, .int (z.2.2.1 + 1)), (0, .ref (B + 0)), (1, .int z.2.1)]) hx hb dX11_hopsAgree_57 hl (k := 2) rfl rfl (by decide) rfl (fun ls hl => ?_)
            refine lv_goto (tgt := 15) hx hb dX11_hopsAgree_60 (by decide) ?_
            exact (ih (1, z.2.1, (z.2.2.1 + 1), z3.2) (lp_back hy (Option.some.inj hf).symm)).2 _ _ _ rfl hG hN hR hS (lv_sub hl [1, 2, 0] rfl)
          · rw [if_neg c7] at hf
            refine lv_iconst (v := 0) hx hb dX11_hopsAgree_55 (by decide) ?_
            have hre := lp_end hy (Option.some.inj hf).symm
            subst hre
            exact mu_z (v := 0) hx hb hrt rfl hlocks ⟨hG, hN, hR⟩ hS dX11_hopsAgree_56
  refine lv_iconst (v := 0) hx hb dX11_hopsAgree_0 (by decide) ?_
  refine lv_istore_n (lv' := [(1, .int 0), (0, .ref (B + 0))]) hx hb dX11_hopsAgree_1 rfl hl (by decide) rfl (fun ls hl => ?_)
  obtain ⟨fu, hfu⟩ := lp_some hf
  exact (loop fu (0, 0, 0, R) hfu).1 _ _ _ rfl hG hN hR hS (lv_sub hl [1, 0] rfl)
noncomputable def fX11_turnsAgree_s (G : Mem) (N : Mem) (z : Int32 × Mem) : Option ((Int32 × Mem) ⊕ (Int32 × Mem)) := (if (N 0 1) ≤ z.1 then some (.inr (1, z.2)) else gd (inb z.1 8) (gd (inb (N (2 + 1 * z.1.toNatClampNeg) 6) 3) ((if (N (2 + 1 * z.1.toNatClampNeg) 6) = (2 : Int32) then (fX6_computedMinutes N z.1).bind fun z5 => (fX11_simulatedMinutes G N z.2 z.1).bind fun z7 => (if z5 = z7.1 then some (.inl ((z.1 + 1), z7.2)) else some (.inr (0, z7.2))) else some (.inl ((z.1 + 1), z.2))))))
noncomputable def fX11_turnsAgree (G : Mem) (N : Mem) (T : Mem) : Option (Int32 × Mem) := lp (fX11_turnsAgree_s G N) (0, T)
set_option maxHeartbeats 4000000 in
set_option maxRecDepth 100000 in
theorem mX11_turnsAgree (l : Launch) (E : EP) (B0 : Nat) (B : Nat) (L0 : Nat) (hb0 : B0 ≤ B) (hb1 : B + 202 ≤ L0) (G : Mem) (N : Mem) (T : Mem) (r : Int32 × Mem) (hf : fX11_turnsAgree G N T = some r) : MU l E B0 yX11_turnsAgree cX11_turnsAgree 2 (some .boolean) 5 0 0 [.ref (B + 0)] (fun H => Blk E B rnSh 1 G H ∧ Blk E (B + 1) netSh 15 N H ∧ Blk E (B + 16) netSh 15 T H) (some (.int r.1)) (fun H => Blk E B rnSh 1 G H ∧ Blk E (B + 1) netSh 15 N H ∧ Blk E (B + 16) netSh 15 r.2 H) (iv (B + 16) 15) := by
  refine mu_of (by decide +kernel) (Nat.le_of_ble_eq_true rfl) ?_
  intro p e s m args below meth c hx hb hml hown hts hrt hlocks hE H hP9 hS ls hl
  obtain ⟨hG, hN, hT⟩ := hP9
  have hown : s.vm.findClass RX11 = some m.cls := hown
  have hl : lv_has ls 2 [(0, .ref (B + 0))] := hl
  have hw : ∀ w ∈ WA, w.before args s = true := fun w h => hts w (List.mem_cons_of_mem _ h)
  have hAB : ∀ q, (iv (B + 16) 15) q → B0 ≤ q := (iv_ge (by omega))
  unfold fX11_turnsAgree at hf
  have loop : ∀ (fu : Nat) (z : Int32 × Mem), lpI (fX11_turnsAgree_s G N) fu z = some r → (∀ (H : Heap) (locs : List Loc) (ls : Array Slot), Blk E B rnSh 1 G H → Blk E (B + 1) netSh 15 N H → Blk E (B + 16) netSh 15 z.2 H → va_S (iv (B + 16) 15) s.heap H locs → lv_has ls 2 [(0, .ref (B + 0)), (1, .int z.1)] → W p l e (rmD 5 0 0) s m args below meth c H locs 0 0 (MQ below (QU (some (.int r.1)) (fun H => Blk E B rnSh 1 G H ∧ Blk E (B + 1) netSh 15 N H ∧ Blk E (B + 16) netSh 15 r.2 H) (iv (B + 16) 15)) args s 0 0 (iv (B + 16) 15)) (F0 m 2 ls [])) := by
    intro fu
    induction fu with
    | zero =>
      intro z hn
      exact nomatch hn
    | succ fu ih =>
      intro z hn
      obtain ⟨y, hf, hy⟩ := lpI_succ hn
      intro H locs ls hG hN hT hS hl
      unfold fX11_turnsAgree_s at hf
      refine lv_iload_n hx hb dX11_turnsAgree_2 rfl (lv_at hl 1 rfl) ?_
      refine lv_aload_n hx hb dX11_turnsAgree_3 rfl (lv_at hl 0 rfl) ?_
      refine w_get (k := 0) (v := .ref ((B + 1) + 0)) hx hb hw hown hE fl_X11_12 hG (by decide) rfl rfl rfl dX11_turnsAgree_4 ?_
      refine w_get (k := 0) (v := .int (N 0 1)) hx hb hw hown hE fl_X11_135 hN (by decide) rfl rfl rfl dX11_turnsAgree_7 ?_
      refine lv_icmp_ge (tgt := 55) hx hb dX11_turnsAgree_10 (by decide) (fun c1 => ?_) (fun c1 => ?_)
      · rw [if_pos c1] at hf
        refine lv_iconst (v := 1) hx hb dX11_turnsAgree_55 (by decide) ?_
        have hre := lp_end hy (Option.some.inj hf).symm
        subst hre
        exact mu_z (v := 1) hx hb hrt rfl hlocks ⟨hG, hN, hT⟩ hS dX11_turnsAgree_56
      · rw [if_neg c1] at hf
        refine lv_aload_n hx hb dX11_turnsAgree_13 rfl (lv_at hl 0 rfl) ?_
        refine w_get (k := 0) (v := .ref ((B + 1) + 0)) hx hb hw hown hE fl_X11_12 hG (by decide) rfl rfl rfl dX11_turnsAgree_14 ?_
        refine w_get (k := 0) (v := .ref ((B + 1) + 1)) hx hb hw hown hE fl_X11_308 hN (by decide) rfl rfl rfl dX11_turnsAgree_17 ?_
        refine lv_iload_n hx hb dX11_turnsAgree_20 rfl (lv_at hl 1 rfl) ?_
        obtain ⟨h2, hf⟩ := gd_some hf
        refine w_aald (k := 1) (j := 0) (x9 := z.1.toNatClampNeg) hx hb hE hN (by decide) rfl rfl rfl h2 dX11_turnsAgree_21 ?_
        refine w_get (k := (2 + 1 * z.1.toNatClampNeg)) (v := .ref (E.2.2 0 (N (2 + 1 * z.1.toNatClampNeg) 6).toNatClampNeg)) hx hb hw hown hE fl_X11_168 hN (stn_lt (stn_ld h2)) (stn_sh (stn_ld h2)) rfl rfl dX11_turnsAgree_22 ?_
        refine w_gs (i := 2) (z := 2) hx hb hw hown (EV.en0 hE) (by decide) hS hAB gs_X11_119 (by decide) dX11_turnsAgree_25 ?_
        obtain ⟨h3, hf⟩ := gd_some hf
        refine w_acmpE_ne (tgt := 49) hx hb (EV.en0 hE) h3 (by decide) dX11_turnsAgree_28 (by decide) (fun c4 => ?_) (fun c4 => ?_)
        · rw [if_neg c4] at hf
          refine lv_iinc (v := (z.1 + 1)) (lv' := [(1, .int (z.1 + 1)), (0, .ref (B + 0))]) hx hb dX11_turnsAgree_49 hl (k := 1) rfl rfl (by decide) rfl (fun ls hl => ?_)
          refine lv_goto (tgt := 2) hx hb dX11_turnsAgree_52 (by decide) ?_
          exact ih ((z.1 + 1), z.2) (lp_back hy (Option.some.inj hf).symm) _ _ _ hG hN hT hS (lv_sub hl [1, 0] rfl)
        · rw [if_pos c4] at hf
          refine lv_aload_n hx hb dX11_turnsAgree_31 rfl (lv_at hl 0 rfl) ?_
          refine w_get (k := 0) (v := .ref ((B + 1) + 0)) hx hb hw hown hE fl_X11_12 hG (by decide) rfl rfl rfl dX11_turnsAgree_32 ?_
          refine lv_iload_n hx hb dX11_turnsAgree_35 rfl (lv_at hl 1 rfl) ?_
          obtain ⟨z5, hc6, hf⟩ := br_some hf
          refine mu_cV (As := [.int z.1]) (rest := []) hx hb hml hown hts hE (mX6_computedMinutes l E B0 (B + 1) (by omega) N z.1 z5 hc6) cv_X11_199 (w_recv (k := 0) (ci := 6) hE hN (by decide) rfl rfl) hN hS hAB (fun _ h => h.elim) rfl hl.1 rfl (by decide) (Nat.le_of_ble_eq_true rfl) ⟨Nat.le_refl _, Nat.le_refl _⟩ dX11_turnsAgree_36 (fun H locs hN _ hu hS => ?_)
          have hG := Blk.off hG hu (fun _ _ _ h => h)
          have hT := Blk.off hT hu (fun _ _ _ h => h)
          refine lv_aload_n hx hb dX11_turnsAgree_39 rfl (lv_at hl 0 rfl) ?_
          refine lv_iload_n hx hb dX11_turnsAgree_40 rfl (lv_at hl 1 rfl) ?_
          obtain ⟨z7, hc8, hf⟩ := br_some hf
          refine mu_cV (As := [.int z.1]) (rest := [.int z5]) hx hb hml hown hts hE (mX11_simulatedMinutes l E B0 B L0 (by omega) (by omega) G N z.2 z.1 z7 hc8) cv_X11_202 (w_recv (k := 0) (ci := 11) hE hG (by decide) rfl rfl) ⟨hG, hN, hT⟩ hS hAB (fun _ h => h) rfl hl.1 rfl (by decide) (Nat.le_of_ble_eq_true rfl) ⟨Nat.le_refl _, Nat.le_refl _⟩ dX11_turnsAgree_41 (fun H locs hP9 _ hu hS => ?_)
          obtain ⟨hG, hN, hT⟩ := hP9
          refine lv_icmp_eq (tgt := 49) hx hb dX11_turnsAgree_44 (by decide) (fun c9 => ?_) (fun c9 => ?_)
          · rw [if_pos c9] at hf
            refine lv_iinc (v := (z.1 + 1)) (lv' := [(1, .int (z.1 + 1)), (0, .ref (B + 0))]) hx hb dX11_turnsAgree_49 hl (k := 1) rfl rfl (by decide) rfl (fun ls hl => ?_)
            refine lv_goto (tgt := 2) hx hb dX11_turnsAgree_52 (by decide) ?_
            exact ih ((z.1 + 1), z7.2) (lp_back hy (Option.some.inj hf).symm) _ _ _ hG hN hT hS (lv_sub hl [1, 0] rfl)
          · rw [if_neg c9] at hf
            refine lv_iconst (v := 0) hx hb dX11_turnsAgree_47 (by decide) ?_
            have hre := lp_end hy (Option.some.inj hf).symm
            subst hre
            exact mu_z (v := 0) hx hb hrt rfl hlocks ⟨hG, hN, hT⟩ hS dX11_turnsAgree_48
  refine lv_iconst (v := 0) hx hb dX11_turnsAgree_0 (by decide) ?_
  refine lv_istore_n (lv' := [(1, .int 0), (0, .ref (B + 0))]) hx hb dX11_turnsAgree_1 rfl hl (by decide) rfl (fun ls hl => ?_)
  obtain ⟨fu, hfu⟩ := lp_some hf
  exact (loop fu (0, T) hfu) _ _ _ hG hN hT hS (lv_sub hl [1, 0] rfl)
noncomputable def fX11_isConsistent (G : Mem) (N : Mem) (T : Mem) (R : Mem) : Option (Int32 × Mem × Mem) := (fX11_hopsAgree G N R).bind fun z1 => (if z1.1 = 0 then some (0, T, z1.2) else (fX6_jamsOfStations N).bind fun z4 => (fX6_jamsOfChannels N).bind fun z6 => (if z4 = z6 then (fX11_turnsAgree G N T).bind fun z9 => (if z9.1 = 0 then some (0, z9.2, z1.2) else (fX6_channelsAreOrdered N).bind fun z12 => (if z12 = 0 then some (0, z9.2, z1.2) else some (1, z9.2, z1.2))) else some (0, T, z1.2)))
set_option maxHeartbeats 4000000 in
set_option maxRecDepth 100000 in
theorem mX11_isConsistent (l : Launch) (E : EP) (B0 : Nat) (B : Nat) (L0 : Nat) (hb0 : B0 ≤ B) (hb1 : B + 202 ≤ L0) (G : Mem) (N : Mem) (T : Mem) (R : Mem) (r : Int32 × Mem × Mem) (hf : fX11_isConsistent G N T R = some r) : MU l E B0 yX11_isConsistent cX11_isConsistent 1 (some .boolean) 6 0 0 [.ref (B + 0)] (fun H => Blk E B rnSh 1 G H ∧ Blk E (B + 1) netSh 15 N H ∧ Blk E (B + 16) netSh 15 T H ∧ Blk E (B + 168) relSh 3 R H) (some (.int r.1)) (fun H => Blk E B rnSh 1 G H ∧ Blk E (B + 1) netSh 15 N H ∧ Blk E (B + 16) netSh 15 r.2.1 H ∧ Blk E (B + 168) relSh 3 r.2.2 H) (orA (iv (B + 16) 15) (iv (B + 168) 3)) := by
  refine mu_of (by decide +kernel) (Nat.le_of_ble_eq_true rfl) ?_
  intro p e s m args below meth c hx hb hml hown hts hrt hlocks hE H hP9 hS ls hl
  obtain ⟨hG, hN, hT, hR⟩ := hP9
  have hown : s.vm.findClass RX11 = some m.cls := hown
  have hl : lv_has ls 1 [(0, .ref (B + 0))] := hl
  have hw : ∀ w ∈ WA, w.before args s = true := fun w h => hts w (List.mem_cons_of_mem _ h)
  have hAB : ∀ q, (orA (iv (B + 16) 15) (iv (B + 168) 3)) q → B0 ≤ q := (or_ge (iv_ge (by omega)) (iv_ge (by omega)))
  unfold fX11_isConsistent at hf
  refine lv_aload_n hx hb dX11_isConsistent_0 rfl (lv_at hl 0 rfl) ?_
  obtain ⟨z1, hc2, hf⟩ := br_some hf
  refine mu_cV (As := []) (rest := []) hx hb hml hown hts hE (mX11_hopsAgree l E B0 B L0 (by omega) (by omega) G N R z1 hc2) cv_X11_275 (w_recv (k := 0) (ci := 11) hE hG (by decide) rfl rfl) ⟨hG, hN, hR⟩ hS hAB (fun _ h => Or.inr (h)) rfl hl.1 rfl (by decide) (Nat.le_of_ble_eq_true rfl) ⟨Nat.le_refl _, Nat.le_refl _⟩ dX11_isConsistent_1 (fun H locs hP9 _ hu hS => ?_)
  obtain ⟨hG, hN, hR⟩ := hP9
  have hT := Blk.off hT hu (iv_dis (by omega))
  refine lv_if_eq (tgt := 45) hx hb dX11_isConsistent_4 (by decide) (fun c3 => ?_) (fun c3 => ?_)
  · rw [if_pos c3] at hf
    refine lv_iconst (v := 0) hx hb dX11_isConsistent_45 (by decide) ?_
    have hre := Option.some.inj hf
    subst hre
    exact mu_z (v := 0) hx hb hrt rfl hlocks ⟨hG, hN, hT, hR⟩ hS dX11_isConsistent_46
  · rw [if_neg c3] at hf
    refine lv_aload_n hx hb dX11_isConsistent_7 rfl (lv_at hl 0 rfl) ?_
    refine w_get (k := 0) (v := .ref ((B + 1) + 0)) hx hb hw hown hE fl_X11_12 hG (by decide) rfl rfl rfl dX11_isConsistent_8 ?_
    obtain ⟨z4, hc5, hf⟩ := br_some hf
    refine mu_cV (As := []) (rest := []) hx hb hml hown hts hE (mX6_jamsOfStations l E B0 (B + 1) (by omega) N z4 hc5) cv_X11_212 (w_recv (k := 0) (ci := 6) hE hN (by decide) rfl rfl) hN hS hAB (fun _ h => h.elim) rfl hl.1 rfl (by decide) (Nat.le_of_ble_eq_true rfl) ⟨Nat.le_refl _, Nat.le_refl _⟩ dX11_isConsistent_11 (fun H locs hN _ hu hS => ?_)
    have hG := Blk.off hG hu (fun _ _ _ h => h)
    have hT := Blk.off hT hu (fun _ _ _ h => h)
    have hR := Blk.off hR hu (fun _ _ _ h => h)
    refine lv_aload_n hx hb dX11_isConsistent_14 rfl (lv_at hl 0 rfl) ?_
    refine w_get (k := 0) (v := .ref ((B + 1) + 0)) hx hb hw hown hE fl_X11_12 hG (by decide) rfl rfl rfl dX11_isConsistent_15 ?_
    obtain ⟨z6, hc7, hf⟩ := br_some hf
    refine mu_cV (As := []) (rest := [.int z4]) hx hb hml hown hts hE (mX6_jamsOfChannels l E B0 (B + 1) (by omega) N z6 hc7) cv_X11_216 (w_recv (k := 0) (ci := 6) hE hN (by decide) rfl rfl) hN hS hAB (fun _ h => h.elim) rfl hl.1 rfl (by decide) (Nat.le_of_ble_eq_true rfl) ⟨Nat.le_refl _, Nat.le_refl _⟩ dX11_isConsistent_18 (fun H locs hN _ hu hS => ?_)
    have hG := Blk.off hG hu (fun _ _ _ h => h)
    have hT := Blk.off hT hu (fun _ _ _ h => h)
    have hR := Blk.off hR hu (fun _ _ _ h => h)
    refine lv_icmp_ne (tgt := 45) hx hb dX11_isConsistent_21 (by decide) (fun c8 => ?_) (fun c8 => ?_)
    · rw [if_neg c8] at hf
      refine lv_iconst (v := 0) hx hb dX11_isConsistent_45 (by decide) ?_
      have hre := Option.some.inj hf
      subst hre
      exact mu_z (v := 0) hx hb hrt rfl hlocks ⟨hG, hN, hT, hR⟩ hS dX11_isConsistent_46
    · rw [if_pos c8] at hf
      refine lv_aload_n hx hb dX11_isConsistent_24 rfl (lv_at hl 0 rfl) ?_
      obtain ⟨z9, hc10, hf⟩ := br_some hf
      refine mu_cV (As := []) (rest := []) hx hb hml hown hts hE (mX11_turnsAgree l E B0 B L0 (by omega) (by omega) G N T z9 hc10) cv_X11_279 (w_recv (k := 0) (ci := 11) hE hG (by decide) rfl rfl) ⟨hG, hN, hT⟩ hS hAB (fun _ h => Or.inl (h)) rfl hl.1 rfl (by decide) (Nat.le_of_ble_eq_true rfl) ⟨Nat.le_refl _, Nat.le_refl _⟩ dX11_isConsistent_25 (fun H locs hP9 _ hu hS => ?_)
      obtain ⟨hG, hN, hT⟩ := hP9
      have hR := Blk.off hR hu (iv_dis (by omega))
      refine lv_if_eq (tgt := 45) hx hb dX11_isConsistent_28 (by decide) (fun c11 => ?_) (fun c11 => ?_)
      · rw [if_pos c11] at hf
        refine lv_iconst (v := 0) hx hb dX11_isConsistent_45 (by decide) ?_
        have hre := Option.some.inj hf
        subst hre
        exact mu_z (v := 0) hx hb hrt rfl hlocks ⟨hG, hN, hT, hR⟩ hS dX11_isConsistent_46
      · rw [if_neg c11] at hf
        refine lv_aload_n hx hb dX11_isConsistent_31 rfl (lv_at hl 0 rfl) ?_
        refine w_get (k := 0) (v := .ref ((B + 1) + 0)) hx hb hw hown hE fl_X11_12 hG (by decide) rfl rfl rfl dX11_isConsistent_32 ?_
        obtain ⟨z12, hc13, hf⟩ := br_some hf
        refine mu_cV (As := []) (rest := []) hx hb hml hown hts hE (mX6_channelsAreOrdered l E B0 (B + 1) (by omega) N z12 hc13) cv_X11_282 (w_recv (k := 0) (ci := 6) hE hN (by decide) rfl rfl) hN hS hAB (fun _ h => h.elim) rfl hl.1 rfl (by decide) (Nat.le_of_ble_eq_true rfl) ⟨Nat.le_refl _, Nat.le_refl _⟩ dX11_isConsistent_35 (fun H locs hN _ hu hS => ?_)
        have hG := Blk.off hG hu (fun _ _ _ h => h)
        have hT := Blk.off hT hu (fun _ _ _ h => h)
        have hR := Blk.off hR hu (fun _ _ _ h => h)
        refine lv_if_eq (tgt := 45) hx hb dX11_isConsistent_38 (by decide) (fun c14 => ?_) (fun c14 => ?_)
        · rw [if_pos c14] at hf
          refine lv_iconst (v := 0) hx hb dX11_isConsistent_45 (by decide) ?_
          have hre := Option.some.inj hf
          subst hre
          exact mu_z (v := 0) hx hb hrt rfl hlocks ⟨hG, hN, hT, hR⟩ hS dX11_isConsistent_46
        · rw [if_neg c14] at hf
          refine lv_iconst (v := 1) hx hb dX11_isConsistent_41 (by decide) ?_
          refine lv_goto (tgt := 46) hx hb dX11_isConsistent_42 (by decide) ?_
          have hre := Option.some.inj hf
          subst hre
          exact mu_z (v := 1) hx hb hrt rfl hlocks ⟨hG, hN, hT, hR⟩ hS dX11_isConsistent_46
noncomputable def fX11_writeStation (G : Mem) (N : Mem) (Sb : TX) (a1 : Int32) : Option ((Nat ⊕ Int32) × TX) := (fX11_known G N a1).bind fun z1 => sx z1 (fun e9 => some (.inl e9, Sb)) (fun v3 => gd (stn v3) ((fJ4_setLength_d00df Sb (0 : Int32)).bind fun z5 => (fX11_appendSign G N z5 v3).bind fun z7 => (fJ4_append_cf468 z7 (64 : Int32)).bind fun z9 => (fJ4_append_bf812 z9 (N v3 2)).bind fun z11 => (fJ4_append_cf468 z11 (44 : Int32)).bind fun z13 => (fJ4_append_bf812 z13 (N v3 3)).bind fun z15 => (fJ4_append_cf468 z15 (35 : Int32)).bind fun z17 => (fJ4_append_bf812 z17 (N v3 5)).bind fun z19 => gd (inb (N v3 6) 3) ((if (N v3 6) = (1 : Int32) then (fJ4_append_cf468 z19 (33 : Int32)).bind fun z31 => (fJ4_length_8abf5 z31).bind fun z33 => some (.inr z33, z31) else gd (inb (N v3 6) 3) ((if (N v3 6) = (2 : Int32) then (fJ4_append_cf468 z19 (63 : Int32)).bind fun z27 => (fJ4_length_8abf5 z27).bind fun z29 => some (.inr z29, z27) else (fJ4_length_8abf5 z19).bind fun z25 => some (.inr z25, z19)))))))
set_option maxHeartbeats 4000000 in
set_option maxRecDepth 100000 in
theorem mX11_writeStation (l : Launch) (E : EP) (B0 : Nat) (htr : l.stackTraces = false) (B : Nat) (L0 : Nat) (hb0 : B0 ≤ B) (hb1 : B + 202 ≤ L0) (G : Mem) (N : Mem) (Sb : TX) (a1 : Int32) (r : (Nat ⊕ Int32) × TX) (hf : fX11_writeStation G N Sb a1 = some r) : MX l E B0 yX11_writeStation cX11_writeStation 3 (some .int) 10 10 312 [.ref (B + 0), .int a1] (fun H => Blk E B rnSh 1 G H ∧ Blk E (B + 1) netSh 15 N H ∧ SBt E (B + 200) L0 Sb H) r.1 (fun v => (some (.int v))) (fun H => Blk E B rnSh 1 G H ∧ Blk E (B + 1) netSh 15 N H ∧ SBt E (B + 200) L0 r.2 H) (sbA (B + 200) L0) := by
  refine mx_of (by decide +kernel) (Nat.le_of_ble_eq_true rfl) ?_
  intro p e s m args below meth c hx hb hml hown hts hrt hlocks htab hE H hP9 hS ls hl
  obtain ⟨hG, hN, hSb⟩ := hP9
  have hown : s.vm.findClass RX11 = some m.cls := hown
  have hl : lv_has ls 3 [(0, .ref (B + 0)), (1, .int a1)] := hl
  have hw : ∀ w ∈ WA, w.before args s = true := fun w h => hts w (List.mem_cons_of_mem _ h)
  have hAB : ∀ q, (sbA (B + 200) L0) q → B0 ≤ q := (sb_ge (by omega) (by omega))
  unfold fX11_writeStation at hf
  refine lv_aload_n hx hb dX11_writeStation_0 rfl (lv_at hl 0 rfl) ?_
  refine lv_iload_n hx hb dX11_writeStation_1 rfl (lv_at hl 1 rfl) ?_
  obtain ⟨z1, hc2, hf⟩ := br_some hf
  refine mx_cV (As := [.int a1]) (rest := []) htab hlocks hx hb hml hown hts hE (mX11_known l E B0 htr B L0 (by omega) (by omega) G N a1 z1 hc2) cv_X11_149 (w_recv (k := 0) (ci := 11) hE hG (by decide) rfl rfl) ⟨hG, hN⟩ hS hAB (fun _ h => h.elim) rfl hl.1 rfl (by decide) (Nat.le_of_ble_eq_true rfl) ⟨by decide, by decide⟩ ⟨by decide, by decide⟩ dX11_writeStation_2 (fun e9 ee H hP9 hz hu => ?_) (fun v3 ev H locs hP9 hz hu hS => ?_)
  · have hf := sx_l ee hf
    obtain ⟨hG, hN⟩ := hP9
    have hSb := SBt.off hSb hz hu (fun _ _ h => h)
    have hre := Option.some.inj hf
    subst hre
    exact ⟨rfl, ⟨hG, hN, hSb⟩⟩
  have hf := sx_r ev hf
  obtain ⟨hG, hN⟩ := hP9
  have hSb := SBt.off hSb hz hu (fun _ _ h => h)
  obtain ⟨h4, hf⟩ := gd_some hf
  refine lv_astore_n (lv' := [(2, .ref ((B + 1) + v3)), (0, .ref (B + 0)), (1, .int a1)]) hx hb dX11_writeStation_5 rfl hl (by decide) rfl (fun ls hl => ?_)
  refine lv_aload_n hx hb dX11_writeStation_6 rfl (lv_at hl 1 rfl) ?_
  refine w_get (k := 0) (v := .ref ((B + 200) + 0)) hx hb hw hown hE fl_X11_50 hG (by decide) rfl rfl rfl dX11_writeStation_7 ?_
  refine lv_iconst (v := 0) hx hb dX11_writeStation_10 (by decide) ?_
  obtain ⟨z5, hc6, hf⟩ := br_some hf
  refine mu_cV (As := [.int 0]) (rest := []) hx hb hml hown hts hE (mJ4_setLength_d00df l E B0 (B + 200) L0 (by omega) (by omega) Sb (0 : Int32) z5 hc6) cv_X11_285 (SBt.recv hE hSb) hSb hS hAB (fun _ h => h) rfl hl.1 rfl (by decide) (Nat.le_of_ble_eq_true rfl) ⟨by decide, by decide⟩ dX11_writeStation_11 (fun H locs hSb hz hu hS => ?_)
  have hG := Blk.off hG hu (iv_sb_dis (by omega) (by omega))
  have hN := Blk.off hN hu (iv_sb_dis (by omega) (by omega))
  refine lv_aload_n hx hb dX11_writeStation_14 rfl (lv_at hl 1 rfl) ?_
  refine lv_aload_n hx hb dX11_writeStation_15 rfl (lv_at hl 0 rfl) ?_
  obtain ⟨z7, hc8, hf⟩ := br_some hf
  refine mu_cV (As := [.ref ((B + 1) + v3)]) (rest := []) hx hb hml hown hts hE (mX11_appendSign l E B0 B L0 (by omega) (by omega) G N z5 v3 z7 hc8) cv_X11_288 (w_recv (k := 0) (ci := 11) hE hG (by decide) rfl rfl) ⟨hG, hN, hSb⟩ hS hAB (fun _ h => h) rfl hl.1 rfl (by decide) (Nat.le_of_ble_eq_true rfl) ⟨by decide, by decide⟩ dX11_writeStation_16 (fun H locs hP9 hz hu hS => ?_)
  obtain ⟨hG, hN, hSb⟩ := hP9
  refine lv_aload_n hx hb dX11_writeStation_19 rfl (lv_at hl 1 rfl) ?_
  refine w_get (k := 0) (v := .ref ((B + 200) + 0)) hx hb hw hown hE fl_X11_50 hG (by decide) rfl rfl rfl dX11_writeStation_20 ?_
  refine lv_bipush (v := 64) hx hb dX11_writeStation_23 (by decide) ?_
  obtain ⟨z9, hc10, hf⟩ := br_some hf
  refine mu_cV (As := [.int 64]) (rest := []) hx hb hml hown hts hE (mJ4_append_cf468 l E B0 (B + 200) L0 (by omega) (by omega) z7 (64 : Int32) z9 hc10) cv_X11_292 (SBt.recv hE hSb) hSb hS hAB (fun _ h => h) rfl hl.1 rfl (by decide) (Nat.le_of_ble_eq_true rfl) ⟨by decide, by decide⟩ dX11_writeStation_25 (fun H locs hSb hz hu hS => ?_)
  have hG := Blk.off hG hu (iv_sb_dis (by omega) (by omega))
  have hN := Blk.off hN hu (iv_sb_dis (by omega) (by omega))
  refine lv_aload_n hx hb dX11_writeStation_28 rfl (lv_at hl 0 rfl) ?_
  refine w_get (k := v3) (v := .int (N v3 2)) hx hb hw hown hE fl_X11_296 hN (stn_lt h4) (stn_sh h4) rfl rfl dX11_writeStation_29 ?_
  obtain ⟨z11, hc12, hf⟩ := br_some hf
  refine mu_cV (As := [.int (N v3 2)]) (rest := []) hx hb hml hown hts hE (mJ4_append_bf812 l E B0 (B + 200) L0 (by omega) (by omega) z9 (N v3 2) z11 hc12) cv_X11_299 (SBt.recv hE hSb) hSb hS hAB (fun _ h => h) rfl hl.1 rfl (by decide) (Nat.le_of_ble_eq_true rfl) ⟨by decide, by decide⟩ dX11_writeStation_32 (fun H locs hSb hz hu hS => ?_)
  have hG := Blk.off hG hu (iv_sb_dis (by omega) (by omega))
  have hN := Blk.off hN hu (iv_sb_dis (by omega) (by omega))
  refine lv_bipush (v := 44) hx hb dX11_writeStation_35 (by decide) ?_
  obtain ⟨z13, hc14, hf⟩ := br_some hf
  refine mu_cV (As := [.int 44]) (rest := []) hx hb hml hown hts hE (mJ4_append_cf468 l E B0 (B + 200) L0 (by omega) (by omega) z11 (44 : Int32) z13 hc14) cv_X11_292 (SBt.recv hE hSb) hSb hS hAB (fun _ h => h) rfl hl.1 rfl (by decide) (Nat.le_of_ble_eq_true rfl) ⟨by decide, by decide⟩ dX11_writeStation_37 (fun H locs hSb hz hu hS => ?_)
  have hG := Blk.off hG hu (iv_sb_dis (by omega) (by omega))
  have hN := Blk.off hN hu (iv_sb_dis (by omega) (by omega))
  refine lv_aload_n hx hb dX11_writeStation_40 rfl (lv_at hl 0 rfl) ?_
  refine w_get (k := v3) (v := .int (N v3 3)) hx hb hw hown hE fl_X11_302 hN (stn_lt h4) (stn_sh h4) rfl rfl dX11_writeStation_41 ?_
  obtain ⟨z15, hc16, hf⟩ := br_some hf
  refine mu_cV (As := [.int (N v3 3)]) (rest := []) hx hb hml hown hts hE (mJ4_append_bf812 l E B0 (B + 200) L0 (by omega) (by omega) z13 (N v3 3) z15 hc16) cv_X11_299 (SBt.recv hE hSb) hSb hS hAB (fun _ h => h) rfl hl.1 rfl (by decide) (Nat.le_of_ble_eq_true rfl) ⟨by decide, by decide⟩ dX11_writeStation_44 (fun H locs hSb hz hu hS => ?_)
  have hG := Blk.off hG hu (iv_sb_dis (by omega) (by omega))
  have hN := Blk.off hN hu (iv_sb_dis (by omega) (by omega))
  refine lv_pop hx hb dX11_writeStation_47 rfl ?_
  refine lv_aload_n hx hb dX11_writeStation_48 rfl (lv_at hl 1 rfl) ?_
  refine w_get (k := 0) (v := .ref ((B + 200) + 0)) hx hb hw hown hE fl_X11_50 hG (by decide) rfl rfl rfl dX11_writeStation_49 ?_
  refine lv_bipush (v := 35) hx hb dX11_writeStation_52 (by decide) ?_
  obtain ⟨z17, hc18, hf⟩ := br_some hf
  refine mu_cV (As := [.int 35]) (rest := []) hx hb hml hown hts hE (mJ4_append_cf468 l E B0 (B + 200) L0 (by omega) (by omega) z15 (35 : Int32) z17 hc18) cv_X11_292 (SBt.recv hE hSb) hSb hS hAB (fun _ h => h) rfl hl.1 rfl (by decide) (Nat.le_of_ble_eq_true rfl) ⟨by decide, by decide⟩ dX11_writeStation_54 (fun H locs hSb hz hu hS => ?_)
  have hG := Blk.off hG hu (iv_sb_dis (by omega) (by omega))
  have hN := Blk.off hN hu (iv_sb_dis (by omega) (by omega))
  refine lv_aload_n hx hb dX11_writeStation_57 rfl (lv_at hl 0 rfl) ?_
  refine w_get (k := v3) (v := .int (N v3 5)) hx hb hw hown hE fl_X11_162 hN (stn_lt h4) (stn_sh h4) rfl rfl dX11_writeStation_58 ?_
  obtain ⟨z19, hc20, hf⟩ := br_some hf
  refine mu_cV (As := [.int (N v3 5)]) (rest := []) hx hb hml hown hts hE (mJ4_append_bf812 l E B0 (B + 200) L0 (by omega) (by omega) z17 (N v3 5) z19 hc20) cv_X11_299 (SBt.recv hE hSb) hSb hS hAB (fun _ h => h) rfl hl.1 rfl (by decide) (Nat.le_of_ble_eq_true rfl) ⟨by decide, by decide⟩ dX11_writeStation_61 (fun H locs hSb hz hu hS => ?_)
  have hG := Blk.off hG hu (iv_sb_dis (by omega) (by omega))
  have hN := Blk.off hN hu (iv_sb_dis (by omega) (by omega))
  refine lv_pop hx hb dX11_writeStation_64 rfl ?_
  refine lv_aload_n hx hb dX11_writeStation_65 rfl (lv_at hl 0 rfl) ?_
  refine w_get (k := v3) (v := .ref (E.2.2 0 (N v3 6).toNatClampNeg)) hx hb hw hown hE fl_X11_168 hN (stn_lt h4) (stn_sh h4) rfl rfl dX11_writeStation_66 ?_
  refine w_gs (i := 1) (z := 1) hx hb hw hown (EV.en0 hE) (by decide) hS hAB gs_X11_113 (by decide) dX11_writeStation_69 ?_
  obtain ⟨h21, hf⟩ := gd_some hf
  refine w_acmpE_ne (tgt := 88) hx hb (EV.en0 hE) h21 (by decide) dX11_writeStation_72 (by decide) (fun c22 => ?_) (fun c22 => ?_)
  · rw [if_neg c22] at hf
    refine lv_aload_n hx hb dX11_writeStation_88 rfl (lv_at hl 0 rfl) ?_
    refine w_get (k := v3) (v := .ref (E.2.2 0 (N v3 6).toNatClampNeg)) hx hb hw hown hE fl_X11_168 hN (stn_lt h4) (stn_sh h4) rfl rfl dX11_writeStation_89 ?_
    refine w_gs (i := 2) (z := 2) hx hb hw hown (EV.en0 hE) (by decide) hS hAB gs_X11_119 (by decide) dX11_writeStation_92 ?_
    obtain ⟨h23, hf⟩ := gd_some hf
    refine w_acmpE_ne (tgt := 108) hx hb (EV.en0 hE) h23 (by decide) dX11_writeStation_95 (by decide) (fun c24 => ?_) (fun c24 => ?_)
    · rw [if_neg c24] at hf
      refine lv_aload_n hx hb dX11_writeStation_108 rfl (lv_at hl 1 rfl) ?_
      refine w_get (k := 0) (v := .ref ((B + 200) + 0)) hx hb hw hown hE fl_X11_50 hG (by decide) rfl rfl rfl dX11_writeStation_109 ?_
      obtain ⟨z25, hc26, hf⟩ := br_some hf
      refine mu_cV (As := []) (rest := []) hx hb hml hown hts hE (mJ4_length_8abf5 l E B0 (B + 200) L0 (by omega) (by omega) z19 z25 hc26) cv_X11_305 (SBt.recv hE hSb) hSb hS hAB (fun _ h => h.elim) rfl hl.1 rfl (by decide) (Nat.le_of_ble_eq_true rfl) ⟨by decide, by decide⟩ dX11_writeStation_112 (fun H locs hSb hz hu hS => ?_)
      have hG := Blk.off hG hu (fun _ _ _ h => h)
      have hN := Blk.off hN hu (fun _ _ _ h => h)
      have hre := Option.some.inj hf
      subst hre
      refine W.widen (k := 10) (n := 312) (by decide) (by decide) ?_
      refine mx_up (v := z25) rfl ?_
      exact mu_i (v := z25) hx hb hrt hlocks ⟨hG, hN, hSb⟩ hS dX11_writeStation_115
    · rw [if_pos c24] at hf
      refine lv_aload_n hx hb dX11_writeStation_98 rfl (lv_at hl 1 rfl) ?_
      refine w_get (k := 0) (v := .ref ((B + 200) + 0)) hx hb hw hown hE fl_X11_50 hG (by decide) rfl rfl rfl dX11_writeStation_99 ?_
      refine lv_bipush (v := 63) hx hb dX11_writeStation_102 (by decide) ?_
      obtain ⟨z27, hc28, hf⟩ := br_some hf
      refine mu_cV (As := [.int 63]) (rest := []) hx hb hml hown hts hE (mJ4_append_cf468 l E B0 (B + 200) L0 (by omega) (by omega) z19 (63 : Int32) z27 hc28) cv_X11_292 (SBt.recv hE hSb) hSb hS hAB (fun _ h => h) rfl hl.1 rfl (by decide) (Nat.le_of_ble_eq_true rfl) ⟨by decide, by decide⟩ dX11_writeStation_104 (fun H locs hSb hz hu hS => ?_)
      have hG := Blk.off hG hu (iv_sb_dis (by omega) (by omega))
      have hN := Blk.off hN hu (iv_sb_dis (by omega) (by omega))
      refine lv_pop hx hb dX11_writeStation_107 rfl ?_
      refine lv_aload_n hx hb dX11_writeStation_108 rfl (lv_at hl 1 rfl) ?_
      refine w_get (k := 0) (v := .ref ((B + 200) + 0)) hx hb hw hown hE fl_X11_50 hG (by decide) rfl rfl rfl dX11_writeStation_109 ?_
      obtain ⟨z29, hc30, hf⟩ := br_some hf
      refine mu_cV (As := []) (rest := []) hx hb hml hown hts hE (mJ4_length_8abf5 l E B0 (B + 200) L0 (by omega) (by omega) z27 z29 hc30) cv_X11_305 (SBt.recv hE hSb) hSb hS hAB (fun _ h => h.elim) rfl hl.1 rfl (by decide) (Nat.le_of_ble_eq_true rfl) ⟨by decide, by decide⟩ dX11_writeStation_112 (fun H locs hSb hz hu hS => ?_)
      have hG := Blk.off hG hu (fun _ _ _ h => h)
      have hN := Blk.off hN hu (fun _ _ _ h => h)
      have hre := Option.some.inj hf
      subst hre
      refine W.widen (k := 10) (n := 312) (by decide) (by decide) ?_
      refine mx_up (v := z29) rfl ?_
      exact mu_i (v := z29) hx hb hrt hlocks ⟨hG, hN, hSb⟩ hS dX11_writeStation_115
  · rw [if_pos c22] at hf
    refine lv_aload_n hx hb dX11_writeStation_75 rfl (lv_at hl 1 rfl) ?_
    refine w_get (k := 0) (v := .ref ((B + 200) + 0)) hx hb hw hown hE fl_X11_50 hG (by decide) rfl rfl rfl dX11_writeStation_76 ?_
    refine lv_bipush (v := 33) hx hb dX11_writeStation_79 (by decide) ?_
    obtain ⟨z31, hc32, hf⟩ := br_some hf
    refine mu_cV (As := [.int 33]) (rest := []) hx hb hml hown hts hE (mJ4_append_cf468 l E B0 (B + 200) L0 (by omega) (by omega) z19 (33 : Int32) z31 hc32) cv_X11_292 (SBt.recv hE hSb) hSb hS hAB (fun _ h => h) rfl hl.1 rfl (by decide) (Nat.le_of_ble_eq_true rfl) ⟨by decide, by decide⟩ dX11_writeStation_81 (fun H locs hSb hz hu hS => ?_)
    have hG := Blk.off hG hu (iv_sb_dis (by omega) (by omega))
    have hN := Blk.off hN hu (iv_sb_dis (by omega) (by omega))
    refine lv_pop hx hb dX11_writeStation_84 rfl ?_
    refine lv_goto (tgt := 108) hx hb dX11_writeStation_85 (by decide) ?_
    refine lv_aload_n hx hb dX11_writeStation_108 rfl (lv_at hl 1 rfl) ?_
    refine w_get (k := 0) (v := .ref ((B + 200) + 0)) hx hb hw hown hE fl_X11_50 hG (by decide) rfl rfl rfl dX11_writeStation_109 ?_
    obtain ⟨z33, hc34, hf⟩ := br_some hf
    refine mu_cV (As := []) (rest := []) hx hb hml hown hts hE (mJ4_length_8abf5 l E B0 (B + 200) L0 (by omega) (by omega) z31 z33 hc34) cv_X11_305 (SBt.recv hE hSb) hSb hS hAB (fun _ h => h.elim) rfl hl.1 rfl (by decide) (Nat.le_of_ble_eq_true rfl) ⟨by decide, by decide⟩ dX11_writeStation_112 (fun H locs hSb hz hu hS => ?_)
    have hG := Blk.off hG hu (fun _ _ _ h => h)
    have hN := Blk.off hN hu (fun _ _ _ h => h)
    have hre := Option.some.inj hf
    subst hre
    refine W.widen (k := 10) (n := 312) (by decide) (by decide) ?_
    refine mx_up (v := z33) rfl ?_
    exact mu_i (v := z33) hx hb hrt hlocks ⟨hG, hN, hSb⟩ hS dX11_writeStation_115
noncomputable def fX11_writeChannel (G : Mem) (N : Mem) (Sb : TX) (a1 : Int32) : Option ((Nat ⊕ Int32) × TX) := (fX11_requireChannel a1).bind fun z1 => sx z1 (fun e9 => some (.inl e9, Sb)) (fun v3 => (fJ4_setLength_d00df Sb (0 : Int32)).bind fun z4 => (fX6_speakerOn N a1).bind fun z6 => (if z6 < 0 then (fJ4_length_8abf5 z4).bind fun z9 => some (.inr z9, z4) else gd (inb z6 8) ((fX11_appendSign G N z4 (2 + 1 * z6.toNatClampNeg)).bind fun z12 => (fX11_appendLine G N z12 a1).bind fun z14 => (fJ4_length_8abf5 z14).bind fun z16 => some (.inr z16, z14))))
set_option maxHeartbeats 4000000 in
set_option maxRecDepth 100000 in
theorem mX11_writeChannel (l : Launch) (E : EP) (B0 : Nat) (htr : l.stackTraces = false) (B : Nat) (L0 : Nat) (hb0 : B0 ≤ B) (hb1 : B + 202 ≤ L0) (G : Mem) (N : Mem) (Sb : TX) (a1 : Int32) (r : (Nat ⊕ Int32) × TX) (hf : fX11_writeChannel G N Sb a1 = some r) : MX l E B0 yX11_writeChannel cX11_writeChannel 3 (some .int) 9 27 890 [.ref (B + 0), .int a1] (fun H => Blk E B rnSh 1 G H ∧ Blk E (B + 1) netSh 15 N H ∧ SBt E (B + 200) L0 Sb H) r.1 (fun v => (some (.int v))) (fun H => Blk E B rnSh 1 G H ∧ Blk E (B + 1) netSh 15 N H ∧ SBt E (B + 200) L0 r.2 H) (sbA (B + 200) L0) := by
  refine mx_of (by decide +kernel) (Nat.le_of_ble_eq_true rfl) ?_
  intro p e s m args below meth c hx hb hml hown hts hrt hlocks htab hE H hP9 hS ls hl
  obtain ⟨hG, hN, hSb⟩ := hP9
  have hown : s.vm.findClass RX11 = some m.cls := hown
  have hl : lv_has ls 3 [(0, .ref (B + 0)), (1, .int a1)] := hl
  have hw : ∀ w ∈ WA, w.before args s = true := fun w h => hts w (List.mem_cons_of_mem _ h)
  have hAB : ∀ q, (sbA (B + 200) L0) q → B0 ≤ q := (sb_ge (by omega) (by omega))
  unfold fX11_writeChannel at hf
  refine lv_iload_n hx hb dX11_writeChannel_0 rfl (lv_at hl 1 rfl) ?_
  obtain ⟨z1, hc2, hf⟩ := br_some hf
  refine mx_cS (As := [.int a1]) (rest := []) htab hlocks hx hb hml hown hts hE (mX11_requireChannel l E B0 htr a1 z1 hc2) cs_X11_182 trivial hS hAB (fun _ h => h.elim) rfl hl.1 rfl (by decide) (Nat.le_of_ble_eq_true rfl) ⟨by decide, by decide⟩ ⟨by decide, by decide⟩ dX11_writeChannel_1 (fun e9 ee H _ hz hu => ?_) (fun v3 ev H locs _ hz hu hS => ?_)
  · have hf := sx_l ee hf
    have hG := Blk.off hG hu (fun _ _ _ h => h)
    have hN := Blk.off hN hu (fun _ _ _ h => h)
    have hSb := SBt.off hSb hz hu (fun _ _ h => h)
    have hre := Option.some.inj hf
    subst hre
    exact ⟨rfl, ⟨hG, hN, hSb⟩⟩
  have hf := sx_r ev hf
  have hG := Blk.off hG hu (fun _ _ _ h => h)
  have hN := Blk.off hN hu (fun _ _ _ h => h)
  have hSb := SBt.off hSb hz hu (fun _ _ h => h)
  refine lv_aload_n hx hb dX11_writeChannel_4 rfl (lv_at hl 0 rfl) ?_
  refine w_get (k := 0) (v := .ref ((B + 200) + 0)) hx hb hw hown hE fl_X11_50 hG (by decide) rfl rfl rfl dX11_writeChannel_5 ?_
  refine lv_iconst (v := 0) hx hb dX11_writeChannel_8 (by decide) ?_
  obtain ⟨z4, hc5, hf⟩ := br_some hf
  refine mu_cV (As := [.int 0]) (rest := []) hx hb hml hown hts hE (mJ4_setLength_d00df l E B0 (B + 200) L0 (by omega) (by omega) Sb (0 : Int32) z4 hc5) cv_X11_285 (SBt.recv hE hSb) hSb hS hAB (fun _ h => h) rfl hl.1 rfl (by decide) (Nat.le_of_ble_eq_true rfl) ⟨by decide, by decide⟩ dX11_writeChannel_9 (fun H locs hSb hz hu hS => ?_)
  have hG := Blk.off hG hu (iv_sb_dis (by omega) (by omega))
  have hN := Blk.off hN hu (iv_sb_dis (by omega) (by omega))
  refine lv_aload_n hx hb dX11_writeChannel_12 rfl (lv_at hl 0 rfl) ?_
  refine w_get (k := 0) (v := .ref ((B + 1) + 0)) hx hb hw hown hE fl_X11_12 hG (by decide) rfl rfl rfl dX11_writeChannel_13 ?_
  refine lv_iload_n hx hb dX11_writeChannel_16 rfl (lv_at hl 1 rfl) ?_
  obtain ⟨z6, hc7, hf⟩ := br_some hf
  refine mu_cV (As := [.int a1]) (rest := []) hx hb hml hown hts hE (mX6_speakerOn l E B0 (B + 1) (by omega) N a1 z6 hc7) cv_X11_186 (w_recv (k := 0) (ci := 6) hE hN (by decide) rfl rfl) hN hS hAB (fun _ h => h.elim) rfl hl.1 rfl (by decide) (Nat.le_of_ble_eq_true rfl) ⟨by decide, by decide⟩ dX11_writeChannel_17 (fun H locs hN hz hu hS => ?_)
  have hG := Blk.off hG hu (fun _ _ _ h => h)
  have hSb := SBt.off hSb hz hu (fun _ _ h => h)
  refine lv_istore_n (lv' := [(2, .int z6), (0, .ref (B + 0)), (1, .int a1)]) hx hb dX11_writeChannel_20 rfl hl (by decide) rfl (fun ls hl => ?_)
  refine lv_iload_n hx hb dX11_writeChannel_21 rfl (lv_at hl 0 rfl) ?_
  refine lv_if_lt (tgt := 43) hx hb dX11_writeChannel_22 (by decide) (fun c8 => ?_) (fun c8 => ?_)
  · rw [if_pos c8] at hf
    refine lv_aload_n hx hb dX11_writeChannel_43 rfl (lv_at hl 1 rfl) ?_
    refine w_get (k := 0) (v := .ref ((B + 200) + 0)) hx hb hw hown hE fl_X11_50 hG (by decide) rfl rfl rfl dX11_writeChannel_44 ?_
    obtain ⟨z9, hc10, hf⟩ := br_some hf
    refine mu_cV (As := []) (rest := []) hx hb hml hown hts hE (mJ4_length_8abf5 l E B0 (B + 200) L0 (by omega) (by omega) z4 z9 hc10) cv_X11_305 (SBt.recv hE hSb) hSb hS hAB (fun _ h => h.elim) rfl hl.1 rfl (by decide) (Nat.le_of_ble_eq_true rfl) ⟨by decide, by decide⟩ dX11_writeChannel_47 (fun H locs hSb hz hu hS => ?_)
    have hG := Blk.off hG hu (fun _ _ _ h => h)
    have hN := Blk.off hN hu (fun _ _ _ h => h)
    have hre := Option.some.inj hf
    subst hre
    refine W.widen (k := 27) (n := 890) (by decide) (by decide) ?_
    refine mx_up (v := z9) rfl ?_
    exact mu_i (v := z9) hx hb hrt hlocks ⟨hG, hN, hSb⟩ hS dX11_writeChannel_50
  · rw [if_neg c8] at hf
    refine lv_aload_n hx hb dX11_writeChannel_25 rfl (lv_at hl 1 rfl) ?_
    refine lv_aload_n hx hb dX11_writeChannel_26 rfl (lv_at hl 1 rfl) ?_
    refine w_get (k := 0) (v := .ref ((B + 1) + 0)) hx hb hw hown hE fl_X11_12 hG (by decide) rfl rfl rfl dX11_writeChannel_27 ?_
    refine w_get (k := 0) (v := .ref ((B + 1) + 1)) hx hb hw hown hE fl_X11_308 hN (by decide) rfl rfl rfl dX11_writeChannel_30 ?_
    refine lv_iload_n hx hb dX11_writeChannel_33 rfl (lv_at hl 0 rfl) ?_
    obtain ⟨h11, hf⟩ := gd_some hf
    refine w_aald (k := 1) (j := 0) (x9 := z6.toNatClampNeg) hx hb hE hN (by decide) rfl rfl rfl h11 dX11_writeChannel_34 ?_
    obtain ⟨z12, hc13, hf⟩ := br_some hf
    refine mu_cV (As := [.ref ((B + 1) + (2 + 1 * z6.toNatClampNeg))]) (rest := []) hx hb hml hown hts hE (mX11_appendSign l E B0 B L0 (by omega) (by omega) G N z4 (2 + 1 * z6.toNatClampNeg) z12 hc13) cv_X11_288 (w_recv (k := 0) (ci := 11) hE hG (by decide) rfl rfl) ⟨hG, hN, hSb⟩ hS hAB (fun _ h => h) rfl hl.1 rfl (by decide) (Nat.le_of_ble_eq_true rfl) ⟨by decide, by decide⟩ dX11_writeChannel_35 (fun H locs hP9 hz hu hS => ?_)
    obtain ⟨hG, hN, hSb⟩ := hP9
    refine lv_aload_n hx hb dX11_writeChannel_38 rfl (lv_at hl 1 rfl) ?_
    refine lv_iload_n hx hb dX11_writeChannel_39 rfl (lv_at hl 2 rfl) ?_
    obtain ⟨z14, hc15, hf⟩ := br_some hf
    refine mu_cV (As := [.int a1]) (rest := []) hx hb hml hown hts hE (mX11_appendLine l E B0 B L0 (by omega) (by omega) G N z12 a1 z14 hc15) cv_X11_311 (w_recv (k := 0) (ci := 11) hE hG (by decide) rfl rfl) ⟨hG, hN, hSb⟩ hS hAB (fun _ h => h) rfl hl.1 rfl (by decide) (Nat.le_of_ble_eq_true rfl) ⟨by decide, by decide⟩ dX11_writeChannel_40 (fun H locs hP9 hz hu hS => ?_)
    obtain ⟨hG, hN, hSb⟩ := hP9
    refine lv_aload_n hx hb dX11_writeChannel_43 rfl (lv_at hl 1 rfl) ?_
    refine w_get (k := 0) (v := .ref ((B + 200) + 0)) hx hb hw hown hE fl_X11_50 hG (by decide) rfl rfl rfl dX11_writeChannel_44 ?_
    obtain ⟨z16, hc17, hf⟩ := br_some hf
    refine mu_cV (As := []) (rest := []) hx hb hml hown hts hE (mJ4_length_8abf5 l E B0 (B + 200) L0 (by omega) (by omega) z14 z16 hc17) cv_X11_305 (SBt.recv hE hSb) hSb hS hAB (fun _ h => h.elim) rfl hl.1 rfl (by decide) (Nat.le_of_ble_eq_true rfl) ⟨by decide, by decide⟩ dX11_writeChannel_47 (fun H locs hSb hz hu hS => ?_)
    have hG := Blk.off hG hu (fun _ _ _ h => h)
    have hN := Blk.off hN hu (fun _ _ _ h => h)
    have hre := Option.some.inj hf
    subst hre
    refine W.widen (k := 27) (n := 890) (by decide) (by decide) ?_
    refine mx_up (v := z16) rfl ?_
    exact mu_i (v := z16) hx hb hrt hlocks ⟨hG, hN, hSb⟩ hS dX11_writeChannel_50
def fX11_charAt (G : Mem) (Sb : TX) (a1 : Int32) : Option ((Nat ⊕ Int32)) := (if a1 < 0 then some (.inl 0) else (fJ4_length_8abf5 Sb).bind fun z2 => (if a1 < z2 then (fJ4_charAt_5068e Sb a1).bind fun z5 => gd (isC z5) (some (.inr z5)) else some (.inl 0)))
set_option maxHeartbeats 4000000 in
set_option maxRecDepth 100000 in
theorem mX11_charAt (l : Launch) (E : EP) (B0 : Nat) (htr : l.stackTraces = false) (B : Nat) (L0 : Nat) (hb0 : B0 ≤ B) (hb1 : B + 202 ≤ L0) (G : Mem) (Sb : TX) (a1 : Int32) (r : (Nat ⊕ Int32)) (hf : fX11_charAt G Sb a1 = some r) : MX l E B0 yX11_charAt cX11_charAt 2 (some .char) 8 1 6 [.ref (B + 0), .int a1] (fun H => Blk E B rnSh 1 G H ∧ SBt E (B + 200) L0 Sb H) r (fun v => (some (.int v))) (fun H => Blk E B rnSh 1 G H ∧ SBt E (B + 200) L0 Sb H) nv := by
  refine mx_of (by decide +kernel) (Nat.le_of_ble_eq_true rfl) ?_
  intro p e s m args below meth c hx hb hml hown hts hrt hlocks htab hE H hP9 hS ls hl
  obtain ⟨hG, hSb⟩ := hP9
  have hown : s.vm.findClass RX11 = some m.cls := hown
  have hl : lv_has ls 2 [(0, .ref (B + 0)), (1, .int a1)] := hl
  have hw : ∀ w ∈ WA, w.before args s = true := fun w h => hts w (List.mem_cons_of_mem _ h)
  have hAB : ∀ q, nv q → B0 ≤ q := fun _ h => h.elim
  unfold fX11_charAt at hf
  refine lv_iload_n hx hb dX11_charAt_0 rfl (lv_at hl 1 rfl) ?_
  refine lv_if_lt (tgt := 15) hx hb dX11_charAt_1 (by decide) (fun c1 => ?_) (fun c1 => ?_)
  · rw [if_pos c1] at hf
    have hre := Option.some.inj hf
    subst hre
    exact mx_thrW (e9 := 0) hx hb htr htab hlocks hown hw hE th_X11_314_316_318 hS hAB (hl.1.trans hml.symm) dX11_charAt_15 dX11_charAt_18 dX11_charAt_19 dX11_charAt_22 dX11_charAt_25 (by decide) (Nat.le_of_ble_eq_true rfl) ⟨by decide, by decide⟩ ⟨by decide, by decide⟩ rfl rfl (fun H1 hq => ⟨Blk.ext hG hq, SBt.ext hSb hq⟩)
  · rw [if_neg c1] at hf
    refine lv_iload_n hx hb dX11_charAt_4 rfl (lv_at hl 1 rfl) ?_
    refine lv_aload_n hx hb dX11_charAt_5 rfl (lv_at hl 0 rfl) ?_
    refine w_get (k := 0) (v := .ref ((B + 200) + 0)) hx hb hw hown hE fl_X11_50 hG (by decide) rfl rfl rfl dX11_charAt_6 ?_
    obtain ⟨z2, hc3, hf⟩ := br_some hf
    refine mu_cV (As := []) (rest := [.int a1]) hx hb hml hown hts hE (mJ4_length_8abf5 l E B0 (B + 200) L0 (by omega) (by omega) Sb z2 hc3) cv_X11_305 (SBt.recv hE hSb) hSb hS hAB (fun _ h => h.elim) rfl hl.1 rfl (by decide) (Nat.le_of_ble_eq_true rfl) ⟨by decide, by decide⟩ dX11_charAt_9 (fun H locs hSb hz hu hS => ?_)
    have hG := Blk.off hG hu (fun _ _ _ h => h)
    refine lv_icmp_lt (tgt := 26) hx hb dX11_charAt_12 (by decide) (fun c4 => ?_) (fun c4 => ?_)
    · rw [if_pos c4] at hf
      refine lv_aload_n hx hb dX11_charAt_26 rfl (lv_at hl 0 rfl) ?_
      refine w_get (k := 0) (v := .ref ((B + 200) + 0)) hx hb hw hown hE fl_X11_50 hG (by decide) rfl rfl rfl dX11_charAt_27 ?_
      refine lv_iload_n hx hb dX11_charAt_30 rfl (lv_at hl 1 rfl) ?_
      obtain ⟨z5, hc6, hf⟩ := br_some hf
      refine mu_cV (As := [.int a1]) (rest := []) hx hb hml hown hts hE (mJ4_charAt_5068e l E B0 (B + 200) L0 (by omega) (by omega) Sb a1 z5 hc6) cv_X11_319 (SBt.recv hE hSb) hSb hS hAB (fun _ h => h.elim) rfl hl.1 rfl (by decide) (Nat.le_of_ble_eq_true rfl) ⟨by decide, by decide⟩ dX11_charAt_31 (fun H locs hSb hz hu hS => ?_)
      have hG := Blk.off hG hu (fun _ _ _ h => h)
      obtain ⟨h7, hf⟩ := gd_some hf
      have hre := Option.some.inj hf
      subst hre
      refine W.widen (k := 1) (n := 6) (by decide) (by decide) ?_
      refine mx_up (v := z5) rfl ?_
      exact mu_z (v := z5) hx hb hrt (isC_n h7) hlocks ⟨hG, hSb⟩ hS dX11_charAt_34
    · rw [if_neg c4] at hf
      have hre := Option.some.inj hf
      subst hre
      exact mx_thrW (e9 := 0) hx hb htr htab hlocks hown hw hE th_X11_314_316_318 hS hAB (hl.1.trans hml.symm) dX11_charAt_15 dX11_charAt_18 dX11_charAt_19 dX11_charAt_22 dX11_charAt_25 (by decide) (Nat.le_of_ble_eq_true rfl) ⟨by decide, by decide⟩ ⟨by decide, by decide⟩ rfl rfl (fun H1 hq => ⟨Blk.ext hG hq, SBt.ext hSb hq⟩)
def fX11_type (G : Mem) (P : Mem) (a1 : Int32) : Option ((Nat ⊕ Int32) × Mem) := (if (P 0 1) < (60 : Int32) then (fX7_append P a1).bind fun z2 => some (.inr (z2 0 1), z2) else some (.inl 3, P))
set_option maxHeartbeats 4000000 in
set_option maxRecDepth 100000 in
theorem mX11_type (l : Launch) (E : EP) (B0 : Nat) (htr : l.stackTraces = false) (B : Nat) (L0 : Nat) (hb0 : B0 ≤ B) (hb1 : B + 202 ≤ L0) (G : Mem) (P : Mem) (a1 : Int32) (r : (Nat ⊕ Int32) × Mem) (hf : fX11_type G P a1 = some r) : MX l E B0 yX11_type cX11_type 2 (some .int) 8 1 6 [.ref (B + 0), .int a1] (fun H => Blk E B rnSh 1 G H ∧ Blk E (B + 171) progSh 29 P H) r.1 (fun v => (some (.int v))) (fun H => Blk E B rnSh 1 G H ∧ Blk E (B + 171) progSh 29 r.2 H) (iv (B + 171) 29) := by
  refine mx_of (by decide +kernel) (Nat.le_of_ble_eq_true rfl) ?_
  intro p e s m args below meth c hx hb hml hown hts hrt hlocks htab hE H hP9 hS ls hl
  obtain ⟨hG, hP⟩ := hP9
  have hown : s.vm.findClass RX11 = some m.cls := hown
  have hl : lv_has ls 2 [(0, .ref (B + 0)), (1, .int a1)] := hl
  have hw : ∀ w ∈ WA, w.before args s = true := fun w h => hts w (List.mem_cons_of_mem _ h)
  have hAB : ∀ q, (iv (B + 171) 29) q → B0 ≤ q := (iv_ge (by omega))
  unfold fX11_type at hf
  refine lv_aload_n hx hb dX11_type_0 rfl (lv_at hl 0 rfl) ?_
  refine w_get (k := 0) (v := .ref ((B + 171) + 0)) hx hb hw hown hE fl_X11_43 hG (by decide) rfl rfl rfl dX11_type_1 ?_
  refine w_get (k := 0) (v := .int (P 0 1)) hx hb hw hown hE fl_X11_323 hP (by decide) rfl rfl rfl dX11_type_4 ?_
  refine lv_bipush (v := 60) hx hb dX11_type_7 (by decide) ?_
  refine lv_icmp_lt (tgt := 23) hx hb dX11_type_9 (by decide) (fun c1 => ?_) (fun c1 => ?_)
  · rw [if_pos c1] at hf
    refine lv_aload_n hx hb dX11_type_23 rfl (lv_at hl 0 rfl) ?_
    refine w_get (k := 0) (v := .ref ((B + 171) + 0)) hx hb hw hown hE fl_X11_43 hG (by decide) rfl rfl rfl dX11_type_24 ?_
    refine lv_iload_n hx hb dX11_type_27 rfl (lv_at hl 1 rfl) ?_
    obtain ⟨z2, hc3, hf⟩ := br_some hf
    refine mu_cV (As := [.int a1]) (rest := []) hx hb hml hown hts hE (mX7_append l E B0 (B + 171) (by omega) P a1 z2 hc3) cv_X11_330 (w_recv (k := 0) (ci := 7) hE hP (by decide) rfl rfl) hP hS hAB (fun _ h => h) rfl hl.1 rfl (by decide) (Nat.le_of_ble_eq_true rfl) ⟨by decide, by decide⟩ dX11_type_28 (fun H locs hP _ hu hS => ?_)
    have hG := Blk.off hG hu (iv_dis (by omega))
    refine lv_aload_n hx hb dX11_type_31 rfl (lv_at hl 0 rfl) ?_
    refine w_get (k := 0) (v := .ref ((B + 171) + 0)) hx hb hw hown hE fl_X11_43 hG (by decide) rfl rfl rfl dX11_type_32 ?_
    refine w_get (k := 0) (v := .int (z2 0 1)) hx hb hw hown hE fl_X11_323 hP (by decide) rfl rfl rfl dX11_type_35 ?_
    have hre := Option.some.inj hf
    subst hre
    refine W.widen (k := 1) (n := 6) (by decide) (by decide) ?_
    refine mx_up (v := (z2 0 1)) rfl ?_
    exact mu_i (v := (z2 0 1)) hx hb hrt hlocks ⟨hG, hP⟩ hS dX11_type_38
  · rw [if_neg c1] at hf
    have hre := Option.some.inj hf
    subst hre
    exact mx_thrW (e9 := 3) hx hb htr htab hlocks hown hw hE th_X11_325_327_329 hS hAB (hl.1.trans hml.symm) dX11_type_12 dX11_type_15 dX11_type_16 dX11_type_19 dX11_type_22 (by decide) (Nat.le_of_ble_eq_true rfl) ⟨by decide, by decide⟩ ⟨by decide, by decide⟩ rfl rfl (fun H1 hq => ⟨Blk.ext hG hq, Blk.ext hP hq⟩)
noncomputable def fX11_run_s  (z : Int32 × Int32 × Mem × Mem × Mem × Mem × (Nat → Mem) × Mem) : Option ((Int32 × Int32 × Mem × Mem × Mem × Mem × (Nat → Mem) × Mem) ⊕ ((Nat ⊕ Int32) × Mem × Mem × Mem × Mem × (Nat → Mem) × Mem)) := (if (z.2.2.2.2.2.2.2 0 3) ≤ z.2.1 then (fX3_push z.2.2.2.2.2.1 z.2.2.2.2.2.2.1 z.2.2.2.1).bind fun z2 => (fX6_copyFrom z.2.2.2.1 z.2.2.2.2.1).bind fun z4 => some (.inr (.inr (z.2.2.2.2.2.2.2 0 3), z.2.2.1, z4, z.2.2.2.2.1, z2.1, z2.2, z.2.2.2.2.2.2.2)) else gd (inb z.2.1 13) ((fX1_succeedsOn z.2.2.2.2.2.2.2 z.2.2.2.2.1 (3 + 2 * z.2.1.toNatClampNeg)).bind fun z7 => (if z7.1 = 0 then some (.inr (.inl 2, (up2 z.2.2.1 0 9 z.2.1), z.2.2.2.1, z7.2, z.2.2.2.2.2.1, z.2.2.2.2.2.2.1, z.2.2.2.2.2.2.2)) else some (.inl (z.1, (z.2.1 + 1), z.2.2.1, z.2.2.2.1, z7.2, z.2.2.2.2.2.1, z.2.2.2.2.2.2.1, z.2.2.2.2.2.2.2)))))
noncomputable def fX11_run (G : Mem) (N : Mem) (T : Mem) (Hs : Mem) (Q : Nat → Mem) (P : Mem) : Option ((Nat ⊕ Int32) × Mem × Mem × Mem × Mem × (Nat → Mem) × Mem) := (fX7_parse P).bind fun z10 => (fX7_empty z10.2).bind fun z12 => (if z10.1 < 0 then (fX6_copyFrom T N).bind fun z15 => lp (fX11_run_s) (z10.1, 0, G, N, z15, Hs, Q, z12) else some (.inl 1, (up2 G 0 8 z10.1), N, T, Hs, Q, z12))
set_option maxHeartbeats 4000000 in
set_option maxRecDepth 100000 in
theorem mX11_run (l : Launch) (E : EP) (B0 : Nat) (htr : l.stackTraces = false) (B : Nat) (L0 : Nat) (hb0 : B0 ≤ B) (hb1 : B + 202 ≤ L0) (G : Mem) (N : Mem) (T : Mem) (Hs : Mem) (Q : Nat → Mem) (P : Mem) (r : (Nat ⊕ Int32) × Mem × Mem × Mem × Mem × (Nat → Mem) × Mem) (hf : fX11_run G N T Hs Q P = some r) : MX l E B0 yX11_run cX11_run 3 (some .int) 8 1 6 [.ref (B + 0)] (fun H => Blk E B rnSh 1 G H ∧ Blk E (B + 1) netSh 15 N H ∧ Blk E (B + 16) netSh 15 T H ∧ Blk E (B + 46) histSh 2 Hs H ∧ Fam E (B + 46 + 2) Q H ∧ Blk E (B + 171) progSh 29 P H) r.1 (fun v => (some (.int v))) (fun H => Blk E B rnSh 1 r.2.1 H ∧ Blk E (B + 1) netSh 15 r.2.2.1 H ∧ Blk E (B + 16) netSh 15 r.2.2.2.1 H ∧ Blk E (B + 46) histSh 2 r.2.2.2.2.1 H ∧ Fam E (B + 46 + 2) r.2.2.2.2.2.1 H ∧ Blk E (B + 171) progSh 29 r.2.2.2.2.2.2 H) (orA (iv B 1) (orA (iv (B + 1) 15) (orA (iv (B + 16) 15) (orA (iv (B + 46) 2) (orA (iv (B + 46 + 2) 120) (iv (B + 171) 29)))))) := by
  refine mx_of (by decide +kernel) (Nat.le_of_ble_eq_true rfl) ?_
  intro p e s m args below meth c hx hb hml hown hts hrt hlocks htab hE H hP9 hS ls hl
  obtain ⟨hG, hN, hT, hHs, hQ, hP⟩ := hP9
  have hown : s.vm.findClass RX11 = some m.cls := hown
  have hl : lv_has ls 3 [(0, .ref (B + 0))] := hl
  have hw : ∀ w ∈ WA, w.before args s = true := fun w h => hts w (List.mem_cons_of_mem _ h)
  have hAB : ∀ q, (orA (iv B 1) (orA (iv (B + 1) 15) (orA (iv (B + 16) 15) (orA (iv (B + 46) 2) (orA (iv (B + 46 + 2) 120) (iv (B + 171) 29)))))) q → B0 ≤ q := (or_ge (iv_ge (by omega)) (or_ge (iv_ge (by omega)) (or_ge (iv_ge (by omega)) (or_ge (iv_ge (by omega)) (or_ge (iv_ge (by omega)) (iv_ge (by omega)))))))
  unfold fX11_run at hf
  have loop : ∀ (fu : Nat) (z : Int32 × Int32 × Mem × Mem × Mem × Mem × (Nat → Mem) × Mem), lpI (fX11_run_s) fu z = some r → (∀ (H : Heap) (locs : List Loc) (ls : Array Slot), Blk E B rnSh 1 z.2.2.1 H → Blk E (B + 1) netSh 15 z.2.2.2.1 H → Blk E (B + 16) netSh 15 z.2.2.2.2.1 H → Blk E (B + 46) histSh 2 z.2.2.2.2.2.1 H → Fam E (B + 46 + 2) z.2.2.2.2.2.2.1 H → Blk E (B + 171) progSh 29 z.2.2.2.2.2.2.2 H → va_S (orA (iv B 1) (orA (iv (B + 1) 15) (orA (iv (B + 16) 15) (orA (iv (B + 46) 2) (orA (iv (B + 46 + 2) 120) (iv (B + 171) 29)))))) s.heap H locs → lv_has ls 3 [(0, .ref (B + 0)), (1, .int z.1), (2, .int z.2.1)] → W p l e (rmD 8 1 6) s m args below meth c H locs 0 0 (vx_MQ below (QX r.1 (fun v => (some (.int v))) (fun H => Blk E B rnSh 1 r.2.1 H ∧ Blk E (B + 1) netSh 15 r.2.2.1 H ∧ Blk E (B + 16) netSh 15 r.2.2.2.1 H ∧ Blk E (B + 46) histSh 2 r.2.2.2.2.1 H ∧ Fam E (B + 46 + 2) r.2.2.2.2.2.1 H ∧ Blk E (B + 171) progSh 29 r.2.2.2.2.2.2 H) (orA (iv B 1) (orA (iv (B + 1) 15) (orA (iv (B + 16) 15) (orA (iv (B + 46) 2) (orA (iv (B + 46 + 2) 120) (iv (B + 171) 29))))))) (XX r.1 (fun H => Blk E B rnSh 1 r.2.1 H ∧ Blk E (B + 1) netSh 15 r.2.2.1 H ∧ Blk E (B + 16) netSh 15 r.2.2.2.1 H ∧ Blk E (B + 46) histSh 2 r.2.2.2.2.1 H ∧ Fam E (B + 46 + 2) r.2.2.2.2.2.1 H ∧ Blk E (B + 171) progSh 29 r.2.2.2.2.2.2 H) (orA (iv B 1) (orA (iv (B + 1) 15) (orA (iv (B + 16) 15) (orA (iv (B + 46) 2) (orA (iv (B + 46 + 2) 120) (iv (B + 171) 29))))))) args s 1 6 (orA (iv B 1) (orA (iv (B + 1) 15) (orA (iv (B + 16) 15) (orA (iv (B + 46) 2) (orA (iv (B + 46 + 2) 120) (iv (B + 171) 29))))))) (F0 m 48 ls [])) := by
    intro fu
    induction fu with
    | zero =>
      intro z hn
      exact nomatch hn
    | succ fu ih =>
      intro z hn
      obtain ⟨y, hf, hy⟩ := lpI_succ hn
      intro H locs ls hG hN hT hHs hQ hP hS hl
      unfold fX11_run_s at hf
      refine lv_iload_n hx hb dX11_run_48 rfl (lv_at hl 2 rfl) ?_
      refine lv_aload_n hx hb dX11_run_49 rfl (lv_at hl 0 rfl) ?_
      refine w_get (k := 0) (v := .ref ((B + 171) + 0)) hx hb hw hown hE fl_X11_43 hG (by decide) rfl rfl rfl dX11_run_50 ?_
      refine w_get (k := 0) (v := .int (z.2.2.2.2.2.2.2 0 3)) hx hb hw hown hE fl_X11_347 hP (by decide) rfl rfl rfl dX11_run_53 ?_
      refine lv_icmp_ge (tgt := 100) hx hb dX11_run_56 (by decide) (fun c1 => ?_) (fun c1 => ?_)
      · rw [if_pos c1] at hf
        refine lv_aload_n hx hb dX11_run_100 rfl (lv_at hl 0 rfl) ?_
        refine w_get (k := 0) (v := .ref ((B + 46) + 0)) hx hb hw hown hE fl_X11_29 hG (by decide) rfl rfl rfl dX11_run_101 ?_
        refine lv_aload_n hx hb dX11_run_104 rfl (lv_at hl 0 rfl) ?_
        refine w_get (k := 0) (v := .ref ((B + 1) + 0)) hx hb hw hown hE fl_X11_12 hG (by decide) rfl rfl rfl dX11_run_105 ?_
        obtain ⟨z2, hc3, hf⟩ := br_some hf
        refine mu_cV (As := [.ref ((B + 1) + 0)]) (rest := []) hx hb hml hown hts hE (mX3_push l E B0 (B + 46) (B + 1) (by omega) (by omega) (by omega) z.2.2.2.2.2.1 z.2.2.2.2.2.2.1 z.2.2.2.1 z2 hc3) cv_X11_69 (w_recv (k := 0) (ci := 5) hE hHs (by decide) rfl rfl) ⟨hHs, hQ, hN⟩ hS hAB (fun _ h => h.elim (fun h1 => Or.inr (Or.inr (Or.inr (Or.inl (h1))))) (fun h2 => Or.inr (Or.inr (Or.inr (Or.inr (Or.inl (h2))))))) rfl hl.1 rfl (by decide) (Nat.le_of_ble_eq_true rfl) ⟨by decide, by decide⟩ dX11_run_108 (fun H locs hP9 _ hu hS => ?_)
        obtain ⟨hHs, hQ, hN⟩ := hP9
        have hG := Blk.off hG hu (or_dis (iv_dis (by omega)) (iv_dis (by omega)))
        have hT := Blk.off hT hu (or_dis (iv_dis (by omega)) (iv_dis (by omega)))
        have hP := Blk.off hP hu (or_dis (iv_dis (by omega)) (iv_dis (by omega)))
        refine lv_aload_n hx hb dX11_run_111 rfl (lv_at hl 0 rfl) ?_
        refine w_get (k := 0) (v := .ref ((B + 1) + 0)) hx hb hw hown hE fl_X11_12 hG (by decide) rfl rfl rfl dX11_run_112 ?_
        refine lv_aload_n hx hb dX11_run_115 rfl (lv_at hl 0 rfl) ?_
        refine w_get (k := 0) (v := .ref ((B + 16) + 0)) hx hb hw hown hE fl_X11_16 hG (by decide) rfl rfl rfl dX11_run_116 ?_
        obtain ⟨z4, hc5, hf⟩ := br_some hf
        refine mu_cV (As := [.ref ((B + 16) + 0)]) (rest := []) hx hb hml hown hts hE (mX6_copyFrom l E B0 (B + 1) (B + 16) (by omega) (by omega) (by omega) z.2.2.2.1 z.2.2.2.2.1 z4 hc5) cv_X11_344 (w_recv (k := 0) (ci := 6) hE hN (by decide) rfl rfl) ⟨hN, hT⟩ hS hAB (fun _ h => Or.inr (Or.inl (h))) rfl hl.1 rfl (by decide) (Nat.le_of_ble_eq_true rfl) ⟨by decide, by decide⟩ dX11_run_119 (fun H locs hP9 _ hu hS => ?_)
        obtain ⟨hN, hT⟩ := hP9
        have hG := Blk.off hG hu (iv_dis (by omega))
        have hHs := Blk.off hHs hu (iv_dis (by omega))
        have hQ := Fam.off hQ hu (iv_dis (by omega))
        have hP := Blk.off hP hu (iv_dis (by omega))
        refine lv_aload_n hx hb dX11_run_122 rfl (lv_at hl 0 rfl) ?_
        refine w_get (k := 0) (v := .ref ((B + 171) + 0)) hx hb hw hown hE fl_X11_43 hG (by decide) rfl rfl rfl dX11_run_123 ?_
        refine w_get (k := 0) (v := .int (z.2.2.2.2.2.2.2 0 3)) hx hb hw hown hE fl_X11_347 hP (by decide) rfl rfl rfl dX11_run_126 ?_
        have hre := lp_end hy (Option.some.inj hf).symm
        subst hre
        refine W.widen (k := 1) (n := 6) (by decide) (by decide) ?_
        refine mx_up (v := (z.2.2.2.2.2.2.2 0 3)) rfl ?_
        exact mu_i (v := (z.2.2.2.2.2.2.2 0 3)) hx hb hrt hlocks ⟨hG, hN, hT, hHs, hQ, hP⟩ hS dX11_run_129
      · rw [if_neg c1] at hf
        refine lv_aload_n hx hb dX11_run_59 rfl (lv_at hl 0 rfl) ?_
        refine w_get (k := 0) (v := .ref ((B + 171) + 0)) hx hb hw hown hE fl_X11_43 hG (by decide) rfl rfl rfl dX11_run_60 ?_
        refine w_get (k := 0) (v := .ref ((B + 171) + 2)) hx hb hw hown hE fl_X11_350 hP (by decide) rfl rfl rfl dX11_run_63 ?_
        refine lv_iload_n hx hb dX11_run_66 rfl (lv_at hl 2 rfl) ?_
        obtain ⟨h6, hf⟩ := gd_some hf
        refine w_aald (k := 2) (j := 2) (x9 := z.2.1.toNatClampNeg) hx hb hE hP (by decide) rfl rfl rfl h6 dX11_run_67 ?_
        refine lv_aload_n hx hb dX11_run_68 rfl (lv_at hl 0 rfl) ?_
        refine w_get (k := 0) (v := .ref ((B + 16) + 0)) hx hb hw hown hE fl_X11_16 hG (by decide) rfl rfl rfl dX11_run_69 ?_
        obtain ⟨z7, hc8, hf⟩ := br_some hf
        refine mu_cV (As := [.ref ((B + 16) + 0)]) (rest := []) hx hb hml hown hts hE (mX1_succeedsOn l E B0 (B + 171) (B + 16) (by omega) (by omega) (by omega) z.2.2.2.2.2.2.2 z.2.2.2.2.1 (3 + 2 * z.2.1.toNatClampNeg) z7 hc8) cv_X11_354 (w_recv (k := (3 + 2 * z.2.1.toNatClampNeg)) (ci := 4) hE hP (cmd_lt (cmd_ld h6)) (cmd_sh (cmd_ld h6)) rfl) ⟨hP, hT⟩ hS hAB (fun _ h => Or.inr (Or.inr (Or.inl (h)))) rfl hl.1 rfl (by decide) (Nat.le_of_ble_eq_true rfl) ⟨by decide, by decide⟩ dX11_run_72 (fun H locs hP9 _ hu hS => ?_)
        obtain ⟨hP, hT⟩ := hP9
        have hG := Blk.off hG hu (iv_dis (by omega))
        have hN := Blk.off hN hu (iv_dis (by omega))
        have hHs := Blk.off hHs hu (iv_dis (by omega))
        have hQ := Fam.off hQ hu (iv_dis (by omega))
        refine lv_if_ne (tgt := 94) hx hb dX11_run_75 (by decide) (fun c9 => ?_) (fun c9 => ?_)
        · rw [if_neg c9] at hf
          refine lv_iinc (v := (z.2.1 + 1)) (lv' := [(2, .int (z.2.1 + 1)), (0, .ref (B + 0)), (1, .int z.1)]) hx hb dX11_run_94 hl (k := 2) rfl rfl (by decide) rfl (fun ls hl => ?_)
          refine lv_goto (tgt := 48) hx hb dX11_run_97 (by decide) ?_
          exact ih (z.1, (z.2.1 + 1), z.2.2.1, z.2.2.2.1, z7.2, z.2.2.2.2.2.1, z.2.2.2.2.2.2.1, z.2.2.2.2.2.2.2) (lp_back hy (Option.some.inj hf).symm) _ _ _ hG hN hT hHs hQ hP hS (lv_sub hl [1, 2, 0] rfl)
        · rw [if_pos c9] at hf
          refine lv_aload_n hx hb dX11_run_78 rfl (lv_at hl 0 rfl) ?_
          refine lv_iload_n hx hb dX11_run_79 rfl (lv_at hl 2 rfl) ?_
          refine w_put (k := 0) (v := .int z.2.1) hx hb hw hown hE fl_X11_58 fw_X11_9 hG (by decide) rfl rfl z.2.1 rfl rfl rfl hS (Or.inl (iv_mem (by decide))) dX11_run_80 (fun H locs hG _ hu hS => ?_)
          have hu := hu_iv (n := 1) (by decide) hu
          have hN := Blk.off hN hu (iv_dis (by omega))
          have hT := Blk.off hT hu (iv_dis (by omega))
          have hHs := Blk.off hHs hu (iv_dis (by omega))
          have hQ := Fam.off hQ hu (iv_dis (by omega))
          have hP := Blk.off hP hu (iv_dis (by omega))
          have hre := lp_end hy (Option.some.inj hf).symm
          subst hre
          exact mx_thrW (e9 := 2) hx hb htr htab hlocks hown hw hE th_X11_360_362_364 hS hAB (hl.1.trans hml.symm) dX11_run_83 dX11_run_86 dX11_run_87 dX11_run_90 dX11_run_93 (by decide) (Nat.le_of_ble_eq_true rfl) ⟨by decide, by decide⟩ ⟨by decide, by decide⟩ rfl rfl (fun H1 hq => ⟨Blk.ext hG hq, Blk.ext hN hq, Blk.ext hT hq, Blk.ext hHs hq, Fam.ext hQ hq, Blk.ext hP hq⟩)
  refine lv_aload_n hx hb dX11_run_0 rfl (lv_at hl 0 rfl) ?_
  refine w_get (k := 0) (v := .ref ((B + 171) + 0)) hx hb hw hown hE fl_X11_43 hG (by decide) rfl rfl rfl dX11_run_1 ?_
  obtain ⟨z10, hc11, hf⟩ := br_some hf
  refine mu_cV (As := []) (rest := []) hx hb hml hown hts hE (mX7_parse l E B0 (B + 171) (by omega) P z10 hc11) cv_X11_333 (w_recv (k := 0) (ci := 7) hE hP (by decide) rfl rfl) hP hS hAB (fun _ h => Or.inr (Or.inr (Or.inr (Or.inr (Or.inr (h)))))) rfl hl.1 rfl (by decide) (Nat.le_of_ble_eq_true rfl) ⟨by decide, by decide⟩ dX11_run_4 (fun H locs hP _ hu hS => ?_)
  have hG := Blk.off hG hu (iv_dis (by omega))
  have hN := Blk.off hN hu (iv_dis (by omega))
  have hT := Blk.off hT hu (iv_dis (by omega))
  have hHs := Blk.off hHs hu (iv_dis (by omega))
  have hQ := Fam.off hQ hu (iv_dis (by omega))
  refine lv_istore_n (lv' := [(1, .int z10.1), (0, .ref (B + 0))]) hx hb dX11_run_7 rfl hl (by decide) rfl (fun ls hl => ?_)
  refine lv_aload_n hx hb dX11_run_8 rfl (lv_at hl 1 rfl) ?_
  refine w_get (k := 0) (v := .ref ((B + 171) + 0)) hx hb hw hown hE fl_X11_43 hG (by decide) rfl rfl rfl dX11_run_9 ?_
  obtain ⟨z12, hc13, hf⟩ := br_some hf
  refine mu_cV (As := []) (rest := []) hx hb hml hown hts hE (mX7_empty l E B0 (B + 171) (by omega) z10.2 z12 hc13) cv_X11_336 (w_recv (k := 0) (ci := 7) hE hP (by decide) rfl rfl) hP hS hAB (fun _ h => Or.inr (Or.inr (Or.inr (Or.inr (Or.inr (h)))))) rfl hl.1 rfl (by decide) (Nat.le_of_ble_eq_true rfl) ⟨by decide, by decide⟩ dX11_run_12 (fun H locs hP _ hu hS => ?_)
  have hG := Blk.off hG hu (iv_dis (by omega))
  have hN := Blk.off hN hu (iv_dis (by omega))
  have hT := Blk.off hT hu (iv_dis (by omega))
  have hHs := Blk.off hHs hu (iv_dis (by omega))
  have hQ := Fam.off hQ hu (iv_dis (by omega))
  refine lv_iload_n hx hb dX11_run_15 rfl (lv_at hl 0 rfl) ?_
  refine lv_if_lt (tgt := 35) hx hb dX11_run_16 (by decide) (fun c14 => ?_) (fun c14 => ?_)
  · rw [if_pos c14] at hf
    refine lv_aload_n hx hb dX11_run_35 rfl (lv_at hl 1 rfl) ?_
    refine w_get (k := 0) (v := .ref ((B + 16) + 0)) hx hb hw hown hE fl_X11_16 hG (by decide) rfl rfl rfl dX11_run_36 ?_
    refine lv_aload_n hx hb dX11_run_39 rfl (lv_at hl 1 rfl) ?_
    refine w_get (k := 0) (v := .ref ((B + 1) + 0)) hx hb hw hown hE fl_X11_12 hG (by decide) rfl rfl rfl dX11_run_40 ?_
    obtain ⟨z15, hc16, hf⟩ := br_some hf
    refine mu_cV (As := [.ref ((B + 1) + 0)]) (rest := []) hx hb hml hown hts hE (mX6_copyFrom l E B0 (B + 16) (B + 1) (by omega) (by omega) (by omega) T N z15 hc16) cv_X11_344 (w_recv (k := 0) (ci := 6) hE hT (by decide) rfl rfl) ⟨hT, hN⟩ hS hAB (fun _ h => Or.inr (Or.inr (Or.inl (h)))) rfl hl.1 rfl (by decide) (Nat.le_of_ble_eq_true rfl) ⟨by decide, by decide⟩ dX11_run_43 (fun H locs hP9 _ hu hS => ?_)
    obtain ⟨hT, hN⟩ := hP9
    have hG := Blk.off hG hu (iv_dis (by omega))
    have hHs := Blk.off hHs hu (iv_dis (by omega))
    have hQ := Fam.off hQ hu (iv_dis (by omega))
    have hP := Blk.off hP hu (iv_dis (by omega))
    refine lv_iconst (v := 0) hx hb dX11_run_46 (by decide) ?_
    refine lv_istore_n (lv' := [(2, .int 0), (1, .int z10.1), (0, .ref (B + 0))]) hx hb dX11_run_47 rfl hl (by decide) rfl (fun ls hl => ?_)
    obtain ⟨fu, hfu⟩ := lp_some hf
    exact (loop fu (z10.1, 0, G, N, z15, Hs, Q, z12) hfu) _ _ _ hG hN hT hHs hQ hP hS (lv_sub hl [2, 1, 0] rfl)
  · rw [if_neg c14] at hf
    refine lv_aload_n hx hb dX11_run_19 rfl (lv_at hl 1 rfl) ?_
    refine lv_iload_n hx hb dX11_run_20 rfl (lv_at hl 0 rfl) ?_
    refine w_put (k := 0) (v := .int z10.1) hx hb hw hown hE fl_X11_54 fw_X11_8 hG (by decide) rfl rfl z10.1 rfl rfl rfl hS (Or.inl (iv_mem (by decide))) dX11_run_21 (fun H locs hG _ hu hS => ?_)
    have hu := hu_iv (n := 1) (by decide) hu
    have hN := Blk.off hN hu (iv_dis (by omega))
    have hT := Blk.off hT hu (iv_dis (by omega))
    have hHs := Blk.off hHs hu (iv_dis (by omega))
    have hQ := Fam.off hQ hu (iv_dis (by omega))
    have hP := Blk.off hP hu (iv_dis (by omega))
    have hre := Option.some.inj hf
    subst hre
    exact mx_thrW (e9 := 1) hx hb htr htab hlocks hown hw hE th_X11_339_341_343 hS hAB (hl.1.trans hml.symm) dX11_run_24 dX11_run_27 dX11_run_28 dX11_run_31 dX11_run_34 (by decide) (Nat.le_of_ble_eq_true rfl) ⟨by decide, by decide⟩ ⟨by decide, by decide⟩ rfl rfl (fun H1 hq => ⟨Blk.ext hG hq, Blk.ext hN hq, Blk.ext hT hq, Blk.ext hHs hq, Fam.ext hQ hq, Blk.ext hP hq⟩)
def fX11_errorPosition (G : Mem) : Option ((Nat ⊕ Int32)) := (if 0 ≤ (G 0 8) then some (.inr (G 0 8)) else some (.inl 5))
set_option maxHeartbeats 4000000 in
set_option maxRecDepth 100000 in
theorem mX11_errorPosition (l : Launch) (E : EP) (B0 : Nat) (htr : l.stackTraces = false) (B : Nat) (L0 : Nat) (hb0 : B0 ≤ B) (hb1 : B + 202 ≤ L0) (G : Mem) (r : (Nat ⊕ Int32)) (hf : fX11_errorPosition G = some r) : MX l E B0 yX11_errorPosition cX11_errorPosition 1 (some .int) 8 1 6 [.ref (B + 0)] (Blk E B rnSh 1 G) r (fun v => (some (.int v))) (Blk E B rnSh 1 G) nv := by
  refine mx_of (by decide +kernel) (Nat.le_of_ble_eq_true rfl) ?_
  intro p e s m args below meth c hx hb hml hown hts hrt hlocks htab hE H hG hS ls hl
  have hown : s.vm.findClass RX11 = some m.cls := hown
  have hl : lv_has ls 1 [(0, .ref (B + 0))] := hl
  have hw : ∀ w ∈ WA, w.before args s = true := fun w h => hts w (List.mem_cons_of_mem _ h)
  have hAB : ∀ q, nv q → B0 ≤ q := fun _ h => h.elim
  unfold fX11_errorPosition at hf
  refine lv_aload_n hx hb dX11_errorPosition_0 rfl (lv_at hl 0 rfl) ?_
  refine w_get (k := 0) (v := .int (G 0 8)) hx hb hw hown hE fl_X11_54 hG (by decide) rfl rfl rfl dX11_errorPosition_1 ?_
  refine lv_if_ge (tgt := 18) hx hb dX11_errorPosition_4 (by decide) (fun c1 => ?_) (fun c1 => ?_)
  · rw [if_pos c1] at hf
    refine lv_aload_n hx hb dX11_errorPosition_18 rfl (lv_at hl 0 rfl) ?_
    refine w_get (k := 0) (v := .int (G 0 8)) hx hb hw hown hE fl_X11_54 hG (by decide) rfl rfl rfl dX11_errorPosition_19 ?_
    have hre := Option.some.inj hf
    subst hre
    refine W.widen (k := 1) (n := 6) (by decide) (by decide) ?_
    refine mx_up (v := (G 0 8)) rfl ?_
    exact mu_i (v := (G 0 8)) hx hb hrt hlocks hG hS dX11_errorPosition_22
  · rw [if_neg c1] at hf
    have hre := Option.some.inj hf
    subst hre
    exact mx_thrWN (e9 := 5) hx hb htr htab hlocks hown hw hE th_X11_142_365_146 hS hAB (hl.1.trans hml.symm) dX11_errorPosition_7 dX11_errorPosition_10 dX11_errorPosition_11 dX11_errorPosition_14 dX11_errorPosition_17 (by decide) (Nat.le_of_ble_eq_true rfl) ⟨by decide, by decide⟩ ⟨by decide, by decide⟩ rfl rfl (fun H1 hq => Blk.ext hG hq)
def fX11_failedCommand (G : Mem) : Option ((Nat ⊕ Int32)) := (if 0 ≤ (G 0 9) then some (.inr (G 0 9)) else some (.inl 5))
set_option maxHeartbeats 4000000 in
set_option maxRecDepth 100000 in
theorem mX11_failedCommand (l : Launch) (E : EP) (B0 : Nat) (htr : l.stackTraces = false) (B : Nat) (L0 : Nat) (hb0 : B0 ≤ B) (hb1 : B + 202 ≤ L0) (G : Mem) (r : (Nat ⊕ Int32)) (hf : fX11_failedCommand G = some r) : MX l E B0 yX11_failedCommand cX11_failedCommand 1 (some .int) 8 1 6 [.ref (B + 0)] (Blk E B rnSh 1 G) r (fun v => (some (.int v))) (Blk E B rnSh 1 G) nv := by
  refine mx_of (by decide +kernel) (Nat.le_of_ble_eq_true rfl) ?_
  intro p e s m args below meth c hx hb hml hown hts hrt hlocks htab hE H hG hS ls hl
  have hown : s.vm.findClass RX11 = some m.cls := hown
  have hl : lv_has ls 1 [(0, .ref (B + 0))] := hl
  have hw : ∀ w ∈ WA, w.before args s = true := fun w h => hts w (List.mem_cons_of_mem _ h)
  have hAB : ∀ q, nv q → B0 ≤ q := fun _ h => h.elim
  unfold fX11_failedCommand at hf
  refine lv_aload_n hx hb dX11_failedCommand_0 rfl (lv_at hl 0 rfl) ?_
  refine w_get (k := 0) (v := .int (G 0 9)) hx hb hw hown hE fl_X11_58 hG (by decide) rfl rfl rfl dX11_failedCommand_1 ?_
  refine lv_if_ge (tgt := 18) hx hb dX11_failedCommand_4 (by decide) (fun c1 => ?_) (fun c1 => ?_)
  · rw [if_pos c1] at hf
    refine lv_aload_n hx hb dX11_failedCommand_18 rfl (lv_at hl 0 rfl) ?_
    refine w_get (k := 0) (v := .int (G 0 9)) hx hb hw hown hE fl_X11_58 hG (by decide) rfl rfl rfl dX11_failedCommand_19 ?_
    have hre := Option.some.inj hf
    subst hre
    refine W.widen (k := 1) (n := 6) (by decide) (by decide) ?_
    refine mx_up (v := (G 0 9)) rfl ?_
    exact mu_i (v := (G 0 9)) hx hb hrt hlocks hG hS dX11_failedCommand_22
  · rw [if_neg c1] at hf
    have hre := Option.some.inj hf
    subst hre
    exact mx_thrWN (e9 := 5) hx hb htr htab hlocks hown hw hE th_X11_142_367_146 hS hAB (hl.1.trans hml.symm) dX11_failedCommand_7 dX11_failedCommand_10 dX11_failedCommand_11 dX11_failedCommand_14 dX11_failedCommand_17 (by decide) (Nat.le_of_ble_eq_true rfl) ⟨by decide, by decide⟩ ⟨by decide, by decide⟩ rfl rfl (fun H1 hq => Blk.ext hG hq)
noncomputable def fX11_undo (G : Mem) (N : Mem) (Hs : Mem) (Q : Nat → Mem) : Option ((Nat ⊕ Int32) × Mem × Mem) := (if (Hs 0 2) = 0 then some (.inl 3, N, Hs) else (fX3_popInto Hs Q N).bind fun z2 => some (.inr (z2.1 0 2), z2.2, z2.1))
set_option maxHeartbeats 4000000 in
set_option maxRecDepth 100000 in
theorem mX11_undo (l : Launch) (E : EP) (B0 : Nat) (htr : l.stackTraces = false) (B : Nat) (L0 : Nat) (hb0 : B0 ≤ B) (hb1 : B + 202 ≤ L0) (G : Mem) (N : Mem) (Hs : Mem) (Q : Nat → Mem) (r : (Nat ⊕ Int32) × Mem × Mem) (hf : fX11_undo G N Hs Q = some r) : MX l E B0 yX11_undo cX11_undo 1 (some .int) 8 1 6 [.ref (B + 0)] (fun H => Blk E B rnSh 1 G H ∧ Blk E (B + 1) netSh 15 N H ∧ Blk E (B + 46) histSh 2 Hs H ∧ Fam E (B + 46 + 2) Q H) r.1 (fun v => (some (.int v))) (fun H => Blk E B rnSh 1 G H ∧ Blk E (B + 1) netSh 15 r.2.1 H ∧ Blk E (B + 46) histSh 2 r.2.2 H ∧ Fam E (B + 46 + 2) Q H) (orA (iv (B + 1) 15) (iv (B + 46) 2)) := by
  refine mx_of (by decide +kernel) (Nat.le_of_ble_eq_true rfl) ?_
  intro p e s m args below meth c hx hb hml hown hts hrt hlocks htab hE H hP9 hS ls hl
  obtain ⟨hG, hN, hHs, hQ⟩ := hP9
  have hown : s.vm.findClass RX11 = some m.cls := hown
  have hl : lv_has ls 1 [(0, .ref (B + 0))] := hl
  have hw : ∀ w ∈ WA, w.before args s = true := fun w h => hts w (List.mem_cons_of_mem _ h)
  have hAB : ∀ q, (orA (iv (B + 1) 15) (iv (B + 46) 2)) q → B0 ≤ q := (or_ge (iv_ge (by omega)) (iv_ge (by omega)))
  unfold fX11_undo at hf
  refine lv_aload_n hx hb dX11_undo_0 rfl (lv_at hl 0 rfl) ?_
  refine w_get (k := 0) (v := .ref ((B + 46) + 0)) hx hb hw hown hE fl_X11_29 hG (by decide) rfl rfl rfl dX11_undo_1 ?_
  refine w_get (k := 0) (v := .int (Hs 0 2)) hx hb hw hown hE fl_X11_369 hHs (by decide) rfl rfl rfl dX11_undo_4 ?_
  refine lv_if_ne (tgt := 21) hx hb dX11_undo_7 (by decide) (fun c1 => ?_) (fun c1 => ?_)
  · rw [if_neg c1] at hf
    refine lv_aload_n hx hb dX11_undo_21 rfl (lv_at hl 0 rfl) ?_
    refine w_get (k := 0) (v := .ref ((B + 46) + 0)) hx hb hw hown hE fl_X11_29 hG (by decide) rfl rfl rfl dX11_undo_22 ?_
    refine lv_aload_n hx hb dX11_undo_25 rfl (lv_at hl 0 rfl) ?_
    refine w_get (k := 0) (v := .ref ((B + 1) + 0)) hx hb hw hown hE fl_X11_12 hG (by decide) rfl rfl rfl dX11_undo_26 ?_
    obtain ⟨z2, hc3, hf⟩ := br_some hf
    refine mu_cV (As := [.ref ((B + 1) + 0)]) (rest := []) hx hb hml hown hts hE (mX3_popInto l E B0 (B + 46) (B + 1) (by omega) (by omega) (by omega) Hs Q N z2 hc3) cv_X11_372 (w_recv (k := 0) (ci := 5) hE hHs (by decide) rfl rfl) ⟨hHs, hQ, hN⟩ hS hAB (fun _ h => h.elim (fun h1 => Or.inr (h1)) (fun h2 => Or.inl (h2))) rfl hl.1 rfl (by decide) (Nat.le_of_ble_eq_true rfl) ⟨by decide, by decide⟩ dX11_undo_29 (fun H locs hP9 _ hu hS => ?_)
    obtain ⟨hHs, hQ, hN⟩ := hP9
    have hG := Blk.off hG hu (or_dis (iv_dis (by omega)) (iv_dis (by omega)))
    refine lv_aload_n hx hb dX11_undo_32 rfl (lv_at hl 0 rfl) ?_
    refine w_get (k := 0) (v := .ref ((B + 46) + 0)) hx hb hw hown hE fl_X11_29 hG (by decide) rfl rfl rfl dX11_undo_33 ?_
    refine w_get (k := 0) (v := .int (z2.1 0 2)) hx hb hw hown hE fl_X11_369 hHs (by decide) rfl rfl rfl dX11_undo_36 ?_
    have hre := Option.some.inj hf
    subst hre
    refine W.widen (k := 1) (n := 6) (by decide) (by decide) ?_
    refine mx_up (v := (z2.1 0 2)) rfl ?_
    exact mu_i (v := (z2.1 0 2)) hx hb hrt hlocks ⟨hG, hN, hHs, hQ⟩ hS dX11_undo_39
  · rw [if_pos c1] at hf
    have hre := Option.some.inj hf
    subst hre
    exact mx_thrW (e9 := 3) hx hb htr htab hlocks hown hw hE th_X11_325_370_329 hS hAB (hl.1.trans hml.symm) dX11_undo_10 dX11_undo_13 dX11_undo_14 dX11_undo_17 dX11_undo_20 (by decide) (Nat.le_of_ble_eq_true rfl) ⟨by decide, by decide⟩ ⟨by decide, by decide⟩ rfl rfl (fun H1 hq => ⟨Blk.ext hG hq, Blk.ext hN hq, Blk.ext hHs hq, Fam.ext hQ hq⟩)
noncomputable def fX11_save (G : Mem) (N : Mem) (V : Mem) : Option (Int32 × Mem × Mem) := (fX6_copyFrom V N).bind fun z1 => some ((N 0 1), (up2 G 0 3 (1 : Int32)), z1)
set_option maxHeartbeats 4000000 in
set_option maxRecDepth 100000 in
theorem mX11_save (l : Launch) (E : EP) (B0 : Nat) (B : Nat) (L0 : Nat) (hb0 : B0 ≤ B) (hb1 : B + 202 ≤ L0) (G : Mem) (N : Mem) (V : Mem) (r : Int32 × Mem × Mem) (hf : fX11_save G N V = some r) : MU l E B0 yX11_save cX11_save 1 (some .int) 2 0 0 [.ref (B + 0)] (fun H => Blk E B rnSh 1 G H ∧ Blk E (B + 1) netSh 15 N H ∧ Blk E (B + 31) netSh 15 V H) (some (.int r.1)) (fun H => Blk E B rnSh 1 r.2.1 H ∧ Blk E (B + 1) netSh 15 N H ∧ Blk E (B + 31) netSh 15 r.2.2 H) (orA (iv B 1) (iv (B + 31) 15)) := by
  refine mu_of (by decide +kernel) (Nat.le_of_ble_eq_true rfl) ?_
  intro p e s m args below meth c hx hb hml hown hts hrt hlocks hE H hP9 hS ls hl
  obtain ⟨hG, hN, hV⟩ := hP9
  have hown : s.vm.findClass RX11 = some m.cls := hown
  have hl : lv_has ls 1 [(0, .ref (B + 0))] := hl
  have hw : ∀ w ∈ WA, w.before args s = true := fun w h => hts w (List.mem_cons_of_mem _ h)
  have hAB : ∀ q, (orA (iv B 1) (iv (B + 31) 15)) q → B0 ≤ q := (or_ge (iv_ge (by omega)) (iv_ge (by omega)))
  unfold fX11_save at hf
  refine lv_aload_n hx hb dX11_save_0 rfl (lv_at hl 0 rfl) ?_
  refine w_get (k := 0) (v := .ref ((B + 31) + 0)) hx hb hw hown hE fl_X11_19 hG (by decide) rfl rfl rfl dX11_save_1 ?_
  refine lv_aload_n hx hb dX11_save_4 rfl (lv_at hl 0 rfl) ?_
  refine w_get (k := 0) (v := .ref ((B + 1) + 0)) hx hb hw hown hE fl_X11_12 hG (by decide) rfl rfl rfl dX11_save_5 ?_
  obtain ⟨z1, hc2, hf⟩ := br_some hf
  refine mu_cV (As := [.ref ((B + 1) + 0)]) (rest := []) hx hb hml hown hts hE (mX6_copyFrom l E B0 (B + 31) (B + 1) (by omega) (by omega) (by omega) V N z1 hc2) cv_X11_344 (w_recv (k := 0) (ci := 6) hE hV (by decide) rfl rfl) ⟨hV, hN⟩ hS hAB (fun _ h => Or.inr (h)) rfl hl.1 rfl (by decide) (Nat.le_of_ble_eq_true rfl) ⟨Nat.le_refl _, Nat.le_refl _⟩ dX11_save_8 (fun H locs hP9 _ hu hS => ?_)
  obtain ⟨hV, hN⟩ := hP9
  have hG := Blk.off hG hu (iv_dis (by omega))
  refine lv_aload_n hx hb dX11_save_11 rfl (lv_at hl 0 rfl) ?_
  refine lv_iconst (v := 1) hx hb dX11_save_12 (by decide) ?_
  refine w_put (k := 0) (v := .int 1) hx hb hw hown hE fl_X11_22 fw_X11_3 hG (by decide) rfl rfl (1 : Int32) rfl rfl rfl hS (Or.inl (iv_mem (by decide))) dX11_save_13 (fun H locs hG _ hu hS => ?_)
  have hu := hu_iv (n := 1) (by decide) hu
  have hN := Blk.off hN hu (iv_dis (by omega))
  have hV := Blk.off hV hu (iv_dis (by omega))
  refine lv_aload_n hx hb dX11_save_16 rfl (lv_at hl 0 rfl) ?_
  refine w_get (k := 0) (v := .ref ((B + 1) + 0)) hx hb hw hown hE fl_X11_12 hG (by decide) rfl rfl rfl dX11_save_17 ?_
  refine w_get (k := 0) (v := .int (N 0 1)) hx hb hw hown hE fl_X11_135 hN (by decide) rfl rfl rfl dX11_save_20 ?_
  have hre := Option.some.inj hf
  subst hre
  exact mu_i (v := (N 0 1)) hx hb hrt hlocks ⟨hG, hN, hV⟩ hS dX11_save_23
noncomputable def fX11_restore (G : Mem) (N : Mem) (V : Mem) (Hs : Mem) : Option ((Nat ⊕ Int32) × Mem × Mem) := (if (G 0 3) = 0 then some (.inl 3, N, Hs) else (fX6_copyFrom N V).bind fun z2 => (fX3_clear Hs).bind fun z4 => some (.inr (z2 0 1), z2, z4))
set_option maxHeartbeats 4000000 in
set_option maxRecDepth 100000 in
theorem mX11_restore (l : Launch) (E : EP) (B0 : Nat) (htr : l.stackTraces = false) (B : Nat) (L0 : Nat) (hb0 : B0 ≤ B) (hb1 : B + 202 ≤ L0) (G : Mem) (N : Mem) (V : Mem) (Hs : Mem) (r : (Nat ⊕ Int32) × Mem × Mem) (hf : fX11_restore G N V Hs = some r) : MX l E B0 yX11_restore cX11_restore 1 (some .int) 8 1 6 [.ref (B + 0)] (fun H => Blk E B rnSh 1 G H ∧ Blk E (B + 1) netSh 15 N H ∧ Blk E (B + 31) netSh 15 V H ∧ Blk E (B + 46) histSh 2 Hs H) r.1 (fun v => (some (.int v))) (fun H => Blk E B rnSh 1 G H ∧ Blk E (B + 1) netSh 15 r.2.1 H ∧ Blk E (B + 31) netSh 15 V H ∧ Blk E (B + 46) histSh 2 r.2.2 H) (orA (iv (B + 1) 15) (iv (B + 46) 2)) := by
  refine mx_of (by decide +kernel) (Nat.le_of_ble_eq_true rfl) ?_
  intro p e s m args below meth c hx hb hml hown hts hrt hlocks htab hE H hP9 hS ls hl
  obtain ⟨hG, hN, hV, hHs⟩ := hP9
  have hown : s.vm.findClass RX11 = some m.cls := hown
  have hl : lv_has ls 1 [(0, .ref (B + 0))] := hl
  have hw : ∀ w ∈ WA, w.before args s = true := fun w h => hts w (List.mem_cons_of_mem _ h)
  have hAB : ∀ q, (orA (iv (B + 1) 15) (iv (B + 46) 2)) q → B0 ≤ q := (or_ge (iv_ge (by omega)) (iv_ge (by omega)))
  unfold fX11_restore at hf
  refine lv_aload_n hx hb dX11_restore_0 rfl (lv_at hl 0 rfl) ?_
  refine w_get (k := 0) (v := .int (G 0 3)) hx hb hw hown hE fl_X11_22 hG (by decide) rfl rfl rfl dX11_restore_1 ?_
  refine lv_if_ne (tgt := 18) hx hb dX11_restore_4 (by decide) (fun c1 => ?_) (fun c1 => ?_)
  · rw [if_neg c1] at hf
    refine lv_aload_n hx hb dX11_restore_18 rfl (lv_at hl 0 rfl) ?_
    refine w_get (k := 0) (v := .ref ((B + 1) + 0)) hx hb hw hown hE fl_X11_12 hG (by decide) rfl rfl rfl dX11_restore_19 ?_
    refine lv_aload_n hx hb dX11_restore_22 rfl (lv_at hl 0 rfl) ?_
    refine w_get (k := 0) (v := .ref ((B + 31) + 0)) hx hb hw hown hE fl_X11_19 hG (by decide) rfl rfl rfl dX11_restore_23 ?_
    obtain ⟨z2, hc3, hf⟩ := br_some hf
    refine mu_cV (As := [.ref ((B + 31) + 0)]) (rest := []) hx hb hml hown hts hE (mX6_copyFrom l E B0 (B + 1) (B + 31) (by omega) (by omega) (by omega) N V z2 hc3) cv_X11_344 (w_recv (k := 0) (ci := 6) hE hN (by decide) rfl rfl) ⟨hN, hV⟩ hS hAB (fun _ h => Or.inl (h)) rfl hl.1 rfl (by decide) (Nat.le_of_ble_eq_true rfl) ⟨by decide, by decide⟩ dX11_restore_26 (fun H locs hP9 _ hu hS => ?_)
    obtain ⟨hN, hV⟩ := hP9
    have hG := Blk.off hG hu (iv_dis (by omega))
    have hHs := Blk.off hHs hu (iv_dis (by omega))
    refine lv_aload_n hx hb dX11_restore_29 rfl (lv_at hl 0 rfl) ?_
    refine w_get (k := 0) (v := .ref ((B + 46) + 0)) hx hb hw hown hE fl_X11_29 hG (by decide) rfl rfl rfl dX11_restore_30 ?_
    obtain ⟨z4, hc5, hf⟩ := br_some hf
    refine mu_cV (As := []) (rest := []) hx hb hml hown hts hE (mX3_clear l E B0 (B + 46) (B + 1) (by omega) (by omega) (by omega) Hs z4 hc5) cv_X11_377 (w_recv (k := 0) (ci := 5) hE hHs (by decide) rfl rfl) hHs hS hAB (fun _ h => Or.inr (h)) rfl hl.1 rfl (by decide) (Nat.le_of_ble_eq_true rfl) ⟨by decide, by decide⟩ dX11_restore_33 (fun H locs hHs _ hu hS => ?_)
    have hG := Blk.off hG hu (iv_dis (by omega))
    have hN := Blk.off hN hu (iv_dis (by omega))
    have hV := Blk.off hV hu (iv_dis (by omega))
    refine lv_aload_n hx hb dX11_restore_36 rfl (lv_at hl 0 rfl) ?_
    refine w_get (k := 0) (v := .ref ((B + 1) + 0)) hx hb hw hown hE fl_X11_12 hG (by decide) rfl rfl rfl dX11_restore_37 ?_
    refine w_get (k := 0) (v := .int (z2 0 1)) hx hb hw hown hE fl_X11_135 hN (by decide) rfl rfl rfl dX11_restore_40 ?_
    have hre := Option.some.inj hf
    subst hre
    refine W.widen (k := 1) (n := 6) (by decide) (by decide) ?_
    refine mx_up (v := (z2 0 1)) rfl ?_
    exact mu_i (v := (z2 0 1)) hx hb hrt hlocks ⟨hG, hN, hV, hHs⟩ hS dX11_restore_43
  · rw [if_pos c1] at hf
    have hre := Option.some.inj hf
    subst hre
    exact mx_thrW (e9 := 3) hx hb htr htab hlocks hown hw hE th_X11_325_375_329 hS hAB (hl.1.trans hml.symm) dX11_restore_7 dX11_restore_10 dX11_restore_11 dX11_restore_14 dX11_restore_17 (by decide) (Nat.le_of_ble_eq_true rfl) ⟨by decide, by decide⟩ ⟨by decide, by decide⟩ rfl rfl (fun H1 hq => ⟨Blk.ext hG hq, Blk.ext hN hq, Blk.ext hV hq, Blk.ext hHs hq⟩)
