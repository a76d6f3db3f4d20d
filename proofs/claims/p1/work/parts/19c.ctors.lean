/-! ===== constructors ===== -/
theorem ltc2 {j : Nat} (h : j < 2) : j = 0 ∨ j = 1 := by omega
theorem ltc3 {j : Nat} (h : j < 3) : j = 0 ∨ j = 1 ∨ j = 2 := by omega
theorem ltc4 {j : Nat} (h : j < 4) : j = 0 ∨ j = 1 ∨ j = 2 ∨ j = 3 := by omega
theorem ltc5 {j : Nat} (h : j < 5) : j = 0 ∨ j = 1 ∨ j = 2 ∨ j = 3 ∨ j = 4 := by omega
theorem ltc6 {j : Nat} (h : j < 6) : j = 0 ∨ j = 1 ∨ j = 2 ∨ j = 3 ∨ j = 4 ∨ j = 5 := by omega
theorem ltc7 {j : Nat} (h : j < 7) : j = 0 ∨ j = 1 ∨ j = 2 ∨ j = 3 ∨ j = 4 ∨ j = 5 ∨ j = 6 := by omega
theorem ltc10 {j : Nat} (h : j < 10) : j = 0 ∨ j = 1 ∨ j = 2 ∨ j = 3 ∨ j = 4 ∨ j = 5 ∨ j = 6 ∨ j = 7 ∨ j = 8 ∨ j = 9 := by omega
theorem ltc15 {j : Nat} (h : j < 15) : j = 0 ∨ j = 1 ∨ j = 2 ∨ j = 3 ∨ j = 4 ∨ j = 5 ∨ j = 6 ∨ j = 7 ∨ j = 8 ∨ j = 9 ∨ j = 10 ∨ j = 11 ∨ j = 12 ∨ j = 13 ∨ j = 14 := by omega
theorem Fam.offq {E : EP} {b a : Nat} {Q : Nat → Mem} {H H1 : Heap} (h : Fam E b Q H) (oq : ∀ q : Nat, q ≠ a → H1[q]? = H[q]?) (hd : b + 120 ≤ a ∨ a < b) : Fam E b Q H1 := fun i hi => (h i hi).offq oq (by omega)
set_option maxHeartbeats 4000000 in
set_option maxRecDepth 100000 in
theorem mX9_init (l : Launch) (E : EP) (B0 : Nat) (b : Nat) (hb0 : B0 ≤ b) : MU l E B0 yX9_init cX9_init 1 none 1 0 0 [.ref (b + 0)] (fun H => H.size = b + 1 ∧ va_at E.1 vwCl (b + 0, .inr (9, [.int 0, .int 0, .int 0, .int 0, .int 0, .int 0, .null, .int 0, .int 0, .int 0])) H) none (fun H => H.size = b + 1 ∧ va_at E.1 vwCl (b + 0, celE E b (netSh 2) (fun _ => 0)) H) (fr b) := by
  refine mi_of (by decide +kernel) (Nat.le_of_ble_eq_true rfl) rfl ?_
  intro p e s m args below meth c hx hb hml hown hts hrt hlocks hin hE H hP9 hS ls hl
  obtain ⟨hz, ho⟩ := hP9
  have hown : s.vm.findClass RX9 = some m.cls := hown
  have hl : lv_has ls 1 [(0, .ref (b + 0))] := hl
  have hw : ∀ w ∈ WA, w.before args s = true := fun w h => hts w (List.mem_cons_of_mem _ h)
  have hAB : ∀ q, fr b q → B0 ≤ q := fun q h => Nat.le_trans hb0 h
  refine lv_aload_n hx hb dX9_init_0 rfl (lv_at hl 0 rfl) ?_
  refine w_objInit hx hb hw hown oi_X9_1 (hl.1.trans hml.symm) (by decide) (by decide) dX9_init_1 ?_
  refine lv_aload_n hx hb dX9_init_4 rfl (lv_at hl 0 rfl) ?_
  refine w_gs (i := 0) (z := 0) hx hb hw hown (EV.en0 hE) (by decide) hS hAB gs_X9_7 (by decide) dX9_init_5 ?_
  refine w_putA (f := 6) (v := .ref (E.2.2 0 (0 : Int32).toNatClampNeg)) hx hb hw hown hE fl_X9_13 ff_X9_X9_6 ho (Nat.le_of_ble_eq_true rfl) rfl (by first | rfl | simp [fits]) hS (Nat.le_add_right _ _) dX9_init_8 (fun H locs ho z9 oq hS => ?_)
  have ho : va_at E.1 vwCl (b + 0, .inr (9, [.int 0, .int 0, .int 0, .int 0, .int 0, .int 0, .ref (E.2.2 0 (0 : Int32).toNatClampNeg), .int 0, .int 0, .int 0])) H := ho
  have hz : H.size = b + 1 := z9.trans hz
  have hfin : H.size = b + 1 ∧ va_at E.1 vwCl (b + 0, celE E b (netSh 2) (fun _ => 0)) H := ⟨hz, ho⟩
  exact mu_v hx hb hrt hlocks hfin hS dX9_init_11
def tlSh : Nat → Sh := fun k => match k with
  | 0 => .inr (10, [(1, 1), (1, 2), (1, 3), (0, 0)])
  | 1 => .inl (0, 16, 0, 0)
  | 2 => .inl (0, 16, 0, 0)
  | 3 => .inl (0, 16, 0, 0)
  | _ => .inl (0, 0, 0, 0)
set_option maxHeartbeats 4000000 in
set_option maxRecDepth 100000 in
theorem mX10_init (l : Launch) (E : EP) (B0 : Nat) (b : Nat) (hb0 : B0 ≤ b) : MU l E B0 yX10_init cX10_init 1 none 1 3 48 [.ref (b + 0)] (fun H => H.size = b + 1 ∧ va_at E.1 vwCl (b + 0, .inr (10, [.null, .null, .null, .int 0])) H) none (fun H => H.size = b + 4 ∧ Blk E b tlSh 4 (fun _ _ => 0) H) (fr b) := by
  refine mi_of (by decide +kernel) (Nat.le_of_ble_eq_true rfl) rfl ?_
  intro p e s m args below meth c hx hb hml hown hts hrt hlocks hin hE H hP9 hS ls hl
  obtain ⟨hz, ho⟩ := hP9
  have hown : s.vm.findClass RX10 = some m.cls := hown
  have hl : lv_has ls 1 [(0, .ref (b + 0))] := hl
  have hw : ∀ w ∈ WA, w.before args s = true := fun w h => hts w (List.mem_cons_of_mem _ h)
  have hAB : ∀ q, fr b q → B0 ≤ q := fun q h => Nat.le_trans hb0 h
  have D1 : b + 1 + 1 ≤ b + 0 ∨ b + 0 < b + 1 := by omega
  have D2 : b + 2 + 1 ≤ b + 0 ∨ b + 0 < b + 2 := by omega
  have D3 : b + 3 + 1 ≤ b + 0 ∨ b + 0 < b + 3 := by omega
  refine lv_aload_n hx hb dX10_init_0 rfl (lv_at hl 0 rfl) ?_
  refine w_objInit hx hb hw hown oi_X10_3 (hl.1.trans hml.symm) (by decide) (by decide) dX10_init_1 ?_
  refine lv_aload_n hx hb dX10_init_4 rfl (lv_at hl 0 rfl) ?_
  refine lv_bipush (v := 16) hx hb dX10_init_5 (by decide) ?_
  refine w_newa (ty := .int) (t := 0) (N := 16) (sh := fun _ => .inl (0, 16, 0, 0)) hx hb rfl rfl (fun _ _ => rfl) rfl (fun _ _ => rfl) (hw _ wa_aint) hE hS (by decide) (by decide) (Nat.le_of_ble_eq_true rfl) (Nat.le_of_ble_eq_true rfl) (Nat.le_of_ble_eq_true rfl) dX10_init_7 (fun H hA1 z1 o1 hS => ?_)
  have ho := at_ext ho o1
  rw [hz] at hA1 z1 ⊢
  have hz : H.size = b + 2 := z1
  refine w_putAF (f := 0) (v := .ref (b + 1)) hx hb hw hown hE hin fl_X10_9 ff_X10_X10_0 ho (Nat.le_of_ble_eq_true rfl) rfl (by first | rfl | simp [fits]) hS (Nat.le_add_right _ _) dX10_init_9 (fun H locs ho z9 oq hS => ?_)
  have ho : va_at E.1 vwCl (b + 0, .inr (10, [.ref (b + 1), .null, .null, .int 0])) H := ho
  have hz : H.size = b + 2 := z9.trans hz
  have hA1 := Blk.offq hA1 oq D1
  refine lv_aload_n hx hb dX10_init_12 rfl (lv_at hl 0 rfl) ?_
  refine lv_bipush (v := 16) hx hb dX10_init_13 (by decide) ?_
  refine w_newa (ty := .int) (t := 0) (N := 16) (sh := fun _ => .inl (0, 16, 0, 0)) hx hb rfl rfl (fun _ _ => rfl) rfl (fun _ _ => rfl) (hw _ wa_aint) hE hS (by decide) (by decide) (Nat.le_of_ble_eq_true rfl) (Nat.le_of_ble_eq_true rfl) (Nat.le_of_ble_eq_true rfl) dX10_init_15 (fun H hA2 z1 o1 hS => ?_)
  have ho := at_ext ho o1
  have hA1 := Blk.ext hA1 o1
  rw [hz] at hA2 z1 ⊢
  have hz : H.size = b + 3 := z1
  refine w_putAF (f := 1) (v := .ref (b + 2)) hx hb hw hown hE hin fl_X10_15 ff_X10_X10_1 ho (Nat.le_of_ble_eq_true rfl) rfl (by first | rfl | simp [fits]) hS (Nat.le_add_right _ _) dX10_init_17 (fun H locs ho z9 oq hS => ?_)
  have ho : va_at E.1 vwCl (b + 0, .inr (10, [.ref (b + 1), .ref (b + 2), .null, .int 0])) H := ho
  have hz : H.size = b + 3 := z9.trans hz
  have hA1 := Blk.offq hA1 oq D1
  have hA2 := Blk.offq hA2 oq D2
  refine lv_aload_n hx hb dX10_init_20 rfl (lv_at hl 0 rfl) ?_
  refine lv_bipush (v := 16) hx hb dX10_init_21 (by decide) ?_
  refine w_newa (ty := .int) (t := 0) (N := 16) (sh := fun _ => .inl (0, 16, 0, 0)) hx hb rfl rfl (fun _ _ => rfl) rfl (fun _ _ => rfl) (hw _ wa_aint) hE hS (by decide) (by decide) (Nat.le_of_ble_eq_true rfl) (Nat.le_of_ble_eq_true rfl) (Nat.le_of_ble_eq_true rfl) dX10_init_23 (fun H hA3 z1 o1 hS => ?_)
  have ho := at_ext ho o1
  have hA1 := Blk.ext hA1 o1
  have hA2 := Blk.ext hA2 o1
  rw [hz] at hA3 z1 ⊢
  have hz : H.size = b + 4 := z1
  refine w_putAF (f := 2) (v := .ref (b + 3)) hx hb hw hown hE hin fl_X10_18 ff_X10_X10_2 ho (Nat.le_of_ble_eq_true rfl) rfl (by first | rfl | simp [fits]) hS (Nat.le_add_right _ _) dX10_init_25 (fun H locs ho z9 oq hS => ?_)
  have ho : va_at E.1 vwCl (b + 0, .inr (10, [.ref (b + 1), .ref (b + 2), .ref (b + 3), .int 0])) H := ho
  have hz : H.size = b + 4 := z9.trans hz
  have hA1 := Blk.offq hA1 oq D1
  have hA2 := Blk.offq hA2 oq D2
  have hA3 := Blk.offq hA3 oq D3
  refine lv_aload_n hx hb dX10_init_28 rfl (lv_at hl 0 rfl) ?_
  refine lv_iconst (v := 0) hx hb dX10_init_29 (by decide) ?_
  refine w_putA (f := 3) (v := .int 0) hx hb hw hown hE fl_X10_21 ff_X10_X10_3 ho (Nat.le_of_ble_eq_true rfl) rfl (by first | rfl | simp [fits]) hS (Nat.le_add_right _ _) dX10_init_30 (fun H locs ho z9 oq hS => ?_)
  have ho : va_at E.1 vwCl (b + 0, .inr (10, [.ref (b + 1), .ref (b + 2), .ref (b + 3), .int 0])) H := ho
  have hz : H.size = b + 4 := z9.trans hz
  have hA1 := Blk.offq hA1 oq D1
  have hA2 := Blk.offq hA2 oq D2
  have hA3 := Blk.offq hA3 oq D3
  have hfin : H.size = b + 4 ∧ Blk E b tlSh 4 (fun _ _ => 0) H := by
    refine ⟨hz, fun k hk => ?_⟩
    rcases (ltc4 hk) with rfl | rfl | rfl | rfl
    · exact ho
    · exact hA1 0 (by decide)
    · exact hA2 0 (by decide)
    · exact hA3 0 (by decide)
  exact mu_v hx hb hrt hlocks hfin hS dX10_init_33
set_option maxHeartbeats 4000000 in
set_option maxRecDepth 100000 in
theorem mX8_init (l : Launch) (E : EP) (B0 : Nat) (b : Nat) (hb0 : B0 ≤ b) : MU l E B0 yX8_init cX8_init 1 none 1 2 16 [.ref (b + 0)] (fun H => H.size = b + 1 ∧ va_at E.1 vwCl (b + 0, .inr (8, [.null, .null])) H) none (fun H => H.size = b + 3 ∧ Blk E b relSh 3 (fun _ _ => 0) H) (fr b) := by
  refine mi_of (by decide +kernel) (Nat.le_of_ble_eq_true rfl) rfl ?_
  intro p e s m args below meth c hx hb hml hown hts hrt hlocks hin hE H hP9 hS ls hl
  obtain ⟨hz, ho⟩ := hP9
  have hown : s.vm.findClass RX8 = some m.cls := hown
  have hl : lv_has ls 1 [(0, .ref (b + 0))] := hl
  have hw : ∀ w ∈ WA, w.before args s = true := fun w h => hts w (List.mem_cons_of_mem _ h)
  have hAB : ∀ q, fr b q → B0 ≤ q := fun q h => Nat.le_trans hb0 h
  have D1 : b + 1 + 1 ≤ b + 0 ∨ b + 0 < b + 1 := by omega
  have D2 : b + 2 + 1 ≤ b + 0 ∨ b + 0 < b + 2 := by omega
  refine lv_aload_n hx hb dX8_init_0 rfl (lv_at hl 0 rfl) ?_
  refine w_objInit hx hb hw hown oi_X8_3 (hl.1.trans hml.symm) (by decide) (by decide) dX8_init_1 ?_
  refine lv_aload_n hx hb dX8_init_4 rfl (lv_at hl 0 rfl) ?_
  refine lv_bipush (v := 8) hx hb dX8_init_5 (by decide) ?_
  refine w_newa (ty := .int) (t := 0) (N := 8) (sh := fun _ => .inl (0, 8, 0, 0)) hx hb rfl rfl (fun _ _ => rfl) rfl (fun _ _ => rfl) (hw _ wa_aint) hE hS (by decide) (by decide) (Nat.le_of_ble_eq_true rfl) (Nat.le_of_ble_eq_true rfl) (Nat.le_of_ble_eq_true rfl) dX8_init_7 (fun H hA1 z1 o1 hS => ?_)
  have ho := at_ext ho o1
  rw [hz] at hA1 z1 ⊢
  have hz : H.size = b + 2 := z1
  refine w_putAF (f := 0) (v := .ref (b + 1)) hx hb hw hown hE hin fl_X8_9 ff_X8_X8_0 ho (Nat.le_of_ble_eq_true rfl) rfl (by first | rfl | simp [fits]) hS (Nat.le_add_right _ _) dX8_init_9 (fun H locs ho z9 oq hS => ?_)
  have ho : va_at E.1 vwCl (b + 0, .inr (8, [.ref (b + 1), .null])) H := ho
  have hz : H.size = b + 2 := z9.trans hz
  have hA1 := Blk.offq hA1 oq D1
  refine lv_aload_n hx hb dX8_init_12 rfl (lv_at hl 0 rfl) ?_
  refine lv_bipush (v := 8) hx hb dX8_init_13 (by decide) ?_
  refine w_newa (ty := .int) (t := 0) (N := 8) (sh := fun _ => .inl (0, 8, 0, 0)) hx hb rfl rfl (fun _ _ => rfl) rfl (fun _ _ => rfl) (hw _ wa_aint) hE hS (by decide) (by decide) (Nat.le_of_ble_eq_true rfl) (Nat.le_of_ble_eq_true rfl) (Nat.le_of_ble_eq_true rfl) dX8_init_15 (fun H hA2 z1 o1 hS => ?_)
  have ho := at_ext ho o1
  have hA1 := Blk.ext hA1 o1
  rw [hz] at hA2 z1 ⊢
  have hz : H.size = b + 3 := z1
  refine w_putAF (f := 1) (v := .ref (b + 2)) hx hb hw hown hE hin fl_X8_15 ff_X8_X8_1 ho (Nat.le_of_ble_eq_true rfl) rfl (by first | rfl | simp [fits]) hS (Nat.le_add_right _ _) dX8_init_17 (fun H locs ho z9 oq hS => ?_)
  have ho : va_at E.1 vwCl (b + 0, .inr (8, [.ref (b + 1), .ref (b + 2)])) H := ho
  have hz : H.size = b + 3 := z9.trans hz
  have hA1 := Blk.offq hA1 oq D1
  have hA2 := Blk.offq hA2 oq D2
  have hfin : H.size = b + 3 ∧ Blk E b relSh 3 (fun _ _ => 0) H := by
    refine ⟨hz, fun k hk => ?_⟩
    rcases (ltc3 hk) with rfl | rfl | rfl
    · exact ho
    · exact hA1 0 (by decide)
    · exact hA2 0 (by decide)
  exact mu_v hx hb hrt hlocks hfin hS dX8_init_20
def cmN : Nat → Int32 := fun f => if f = 0 then 8 else 0
set_option maxHeartbeats 4000000 in
set_option maxRecDepth 100000 in
theorem mX1_init (l : Launch) (E : EP) (B0 : Nat) (b : Nat) (hb0 : B0 ≤ b) : MU l E B0 yX1_init cX1_init 1 none 1 1 6 [.ref (b + 0)] (fun H => H.size = b + 1 ∧ va_at E.1 vwCl (b + 0, .inr (4, [.null, .null, .int 0])) H) none (fun H => H.size = b + 2 ∧ (va_at E.1 vwCl (b + 0, .inr (4, [.ref (E.2.2 2 (8 : Int32).toNatClampNeg), .ref (b + 1), .int 0])) H ∧ Blk E (b + 1) (fun _ => .inl (0, 6, 0, 0)) 1 (fun _ _ => 0) H)) (fr b) := by
  refine mi_of (by decide +kernel) (Nat.le_of_ble_eq_true rfl) rfl ?_
  intro p e s m args below meth c hx hb hml hown hts hrt hlocks hin hE H hP9 hS ls hl
  obtain ⟨hz, ho⟩ := hP9
  have hown : s.vm.findClass RX1 = some m.cls := hown
  have hl : lv_has ls 1 [(0, .ref (b + 0))] := hl
  have hw : ∀ w ∈ WA, w.before args s = true := fun w h => hts w (List.mem_cons_of_mem _ h)
  have hAB : ∀ q, fr b q → B0 ≤ q := fun q h => Nat.le_trans hb0 h
  have D1 : b + 1 + 1 ≤ b + 0 ∨ b + 0 < b + 1 := by omega
  refine lv_aload_n hx hb dX1_init_0 rfl (lv_at hl 0 rfl) ?_
  refine w_objInit hx hb hw hown oi_X1_3 (hl.1.trans hml.symm) (by decide) (by decide) dX1_init_1 ?_
  refine lv_aload_n hx hb dX1_init_4 rfl (lv_at hl 0 rfl) ?_
  refine w_gs (i := 8) (z := 8) hx hb hw hown (EV.en2 hE) (by decide) hS hAB gs_X1_9 (by decide) dX1_init_5 ?_
  refine w_putA (f := 0) (v := .ref (E.2.2 2 (8 : Int32).toNatClampNeg)) hx hb hw hown hE fl_X1_15 ff_X1_X1_0 ho (Nat.le_of_ble_eq_true rfl) rfl (by first | rfl | simp [fits]) hS (Nat.le_add_right _ _) dX1_init_8 (fun H locs ho z9 oq hS => ?_)
  have ho : va_at E.1 vwCl (b + 0, .inr (4, [.ref (E.2.2 2 (8 : Int32).toNatClampNeg), .null, .int 0])) H := ho
  have hz : H.size = b + 1 := z9.trans hz
  refine lv_aload_n hx hb dX1_init_11 rfl (lv_at hl 0 rfl) ?_
  refine lv_bipush (v := 6) hx hb dX1_init_12 (by decide) ?_
  refine w_newa (ty := .int) (t := 0) (N := 6) (sh := fun _ => .inl (0, 6, 0, 0)) hx hb rfl rfl (fun _ _ => rfl) rfl (fun _ _ => rfl) (hw _ wa_aint) hE hS (by decide) (by decide) (Nat.le_of_ble_eq_true rfl) (Nat.le_of_ble_eq_true rfl) (Nat.le_of_ble_eq_true rfl) dX1_init_14 (fun H hA1 z1 o1 hS => ?_)
  have ho := at_ext ho o1
  rw [hz] at hA1 z1 ⊢
  have hz : H.size = b + 2 := z1
  refine w_putAF (f := 1) (v := .ref (b + 1)) hx hb hw hown hE hin fl_X1_20 ff_X1_X1_1 ho (Nat.le_of_ble_eq_true rfl) rfl (by first | rfl | simp [fits]) hS (Nat.le_add_right _ _) dX1_init_16 (fun H locs ho z9 oq hS => ?_)
  have ho : va_at E.1 vwCl (b + 0, .inr (4, [.ref (E.2.2 2 (8 : Int32).toNatClampNeg), .ref (b + 1), .int 0])) H := ho
  have hz : H.size = b + 2 := z9.trans hz
  have hA1 := Blk.offq hA1 oq D1
  refine lv_aload_n hx hb dX1_init_19 rfl (lv_at hl 0 rfl) ?_
  refine lv_iconst (v := 0) hx hb dX1_init_20 (by decide) ?_
  refine w_putA (f := 2) (v := .int 0) hx hb hw hown hE fl_X1_24 ff_X1_X1_2 ho (Nat.le_of_ble_eq_true rfl) rfl (by first | rfl | simp [fits]) hS (Nat.le_add_right _ _) dX1_init_21 (fun H locs ho z9 oq hS => ?_)
  have ho : va_at E.1 vwCl (b + 0, .inr (4, [.ref (E.2.2 2 (8 : Int32).toNatClampNeg), .ref (b + 1), .int 0])) H := ho
  have hz : H.size = b + 2 := z9.trans hz
  have hA1 := Blk.offq hA1 oq D1
  have hfin : H.size = b + 2 ∧ (va_at E.1 vwCl (b + 0, .inr (4, [.ref (E.2.2 2 (8 : Int32).toNatClampNeg), .ref (b + 1), .int 0])) H ∧ Blk E (b + 1) (fun _ => .inl (0, 6, 0, 0)) 1 (fun _ _ => 0) H) := ⟨hz, ho, hA1⟩
  exact mu_v hx hb hrt hlocks hfin hS dX1_init_24
/-- the reference at its start -/
def M0 : Mem := fun k f => if k = 0 then (if f = 6 ∨ f = 7 then -1 else 0) else if k = 1 ∧ f = 2 then 10 else 0
set_option maxHeartbeats 4000000 in
set_option maxRecDepth 100000 in
theorem mX12_init (l : Launch) (E : EP) (B0 : Nat) (b : Nat) (hb0 : B0 ≤ b) : MU l E B0 yX12_init cX12_init 1 none 1 9 2090 [.ref (b + 0)] (fun H => H.size = b + 1 ∧ va_at E.1 vwCl (b + 0, .inr (12, [.null, .null, .null, .null, .int 0, .int 0, .int 0, .int 0, .int 0, .null, .int 0, .null, .null, .null, .null, .int 0, .int 0, .int 0, .int 0, .int 0])) H) none (fun H => H.size = b + 10 ∧ Blk E b modSh 10 M0 H) (fr b) := by
  refine mi_of (by decide +kernel) (Nat.le_of_ble_eq_true rfl) rfl ?_
  intro p e s m args below meth c hx hb hml hown hts hrt hlocks hin hE H hP9 hS ls hl
  obtain ⟨hz, ho⟩ := hP9
  have hown : s.vm.findClass RX12 = some m.cls := hown
  have hl : lv_has ls 1 [(0, .ref (b + 0))] := hl
  have hw : ∀ w ∈ WA, w.before args s = true := fun w h => hts w (List.mem_cons_of_mem _ h)
  have hAB : ∀ q, fr b q → B0 ≤ q := fun q h => Nat.le_trans hb0 h
  have D1 : b + 1 + 1 ≤ b + 0 ∨ b + 0 < b + 1 := by omega
  have D2 : b + 2 + 1 ≤ b + 0 ∨ b + 0 < b + 2 := by omega
  have D3 : b + 3 + 1 ≤ b + 0 ∨ b + 0 < b + 3 := by omega
  have D4 : b + 4 + 1 ≤ b + 0 ∨ b + 0 < b + 4 := by omega
  have D5 : b + 5 + 1 ≤ b + 0 ∨ b + 0 < b + 5 := by omega
  have D6 : b + 6 + 1 ≤ b + 0 ∨ b + 0 < b + 6 := by omega
  have D7 : b + 7 + 1 ≤ b + 0 ∨ b + 0 < b + 7 := by omega
  have D8 : b + 8 + 1 ≤ b + 0 ∨ b + 0 < b + 8 := by omega
  have D9 : b + 9 + 1 ≤ b + 0 ∨ b + 0 < b + 9 := by omega
  refine lv_aload_n hx hb dX12_init_0 rfl (lv_at hl 0 rfl) ?_
  refine w_objInit hx hb hw hown oi_X12_1 (hl.1.trans hml.symm) (by decide) (by decide) dX12_init_1 ?_
  refine lv_aload_n hx hb dX12_init_4 rfl (lv_at hl 0 rfl) ?_
  refine lv_sipush (v := 160) hx hb dX12_init_5 (by decide) ?_
  refine w_newa (ty := .int) (t := 0) (N := 160) (sh := fun _ => .inl (0, 160, 0, 0)) hx hb rfl rfl (fun _ _ => rfl) rfl (fun _ _ => rfl) (hw _ wa_aint) hE hS (by decide) (by decide) (Nat.le_of_ble_eq_true rfl) (Nat.le_of_ble_eq_true rfl) (Nat.le_of_ble_eq_true rfl) dX12_init_8 (fun H hA1 z1 o1 hS => ?_)
  have ho := at_ext ho o1
  rw [hz] at hA1 z1 ⊢
  have hz : H.size = b + 2 := z1
  refine w_putAF (f := 0) (v := .ref (b + 1)) hx hb hw hown hE hin fl_X12_7 ff_X12_X12_0 ho (Nat.le_of_ble_eq_true rfl) rfl (by first | rfl | simp [fits]) hS (Nat.le_add_right _ _) dX12_init_10 (fun H locs ho z9 oq hS => ?_)
  have ho : va_at E.1 vwCl (b + 0, .inr (12, [.ref (b + 1), .null, .null, .null, .int 0, .int 0, .int 0, .int 0, .int 0, .null, .int 0, .null, .null, .null, .null, .int 0, .int 0, .int 0, .int 0, .int 0])) H := ho
  have hz : H.size = b + 2 := z9.trans hz
  have hA1 := Blk.offq hA1 oq D1
  refine lv_aload_n hx hb dX12_init_13 rfl (lv_at hl 0 rfl) ?_
  refine lv_sipush (v := 160) hx hb dX12_init_14 (by decide) ?_
  refine w_newa (ty := .int) (t := 0) (N := 160) (sh := fun _ => .inl (0, 160, 0, 0)) hx hb rfl rfl (fun _ _ => rfl) rfl (fun _ _ => rfl) (hw _ wa_aint) hE hS (by decide) (by decide) (Nat.le_of_ble_eq_true rfl) (Nat.le_of_ble_eq_true rfl) (Nat.le_of_ble_eq_true rfl) dX12_init_17 (fun H hA2 z1 o1 hS => ?_)
  have ho := at_ext ho o1
  have hA1 := Blk.ext hA1 o1
  rw [hz] at hA2 z1 ⊢
  have hz : H.size = b + 3 := z1
  refine w_putAF (f := 1) (v := .ref (b + 2)) hx hb hw hown hE hin fl_X12_13 ff_X12_X12_1 ho (Nat.le_of_ble_eq_true rfl) rfl (by first | rfl | simp [fits]) hS (Nat.le_add_right _ _) dX12_init_19 (fun H locs ho z9 oq hS => ?_)
  have ho : va_at E.1 vwCl (b + 0, .inr (12, [.ref (b + 1), .ref (b + 2), .null, .null, .int 0, .int 0, .int 0, .int 0, .int 0, .null, .int 0, .null, .null, .null, .null, .int 0, .int 0, .int 0, .int 0, .int 0])) H := ho
  have hz : H.size = b + 3 := z9.trans hz
  have hA1 := Blk.offq hA1 oq D1
  have hA2 := Blk.offq hA2 oq D2
  refine lv_aload_n hx hb dX12_init_22 rfl (lv_at hl 0 rfl) ?_
  refine lv_sipush (v := 160) hx hb dX12_init_23 (by decide) ?_
  refine w_newa (ty := .int) (t := 0) (N := 160) (sh := fun _ => .inl (0, 160, 0, 0)) hx hb rfl rfl (fun _ _ => rfl) rfl (fun _ _ => rfl) (hw _ wa_aint) hE hS (by decide) (by decide) (Nat.le_of_ble_eq_true rfl) (Nat.le_of_ble_eq_true rfl) (Nat.le_of_ble_eq_true rfl) dX12_init_26 (fun H hA3 z1 o1 hS => ?_)
  have ho := at_ext ho o1
  have hA1 := Blk.ext hA1 o1
  have hA2 := Blk.ext hA2 o1
  rw [hz] at hA3 z1 ⊢
  have hz : H.size = b + 4 := z1
  refine w_putAF (f := 2) (v := .ref (b + 3)) hx hb hw hown hE hin fl_X12_16 ff_X12_X12_2 ho (Nat.le_of_ble_eq_true rfl) rfl (by first | rfl | simp [fits]) hS (Nat.le_add_right _ _) dX12_init_28 (fun H locs ho z9 oq hS => ?_)
  have ho : va_at E.1 vwCl (b + 0, .inr (12, [.ref (b + 1), .ref (b + 2), .ref (b + 3), .null, .int 0, .int 0, .int 0, .int 0, .int 0, .null, .int 0, .null, .null, .null, .null, .int 0, .int 0, .int 0, .int 0, .int 0])) H := ho
  have hz : H.size = b + 4 := z9.trans hz
  have hA1 := Blk.offq hA1 oq D1
  have hA2 := Blk.offq hA2 oq D2
  have hA3 := Blk.offq hA3 oq D3
  refine lv_aload_n hx hb dX12_init_31 rfl (lv_at hl 0 rfl) ?_
  refine lv_sipush (v := 1280) hx hb dX12_init_32 (by decide) ?_
  refine w_newa (ty := .int) (t := 0) (N := 1280) (sh := fun _ => .inl (0, 1280, 0, 0)) hx hb rfl rfl (fun _ _ => rfl) rfl (fun _ _ => rfl) (hw _ wa_aint) hE hS (by decide) (by decide) (Nat.le_of_ble_eq_true rfl) (Nat.le_of_ble_eq_true rfl) (Nat.le_of_ble_eq_true rfl) dX12_init_35 (fun H hA4 z1 o1 hS => ?_)
  have ho := at_ext ho o1
  have hA1 := Blk.ext hA1 o1
  have hA2 := Blk.ext hA2 o1
  have hA3 := Blk.ext hA3 o1
  rw [hz] at hA4 z1 ⊢
  have hz : H.size = b + 5 := z1
  refine w_putAF (f := 3) (v := .ref (b + 4)) hx hb hw hown hE hin fl_X12_19 ff_X12_X12_3 ho (Nat.le_of_ble_eq_true rfl) rfl (by first | rfl | simp [fits]) hS (Nat.le_add_right _ _) dX12_init_37 (fun H locs ho z9 oq hS => ?_)
  have ho : va_at E.1 vwCl (b + 0, .inr (12, [.ref (b + 1), .ref (b + 2), .ref (b + 3), .ref (b + 4), .int 0, .int 0, .int 0, .int 0, .int 0, .null, .int 0, .null, .null, .null, .null, .int 0, .int 0, .int 0, .int 0, .int 0])) H := ho
  have hz : H.size = b + 5 := z9.trans hz
  have hA1 := Blk.offq hA1 oq D1
  have hA2 := Blk.offq hA2 oq D2
  have hA3 := Blk.offq hA3 oq D3
  have hA4 := Blk.offq hA4 oq D4
  refine lv_aload_n hx hb dX12_init_40 rfl (lv_at hl 0 rfl) ?_
  refine lv_iconst (v := 0) hx hb dX12_init_41 (by decide) ?_
  refine w_putA (f := 4) (v := .int 0) hx hb hw hown hE fl_X12_22 ff_X12_X12_4 ho (Nat.le_of_ble_eq_true rfl) rfl (by first | rfl | simp [fits]) hS (Nat.le_add_right _ _) dX12_init_42 (fun H locs ho z9 oq hS => ?_)
  have ho : va_at E.1 vwCl (b + 0, .inr (12, [.ref (b + 1), .ref (b + 2), .ref (b + 3), .ref (b + 4), .int 0, .int 0, .int 0, .int 0, .int 0, .null, .int 0, .null, .null, .null, .null, .int 0, .int 0, .int 0, .int 0, .int 0])) H := ho
  have hz : H.size = b + 5 := z9.trans hz
  have hA1 := Blk.offq hA1 oq D1
  have hA2 := Blk.offq hA2 oq D2
  have hA3 := Blk.offq hA3 oq D3
  have hA4 := Blk.offq hA4 oq D4
  refine lv_aload_n hx hb dX12_init_45 rfl (lv_at hl 0 rfl) ?_
  refine lv_iconst (v := 0) hx hb dX12_init_46 (by decide) ?_
  refine w_putA (f := 5) (v := .int 0) hx hb hw hown hE fl_X12_26 ff_X12_X12_5 ho (Nat.le_of_ble_eq_true rfl) rfl (by first | rfl | simp [fits]) hS (Nat.le_add_right _ _) dX12_init_47 (fun H locs ho z9 oq hS => ?_)
  have ho : va_at E.1 vwCl (b + 0, .inr (12, [.ref (b + 1), .ref (b + 2), .ref (b + 3), .ref (b + 4), .int 0, .int 0, .int 0, .int 0, .int 0, .null, .int 0, .null, .null, .null, .null, .int 0, .int 0, .int 0, .int 0, .int 0])) H := ho
  have hz : H.size = b + 5 := z9.trans hz
  have hA1 := Blk.offq hA1 oq D1
  have hA2 := Blk.offq hA2 oq D2
  have hA3 := Blk.offq hA3 oq D3
  have hA4 := Blk.offq hA4 oq D4
  refine lv_aload_n hx hb dX12_init_50 rfl (lv_at hl 0 rfl) ?_
  refine lv_iconst (v := -1) hx hb dX12_init_51 (by decide) ?_
  refine w_putA (f := 6) (v := .int (-1)) hx hb hw hown hE fl_X12_29 ff_X12_X12_6 ho (Nat.le_of_ble_eq_true rfl) rfl (by first | rfl | simp [fits]) hS (Nat.le_add_right _ _) dX12_init_52 (fun H locs ho z9 oq hS => ?_)
  have ho : va_at E.1 vwCl (b + 0, .inr (12, [.ref (b + 1), .ref (b + 2), .ref (b + 3), .ref (b + 4), .int 0, .int 0, .int (-1), .int 0, .int 0, .null, .int 0, .null, .null, .null, .null, .int 0, .int 0, .int 0, .int 0, .int 0])) H := ho
  have hz : H.size = b + 5 := z9.trans hz
  have hA1 := Blk.offq hA1 oq D1
  have hA2 := Blk.offq hA2 oq D2
  have hA3 := Blk.offq hA3 oq D3
  have hA4 := Blk.offq hA4 oq D4
  refine lv_aload_n hx hb dX12_init_55 rfl (lv_at hl 0 rfl) ?_
  refine lv_iconst (v := -1) hx hb dX12_init_56 (by decide) ?_
  refine w_putA (f := 7) (v := .int (-1)) hx hb hw hown hE fl_X12_32 ff_X12_X12_7 ho (Nat.le_of_ble_eq_true rfl) rfl (by first | rfl | simp [fits]) hS (Nat.le_add_right _ _) dX12_init_57 (fun H locs ho z9 oq hS => ?_)
  have ho : va_at E.1 vwCl (b + 0, .inr (12, [.ref (b + 1), .ref (b + 2), .ref (b + 3), .ref (b + 4), .int 0, .int 0, .int (-1), .int (-1), .int 0, .null, .int 0, .null, .null, .null, .null, .int 0, .int 0, .int 0, .int 0, .int 0])) H := ho
  have hz : H.size = b + 5 := z9.trans hz
  have hA1 := Blk.offq hA1 oq D1
  have hA2 := Blk.offq hA2 oq D2
  have hA3 := Blk.offq hA3 oq D3
  have hA4 := Blk.offq hA4 oq D4
  refine lv_aload_n hx hb dX12_init_60 rfl (lv_at hl 0 rfl) ?_
  refine lv_iconst (v := 0) hx hb dX12_init_61 (by decide) ?_
  refine w_putA (f := 8) (v := .int 0) hx hb hw hown hE fl_X12_35 ff_X12_X12_8 ho (Nat.le_of_ble_eq_true rfl) rfl (by first | rfl | simp [fits]) hS (Nat.le_add_right _ _) dX12_init_62 (fun H locs ho z9 oq hS => ?_)
  have ho : va_at E.1 vwCl (b + 0, .inr (12, [.ref (b + 1), .ref (b + 2), .ref (b + 3), .ref (b + 4), .int 0, .int 0, .int (-1), .int (-1), .int 0, .null, .int 0, .null, .null, .null, .null, .int 0, .int 0, .int 0, .int 0, .int 0])) H := ho
  have hz : H.size = b + 5 := z9.trans hz
  have hA1 := Blk.offq hA1 oq D1
  have hA2 := Blk.offq hA2 oq D2
  have hA3 := Blk.offq hA3 oq D3
  have hA4 := Blk.offq hA4 oq D4
  refine lv_aload_n hx hb dX12_init_65 rfl (lv_at hl 0 rfl) ?_
  refine lv_bipush (v := 40) hx hb dX12_init_66 (by decide) ?_
  refine w_newa (ty := .int) (t := 0) (N := 40) (sh := fun _ => .inl (0, 40, 0, 0)) hx hb rfl rfl (fun _ _ => rfl) rfl (fun _ _ => rfl) (hw _ wa_aint) hE hS (by decide) (by decide) (Nat.le_of_ble_eq_true rfl) (Nat.le_of_ble_eq_true rfl) (Nat.le_of_ble_eq_true rfl) dX12_init_68 (fun H hA5 z1 o1 hS => ?_)
  have ho := at_ext ho o1
  have hA1 := Blk.ext hA1 o1
  have hA2 := Blk.ext hA2 o1
  have hA3 := Blk.ext hA3 o1
  have hA4 := Blk.ext hA4 o1
  rw [hz] at hA5 z1 ⊢
  have hz : H.size = b + 6 := z1
  refine w_putAF (f := 9) (v := .ref (b + 5)) hx hb hw hown hE hin fl_X12_39 ff_X12_X12_9 ho (Nat.le_of_ble_eq_true rfl) rfl (by first | rfl | simp [fits]) hS (Nat.le_add_right _ _) dX12_init_70 (fun H locs ho z9 oq hS => ?_)
  have ho : va_at E.1 vwCl (b + 0, .inr (12, [.ref (b + 1), .ref (b + 2), .ref (b + 3), .ref (b + 4), .int 0, .int 0, .int (-1), .int (-1), .int 0, .ref (b + 5), .int 0, .null, .null, .null, .null, .int 0, .int 0, .int 0, .int 0, .int 0])) H := ho
  have hz : H.size = b + 6 := z9.trans hz
  have hA1 := Blk.offq hA1 oq D1
  have hA2 := Blk.offq hA2 oq D2
  have hA3 := Blk.offq hA3 oq D3
  have hA4 := Blk.offq hA4 oq D4
  have hA5 := Blk.offq hA5 oq D5
  refine lv_aload_n hx hb dX12_init_73 rfl (lv_at hl 0 rfl) ?_
  refine lv_iconst (v := 0) hx hb dX12_init_74 (by decide) ?_
  refine w_putA (f := 10) (v := .int 0) hx hb hw hown hE fl_X12_42 ff_X12_X12_10 ho (Nat.le_of_ble_eq_true rfl) rfl (by first | rfl | simp [fits]) hS (Nat.le_add_right _ _) dX12_init_75 (fun H locs ho z9 oq hS => ?_)
  have ho : va_at E.1 vwCl (b + 0, .inr (12, [.ref (b + 1), .ref (b + 2), .ref (b + 3), .ref (b + 4), .int 0, .int 0, .int (-1), .int (-1), .int 0, .ref (b + 5), .int 0, .null, .null, .null, .null, .int 0, .int 0, .int 0, .int 0, .int 0])) H := ho
  have hz : H.size = b + 6 := z9.trans hz
  have hA1 := Blk.offq hA1 oq D1
  have hA2 := Blk.offq hA2 oq D2
  have hA3 := Blk.offq hA3 oq D3
  have hA4 := Blk.offq hA4 oq D4
  have hA5 := Blk.offq hA5 oq D5
  refine lv_aload_n hx hb dX12_init_78 rfl (lv_at hl 0 rfl) ?_
  refine lv_bipush (v := 60) hx hb dX12_init_79 (by decide) ?_
  refine w_newa (ty := .int) (t := 0) (N := 60) (sh := fun _ => .inl (0, 60, 0, 0)) hx hb rfl rfl (fun _ _ => rfl) rfl (fun _ _ => rfl) (hw _ wa_aint) hE hS (by decide) (by decide) (Nat.le_of_ble_eq_true rfl) (Nat.le_of_ble_eq_true rfl) (Nat.le_of_ble_eq_true rfl) dX12_init_81 (fun H hA6 z1 o1 hS => ?_)
  have ho := at_ext ho o1
  have hA1 := Blk.ext hA1 o1
  have hA2 := Blk.ext hA2 o1
  have hA3 := Blk.ext hA3 o1
  have hA4 := Blk.ext hA4 o1
  have hA5 := Blk.ext hA5 o1
  rw [hz] at hA6 z1 ⊢
  have hz : H.size = b + 7 := z1
  refine w_putAF (f := 11) (v := .ref (b + 6)) hx hb hw hown hE hin fl_X12_45 ff_X12_X12_11 ho (Nat.le_of_ble_eq_true rfl) rfl (by first | rfl | simp [fits]) hS (Nat.le_add_right _ _) dX12_init_83 (fun H locs ho z9 oq hS => ?_)
  have ho : va_at E.1 vwCl (b + 0, .inr (12, [.ref (b + 1), .ref (b + 2), .ref (b + 3), .ref (b + 4), .int 0, .int 0, .int (-1), .int (-1), .int 0, .ref (b + 5), .int 0, .ref (b + 6), .null, .null, .null, .int 0, .int 0, .int 0, .int 0, .int 0])) H := ho
  have hz : H.size = b + 7 := z9.trans hz
  have hA1 := Blk.offq hA1 oq D1
  have hA2 := Blk.offq hA2 oq D2
  have hA3 := Blk.offq hA3 oq D3
  have hA4 := Blk.offq hA4 oq D4
  have hA5 := Blk.offq hA5 oq D5
  have hA6 := Blk.offq hA6 oq D6
  refine lv_aload_n hx hb dX12_init_86 rfl (lv_at hl 0 rfl) ?_
  refine lv_bipush (v := 32) hx hb dX12_init_87 (by decide) ?_
  refine w_newa (ty := .int) (t := 0) (N := 32) (sh := fun _ => .inl (0, 32, 0, 0)) hx hb rfl rfl (fun _ _ => rfl) rfl (fun _ _ => rfl) (hw _ wa_aint) hE hS (by decide) (by decide) (Nat.le_of_ble_eq_true rfl) (Nat.le_of_ble_eq_true rfl) (Nat.le_of_ble_eq_true rfl) dX12_init_89 (fun H hA7 z1 o1 hS => ?_)
  have ho := at_ext ho o1
  have hA1 := Blk.ext hA1 o1
  have hA2 := Blk.ext hA2 o1
  have hA3 := Blk.ext hA3 o1
  have hA4 := Blk.ext hA4 o1
  have hA5 := Blk.ext hA5 o1
  have hA6 := Blk.ext hA6 o1
  rw [hz] at hA7 z1 ⊢
  have hz : H.size = b + 8 := z1
  refine w_putAF (f := 12) (v := .ref (b + 7)) hx hb hw hown hE hin fl_X12_48 ff_X12_X12_12 ho (Nat.le_of_ble_eq_true rfl) rfl (by first | rfl | simp [fits]) hS (Nat.le_add_right _ _) dX12_init_91 (fun H locs ho z9 oq hS => ?_)
  have ho : va_at E.1 vwCl (b + 0, .inr (12, [.ref (b + 1), .ref (b + 2), .ref (b + 3), .ref (b + 4), .int 0, .int 0, .int (-1), .int (-1), .int 0, .ref (b + 5), .int 0, .ref (b + 6), .ref (b + 7), .null, .null, .int 0, .int 0, .int 0, .int 0, .int 0])) H := ho
  have hz : H.size = b + 8 := z9.trans hz
  have hA1 := Blk.offq hA1 oq D1
  have hA2 := Blk.offq hA2 oq D2
  have hA3 := Blk.offq hA3 oq D3
  have hA4 := Blk.offq hA4 oq D4
  have hA5 := Blk.offq hA5 oq D5
  have hA6 := Blk.offq hA6 oq D6
  have hA7 := Blk.offq hA7 oq D7
  refine lv_aload_n hx hb dX12_init_94 rfl (lv_at hl 0 rfl) ?_
  refine lv_sipush (v := 192) hx hb dX12_init_95 (by decide) ?_
  refine w_newa (ty := .int) (t := 0) (N := 192) (sh := fun _ => .inl (0, 192, 0, 0)) hx hb rfl rfl (fun _ _ => rfl) rfl (fun _ _ => rfl) (hw _ wa_aint) hE hS (by decide) (by decide) (Nat.le_of_ble_eq_true rfl) (Nat.le_of_ble_eq_true rfl) (Nat.le_of_ble_eq_true rfl) dX12_init_98 (fun H hA8 z1 o1 hS => ?_)
  have ho := at_ext ho o1
  have hA1 := Blk.ext hA1 o1
  have hA2 := Blk.ext hA2 o1
  have hA3 := Blk.ext hA3 o1
  have hA4 := Blk.ext hA4 o1
  have hA5 := Blk.ext hA5 o1
  have hA6 := Blk.ext hA6 o1
  have hA7 := Blk.ext hA7 o1
  rw [hz] at hA8 z1 ⊢
  have hz : H.size = b + 9 := z1
  refine w_putAF (f := 13) (v := .ref (b + 8)) hx hb hw hown hE hin fl_X12_51 ff_X12_X12_13 ho (Nat.le_of_ble_eq_true rfl) rfl (by first | rfl | simp [fits]) hS (Nat.le_add_right _ _) dX12_init_100 (fun H locs ho z9 oq hS => ?_)
  have ho : va_at E.1 vwCl (b + 0, .inr (12, [.ref (b + 1), .ref (b + 2), .ref (b + 3), .ref (b + 4), .int 0, .int 0, .int (-1), .int (-1), .int 0, .ref (b + 5), .int 0, .ref (b + 6), .ref (b + 7), .ref (b + 8), .null, .int 0, .int 0, .int 0, .int 0, .int 0])) H := ho
  have hz : H.size = b + 9 := z9.trans hz
  have hA1 := Blk.offq hA1 oq D1
  have hA2 := Blk.offq hA2 oq D2
  have hA3 := Blk.offq hA3 oq D3
  have hA4 := Blk.offq hA4 oq D4
  have hA5 := Blk.offq hA5 oq D5
  have hA6 := Blk.offq hA6 oq D6
  have hA7 := Blk.offq hA7 oq D7
  have hA8 := Blk.offq hA8 oq D8
  refine lv_aload_n hx hb dX12_init_103 rfl (lv_at hl 0 rfl) ?_
  refine lv_bipush (v := 6) hx hb dX12_init_104 (by decide) ?_
  refine w_newa (ty := .int) (t := 0) (N := 6) (sh := fun _ => .inl (0, 6, 0, 0)) hx hb rfl rfl (fun _ _ => rfl) rfl (fun _ _ => rfl) (hw _ wa_aint) hE hS (by decide) (by decide) (Nat.le_of_ble_eq_true rfl) (Nat.le_of_ble_eq_true rfl) (Nat.le_of_ble_eq_true rfl) dX12_init_106 (fun H hA9 z1 o1 hS => ?_)
  have ho := at_ext ho o1
  have hA1 := Blk.ext hA1 o1
  have hA2 := Blk.ext hA2 o1
  have hA3 := Blk.ext hA3 o1
  have hA4 := Blk.ext hA4 o1
  have hA5 := Blk.ext hA5 o1
  have hA6 := Blk.ext hA6 o1
  have hA7 := Blk.ext hA7 o1
  have hA8 := Blk.ext hA8 o1
  rw [hz] at hA9 z1 ⊢
  have hz : H.size = b + 10 := z1
  refine w_putAF (f := 14) (v := .ref (b + 9)) hx hb hw hown hE hin fl_X12_54 ff_X12_X12_14 ho (Nat.le_of_ble_eq_true rfl) rfl (by first | rfl | simp [fits]) hS (Nat.le_add_right _ _) dX12_init_108 (fun H locs ho z9 oq hS => ?_)
  have ho : va_at E.1 vwCl (b + 0, .inr (12, [.ref (b + 1), .ref (b + 2), .ref (b + 3), .ref (b + 4), .int 0, .int 0, .int (-1), .int (-1), .int 0, .ref (b + 5), .int 0, .ref (b + 6), .ref (b + 7), .ref (b + 8), .ref (b + 9), .int 0, .int 0, .int 0, .int 0, .int 0])) H := ho
  have hz : H.size = b + 10 := z9.trans hz
  have hA1 := Blk.offq hA1 oq D1
  have hA2 := Blk.offq hA2 oq D2
  have hA3 := Blk.offq hA3 oq D3
  have hA4 := Blk.offq hA4 oq D4
  have hA5 := Blk.offq hA5 oq D5
  have hA6 := Blk.offq hA6 oq D6
  have hA7 := Blk.offq hA7 oq D7
  have hA8 := Blk.offq hA8 oq D8
  have hA9 := Blk.offq hA9 oq D9
  refine lv_aload_n hx hb dX12_init_111 rfl (lv_at hl 0 rfl) ?_
  refine lv_iconst (v := 0) hx hb dX12_init_112 (by decide) ?_
  refine w_putA (f := 15) (v := .int 0) hx hb hw hown hE fl_X12_57 ff_X12_X12_15 ho (Nat.le_of_ble_eq_true rfl) rfl (by first | rfl | simp [fits]) hS (Nat.le_add_right _ _) dX12_init_113 (fun H locs ho z9 oq hS => ?_)
  have ho : va_at E.1 vwCl (b + 0, .inr (12, [.ref (b + 1), .ref (b + 2), .ref (b + 3), .ref (b + 4), .int 0, .int 0, .int (-1), .int (-1), .int 0, .ref (b + 5), .int 0, .ref (b + 6), .ref (b + 7), .ref (b + 8), .ref (b + 9), .int 0, .int 0, .int 0, .int 0, .int 0])) H := ho
  have hz : H.size = b + 10 := z9.trans hz
  have hA1 := Blk.offq hA1 oq D1
  have hA2 := Blk.offq hA2 oq D2
  have hA3 := Blk.offq hA3 oq D3
  have hA4 := Blk.offq hA4 oq D4
  have hA5 := Blk.offq hA5 oq D5
  have hA6 := Blk.offq hA6 oq D6
  have hA7 := Blk.offq hA7 oq D7
  have hA8 := Blk.offq hA8 oq D8
  have hA9 := Blk.offq hA9 oq D9
  refine lv_aload_n hx hb dX12_init_116 rfl (lv_at hl 0 rfl) ?_
  refine lv_iconst (v := 0) hx hb dX12_init_117 (by decide) ?_
  refine w_putA (f := 16) (v := .int 0) hx hb hw hown hE fl_X12_60 ff_X12_X12_16 ho (Nat.le_of_ble_eq_true rfl) rfl (by first | rfl | simp [fits]) hS (Nat.le_add_right _ _) dX12_init_118 (fun H locs ho z9 oq hS => ?_)
  have ho : va_at E.1 vwCl (b + 0, .inr (12, [.ref (b + 1), .ref (b + 2), .ref (b + 3), .ref (b + 4), .int 0, .int 0, .int (-1), .int (-1), .int 0, .ref (b + 5), .int 0, .ref (b + 6), .ref (b + 7), .ref (b + 8), .ref (b + 9), .int 0, .int 0, .int 0, .int 0, .int 0])) H := ho
  have hz : H.size = b + 10 := z9.trans hz
  have hA1 := Blk.offq hA1 oq D1
  have hA2 := Blk.offq hA2 oq D2
  have hA3 := Blk.offq hA3 oq D3
  have hA4 := Blk.offq hA4 oq D4
  have hA5 := Blk.offq hA5 oq D5
  have hA6 := Blk.offq hA6 oq D6
  have hA7 := Blk.offq hA7 oq D7
  have hA8 := Blk.offq hA8 oq D8
  have hA9 := Blk.offq hA9 oq D9
  refine lv_aload_n hx hb dX12_init_121 rfl (lv_at hl 0 rfl) ?_
  refine lv_iconst (v := 0) hx hb dX12_init_122 (by decide) ?_
  refine w_putA (f := 17) (v := .int 0) hx hb hw hown hE fl_X12_63 ff_X12_X12_17 ho (Nat.le_of_ble_eq_true rfl) rfl (by first | rfl | simp [fits]) hS (Nat.le_add_right _ _) dX12_init_123 (fun H locs ho z9 oq hS => ?_)
  have ho : va_at E.1 vwCl (b + 0, .inr (12, [.ref (b + 1), .ref (b + 2), .ref (b + 3), .ref (b + 4), .int 0, .int 0, .int (-1), .int (-1), .int 0, .ref (b + 5), .int 0, .ref (b + 6), .ref (b + 7), .ref (b + 8), .ref (b + 9), .int 0, .int 0, .int 0, .int 0, .int 0])) H := ho
  have hz : H.size = b + 10 := z9.trans hz
  have hA1 := Blk.offq hA1 oq D1
  have hA2 := Blk.offq hA2 oq D2
  have hA3 := Blk.offq hA3 oq D3
  have hA4 := Blk.offq hA4 oq D4
  have hA5 := Blk.offq hA5 oq D5
  have hA6 := Blk.offq hA6 oq D6
  have hA7 := Blk.offq hA7 oq D7
  have hA8 := Blk.offq hA8 oq D8
  have hA9 := Blk.offq hA9 oq D9
  refine lv_aload_n hx hb dX12_init_126 rfl (lv_at hl 0 rfl) ?_
  refine lv_iconst (v := 0) hx hb dX12_init_127 (by decide) ?_
  refine w_putA (f := 18) (v := .int 0) hx hb hw hown hE fl_X12_66 ff_X12_X12_18 ho (Nat.le_of_ble_eq_true rfl) rfl (by first | rfl | simp [fits]) hS (Nat.le_add_right _ _) dX12_init_128 (fun H locs ho z9 oq hS => ?_)
  have ho : va_at E.1 vwCl (b + 0, .inr (12, [.ref (b + 1), .ref (b + 2), .ref (b + 3), .ref (b + 4), .int 0, .int 0, .int (-1), .int (-1), .int 0, .ref (b + 5), .int 0, .ref (b + 6), .ref (b + 7), .ref (b + 8), .ref (b + 9), .int 0, .int 0, .int 0, .int 0, .int 0])) H := ho
  have hz : H.size = b + 10 := z9.trans hz
  have hA1 := Blk.offq hA1 oq D1
  have hA2 := Blk.offq hA2 oq D2
  have hA3 := Blk.offq hA3 oq D3
  have hA4 := Blk.offq hA4 oq D4
  have hA5 := Blk.offq hA5 oq D5
  have hA6 := Blk.offq hA6 oq D6
  have hA7 := Blk.offq hA7 oq D7
  have hA8 := Blk.offq hA8 oq D8
  have hA9 := Blk.offq hA9 oq D9
  refine lv_aload_n hx hb dX12_init_131 rfl (lv_at hl 0 rfl) ?_
  refine lv_iconst (v := 0) hx hb dX12_init_132 (by decide) ?_
  refine w_putA (f := 19) (v := .int 0) hx hb hw hown hE fl_X12_69 ff_X12_X12_19 ho (Nat.le_of_ble_eq_true rfl) rfl (by first | rfl | simp [fits]) hS (Nat.le_add_right _ _) dX12_init_133 (fun H locs ho z9 oq hS => ?_)
  have ho : va_at E.1 vwCl (b + 0, .inr (12, [.ref (b + 1), .ref (b + 2), .ref (b + 3), .ref (b + 4), .int 0, .int 0, .int (-1), .int (-1), .int 0, .ref (b + 5), .int 0, .ref (b + 6), .ref (b + 7), .ref (b + 8), .ref (b + 9), .int 0, .int 0, .int 0, .int 0, .int 0])) H := ho
  have hz : H.size = b + 10 := z9.trans hz
  have hA1 := Blk.offq hA1 oq D1
  have hA2 := Blk.offq hA2 oq D2
  have hA3 := Blk.offq hA3 oq D3
  have hA4 := Blk.offq hA4 oq D4
  have hA5 := Blk.offq hA5 oq D5
  have hA6 := Blk.offq hA6 oq D6
  have hA7 := Blk.offq hA7 oq D7
  have hA8 := Blk.offq hA8 oq D8
  have hA9 := Blk.offq hA9 oq D9
  refine lv_aload_n hx hb dX12_init_136 rfl (lv_at hl 0 rfl) ?_
  refine w_getA (f := 0) (v := .ref (b + 1)) hx hb hw hown hE fl_X12_7 ho rfl dX12_init_137 ?_
  refine lv_iconst (v := 2) hx hb dX12_init_140 (by decide) ?_
  refine lv_bipush (v := 10) hx hb dX12_init_141 (by decide) ?_
  refine w_iast (k := 0) (x9 := 2) (x := 10) hx hb hE hA1 (by decide) rfl (by decide) (by decide) hS (show b ≤ b + 1 + 0 by omega) dX12_init_143 (fun H locs hA1 z9 oq hS => ?_)
  have ho := at_offp ho oq (by show ¬ b + 0 = b + 1 + 0; omega)
  have hz : H.size = b + 10 := z9.trans hz
  have hA2 := Blk.offq hA2 oq (by omega)
  have hA3 := Blk.offq hA3 oq (by omega)
  have hA4 := Blk.offq hA4 oq (by omega)
  have hA5 := Blk.offq hA5 oq (by omega)
  have hA6 := Blk.offq hA6 oq (by omega)
  have hA7 := Blk.offq hA7 oq (by omega)
  have hA8 := Blk.offq hA8 oq (by omega)
  have hA9 := Blk.offq hA9 oq (by omega)
  have hA1 : Blk E (b + 1) (fun _ => .inl (0, 160, 0, 0)) 1 (fun _ => M0 1) H := hA1.one (by funext f; show (if f = 2 then (10 : Int32) else 0) = M0 1 f; unfold M0; by_cases h : f = 2 <;> simp [h])
  have hfin : H.size = b + 10 ∧ Blk E b modSh 10 M0 H := by
    refine ⟨hz, fun k hk => ?_⟩
    rcases (ltc10 hk) with rfl | rfl | rfl | rfl | rfl | rfl | rfl | rfl | rfl | rfl
    · exact (by show va_at E.1 vwCl (b + 0, .inr (12, slv E b (M0 0) 0 [(1, 1), (1, 2), (1, 3), (1, 4), (0, 0), (0, 0), (0, 0), (0, 0), (0, 0), (1, 5), (0, 0), (1, 6), (1, 7), (1, 8), (1, 9), (0, 0), (0, 0), (0, 0), (0, 0), (0, 0)])) H; exact ho)
    · exact (hA1 0 (by decide))
    · exact (hA2 0 (by decide))
    · exact (hA3 0 (by decide))
    · exact (hA4 0 (by decide))
    · exact (hA5 0 (by decide))
    · exact (hA6 0 (by decide))
    · exact (hA7 0 (by decide))
    · exact (hA8 0 (by decide))
    · exact (hA9 0 (by decide))
  exact mu_v hx hb hrt hlocks hfin hS dX12_init_144
theorem Blk.snoc {E : EP} {b k : Nat} {sh : Nat → Sh} {N : Mem} {H : Heap} (h : Blk E b sh k N H) (h1 : va_at E.1 vwCl (b + k, celE E b (sh k) (N k)) H) : Blk E b sh (k + 1) N H := by
  intro j hj
  by_cases e : j = k
  · subst e; exact h1
  · exact h j (by omega)
theorem fun_up (b o sd k : Nat) (hk : k < 2 ^ 31) : va_up (fun i => if i < k then some (b + (o + sd * i)) else none) (nI k).toNatClampNeg (some (b + (o + sd * k) + 0)) = fun i => if i < k + 1 then some (b + (o + sd * i)) else none := by
  rw [nI_clamp hk]
  funext i
  unfold va_up
  by_cases e : i = k
  · subst e
    rw [if_pos rfl]
    show some (b + (o + sd * i)) = if i < i + 1 then some (b + (o + sd * i)) else none
    rw [if_pos (by omega)]
  · rw [if_neg e]
    show (if i < k then some (b + (o + sd * i)) else none) = _
    by_cases h : i < k
    · rw [if_pos h, if_pos (by omega)]
    · rw [if_neg h, if_neg (by omega)]
theorem fun_none (b o sd : Nat) : (fun i => if i < 0 then some (b + (o + sd * i)) else none) = fun _ => none := by
  funext i
  rw [if_neg (Nat.not_lt_zero i)]
theorem arrV_congr (cI : ClassId) (N : Nat) (f g : Nat → Value) (h : ∀ i, i < N → f i = g i) : arrV cI N f = arrV cI N g := by
  unfold arrV
  have e : (fun j : Fin N => f j.val) = fun j => g j.val := funext fun j => h j.val j.isLt
  rw [e]
theorem arr_full {D : va_G} {cA : ClassId} {a b o sd n : Nat} {H : Heap} (h : va_at D vwCl (a, .inl (cA, n, .inr (.inr (.inr (.inr (fun i => if i < n then some (b + (o + sd * i)) else none)))))) H) : va_at D vwCl (a, .inl (cA, n, .inr (.inr (.inr (.inr (fun i => some (b + (o + sd * i)))))))) H := by
  show H[a]? = some (vp_cell _ _)
  have h1 : H[a]? = some (vp_cell _ _) := h
  rw [h1, vp_cell_q, vp_cell_q]
  congr 1
  exact arrV_congr _ _ _ _ (fun i hi => by rw [if_pos hi])
/-- a net at its start -/
def N0 : Mem := fun k f => if k = 0 ∧ f = 6 then 10 else 0
def FamN (E : EP) (b k : Nat) (H : Heap) : Prop := ∀ i, i < k → Blk E (b + 15 * i) netSh 15 N0 H
theorem FamN.kept {E : EP} {b k : Nat} {H H1 : Heap} (h : FamN E b k H) (hq : ∀ q : Nat, b ≤ q → q < b + 15 * k → H1[q]? = H[q]?) : FamN E b k H1 := fun i hi => (h i hi).kept (fun q h1 h2 => hq q (by omega) (by omega))
theorem FamN.snoc {E : EP} {b k : Nat} {H : Heap} (h : FamN E b k H) (h1 : Blk E (b + 15 * k) netSh 15 N0 H) : FamN E b (k + 1) H := by
  intro j hj
  by_cases e : j = k
  · subst e; exact h1
  · exact h j (by omega)
def CmdK (E : EP) (b k : Nat) (H : Heap) : Prop := ∀ i, i < k → va_at E.1 vwCl (b + 2 * i + 0, .inr (4, [.ref (E.2.2 2 (8 : Int32).toNatClampNeg), .ref (b + 2 * i + 1), .int 0])) H ∧ Blk E (b + 2 * i + 1) (fun _ => .inl (0, 6, 0, 0)) 1 (fun _ _ => 0) H
theorem CmdK.kept {E : EP} {b k : Nat} {H H1 : Heap} (h : CmdK E b k H) (hq : ∀ q : Nat, b ≤ q → q < b + 2 * k → H1[q]? = H[q]?) : CmdK E b k H1 := fun i hi => ⟨(h i hi).1.kept (hq _ (by show b ≤ b + 2 * i + 0; omega) (by show b + 2 * i + 0 < b + 2 * k; omega)), (h i hi).2.kept (fun q h1 h2 => hq q (by omega) (by omega))⟩
theorem CmdK.snoc {E : EP} {b k : Nat} {H : Heap} (h : CmdK E b k H) (h1 : va_at E.1 vwCl (b + 2 * k + 0, .inr (4, [.ref (E.2.2 2 (8 : Int32).toNatClampNeg), .ref (b + 2 * k + 1), .int 0])) H ∧ Blk E (b + 2 * k + 1) (fun _ => .inl (0, 6, 0, 0)) 1 (fun _ _ => 0) H) : CmdK E b (k + 1) H := by
  intro j hj
  by_cases e : j = k
  · subst e; exact h1
  · exact h j (by omega)
/-- a program at its start -/
def P0 : Mem := fun k f => if 3 ≤ k ∧ k % 2 = 1 ∧ f = 0 then 8 else 0
theorem prog_mk {E : EP} {b : Nat} {H : Heap} (ho : va_at E.1 vwCl (b + 0, .inr (7, [.ref (b + 1), .int 0, .ref (b + 2), .int 0, .int 0])) H) (hb : va_at E.1 vwCl (b + 1 + 0, celE E (b + 1) (.inl (1, 60, 0, 0)) (fun _ => 0)) H) (hq : va_at E.1 vwCl (b + 2 + 0, .inl (E.2.1 4, 13, .inr (.inr (.inr (.inr (fun i => some (b + (3 + 2 * i)))))))) H) (hc : CmdK E (b + 3) 13 H) : Blk E b progSh 29 P0 H := by
  intro k hk
  by_cases h0 : k = 0
  · subst h0; exact ho
  by_cases h1 : k = 1
  · subst h1; exact hb
  by_cases h2 : k = 2
  · subst h2; exact hq
  obtain ⟨h3, h4⟩ := hc ((k - 3) / 2) (by omega)
  by_cases hp : k % 2 = 1
  · have e : progSh k = .inr (4, [(4, 0), (1, k + 1), (0, 0)]) := by
      unfold progSh
      rw [if_neg h0, if_neg h1, if_neg h2, if_pos hk, if_pos hp]
    rw [e]
    have ek : b + 3 + 2 * ((k - 3) / 2) + 0 = b + k := by omega
    have ek1 : b + 3 + 2 * ((k - 3) / 2) + 1 = b + (k + 1) := by omega
    rw [ek, ek1] at h3
    have p0 : P0 k 0 = 8 := if_pos ⟨by omega, hp, rfl⟩
    have p2 : P0 k 2 = 0 := if_neg (fun z => absurd z.2.2 (by decide))
    show va_at E.1 vwCl (b + k, .inr (4, [.ref (E.2.2 2 (P0 k 0).toNatClampNeg), .ref (b + (k + 1)), .int (P0 k 2)])) H
    rw [p0, p2]
    exact h3
  · have e : progSh k = .inl (0, 6, 0, 0) := by
      unfold progSh
      rw [if_neg h0, if_neg h1, if_neg h2, if_pos hk, if_neg hp]
    rw [e]
    have h5 := h4 0 (by decide)
    have ek : b + 3 + 2 * ((k - 3) / 2) + 1 + 0 = b + k := by omega
    rw [ek] at h5
    have p0 : P0 k = fun _ => 0 := by
      funext f
      exact if_neg (fun z => hp z.2.1)
    rw [p0]
    exact h5
set_option maxHeartbeats 4000000 in
set_option maxRecDepth 100000 in
theorem mX6_init (l : Launch) (E : EP) (B0 : Nat) (b : Nat) (hb0 : B0 ≤ b) : MU l E B0 yX6_init cX6_init 2 none 2 14 148 [.ref (b + 0)] (fun H => H.size = b + 1 ∧ va_at E.1 vwCl (b + 0, .inr (6, [.null, .int 0, .null, .int 0, .null, .int 0, .int 0])) H) none (fun H => H.size = b + 15 ∧ Blk E b netSh 15 N0 H) (fr b) := by
  refine mi_of (by decide +kernel) (Nat.le_of_ble_eq_true rfl) rfl ?_
  intro p e s m args below meth c hx hb hml hown hts hrt hlocks hin hE H hP9 hS ls hl
  obtain ⟨hz, ho⟩ := hP9
  have hown : s.vm.findClass RX6 = some m.cls := hown
  have hl : lv_has ls 2 [(0, .ref (b + 0))] := hl
  have hw : ∀ w ∈ WA, w.before args s = true := fun w h => hts w (List.mem_cons_of_mem _ h)
  have hAB : ∀ q, fr b q → B0 ≤ q := fun q h => Nat.le_trans hb0 h
  have D1 : ¬ (b + 1 + 0 = b + 0) := by omega
  have D2 : b + 10 + 1 ≤ b + 0 ∨ b + 0 < b + 10 := by omega
  have D3 : ¬ (b + 11 ≤ b + 0) := by omega
  have D4 : ¬ (b + 11 ≤ b + 1 + 0) := by omega
  have D5 : ∀ q : Nat, b + 10 ≤ q → q < b + 10 + 1 → ¬ (b + 11 ≤ q) := by intro q h1 h2 h3; omega
  have D6 : b + 11 + 4 ≤ b + 0 ∨ b + 0 < b + 11 := by omega
  refine lv_aload_n hx hb dX6_init_0 rfl (lv_at hl 0 rfl) ?_
  refine w_objInit hx hb hw hown oi_X6_3 (hl.1.trans hml.symm) (by decide) (by decide) dX6_init_1 ?_
  refine lv_aload_n hx hb dX6_init_4 rfl (lv_at hl 0 rfl) ?_
  refine lv_bipush (v := 8) hx hb dX6_init_5 (by decide) ?_
  refine w_newq (t := 2) (N := 8) hx hb hown (hw _ wq_X6_9) (hE.ao (C := RX9) (by decide +kernel)) hE hS rfl (by decide) (by decide) (Nat.le_of_ble_eq_true rfl) (Nat.le_of_ble_eq_true rfl) (Nat.le_of_ble_eq_true rfl) dX6_init_7 (fun H hq z1 o1 hS => ?_)
  have ho := at_ext ho o1
  rw [hz] at hq z1 ⊢
  have hz : H.size = b + 2 := z1
  refine w_putAF (f := 0) (v := .ref (b + 1)) hx hb hw hown hE hin fl_X6_11 ff_X6_X6_0 ho (Nat.le_of_ble_eq_true rfl) rfl (by first | rfl | simp [fits]) hS (Nat.le_add_right _ _) dX6_init_10 (fun H locs ho z9 oq hS => ?_)
  have ho : va_at E.1 vwCl (b + 0, .inr (6, [.ref (b + 1), .int 0, .null, .int 0, .null, .int 0, .int 0])) H := ho
  have hz : H.size = b + 2 := z9.trans hz
  have hq := at_offp hq oq D1
  have loop : ∀ (dd k : Nat), k + dd = 8 → ∀ (H : Heap) (locs : List Loc) (ls : Array Slot), H.size = b + (2 + 1 * k) → va_at E.1 vwCl (b + 0, .inr (6, [.ref (b + 1), .int 0, .null, .int 0, .null, .int 0, .int 0])) H → va_at E.1 vwCl (b + 1 + 0, .inl (E.2.1 2, 8, .inr (.inr (.inr (.inr (fun i => if i < k then some (b + (2 + 1 * i)) else none)))))) H → Blk E (b + 2) (fun _ => netSh 2) k (fun _ _ => 0) H → va_S (fr b) s.heap H locs → lv_has ls 2 [(1, .int (nI k)), (0, .ref (b + 0))] → W p l e (rmD 2 14 148) s m args below meth c H locs (1 + 1 * k) (8 + 10 * k) (MQ below (QU none (fun H => H.size = b + 15 ∧ Blk E b netSh 15 N0 H) (fr b)) args s 14 148 (fr b)) (F0 m 15 ls []) := by
    intro dd
    induction dd with
    | zero =>
      intro k hk H locs ls hz ho hq hst  hS hl
      obtain rfl : k = 8 := by omega
      refine lv_iload_n hx hb dX6_init_15 rfl (lv_at hl 0 rfl) ?_
      refine lv_bipush (v := 8) hx hb dX6_init_16 (by decide) ?_
      refine lv_icmp_ge (tgt := 40) hx hb dX6_init_18 (by decide) (fun c1 => ?_) (fun c1 => absurd (by decide) c1)
      have hz : H.size = b + 10 := hz
      refine lv_aload_n hx hb dX6_init_40 rfl (lv_at hl 1 rfl) ?_
      refine lv_iconst (v := 0) hx hb dX6_init_41 (by decide) ?_
      refine w_putA (f := 1) (v := .int 0) hx hb hw hown hE fl_X6_18 ff_X6_X6_1 ho (Nat.le_of_ble_eq_true rfl) rfl (by first | rfl | simp [fits]) hS (Nat.le_add_right _ _) dX6_init_42 (fun H locs ho z9 oq hS => ?_)
      have ho : va_at E.1 vwCl (b + 0, .inr (6, [.ref (b + 1), .int 0, .null, .int 0, .null, .int 0, .int 0])) H := ho
      have hz : H.size = b + 10 := z9.trans hz
      have hq := at_offp hq oq D1
      have hst := hst.kept (fun q h1 h2 => oq q (by omega))
      refine lv_aload_n hx hb dX6_init_45 rfl (lv_at hl 1 rfl) ?_
      refine lv_bipush (v := 8) hx hb dX6_init_46 (by decide) ?_
      refine w_newa (ty := .int) (t := 0) (N := 8) (sh := fun _ => .inl (0, 8, 0, 0)) hx hb rfl rfl (fun _ _ => rfl) rfl (fun _ _ => rfl) (hw _ wa_aint) hE hS (by decide) (by decide) (Nat.le_of_ble_eq_true rfl) (Nat.le_of_ble_eq_true rfl) (Nat.le_of_ble_eq_true rfl) dX6_init_48 (fun H hA2 z1 o1 hS => ?_)
      have ho := at_ext ho o1
      have hq := at_ext hq o1
      have hst := hst.kept (fun q h1 h2 => o1 q (by omega))
      rw [hz] at hA2 z1 ⊢
      have hz : H.size = b + 11 := z1
      refine w_putAF (f := 2) (v := .ref (b + 10)) hx hb hw hown hE hin fl_X6_22 ff_X6_X6_2 ho (Nat.le_of_ble_eq_true rfl) rfl (by first | rfl | simp [fits]) hS (Nat.le_add_right _ _) dX6_init_50 (fun H locs ho z9 oq hS => ?_)
      have ho : va_at E.1 vwCl (b + 0, .inr (6, [.ref (b + 1), .int 0, .ref (b + 10), .int 0, .null, .int 0, .int 0])) H := ho
      have hz : H.size = b + 11 := z9.trans hz
      have hq := at_offp hq oq D1
      have hst := hst.kept (fun q h1 h2 => oq q (by omega))
      have hA2 := Blk.offq hA2 oq D2
      refine lv_aload_n hx hb dX6_init_53 rfl (lv_at hl 1 rfl) ?_
      refine lv_iconst (v := 0) hx hb dX6_init_54 (by decide) ?_
      refine w_putA (f := 3) (v := .int 0) hx hb hw hown hE fl_X6_26 ff_X6_X6_3 ho (Nat.le_of_ble_eq_true rfl) rfl (by first | rfl | simp [fits]) hS (Nat.le_add_right _ _) dX6_init_55 (fun H locs ho z9 oq hS => ?_)
      have ho : va_at E.1 vwCl (b + 0, .inr (6, [.ref (b + 1), .int 0, .ref (b + 10), .int 0, .null, .int 0, .int 0])) H := ho
      have hz : H.size = b + 11 := z9.trans hz
      have hq := at_offp hq oq D1
      have hst := hst.kept (fun q h1 h2 => oq q (by omega))
      have hA2 := Blk.offq hA2 oq D2
      refine lv_aload_n hx hb dX6_init_58 rfl (lv_at hl 1 rfl) ?_
      refine w_newo (ci := 10) (fs := [.null, .null, .null, .int 0]) hx hb hw uw_X10 tyX10 tyX10_ok hown wd_X6_29 hE hS rfl (fun j hj => by rcases (ltc4 hj) with rfl | rfl | rfl | rfl <;> rfl) (Nat.le_of_ble_eq_true rfl) (Nat.le_of_ble_eq_true rfl) dX6_init_59 (fun H hn z1 o1 hS => ?_)
      have ho := at_ext ho o1
      have hq := at_ext hq o1
      have hst := hst.kept (fun q h1 h2 => o1 q (by omega))
      have hA2 := Blk.ext hA2 o1
      rw [hz] at hn z1 ⊢
      have hz : H.size = b + 12 := z1
      refine lv_dup hx hb dX6_init_62 rfl ?_
      refine mu_cI (As := []) (rest := [.ref (b + 11), .ref (b + 0)]) hx hb hml hown hts hE (mX10_init l E B0 (b + 11) (Nat.le_trans hb0 (Nat.le_add_right _ _))) cI_X6_31 ⟨hz, hn⟩ hS hAB (fun q h => Nat.le_trans (Nat.le_add_right _ _) h) rfl hl.1 rfl (by decide) (Nat.le_of_ble_eq_true rfl) ⟨Nat.le_of_ble_eq_true rfl, Nat.le_of_ble_eq_true rfl⟩ dX6_init_63 (fun H locs hP9 z9 hu hS => ?_)
      obtain ⟨hz8, ht3⟩ := hP9
      have ho := at_off ho hu D3
      have hq := at_off hq hu D4
      have hst := hst.kept (fun q h1 h2 => hu q (by omega) (by show ¬ b + 11 ≤ q; omega))
      have hA2 := Blk.off hA2 hu D5
      have hz : H.size = b + 15 := hz8
      refine w_putAF (f := 4) (v := .ref (b + 11)) hx hb hw hown hE hin fl_X6_32 ff_X6_X6_4 ho (Nat.le_of_ble_eq_true rfl) rfl (by first | rfl | simp [fits]) hS (Nat.le_add_right _ _) dX6_init_66 (fun H locs ho z9 oq hS => ?_)
      have ho : va_at E.1 vwCl (b + 0, .inr (6, [.ref (b + 1), .int 0, .ref (b + 10), .int 0, .ref (b + 11), .int 0, .int 0])) H := ho
      have hz : H.size = b + 15 := z9.trans hz
      have hq := at_offp hq oq D1
      have hst := hst.kept (fun q h1 h2 => oq q (by omega))
      have hA2 := Blk.offq hA2 oq D2
      have ht3 := Blk.offq ht3 oq D6
      refine lv_aload_n hx hb dX6_init_69 rfl (lv_at hl 1 rfl) ?_
      refine lv_iconst (v := 0) hx hb dX6_init_70 (by decide) ?_
      refine w_putA (f := 5) (v := .int 0) hx hb hw hown hE fl_X6_36 ff_X6_X6_5 ho (Nat.le_of_ble_eq_true rfl) rfl (by first | rfl | simp [fits]) hS (Nat.le_add_right _ _) dX6_init_71 (fun H locs ho z9 oq hS => ?_)
      have ho : va_at E.1 vwCl (b + 0, .inr (6, [.ref (b + 1), .int 0, .ref (b + 10), .int 0, .ref (b + 11), .int 0, .int 0])) H := ho
      have hz : H.size = b + 15 := z9.trans hz
      have hq := at_offp hq oq D1
      have hst := hst.kept (fun q h1 h2 => oq q (by omega))
      have hA2 := Blk.offq hA2 oq D2
      have ht3 := Blk.offq ht3 oq D6
      refine lv_aload_n hx hb dX6_init_74 rfl (lv_at hl 1 rfl) ?_
      refine lv_bipush (v := 10) hx hb dX6_init_75 (by decide) ?_
      refine w_putA (f := 6) (v := .int 10) hx hb hw hown hE fl_X6_39 ff_X6_X6_6 ho (Nat.le_of_ble_eq_true rfl) rfl (by first | rfl | simp [fits]) hS (Nat.le_add_right _ _) dX6_init_77 (fun H locs ho z9 oq hS => ?_)
      have ho : va_at E.1 vwCl (b + 0, .inr (6, [.ref (b + 1), .int 0, .ref (b + 10), .int 0, .ref (b + 11), .int 0, .int 10])) H := ho
      have hz : H.size = b + 15 := z9.trans hz
      have hq := at_offp hq oq D1
      have hst := hst.kept (fun q h1 h2 => oq q (by omega))
      have hA2 := Blk.offq hA2 oq D2
      have ht3 := Blk.offq ht3 oq D6
      have hfin : H.size = b + 15 ∧ Blk E b netSh 15 N0 H := by
        refine ⟨hz, fun k hk => ?_⟩
        rcases (ltc15 hk) with rfl | rfl | rfl | rfl | rfl | rfl | rfl | rfl | rfl | rfl | rfl | rfl | rfl | rfl | rfl
        · exact ho
        · exact arr_full hq
        · exact hst 0 (by decide)
        · exact hst 1 (by decide)
        · exact hst 2 (by decide)
        · exact hst 3 (by decide)
        · exact hst 4 (by decide)
        · exact hst 5 (by decide)
        · exact hst 6 (by decide)
        · exact hst 7 (by decide)
        · exact hA2 0 (by decide)
        · exact ht3 0 (by decide)
        · exact ht3 1 (by decide)
        · exact ht3 2 (by decide)
        · exact ht3 3 (by decide)
      exact mu_v hx hb hrt hlocks hfin hS dX6_init_80
    | succ dd ih =>
      intro k hk H locs ls hz ho hq hst  hS hl
      refine lv_iload_n hx hb dX6_init_15 rfl (lv_at hl 0 rfl) ?_
      refine lv_bipush (v := 8) hx hb dX6_init_16 (by decide) ?_
      refine lv_icmp_ge (tgt := 40) hx hb dX6_init_18 (by decide) (fun c1 => absurd c1 (nI_ge (a := k) (b := 8) (by omega) (by omega))) (fun c1 => ?_)
      refine lv_aload_n hx hb dX6_init_21 rfl (lv_at hl 1 rfl) ?_
      refine w_getA (f := 0) (v := .ref (b + 1)) hx hb hw hown hE fl_X6_11 ho rfl dX6_init_22 ?_
      refine lv_iload_n hx hb dX6_init_25 rfl (lv_at hl 0 rfl) ?_
      refine w_newo (ci := 9) (fs := [.int 0, .int 0, .int 0, .int 0, .int 0, .int 0, .null, .int 0, .int 0, .int 0]) hx hb hw uw_X9 tyX9 tyX9_ok hown wd_X6_9 hE hS rfl (fun j hj => by rcases (ltc10 hj) with rfl | rfl | rfl | rfl | rfl | rfl | rfl | rfl | rfl | rfl <;> rfl) (by show _ + 1 ≤ 14; omega) (by show _ + 10 ≤ 148; omega) dX6_init_26 (fun H hn z1 o1 hS => ?_)
      have ho := at_ext ho o1
      have hq := at_ext hq o1
      have hst := hst.kept (fun q h1 h2 => o1 q (by omega))
      rw [hz] at hn z1 ⊢
      have hz : H.size = b + (2 + 1 * k) + 1 := z1
      refine lv_dup hx hb dX6_init_29 rfl ?_
      refine mu_cI (As := []) (rest := [.ref (b + (2 + 1 * k)), .int (nI k), .ref (b + 1)]) hx hb hml hown hts hE (mX9_init l E B0 (b + (2 + 1 * k)) (by omega)) cI_X6_17 ⟨hz, hn⟩ hS hAB (fun q h => Nat.le_trans (Nat.le_add_right _ _) h) rfl hl.1 rfl (by decide) (Nat.le_of_ble_eq_true rfl) ⟨by show _ + 0 ≤ 14; omega, by show _ + 0 ≤ 148; omega⟩ dX6_init_30 (fun H locs hP9 z9 hu hS => ?_)
      obtain ⟨hz8, hn9⟩ := hP9
      have ho := at_off ho hu (by show ¬ b + (2 + 1 * k) ≤ b + 0; omega)
      have hq := at_off hq hu (by show ¬ b + (2 + 1 * k) ≤ b + 1 + 0; omega)
      have hst := hst.kept (fun q h1 h2 => hu q (by omega) (by show ¬ b + (2 + 1 * k) ≤ q; omega))
      have hv9 : va_at E.1 vwCl (b + (2 + 1 * k) + 0, .inr (9, slv E (b + (2 + 1 * k)) (fun _ => 0) 0 [(0, 0), (0, 0), (0, 0), (0, 0), (0, 0), (0, 0), (2, 0), (0, 0), (0, 0), (0, 0)])) H := hn9
      refine w_aastA (t := 2) (ci := 9) hx hb hE hq rfl hv9 rfl (nI_in (by omega) (by omega)) hS (show b ≤ b + 1 + 0 by omega) dX6_init_33 (fun H locs hq z9 oq hS => ?_)
      rw [fun_up b 2 1 k (by omega)] at hq
      have ho := at_offp ho oq (by show ¬ b + 0 = b + 1 + 0; omega)
      have hst := hst.kept (fun q h1 h2 => oq q (by omega))
      have hn9 := at_offp hn9 oq (by show ¬ b + (2 + 1 * k) + 0 = b + 1 + 0; omega)
      have hst := Blk.snoc hst (show va_at E.1 vwCl (b + 2 + k, celE E (b + 2) (netSh 2) (fun _ => 0)) H by rw [show b + 2 + k = b + (2 + 1 * k) + 0 by omega]; exact hn9)
      refine lv_iinc (v := nI k + 1) (lv' := [(1, .int (nI k + 1)), (0, .ref (b + 0))]) hx hb dX6_init_34 hl (k := 0) rfl rfl (by decide) rfl (fun ls hl => ?_)
      rw [nI_1] at hl
      refine lv_goto (tgt := 15) hx hb dX6_init_37 (by decide) ?_
      refine W.widen (k := 1 + 1 * (k + 1)) (n := 8 + 10 * (k + 1)) (by omega) (by omega) ?_
      exact ih (k + 1) (by omega) H locs ls (by omega) ho hq hst  hS hl
  refine lv_iconst (v := 0) hx hb dX6_init_13 (by decide) ?_
  refine lv_istore_n (lv' := [(1, .int 0), (0, .ref (b + 0))]) hx hb dX6_init_14 rfl hl (by decide) rfl (fun ls hl => ?_)
  exact loop 8 0 (by omega) H _ ls (by omega) ho (by rw [fun_none]; exact hq) (fun k hk => absurd hk (Nat.not_lt_zero k))  hS hl
set_option maxHeartbeats 4000000 in
set_option maxRecDepth 100000 in
theorem mX3_init (l : Launch) (E : EP) (B0 : Nat) (b : Nat) (hb0 : B0 ≤ b) : MU l E B0 yX3_init cX3_init 2 none 3 121 1248 [.ref (b + 0)] (fun H => H.size = b + 1 ∧ va_at E.1 vwCl (b + 0, .inr (5, [.null, .int 0, .int 0])) H) none (fun H => H.size = b + 122 ∧ (Blk E b histSh 2 (fun _ _ => 0) H ∧ Fam E (b + 2) (fun _ => N0) H)) (fr b) := by
  refine mi_of (by decide +kernel) (Nat.le_of_ble_eq_true rfl) rfl ?_
  intro p e s m args below meth c hx hb hml hown hts hrt hlocks hin hE H hP9 hS ls hl
  obtain ⟨hz, ho⟩ := hP9
  have hown : s.vm.findClass RX3 = some m.cls := hown
  have hl : lv_has ls 2 [(0, .ref (b + 0))] := hl
  have hw : ∀ w ∈ WA, w.before args s = true := fun w h => hts w (List.mem_cons_of_mem _ h)
  have hAB : ∀ q, fr b q → B0 ≤ q := fun q h => Nat.le_trans hb0 h
  have D1 : ¬ (b + 1 + 0 = b + 0) := by omega
  refine lv_aload_n hx hb dX3_init_0 rfl (lv_at hl 0 rfl) ?_
  refine w_objInit hx hb hw hown oi_X3_3 (hl.1.trans hml.symm) (by decide) (by decide) dX3_init_1 ?_
  refine lv_aload_n hx hb dX3_init_4 rfl (lv_at hl 0 rfl) ?_
  refine lv_bipush (v := 8) hx hb dX3_init_5 (by decide) ?_
  refine w_newq (t := 3) (N := 8) hx hb hown (hw _ wq_X3_9) (hE.ao (C := RX6) (by decide +kernel)) hE hS rfl (by decide) (by decide) (Nat.le_of_ble_eq_true rfl) (Nat.le_of_ble_eq_true rfl) (Nat.le_of_ble_eq_true rfl) dX3_init_7 (fun H hq z1 o1 hS => ?_)
  have ho := at_ext ho o1
  rw [hz] at hq z1 ⊢
  have hz : H.size = b + 2 := z1
  refine w_putAF (f := 0) (v := .ref (b + 1)) hx hb hw hown hE hin fl_X3_11 ff_X3_X3_0 ho (Nat.le_of_ble_eq_true rfl) rfl (by first | rfl | simp [fits]) hS (Nat.le_add_right _ _) dX3_init_10 (fun H locs ho z9 oq hS => ?_)
  have ho : va_at E.1 vwCl (b + 0, .inr (5, [.ref (b + 1), .int 0, .int 0])) H := ho
  have hz : H.size = b + 2 := z9.trans hz
  have hq := at_offp hq oq D1
  have loop : ∀ (dd k : Nat), k + dd = 8 → ∀ (H : Heap) (locs : List Loc) (ls : Array Slot), H.size = b + (2 + 15 * k) → va_at E.1 vwCl (b + 0, .inr (5, [.ref (b + 1), .int 0, .int 0])) H → va_at E.1 vwCl (b + 1 + 0, .inl (E.2.1 3, 8, .inr (.inr (.inr (.inr (fun i => if i < k then some (b + (2 + 15 * i)) else none)))))) H → FamN E (b + 2) k H → va_S (fr b) s.heap H locs → lv_has ls 2 [(1, .int (nI k)), (0, .ref (b + 0))] → W p l e (rmD 3 121 1248) s m args below meth c H locs (1 + 15 * k) (8 + 155 * k) (MQ below (QU none (fun H => H.size = b + 122 ∧ (Blk E b histSh 2 (fun _ _ => 0) H ∧ Fam E (b + 2) (fun _ => N0) H)) (fr b)) args s 121 1248 (fr b)) (F0 m 15 ls []) := by
    intro dd
    induction dd with
    | zero =>
      intro k hk H locs ls hz ho hq hfm  hS hl
      obtain rfl : k = 8 := by omega
      refine lv_iload_n hx hb dX3_init_15 rfl (lv_at hl 0 rfl) ?_
      refine lv_bipush (v := 8) hx hb dX3_init_16 (by decide) ?_
      refine lv_icmp_ge (tgt := 40) hx hb dX3_init_18 (by decide) (fun c1 => ?_) (fun c1 => absurd (by decide) c1)
      have hz : H.size = b + 122 := hz
      refine lv_aload_n hx hb dX3_init_40 rfl (lv_at hl 1 rfl) ?_
      refine lv_iconst (v := 0) hx hb dX3_init_41 (by decide) ?_
      refine w_putA (f := 1) (v := .int 0) hx hb hw hown hE fl_X3_18 ff_X3_X3_1 ho (Nat.le_of_ble_eq_true rfl) rfl (by first | rfl | simp [fits]) hS (Nat.le_add_right _ _) dX3_init_42 (fun H locs ho z9 oq hS => ?_)
      have ho : va_at E.1 vwCl (b + 0, .inr (5, [.ref (b + 1), .int 0, .int 0])) H := ho
      have hz : H.size = b + 122 := z9.trans hz
      have hq := at_offp hq oq D1
      have hfm := hfm.kept (fun q h1 h2 => oq q (by omega))
      refine lv_aload_n hx hb dX3_init_45 rfl (lv_at hl 1 rfl) ?_
      refine lv_iconst (v := 0) hx hb dX3_init_46 (by decide) ?_
      refine w_putA (f := 2) (v := .int 0) hx hb hw hown hE fl_X3_22 ff_X3_X3_2 ho (Nat.le_of_ble_eq_true rfl) rfl (by first | rfl | simp [fits]) hS (Nat.le_add_right _ _) dX3_init_47 (fun H locs ho z9 oq hS => ?_)
      have ho : va_at E.1 vwCl (b + 0, .inr (5, [.ref (b + 1), .int 0, .int 0])) H := ho
      have hz : H.size = b + 122 := z9.trans hz
      have hq := at_offp hq oq D1
      have hfm := hfm.kept (fun q h1 h2 => oq q (by omega))
      have hfin : H.size = b + 122 ∧ (Blk E b histSh 2 (fun _ _ => 0) H ∧ Fam E (b + 2) (fun _ => N0) H) := by
        refine ⟨hz, fun k hk => ?_, hfm⟩
        rcases (ltc2 hk) with rfl | rfl
        · exact ho
        · exact arr_full hq
      exact mu_v hx hb hrt hlocks hfin hS dX3_init_50
    | succ dd ih =>
      intro k hk H locs ls hz ho hq hfm  hS hl
      refine lv_iload_n hx hb dX3_init_15 rfl (lv_at hl 0 rfl) ?_
      refine lv_bipush (v := 8) hx hb dX3_init_16 (by decide) ?_
      refine lv_icmp_ge (tgt := 40) hx hb dX3_init_18 (by decide) (fun c1 => absurd c1 (nI_ge (a := k) (b := 8) (by omega) (by omega))) (fun c1 => ?_)
      refine lv_aload_n hx hb dX3_init_21 rfl (lv_at hl 1 rfl) ?_
      refine w_getA (f := 0) (v := .ref (b + 1)) hx hb hw hown hE fl_X3_11 ho rfl dX3_init_22 ?_
      refine lv_iload_n hx hb dX3_init_25 rfl (lv_at hl 0 rfl) ?_
      refine w_newo (ci := 6) (fs := [.null, .int 0, .null, .int 0, .null, .int 0, .int 0]) hx hb hw uw_X6 tyX6 tyX6_ok hown wd_X3_9 hE hS rfl (fun j hj => by rcases (ltc7 hj) with rfl | rfl | rfl | rfl | rfl | rfl | rfl <;> rfl) (by show _ + 1 ≤ 121; omega) (by show _ + 7 ≤ 1248; omega) dX3_init_26 (fun H hn z1 o1 hS => ?_)
      have ho := at_ext ho o1
      have hq := at_ext hq o1
      have hfm := hfm.kept (fun q h1 h2 => o1 q (by omega))
      rw [hz] at hn z1 ⊢
      have hz : H.size = b + (2 + 15 * k) + 1 := z1
      refine lv_dup hx hb dX3_init_29 rfl ?_
      refine mu_cI (As := []) (rest := [.ref (b + (2 + 15 * k)), .int (nI k), .ref (b + 1)]) hx hb hml hown hts hE (mX6_init l E B0 (b + (2 + 15 * k)) (by omega)) cI_X3_17 ⟨hz, hn⟩ hS hAB (fun q h => Nat.le_trans (Nat.le_add_right _ _) h) rfl hl.1 rfl (by decide) (Nat.le_of_ble_eq_true rfl) ⟨by show _ + 14 ≤ 121; omega, by show _ + 148 ≤ 1248; omega⟩ dX3_init_30 (fun H locs hP9 z9 hu hS => ?_)
      obtain ⟨hz8, hn9⟩ := hP9
      have ho := at_off ho hu (by show ¬ b + (2 + 15 * k) ≤ b + 0; omega)
      have hq := at_off hq hu (by show ¬ b + (2 + 15 * k) ≤ b + 1 + 0; omega)
      have hfm := hfm.kept (fun q h1 h2 => hu q (by omega) (by show ¬ b + (2 + 15 * k) ≤ q; omega))
      have hv9 : va_at E.1 vwCl (b + (2 + 15 * k) + 0, .inr (6, slv E (b + (2 + 15 * k)) (N0 0) 0 [(1, 1), (0, 0), (1, 10), (0, 0), (1, 11), (0, 0), (0, 0)])) H := hn9 0 (by decide)
      refine w_aastA (t := 3) (ci := 6) hx hb hE hq rfl hv9 rfl (nI_in (by omega) (by omega)) hS (show b ≤ b + 1 + 0 by omega) dX3_init_33 (fun H locs hq z9 oq hS => ?_)
      rw [fun_up b 2 15 k (by omega)] at hq
      have ho := at_offp ho oq (by show ¬ b + 0 = b + 1 + 0; omega)
      have hfm := hfm.kept (fun q h1 h2 => oq q (by omega))
      have hn9 := Blk.offq hn9 oq (by omega)
      have hfm : FamN E (b + 2) (k + 1) H := FamN.snoc hfm (by rw [show b + 2 + 15 * k = b + (2 + 15 * k) by omega]; exact hn9)
      refine lv_iinc (v := nI k + 1) (lv' := [(1, .int (nI k + 1)), (0, .ref (b + 0))]) hx hb dX3_init_34 hl (k := 0) rfl rfl (by decide) rfl (fun ls hl => ?_)
      rw [nI_1] at hl
      refine lv_goto (tgt := 15) hx hb dX3_init_37 (by decide) ?_
      refine W.widen (k := 1 + 15 * (k + 1)) (n := 8 + 155 * (k + 1)) (by omega) (by omega) ?_
      exact ih (k + 1) (by omega) H locs ls (by omega) ho hq hfm  hS hl
  refine lv_iconst (v := 0) hx hb dX3_init_13 (by decide) ?_
  refine lv_istore_n (lv' := [(1, .int 0), (0, .ref (b + 0))]) hx hb dX3_init_14 rfl hl (by decide) rfl (fun ls hl => ?_)
  exact loop 8 0 (by omega) H _ ls (by omega) ho (by rw [fun_none]; exact hq) (fun k hk => absurd hk (Nat.not_lt_zero k))  hS hl
set_option maxHeartbeats 4000000 in
set_option maxRecDepth 100000 in
theorem mX7_init (l : Launch) (E : EP) (B0 : Nat) (b : Nat) (hb0 : B0 ≤ b) : MU l E B0 yX7_init cX7_init 2 none 2 28 190 [.ref (b + 0)] (fun H => H.size = b + 1 ∧ va_at E.1 vwCl (b + 0, .inr (7, [.null, .int 0, .null, .int 0, .int 0])) H) none (fun H => H.size = b + 29 ∧ Blk E b progSh 29 P0 H) (fr b) := by
  refine mi_of (by decide +kernel) (Nat.le_of_ble_eq_true rfl) rfl ?_
  intro p e s m args below meth c hx hb hml hown hts hrt hlocks hin hE H hP9 hS ls hl
  obtain ⟨hz, ho⟩ := hP9
  have hown : s.vm.findClass RX7 = some m.cls := hown
  have hl : lv_has ls 2 [(0, .ref (b + 0))] := hl
  have hw : ∀ w ∈ WA, w.before args s = true := fun w h => hts w (List.mem_cons_of_mem _ h)
  have hAB : ∀ q, fr b q → B0 ≤ q := fun q h => Nat.le_trans hb0 h
  have D1 : b + 1 + 1 ≤ b + 0 ∨ b + 0 < b + 1 := by omega
  have D2 : ¬ (b + 2 + 0 = b + 0) := by omega
  refine lv_aload_n hx hb dX7_init_0 rfl (lv_at hl 0 rfl) ?_
  refine w_objInit hx hb hw hown oi_X7_3 (hl.1.trans hml.symm) (by decide) (by decide) dX7_init_1 ?_
  refine lv_aload_n hx hb dX7_init_4 rfl (lv_at hl 0 rfl) ?_
  refine lv_bipush (v := 60) hx hb dX7_init_5 (by decide) ?_
  refine w_newa (ty := .char) (t := 1) (N := 60) (sh := fun _ => .inl (1, 60, 0, 0)) hx hb rfl rfl (fun _ _ => rfl) rfl (fun _ _ => rfl) (hw _ wa_achar) hE hS (by decide) (by decide) (Nat.le_of_ble_eq_true rfl) (Nat.le_of_ble_eq_true rfl) (Nat.le_of_ble_eq_true rfl) dX7_init_7 (fun H hA1 z1 o1 hS => ?_)
  have ho := at_ext ho o1
  rw [hz] at hA1 z1 ⊢
  have hz : H.size = b + 2 := z1
  refine w_putAF (f := 0) (v := .ref (b + 1)) hx hb hw hown hE hin fl_X7_9 ff_X7_X7_0 ho (Nat.le_of_ble_eq_true rfl) rfl (by first | rfl | simp [fits]) hS (Nat.le_add_right _ _) dX7_init_9 (fun H locs ho z9 oq hS => ?_)
  have ho : va_at E.1 vwCl (b + 0, .inr (7, [.ref (b + 1), .int 0, .null, .int 0, .int 0])) H := ho
  have hz : H.size = b + 2 := z9.trans hz
  have hA1 := Blk.offq hA1 oq D1
  refine lv_aload_n hx hb dX7_init_12 rfl (lv_at hl 0 rfl) ?_
  refine lv_iconst (v := 0) hx hb dX7_init_13 (by decide) ?_
  refine w_putA (f := 1) (v := .int 0) hx hb hw hown hE fl_X7_15 ff_X7_X7_1 ho (Nat.le_of_ble_eq_true rfl) rfl (by first | rfl | simp [fits]) hS (Nat.le_add_right _ _) dX7_init_14 (fun H locs ho z9 oq hS => ?_)
  have ho : va_at E.1 vwCl (b + 0, .inr (7, [.ref (b + 1), .int 0, .null, .int 0, .int 0])) H := ho
  have hz : H.size = b + 2 := z9.trans hz
  have hA1 := Blk.offq hA1 oq D1
  refine lv_aload_n hx hb dX7_init_17 rfl (lv_at hl 0 rfl) ?_
  refine lv_bipush (v := 13) hx hb dX7_init_18 (by decide) ?_
  refine w_newq (t := 4) (N := 13) hx hb hown (hw _ wq_X7_19) (hE.ao (C := RX1) (by decide +kernel)) hE hS rfl (by decide) (by decide) (Nat.le_of_ble_eq_true rfl) (Nat.le_of_ble_eq_true rfl) (Nat.le_of_ble_eq_true rfl) dX7_init_20 (fun H hq z1 o1 hS => ?_)
  have ho := at_ext ho o1
  have hA1 := Blk.ext hA1 o1
  rw [hz] at hq z1 ⊢
  have hz : H.size = b + 3 := z1
  refine w_putAF (f := 2) (v := .ref (b + 2)) hx hb hw hown hE hin fl_X7_21 ff_X7_X7_2 ho (Nat.le_of_ble_eq_true rfl) rfl (by first | rfl | simp [fits]) hS (Nat.le_add_right _ _) dX7_init_23 (fun H locs ho z9 oq hS => ?_)
  have ho : va_at E.1 vwCl (b + 0, .inr (7, [.ref (b + 1), .int 0, .ref (b + 2), .int 0, .int 0])) H := ho
  have hz : H.size = b + 3 := z9.trans hz
  have hA1 := Blk.offq hA1 oq D1
  have hq := at_offp hq oq D2
  have loop : ∀ (dd k : Nat), k + dd = 13 → ∀ (H : Heap) (locs : List Loc) (ls : Array Slot), H.size = b + (3 + 2 * k) → va_at E.1 vwCl (b + 0, .inr (7, [.ref (b + 1), .int 0, .ref (b + 2), .int 0, .int 0])) H → va_at E.1 vwCl (b + 2 + 0, .inl (E.2.1 4, 13, .inr (.inr (.inr (.inr (fun i => if i < k then some (b + (3 + 2 * i)) else none)))))) H → CmdK E (b + 3) k H → Blk E (b + 1) (fun _ => .inl (1, 60, 0, 0)) 1 (fun _ _ => 0) H → va_S (fr b) s.heap H locs → lv_has ls 2 [(1, .int (nI k)), (0, .ref (b + 0))] → W p l e (rmD 2 28 190) s m args below meth c H locs (2 + 2 * k) (73 + 9 * k) (MQ below (QU none (fun H => H.size = b + 29 ∧ Blk E b progSh 29 P0 H) (fr b)) args s 28 190 (fr b)) (F0 m 28 ls []) := by
    intro dd
    induction dd with
    | zero =>
      intro k hk H locs ls hz ho hq hcm hA1 hS hl
      obtain rfl : k = 13 := by omega
      refine lv_iload_n hx hb dX7_init_28 rfl (lv_at hl 0 rfl) ?_
      refine lv_bipush (v := 13) hx hb dX7_init_29 (by decide) ?_
      refine lv_icmp_ge (tgt := 53) hx hb dX7_init_31 (by decide) (fun c1 => ?_) (fun c1 => absurd (by decide) c1)
      have hz : H.size = b + 29 := hz
      refine lv_aload_n hx hb dX7_init_53 rfl (lv_at hl 1 rfl) ?_
      refine lv_iconst (v := 0) hx hb dX7_init_54 (by decide) ?_
      refine w_putA (f := 3) (v := .int 0) hx hb hw hown hE fl_X7_26 ff_X7_X7_3 ho (Nat.le_of_ble_eq_true rfl) rfl (by first | rfl | simp [fits]) hS (Nat.le_add_right _ _) dX7_init_55 (fun H locs ho z9 oq hS => ?_)
      have ho : va_at E.1 vwCl (b + 0, .inr (7, [.ref (b + 1), .int 0, .ref (b + 2), .int 0, .int 0])) H := ho
      have hz : H.size = b + 29 := z9.trans hz
      have hA1 := Blk.offq hA1 oq D1
      have hq := at_offp hq oq D2
      have hcm := hcm.kept (fun q h1 h2 => oq q (by omega))
      refine lv_aload_n hx hb dX7_init_58 rfl (lv_at hl 1 rfl) ?_
      refine lv_iconst (v := 0) hx hb dX7_init_59 (by decide) ?_
      refine w_putA (f := 4) (v := .int 0) hx hb hw hown hE fl_X7_29 ff_X7_X7_4 ho (Nat.le_of_ble_eq_true rfl) rfl (by first | rfl | simp [fits]) hS (Nat.le_add_right _ _) dX7_init_60 (fun H locs ho z9 oq hS => ?_)
      have ho : va_at E.1 vwCl (b + 0, .inr (7, [.ref (b + 1), .int 0, .ref (b + 2), .int 0, .int 0])) H := ho
      have hz : H.size = b + 29 := z9.trans hz
      have hA1 := Blk.offq hA1 oq D1
      have hq := at_offp hq oq D2
      have hcm := hcm.kept (fun q h1 h2 => oq q (by omega))
      have hfin : H.size = b + 29 ∧ Blk E b progSh 29 P0 H := ⟨hz, prog_mk ho (hA1 0 (by decide)) (arr_full hq) hcm⟩
      exact mu_v hx hb hrt hlocks hfin hS dX7_init_63
    | succ dd ih =>
      intro k hk H locs ls hz ho hq hcm hA1 hS hl
      refine lv_iload_n hx hb dX7_init_28 rfl (lv_at hl 0 rfl) ?_
      refine lv_bipush (v := 13) hx hb dX7_init_29 (by decide) ?_
      refine lv_icmp_ge (tgt := 53) hx hb dX7_init_31 (by decide) (fun c1 => absurd c1 (nI_ge (a := k) (b := 13) (by omega) (by omega))) (fun c1 => ?_)
      refine lv_aload_n hx hb dX7_init_34 rfl (lv_at hl 1 rfl) ?_
      refine w_getA (f := 2) (v := .ref (b + 2)) hx hb hw hown hE fl_X7_21 ho rfl dX7_init_35 ?_
      refine lv_iload_n hx hb dX7_init_38 rfl (lv_at hl 0 rfl) ?_
      refine w_newo (ci := 4) (fs := [.null, .null, .int 0]) hx hb hw uw_X1 tyX1 tyX1_ok hown wd_X7_19 hE hS rfl (fun j hj => by rcases (ltc3 hj) with rfl | rfl | rfl <;> rfl) (by show _ + 1 ≤ 28; omega) (by show _ + 3 ≤ 190; omega) dX7_init_39 (fun H hn z1 o1 hS => ?_)
      have ho := at_ext ho o1
      have hq := at_ext hq o1
      have hcm := hcm.kept (fun q h1 h2 => o1 q (by omega))
      have hA1 := Blk.ext hA1 o1
      rw [hz] at hn z1 ⊢
      have hz : H.size = b + (3 + 2 * k) + 1 := z1
      refine lv_dup hx hb dX7_init_42 rfl ?_
      refine mu_cI (As := []) (rest := [.ref (b + (3 + 2 * k)), .int (nI k), .ref (b + 2)]) hx hb hml hown hts hE (mX1_init l E B0 (b + (3 + 2 * k)) (by omega)) cI_X7_25 ⟨hz, hn⟩ hS hAB (fun q h => Nat.le_trans (Nat.le_add_right _ _) h) rfl hl.1 rfl (by decide) (Nat.le_of_ble_eq_true rfl) ⟨by show _ + 1 ≤ 28; omega, by show _ + 6 ≤ 190; omega⟩ dX7_init_43 (fun H locs hP9 z9 hu hS => ?_)
      obtain ⟨hz8, hn9⟩ := hP9
      have ho := at_off ho hu (by show ¬ b + (3 + 2 * k) ≤ b + 0; omega)
      have hq := at_off hq hu (by show ¬ b + (3 + 2 * k) ≤ b + 2 + 0; omega)
      have hcm := hcm.kept (fun q h1 h2 => hu q (by omega) (by show ¬ b + (3 + 2 * k) ≤ q; omega))
      have hA1 := Blk.off hA1 hu (fun q h1 h2 h3 => by have h3 : b + (3 + 2 * k) ≤ q := h3; omega)
      have hv9 := hn9.1
      refine w_aastA (t := 4) (ci := 4) hx hb hE hq rfl hv9 rfl (nI_in (by omega) (by omega)) hS (show b ≤ b + 2 + 0 by omega) dX7_init_46 (fun H locs hq z9 oq hS => ?_)
      rw [fun_up b 3 2 k (by omega)] at hq
      have ho := at_offp ho oq (by show ¬ b + 0 = b + 2 + 0; omega)
      have hcm := hcm.kept (fun q h1 h2 => oq q (by omega))
      have hA1 := Blk.offq hA1 oq (by omega)
      have hn9 : va_at E.1 vwCl (b + (3 + 2 * k) + 0, .inr (4, [.ref (E.2.2 2 (8 : Int32).toNatClampNeg), .ref (b + (3 + 2 * k) + 1), .int 0])) H ∧ Blk E (b + (3 + 2 * k) + 1) (fun _ => .inl (0, 6, 0, 0)) 1 (fun _ _ => 0) H := ⟨at_offp hn9.1 oq (by show ¬ b + (3 + 2 * k) + 0 = b + 2 + 0; omega), Blk.offq hn9.2 oq (by omega)⟩
      have hcm : CmdK E (b + 3) (k + 1) H := CmdK.snoc hcm (by rw [show b + 3 + 2 * k = b + (3 + 2 * k) by omega]; exact hn9)
      refine lv_iinc (v := nI k + 1) (lv' := [(1, .int (nI k + 1)), (0, .ref (b + 0))]) hx hb dX7_init_47 hl (k := 0) rfl rfl (by decide) rfl (fun ls hl => ?_)
      rw [nI_1] at hl
      refine lv_goto (tgt := 28) hx hb dX7_init_50 (by decide) ?_
      refine W.widen (k := 2 + 2 * (k + 1)) (n := 73 + 9 * (k + 1)) (by omega) (by omega) ?_
      exact ih (k + 1) (by omega) H locs ls (by omega) ho hq hcm hA1 hS hl
  refine lv_iconst (v := 0) hx hb dX7_init_26 (by decide) ?_
  refine lv_istore_n (lv' := [(1, .int 0), (0, .ref (b + 0))]) hx hb dX7_init_27 rfl hl (by decide) rfl (fun ls hl => ?_)
  exact loop 13 0 (by omega) H _ ls (by omega) ho (by rw [fun_none]; exact hq) (fun k hk => absurd hk (Nat.not_lt_zero k)) hA1 hS hl
set_option maxHeartbeats 4000000 in
theorem mJ5_init_d00df (l : Launch) (E : EP) (B0 : Nat) (b : Nat) (hb0 : B0 ≤ b) : MU l E B0 yJ5_init_d00df cJ5_init_d00df 2 none 1 1 16 [.ref (b + 0), .int 16] (fun H => H.size = b + 1 ∧ va_at E.1 vwCl (b + 0, .inr (1, [.null, .int 0, .int 0, .int 0])) H) none (fun H => H.size = b + 2 ∧ (Blk E b (sbO 1) 1 (fun _ _ => 0) H ∧ Blk E (b + 1) (sbB 16) 1 (fun _ _ => 0) H)) (fr b) := by
  refine mi_of (by decide +kernel) (Nat.le_of_ble_eq_true rfl) rfl ?_
  intro p e s m args below meth c hx hb hml hown hts hrt hlocks hin hE H hP9 hS ls hl
  obtain ⟨hz, ho⟩ := hP9
  have hown : s.vm.findClass RJ5 = some m.cls := hown
  have hl : lv_has ls 2 [(0, .ref (b + 0)), (1, .int 16)] := hl
  have hw : ∀ w ∈ WA, w.before args s = true := fun w h => hts w (List.mem_cons_of_mem _ h)
  have hAB : ∀ q, fr b q → B0 ≤ q := fun q h => Nat.le_trans hb0 h
  refine lv_aload_n hx hb dJ5_init_d00df_0 rfl (lv_at hl 0 rfl) ?_
  refine w_objInit hx hb hw hown oi_J5_3 (hl.1.trans hml.symm) (by decide) (by decide) dJ5_init_d00df_1 ?_
  refine w_compact hx hb hw hown hE gc_J5_18 hS hAB dJ5_init_d00df_4 ?_
  refine lv_if_eq (tgt := 25) hx hb dJ5_init_d00df_7 (by decide) (fun c1 => absurd c1 (by decide)) (fun c1 => ?_)
  refine lv_aload_n hx hb dJ5_init_d00df_10 rfl (lv_at hl 0 rfl) ?_
  refine lv_iload_n hx hb dJ5_init_d00df_11 rfl (lv_at hl 1 rfl) ?_
  refine w_newa (ty := .byte) (t := 5) (N := 16) (sh := sbB 16) hx hb rfl rfl (fun _ _ => rfl) rfl (fun _ _ => rfl) (hw _ wa_bytes) hE hS (by decide) (by decide) (Nat.le_of_ble_eq_true rfl) (Nat.le_of_ble_eq_true rfl) (Nat.le_of_ble_eq_true rfl) dJ5_init_d00df_12 (fun H hA1 z1 o1 hS => ?_)
  have ho := at_ext ho o1
  rw [hz] at hA1 z1 ⊢
  have hz : H.size = b + 2 := z1
  refine w_putA (f := 0) (v := .ref (b + 1)) hx hb hw hown hE fl_J5_15 ff_J4_J4_0 ho (Nat.le_of_ble_eq_true rfl) rfl (by first | rfl | simp [fits]) hS (Nat.le_add_right _ _) dJ5_init_d00df_14 (fun H locs ho z9 oq hS => ?_)
  have ho : va_at E.1 vwCl (b + 0, .inr (1, [.ref (b + 1), .int 0, .int 0, .int 0])) H := ho
  have hz : H.size = b + 2 := z9.trans hz
  have hA1 := Blk.offq hA1 oq (by omega)
  refine lv_aload_n hx hb dJ5_init_d00df_17 rfl (lv_at hl 0 rfl) ?_
  refine lv_iconst (v := 0) hx hb dJ5_init_d00df_18 (by decide) ?_
  refine w_putA (f := 1) (v := .int 0) hx hb hw hown hE fl_J5_22 ff_J4_J4_1 ho (Nat.le_of_ble_eq_true rfl) rfl (by first | rfl | simp [fits]) hS (Nat.le_add_right _ _) dJ5_init_d00df_19 (fun H locs ho z9 oq hS => ?_)
  have ho : va_at E.1 vwCl (b + 0, .inr (1, [.ref (b + 1), .int 0, .int 0, .int 0])) H := ho
  have hz : H.size = b + 2 := z9.trans hz
  have hA1 := Blk.offq hA1 oq (by omega)
  refine lv_goto (tgt := 38) hx hb dJ5_init_d00df_22 (by decide) ?_
  have hG : Blk E b (sbO 1) 1 (fun _ _ => 0) H := by
    intro k hk
    obtain rfl : k = 0 := by omega
    exact ho
  exact mu_v hx hb hrt hlocks ⟨hz, hG, hA1⟩ hS dJ5_init_d00df_38
set_option maxHeartbeats 4000000 in
theorem mJ4_init_da8c8 (l : Launch) (E : EP) (B0 : Nat) (b : Nat) (hb0 : B0 ≤ b) : MU l E B0 yJ4_init_da8c8 cJ4_init_da8c8 1 none 2 1 16 [.ref (b + 0)] (fun H => H.size = b + 1 ∧ va_at E.1 vwCl (b + 0, .inr (1, [.null, .int 0, .int 0, .int 0])) H) none (fun H => H.size = b + 2 ∧ (Blk E b (sbO 1) 1 (fun _ _ => 0) H ∧ Blk E (b + 1) (sbB 16) 1 (fun _ _ => 0) H)) (fr b) := by
  refine mi_of (by decide +kernel) (Nat.le_of_ble_eq_true rfl) rfl ?_
  intro p e s m args below meth c hx hb hml hown hts hrt hlocks hin hE H hP9 hS ls hl
  have hown : s.vm.findClass RJ4 = some m.cls := hown
  have hl : lv_has ls 1 [(0, .ref (b + 0))] := hl
  have hAB : ∀ q, fr b q → B0 ≤ q := fun q h => Nat.le_trans hb0 h
  refine lv_aload_n hx hb dJ4_init_da8c8_0 rfl (lv_at hl 0 rfl) ?_
  refine lv_bipush (v := 16) hx hb dJ4_init_da8c8_1 (by decide) ?_
  refine mu_cI (As := [.int 16]) (rest := []) hx hb hml hown hts hE (mJ5_init_d00df l E B0 b hb0) cI_J4_1 hP9 hS hAB (fun q h => h) rfl hl.1 rfl (by decide) (Nat.le_of_ble_eq_true rfl) ⟨Nat.le_of_ble_eq_true rfl, Nat.le_of_ble_eq_true rfl⟩ dJ4_init_da8c8_3 (fun H locs hP9 z9 hu hS => ?_)
  exact mu_v hx hb hrt hlocks hP9 hS dJ4_init_da8c8_6
