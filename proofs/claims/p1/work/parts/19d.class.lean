/-! ===== the constructor of the class ===== -/
/-- the class at its start -/
def G0 : Mem := fun k f => if k = 0 ∧ (f = 8 ∨ f = 9) then -1 else 0
set_option maxHeartbeats 4000000 in
set_option maxRecDepth 100000 in
theorem mX11_init (l : Launch) (E : EP) (B0 : Nat) (b : Nat) (hb0 : B0 ≤ b) : MU l E B0 yX11_init cX11_init 1 none 4 201 1949 [.ref (b + 0)] (fun H => H.size = b + 1 ∧ va_at E.1 vwCl (b + 0, .inr (11, [.null, .null, .null, .int 0, .null, .null, .null, .null, .int 0, .int 0])) H) none (fun H => H.size = b + 202 ∧ (Blk E b rnSh 1 G0 H ∧ Blk E (b + 1) netSh 15 N0 H ∧ Blk E (b + 16) netSh 15 N0 H ∧ Blk E (b + 31) netSh 15 N0 H ∧ Blk E (b + 46) histSh 2 (fun _ _ => 0) H ∧ Fam E (b + 46 + 2) (fun _ => N0) H ∧ Blk E (b + 168) relSh 3 (fun _ _ => 0) H ∧ Blk E (b + 171) progSh 29 P0 H ∧ Blk E (b + 200) (sbO 1) 1 (fun _ _ => 0) H ∧ Blk E (b + 200 + 1) (sbB 16) 1 (fun _ _ => 0) H)) (fr b) := by
  refine mi_of (by decide +kernel) (Nat.le_of_ble_eq_true rfl) rfl ?_
  intro p e s m args below meth c hx hb hml hown hts hrt hlocks hin hE H hP9 hS ls hl
  obtain ⟨hz, ho⟩ := hP9
  have hown : s.vm.findClass RX11 = some m.cls := hown
  have hl : lv_has ls 1 [(0, .ref (b + 0))] := hl
  have hw : ∀ w ∈ WA, w.before args s = true := fun w h => hts w (List.mem_cons_of_mem _ h)
  have hAB : ∀ q, fr b q → B0 ≤ q := fun q h => Nat.le_trans hb0 h
  have D1 : ¬ (b + 1 ≤ b + 0) := by omega
  have D2 : b + 1 + 15 ≤ b + 0 ∨ b + 0 < b + 1 := by omega
  have D3 : ¬ (b + 16 ≤ b + 0) := by omega
  have D4 : ∀ q : Nat, b + 1 ≤ q → q < b + 1 + 15 → ¬ (b + 16 ≤ q) := by intro q h1 h2 h3; omega
  have D5 : b + 16 + 15 ≤ b + 0 ∨ b + 0 < b + 16 := by omega
  have D6 : ¬ (b + 31 ≤ b + 0) := by omega
  have D7 : ∀ q : Nat, b + 1 ≤ q → q < b + 1 + 15 → ¬ (b + 31 ≤ q) := by intro q h1 h2 h3; omega
  have D8 : ∀ q : Nat, b + 16 ≤ q → q < b + 16 + 15 → ¬ (b + 31 ≤ q) := by intro q h1 h2 h3; omega
  have D9 : b + 31 + 15 ≤ b + 0 ∨ b + 0 < b + 31 := by omega
  have D10 : ¬ (b + 46 ≤ b + 0) := by omega
  have D11 : ∀ q : Nat, b + 1 ≤ q → q < b + 1 + 15 → ¬ (b + 46 ≤ q) := by intro q h1 h2 h3; omega
  have D12 : ∀ q : Nat, b + 16 ≤ q → q < b + 16 + 15 → ¬ (b + 46 ≤ q) := by intro q h1 h2 h3; omega
  have D13 : ∀ q : Nat, b + 31 ≤ q → q < b + 31 + 15 → ¬ (b + 46 ≤ q) := by intro q h1 h2 h3; omega
  have D14 : b + 46 + 2 ≤ b + 0 ∨ b + 0 < b + 46 := by omega
  have D15 : b + 48 + 120 ≤ b + 0 ∨ b + 0 < b + 48 := by omega
  have D16 : ¬ (b + 168 ≤ b + 0) := by omega
  have D17 : ∀ q : Nat, b + 1 ≤ q → q < b + 1 + 15 → ¬ (b + 168 ≤ q) := by intro q h1 h2 h3; omega
  have D18 : ∀ q : Nat, b + 16 ≤ q → q < b + 16 + 15 → ¬ (b + 168 ≤ q) := by intro q h1 h2 h3; omega
  have D19 : ∀ q : Nat, b + 31 ≤ q → q < b + 31 + 15 → ¬ (b + 168 ≤ q) := by intro q h1 h2 h3; omega
  have D20 : ∀ q : Nat, b + 46 ≤ q → q < b + 46 + 2 → ¬ (b + 168 ≤ q) := by intro q h1 h2 h3; omega
  have D21 : ∀ q : Nat, b + 48 ≤ q → q < b + 48 + 120 → ¬ (b + 168 ≤ q) := by intro q h1 h2 h3; omega
  have D22 : b + 168 + 3 ≤ b + 0 ∨ b + 0 < b + 168 := by omega
  have D23 : ¬ (b + 171 ≤ b + 0) := by omega
  have D24 : ∀ q : Nat, b + 1 ≤ q → q < b + 1 + 15 → ¬ (b + 171 ≤ q) := by intro q h1 h2 h3; omega
  have D25 : ∀ q : Nat, b + 16 ≤ q → q < b + 16 + 15 → ¬ (b + 171 ≤ q) := by intro q h1 h2 h3; omega
  have D26 : ∀ q : Nat, b + 31 ≤ q → q < b + 31 + 15 → ¬ (b + 171 ≤ q) := by intro q h1 h2 h3; omega
  have D27 : ∀ q : Nat, b + 46 ≤ q → q < b + 46 + 2 → ¬ (b + 171 ≤ q) := by intro q h1 h2 h3; omega
  have D28 : ∀ q : Nat, b + 48 ≤ q → q < b + 48 + 120 → ¬ (b + 171 ≤ q) := by intro q h1 h2 h3; omega
  have D29 : ∀ q : Nat, b + 168 ≤ q → q < b + 168 + 3 → ¬ (b + 171 ≤ q) := by intro q h1 h2 h3; omega
  have D30 : b + 171 + 29 ≤ b + 0 ∨ b + 0 < b + 171 := by omega
  have D31 : ¬ (b + 200 ≤ b + 0) := by omega
  have D32 : ∀ q : Nat, b + 1 ≤ q → q < b + 1 + 15 → ¬ (b + 200 ≤ q) := by intro q h1 h2 h3; omega
  have D33 : ∀ q : Nat, b + 16 ≤ q → q < b + 16 + 15 → ¬ (b + 200 ≤ q) := by intro q h1 h2 h3; omega
  have D34 : ∀ q : Nat, b + 31 ≤ q → q < b + 31 + 15 → ¬ (b + 200 ≤ q) := by intro q h1 h2 h3; omega
  have D35 : ∀ q : Nat, b + 46 ≤ q → q < b + 46 + 2 → ¬ (b + 200 ≤ q) := by intro q h1 h2 h3; omega
  have D36 : ∀ q : Nat, b + 48 ≤ q → q < b + 48 + 120 → ¬ (b + 200 ≤ q) := by intro q h1 h2 h3; omega
  have D37 : ∀ q : Nat, b + 168 ≤ q → q < b + 168 + 3 → ¬ (b + 200 ≤ q) := by intro q h1 h2 h3; omega
  have D38 : ∀ q : Nat, b + 171 ≤ q → q < b + 171 + 29 → ¬ (b + 200 ≤ q) := by intro q h1 h2 h3; omega
  have D39 : b + 200 + 1 ≤ b + 0 ∨ b + 0 < b + 200 := by omega
  have D40 : b + 201 + 1 ≤ b + 0 ∨ b + 0 < b + 201 := by omega
  refine lv_aload_n hx hb dX11_init_0 rfl (lv_at hl 0 rfl) ?_
  refine w_objInit hx hb hw hown oi_X11_3 (hl.1.trans hml.symm) (by decide) (by decide) dX11_init_1 ?_
  refine lv_aload_n hx hb dX11_init_4 rfl (lv_at hl 0 rfl) ?_
  refine w_newo (ci := 6) (fs := [.null, .int 0, .null, .int 0, .null, .int 0, .int 0]) hx hb hw uw_X6 tyX6 tyX6_ok hown wd_X11_9 hE hS rfl (fun j hj => by rcases (ltc7 hj) with rfl | rfl | rfl | rfl | rfl | rfl | rfl <;> rfl) (Nat.le_of_ble_eq_true rfl) (Nat.le_of_ble_eq_true rfl) dX11_init_5 (fun H hn z1 o1 hS => ?_)
  have ho := at_ext ho o1
  rw [hz] at hn z1 ⊢
  have hz : H.size = b + 2 := z1
  refine lv_dup hx hb dX11_init_8 rfl ?_
  refine mu_cI (As := []) (rest := [.ref (b + 1), .ref (b + 0)]) hx hb hml hown hts hE (mX6_init l E B0 (b + 1) (Nat.le_trans hb0 (Nat.le_add_right _ _))) cI_X11_11 ⟨hz, hn⟩ hS hAB (fun q h => Nat.le_trans (Nat.le_add_right _ _) h) rfl hl.1 rfl (by decide) (Nat.le_of_ble_eq_true rfl) ⟨Nat.le_of_ble_eq_true rfl, Nat.le_of_ble_eq_true rfl⟩ dX11_init_9 (fun H locs hP9 z9 hu hS => ?_)
  obtain ⟨hz8, hn1⟩ := hP9
  have ho := at_off ho hu D1
  have hz : H.size = b + 16 := hz8
  refine w_putAF (f := 0) (v := .ref (b + 1)) hx hb hw hown hE hin fl_X11_12 ff_X11_X11_0 ho (Nat.le_of_ble_eq_true rfl) rfl (by first | rfl | simp [fits]) hS (Nat.le_add_right _ _) dX11_init_12 (fun H locs ho z9 oq hS => ?_)
  have ho : va_at E.1 vwCl (b + 0, .inr (11, [.ref (b + 1), .null, .null, .int 0, .null, .null, .null, .null, .int 0, .int 0])) H := ho
  have hz : H.size = b + 16 := z9.trans hz
  have hn1 := Blk.offq hn1 oq D2
  refine lv_aload_n hx hb dX11_init_15 rfl (lv_at hl 0 rfl) ?_
  refine w_newo (ci := 6) (fs := [.null, .int 0, .null, .int 0, .null, .int 0, .int 0]) hx hb hw uw_X6 tyX6 tyX6_ok hown wd_X11_9 hE hS rfl (fun j hj => by rcases (ltc7 hj) with rfl | rfl | rfl | rfl | rfl | rfl | rfl <;> rfl) (Nat.le_of_ble_eq_true rfl) (Nat.le_of_ble_eq_true rfl) dX11_init_16 (fun H hn z1 o1 hS => ?_)
  have ho := at_ext ho o1
  have hn1 := Blk.ext hn1 o1
  rw [hz] at hn z1 ⊢
  have hz : H.size = b + 17 := z1
  refine lv_dup hx hb dX11_init_19 rfl ?_
  refine mu_cI (As := []) (rest := [.ref (b + 16), .ref (b + 0)]) hx hb hml hown hts hE (mX6_init l E B0 (b + 16) (Nat.le_trans hb0 (Nat.le_add_right _ _))) cI_X11_11 ⟨hz, hn⟩ hS hAB (fun q h => Nat.le_trans (Nat.le_add_right _ _) h) rfl hl.1 rfl (by decide) (Nat.le_of_ble_eq_true rfl) ⟨Nat.le_of_ble_eq_true rfl, Nat.le_of_ble_eq_true rfl⟩ dX11_init_20 (fun H locs hP9 z9 hu hS => ?_)
  obtain ⟨hz8, hn2⟩ := hP9
  have ho := at_off ho hu D3
  have hn1 := Blk.off hn1 hu D4
  have hz : H.size = b + 31 := hz8
  refine w_putAF (f := 1) (v := .ref (b + 16)) hx hb hw hown hE hin fl_X11_16 ff_X11_X11_1 ho (Nat.le_of_ble_eq_true rfl) rfl (by first | rfl | simp [fits]) hS (Nat.le_add_right _ _) dX11_init_23 (fun H locs ho z9 oq hS => ?_)
  have ho : va_at E.1 vwCl (b + 0, .inr (11, [.ref (b + 1), .ref (b + 16), .null, .int 0, .null, .null, .null, .null, .int 0, .int 0])) H := ho
  have hz : H.size = b + 31 := z9.trans hz
  have hn1 := Blk.offq hn1 oq D2
  have hn2 := Blk.offq hn2 oq D5
  refine lv_aload_n hx hb dX11_init_26 rfl (lv_at hl 0 rfl) ?_
  refine w_newo (ci := 6) (fs := [.null, .int 0, .null, .int 0, .null, .int 0, .int 0]) hx hb hw uw_X6 tyX6 tyX6_ok hown wd_X11_9 hE hS rfl (fun j hj => by rcases (ltc7 hj) with rfl | rfl | rfl | rfl | rfl | rfl | rfl <;> rfl) (Nat.le_of_ble_eq_true rfl) (Nat.le_of_ble_eq_true rfl) dX11_init_27 (fun H hn z1 o1 hS => ?_)
  have ho := at_ext ho o1
  have hn1 := Blk.ext hn1 o1
  have hn2 := Blk.ext hn2 o1
  rw [hz] at hn z1 ⊢
  have hz : H.size = b + 32 := z1
  refine lv_dup hx hb dX11_init_30 rfl ?_
  refine mu_cI (As := []) (rest := [.ref (b + 31), .ref (b + 0)]) hx hb hml hown hts hE (mX6_init l E B0 (b + 31) (Nat.le_trans hb0 (Nat.le_add_right _ _))) cI_X11_11 ⟨hz, hn⟩ hS hAB (fun q h => Nat.le_trans (Nat.le_add_right _ _) h) rfl hl.1 rfl (by decide) (Nat.le_of_ble_eq_true rfl) ⟨Nat.le_of_ble_eq_true rfl, Nat.le_of_ble_eq_true rfl⟩ dX11_init_31 (fun H locs hP9 z9 hu hS => ?_)
  obtain ⟨hz8, hn3⟩ := hP9
  have ho := at_off ho hu D6
  have hn1 := Blk.off hn1 hu D7
  have hn2 := Blk.off hn2 hu D8
  have hz : H.size = b + 46 := hz8
  refine w_putAF (f := 2) (v := .ref (b + 31)) hx hb hw hown hE hin fl_X11_19 ff_X11_X11_2 ho (Nat.le_of_ble_eq_true rfl) rfl (by first | rfl | simp [fits]) hS (Nat.le_add_right _ _) dX11_init_34 (fun H locs ho z9 oq hS => ?_)
  have ho : va_at E.1 vwCl (b + 0, .inr (11, [.ref (b + 1), .ref (b + 16), .ref (b + 31), .int 0, .null, .null, .null, .null, .int 0, .int 0])) H := ho
  have hz : H.size = b + 46 := z9.trans hz
  have hn1 := Blk.offq hn1 oq D2
  have hn2 := Blk.offq hn2 oq D5
  have hn3 := Blk.offq hn3 oq D9
  refine lv_aload_n hx hb dX11_init_37 rfl (lv_at hl 0 rfl) ?_
  refine lv_iconst (v := 0) hx hb dX11_init_38 (by decide) ?_
  refine w_putA (f := 3) (v := .int 0) hx hb hw hown hE fl_X11_22 ff_X11_X11_3 ho (Nat.le_of_ble_eq_true rfl) rfl (by first | rfl | simp [fits]) hS (Nat.le_add_right _ _) dX11_init_39 (fun H locs ho z9 oq hS => ?_)
  have ho : va_at E.1 vwCl (b + 0, .inr (11, [.ref (b + 1), .ref (b + 16), .ref (b + 31), .int 0, .null, .null, .null, .null, .int 0, .int 0])) H := ho
  have hz : H.size = b + 46 := z9.trans hz
  have hn1 := Blk.offq hn1 oq D2
  have hn2 := Blk.offq hn2 oq D5
  have hn3 := Blk.offq hn3 oq D9
  refine lv_aload_n hx hb dX11_init_42 rfl (lv_at hl 0 rfl) ?_
  refine w_newo (ci := 5) (fs := [.null, .int 0, .int 0]) hx hb hw uw_X3 tyX3 tyX3_ok hown wd_X11_26 hE hS rfl (fun j hj => by rcases (ltc3 hj) with rfl | rfl | rfl <;> rfl) (Nat.le_of_ble_eq_true rfl) (Nat.le_of_ble_eq_true rfl) dX11_init_43 (fun H hn z1 o1 hS => ?_)
  have ho := at_ext ho o1
  have hn1 := Blk.ext hn1 o1
  have hn2 := Blk.ext hn2 o1
  have hn3 := Blk.ext hn3 o1
  rw [hz] at hn z1 ⊢
  have hz : H.size = b + 47 := z1
  refine lv_dup hx hb dX11_init_46 rfl ?_
  refine mu_cI (As := []) (rest := [.ref (b + 46), .ref (b + 0)]) hx hb hml hown hts hE (mX3_init l E B0 (b + 46) (Nat.le_trans hb0 (Nat.le_add_right _ _))) cI_X11_28 ⟨hz, hn⟩ hS hAB (fun q h => Nat.le_trans (Nat.le_add_right _ _) h) rfl hl.1 rfl (by decide) (Nat.le_of_ble_eq_true rfl) ⟨Nat.le_of_ble_eq_true rfl, Nat.le_of_ble_eq_true rfl⟩ dX11_init_47 (fun H locs hP9 z9 hu hS => ?_)
  obtain ⟨hz8, hh4, hf4⟩ := hP9
  have ho := at_off ho hu D10
  have hn1 := Blk.off hn1 hu D11
  have hn2 := Blk.off hn2 hu D12
  have hn3 := Blk.off hn3 hu D13
  have hz : H.size = b + 168 := hz8
  refine w_putAF (f := 4) (v := .ref (b + 46)) hx hb hw hown hE hin fl_X11_29 ff_X11_X11_4 ho (Nat.le_of_ble_eq_true rfl) rfl (by first | rfl | simp [fits]) hS (Nat.le_add_right _ _) dX11_init_50 (fun H locs ho z9 oq hS => ?_)
  have ho : va_at E.1 vwCl (b + 0, .inr (11, [.ref (b + 1), .ref (b + 16), .ref (b + 31), .int 0, .ref (b + 46), .null, .null, .null, .int 0, .int 0])) H := ho
  have hz : H.size = b + 168 := z9.trans hz
  have hn1 := Blk.offq hn1 oq D2
  have hn2 := Blk.offq hn2 oq D5
  have hn3 := Blk.offq hn3 oq D9
  have hh4 := Blk.offq hh4 oq D14
  have hf4 := Fam.offq hf4 oq D15
  refine lv_aload_n hx hb dX11_init_53 rfl (lv_at hl 0 rfl) ?_
  refine w_newo (ci := 8) (fs := [.null, .null]) hx hb hw uw_X8 tyX8 tyX8_ok hown wd_X11_33 hE hS rfl (fun j hj => by rcases (ltc2 hj) with rfl | rfl <;> rfl) (Nat.le_of_ble_eq_true rfl) (Nat.le_of_ble_eq_true rfl) dX11_init_54 (fun H hn z1 o1 hS => ?_)
  have ho := at_ext ho o1
  have hn1 := Blk.ext hn1 o1
  have hn2 := Blk.ext hn2 o1
  have hn3 := Blk.ext hn3 o1
  have hh4 := Blk.ext hh4 o1
  have hf4 := Fam.ext hf4 o1
  rw [hz] at hn z1 ⊢
  have hz : H.size = b + 169 := z1
  refine lv_dup hx hb dX11_init_57 rfl ?_
  refine mu_cI (As := []) (rest := [.ref (b + 168), .ref (b + 0)]) hx hb hml hown hts hE (mX8_init l E B0 (b + 168) (Nat.le_trans hb0 (Nat.le_add_right _ _))) cI_X11_35 ⟨hz, hn⟩ hS hAB (fun q h => Nat.le_trans (Nat.le_add_right _ _) h) rfl hl.1 rfl (by decide) (Nat.le_of_ble_eq_true rfl) ⟨Nat.le_of_ble_eq_true rfl, Nat.le_of_ble_eq_true rfl⟩ dX11_init_58 (fun H locs hP9 z9 hu hS => ?_)
  obtain ⟨hz8, hr5⟩ := hP9
  have ho := at_off ho hu D16
  have hn1 := Blk.off hn1 hu D17
  have hn2 := Blk.off hn2 hu D18
  have hn3 := Blk.off hn3 hu D19
  have hh4 := Blk.off hh4 hu D20
  have hf4 := Fam.off hf4 hu D21
  have hz : H.size = b + 171 := hz8
  refine w_putAF (f := 5) (v := .ref (b + 168)) hx hb hw hown hE hin fl_X11_36 ff_X11_X11_5 ho (Nat.le_of_ble_eq_true rfl) rfl (by first | rfl | simp [fits]) hS (Nat.le_add_right _ _) dX11_init_61 (fun H locs ho z9 oq hS => ?_)
  have ho : va_at E.1 vwCl (b + 0, .inr (11, [.ref (b + 1), .ref (b + 16), .ref (b + 31), .int 0, .ref (b + 46), .ref (b + 168), .null, .null, .int 0, .int 0])) H := ho
  have hz : H.size = b + 171 := z9.trans hz
  have hn1 := Blk.offq hn1 oq D2
  have hn2 := Blk.offq hn2 oq D5
  have hn3 := Blk.offq hn3 oq D9
  have hh4 := Blk.offq hh4 oq D14
  have hf4 := Fam.offq hf4 oq D15
  have hr5 := Blk.offq hr5 oq D22
  refine lv_aload_n hx hb dX11_init_64 rfl (lv_at hl 0 rfl) ?_
  refine w_newo (ci := 7) (fs := [.null, .int 0, .null, .int 0, .int 0]) hx hb hw uw_X7 tyX7 tyX7_ok hown wd_X11_40 hE hS rfl (fun j hj => by rcases (ltc5 hj) with rfl | rfl | rfl | rfl | rfl <;> rfl) (Nat.le_of_ble_eq_true rfl) (Nat.le_of_ble_eq_true rfl) dX11_init_65 (fun H hn z1 o1 hS => ?_)
  have ho := at_ext ho o1
  have hn1 := Blk.ext hn1 o1
  have hn2 := Blk.ext hn2 o1
  have hn3 := Blk.ext hn3 o1
  have hh4 := Blk.ext hh4 o1
  have hf4 := Fam.ext hf4 o1
  have hr5 := Blk.ext hr5 o1
  rw [hz] at hn z1 ⊢
  have hz : H.size = b + 172 := z1
  refine lv_dup hx hb dX11_init_68 rfl ?_
  refine mu_cI (As := []) (rest := [.ref (b + 171), .ref (b + 0)]) hx hb hml hown hts hE (mX7_init l E B0 (b + 171) (Nat.le_trans hb0 (Nat.le_add_right _ _))) cI_X11_42 ⟨hz, hn⟩ hS hAB (fun q h => Nat.le_trans (Nat.le_add_right _ _) h) rfl hl.1 rfl (by decide) (Nat.le_of_ble_eq_true rfl) ⟨Nat.le_of_ble_eq_true rfl, Nat.le_of_ble_eq_true rfl⟩ dX11_init_69 (fun H locs hP9 z9 hu hS => ?_)
  obtain ⟨hz8, hp6⟩ := hP9
  have ho := at_off ho hu D23
  have hn1 := Blk.off hn1 hu D24
  have hn2 := Blk.off hn2 hu D25
  have hn3 := Blk.off hn3 hu D26
  have hh4 := Blk.off hh4 hu D27
  have hf4 := Fam.off hf4 hu D28
  have hr5 := Blk.off hr5 hu D29
  have hz : H.size = b + 200 := hz8
  refine w_putAF (f := 6) (v := .ref (b + 171)) hx hb hw hown hE hin fl_X11_43 ff_X11_X11_6 ho (Nat.le_of_ble_eq_true rfl) rfl (by first | rfl | simp [fits]) hS (Nat.le_add_right _ _) dX11_init_72 (fun H locs ho z9 oq hS => ?_)
  have ho : va_at E.1 vwCl (b + 0, .inr (11, [.ref (b + 1), .ref (b + 16), .ref (b + 31), .int 0, .ref (b + 46), .ref (b + 168), .ref (b + 171), .null, .int 0, .int 0])) H := ho
  have hz : H.size = b + 200 := z9.trans hz
  have hn1 := Blk.offq hn1 oq D2
  have hn2 := Blk.offq hn2 oq D5
  have hn3 := Blk.offq hn3 oq D9
  have hh4 := Blk.offq hh4 oq D14
  have hf4 := Fam.offq hf4 oq D15
  have hr5 := Blk.offq hr5 oq D22
  have hp6 := Blk.offq hp6 oq D30
  refine lv_aload_n hx hb dX11_init_75 rfl (lv_at hl 0 rfl) ?_
  refine w_newo (ci := 1) (fs := [.null, .int 0, .int 0, .int 0]) hx hb hw uw_J4 tyJ4 tyJ4_ok hown wd_X11_47 hE hS rfl (fun j hj => by rcases (ltc4 hj) with rfl | rfl | rfl | rfl <;> rfl) (Nat.le_of_ble_eq_true rfl) (Nat.le_of_ble_eq_true rfl) dX11_init_76 (fun H hn z1 o1 hS => ?_)
  have ho := at_ext ho o1
  have hn1 := Blk.ext hn1 o1
  have hn2 := Blk.ext hn2 o1
  have hn3 := Blk.ext hn3 o1
  have hh4 := Blk.ext hh4 o1
  have hf4 := Fam.ext hf4 o1
  have hr5 := Blk.ext hr5 o1
  have hp6 := Blk.ext hp6 o1
  rw [hz] at hn z1 ⊢
  have hz : H.size = b + 201 := z1
  refine lv_dup hx hb dX11_init_79 rfl ?_
  refine mu_cI (As := []) (rest := [.ref (b + 200), .ref (b + 0)]) hx hb hml hown hts hE (mJ4_init_da8c8 l E B0 (b + 200) (Nat.le_trans hb0 (Nat.le_add_right _ _))) cI_X11_49 ⟨hz, hn⟩ hS hAB (fun q h => Nat.le_trans (Nat.le_add_right _ _) h) rfl hl.1 rfl (by decide) (Nat.le_of_ble_eq_true rfl) ⟨Nat.le_of_ble_eq_true rfl, Nat.le_of_ble_eq_true rfl⟩ dX11_init_80 (fun H locs hP9 z9 hu hS => ?_)
  obtain ⟨hz8, hsb7, hsy7⟩ := hP9
  have ho := at_off ho hu D31
  have hn1 := Blk.off hn1 hu D32
  have hn2 := Blk.off hn2 hu D33
  have hn3 := Blk.off hn3 hu D34
  have hh4 := Blk.off hh4 hu D35
  have hf4 := Fam.off hf4 hu D36
  have hr5 := Blk.off hr5 hu D37
  have hp6 := Blk.off hp6 hu D38
  have hz : H.size = b + 202 := hz8
  refine w_putAF (f := 7) (v := .ref (b + 200)) hx hb hw hown hE hin fl_X11_50 ff_X11_X11_7 ho (Nat.le_of_ble_eq_true rfl) rfl (by first | rfl | simp [fits]) hS (Nat.le_add_right _ _) dX11_init_83 (fun H locs ho z9 oq hS => ?_)
  have ho : va_at E.1 vwCl (b + 0, .inr (11, [.ref (b + 1), .ref (b + 16), .ref (b + 31), .int 0, .ref (b + 46), .ref (b + 168), .ref (b + 171), .ref (b + 200), .int 0, .int 0])) H := ho
  have hz : H.size = b + 202 := z9.trans hz
  have hn1 := Blk.offq hn1 oq D2
  have hn2 := Blk.offq hn2 oq D5
  have hn3 := Blk.offq hn3 oq D9
  have hh4 := Blk.offq hh4 oq D14
  have hf4 := Fam.offq hf4 oq D15
  have hr5 := Blk.offq hr5 oq D22
  have hp6 := Blk.offq hp6 oq D30
  have hsb7 := Blk.offq hsb7 oq D39
  have hsy7 := Blk.offq hsy7 oq D40
  refine lv_aload_n hx hb dX11_init_86 rfl (lv_at hl 0 rfl) ?_
  refine lv_iconst (v := -1) hx hb dX11_init_87 (by decide) ?_
  refine w_putA (f := 8) (v := .int (-1)) hx hb hw hown hE fl_X11_54 ff_X11_X11_8 ho (Nat.le_of_ble_eq_true rfl) rfl (by first | rfl | simp [fits]) hS (Nat.le_add_right _ _) dX11_init_88 (fun H locs ho z9 oq hS => ?_)
  have ho : va_at E.1 vwCl (b + 0, .inr (11, [.ref (b + 1), .ref (b + 16), .ref (b + 31), .int 0, .ref (b + 46), .ref (b + 168), .ref (b + 171), .ref (b + 200), .int (-1), .int 0])) H := ho
  have hz : H.size = b + 202 := z9.trans hz
  have hn1 := Blk.offq hn1 oq D2
  have hn2 := Blk.offq hn2 oq D5
  have hn3 := Blk.offq hn3 oq D9
  have hh4 := Blk.offq hh4 oq D14
  have hf4 := Fam.offq hf4 oq D15
  have hr5 := Blk.offq hr5 oq D22
  have hp6 := Blk.offq hp6 oq D30
  have hsb7 := Blk.offq hsb7 oq D39
  have hsy7 := Blk.offq hsy7 oq D40
  refine lv_aload_n hx hb dX11_init_91 rfl (lv_at hl 0 rfl) ?_
  refine lv_iconst (v := -1) hx hb dX11_init_92 (by decide) ?_
  refine w_putA (f := 9) (v := .int (-1)) hx hb hw hown hE fl_X11_58 ff_X11_X11_9 ho (Nat.le_of_ble_eq_true rfl) rfl (by first | rfl | simp [fits]) hS (Nat.le_add_right _ _) dX11_init_93 (fun H locs ho z9 oq hS => ?_)
  have ho : va_at E.1 vwCl (b + 0, .inr (11, [.ref (b + 1), .ref (b + 16), .ref (b + 31), .int 0, .ref (b + 46), .ref (b + 168), .ref (b + 171), .ref (b + 200), .int (-1), .int (-1)])) H := ho
  have hz : H.size = b + 202 := z9.trans hz
  have hn1 := Blk.offq hn1 oq D2
  have hn2 := Blk.offq hn2 oq D5
  have hn3 := Blk.offq hn3 oq D9
  have hh4 := Blk.offq hh4 oq D14
  have hf4 := Fam.offq hf4 oq D15
  have hr5 := Blk.offq hr5 oq D22
  have hp6 := Blk.offq hp6 oq D30
  have hsb7 := Blk.offq hsb7 oq D39
  have hsy7 := Blk.offq hsy7 oq D40
  have hG : Blk E b rnSh 1 G0 H := by
    intro k hk
    obtain rfl : k = 0 := Nat.lt_one_iff.mp hk
    exact ho
  have hfin : H.size = b + 202 ∧ (Blk E b rnSh 1 G0 H ∧ Blk E (b + 1) netSh 15 N0 H ∧ Blk E (b + 16) netSh 15 N0 H ∧ Blk E (b + 31) netSh 15 N0 H ∧ Blk E (b + 46) histSh 2 (fun _ _ => 0) H ∧ Fam E (b + 46 + 2) (fun _ => N0) H ∧ Blk E (b + 168) relSh 3 (fun _ _ => 0) H ∧ Blk E (b + 171) progSh 29 P0 H ∧ Blk E (b + 200) (sbO 1) 1 (fun _ _ => 0) H ∧ Blk E (b + 200 + 1) (sbB 16) 1 (fun _ _ => 0) H) := ⟨hz, hG, hn1, hn2, hn3, hh4, hf4, hr5, hp6, hsb7, hsy7⟩
  exact mu_v hx hb hrt hlocks hfin hS dX11_init_96
