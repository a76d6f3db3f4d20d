/-! ===== laid by program: the builder of the JDK ===== -/
def fJ5_length_8abf5 (So : Mem) (cp : Nat) : Option (Int32) := some (So 0 3)
set_option maxHeartbeats 4000000 in
set_option maxRecDepth 100000 in
theorem mJ5_length_8abf5 (l : Launch) (E : EP) (B0 : Nat) (bs : Nat) (w : Nat) (hb0 : B0 ≤ bs) (hb1 : 1 ≤ w) (So : Mem) (cp : Nat) (r : Int32) (hf : fJ5_length_8abf5 So cp = some r) : MU l E B0 yJ5_length_8abf5 cJ5_length_8abf5 1 (some .int) 0 0 0 [.ref (bs + 0)] (Blk E bs (sbO w) 1 So) (some (.int r)) (Blk E bs (sbO w) 1 So) nv := by
  refine mu_of (by decide +kernel) (Nat.le_of_ble_eq_true rfl) ?_
  intro p e s m args below meth c hx hb hml hown hts hrt hlocks hE H hSo hS ls hl
  have hown : s.vm.findClass RJ5 = some m.cls := hown
  have hl : lv_has ls 1 [(0, .ref (bs + 0))] := hl
  have hw : ∀ w ∈ WA, w.before args s = true := fun w h => hts w (List.mem_cons_of_mem _ h)
  have hAB : ∀ q, nv q → B0 ≤ q := fun _ h => h.elim
  unfold fJ5_length_8abf5 at hf
  refine lv_aload_n hx hb dJ5_length_8abf5_0 rfl (lv_at hl 0 rfl) ?_
  refine w_get (k := 0) (v := .int (So 0 3)) hx hb hw hown hE fl_J5_79 hSo (by decide) rfl rfl rfl dJ5_length_8abf5_1 ?_
  have hre := Option.some.inj hf
  subst hre
  exact mu_i (v := (So 0 3)) hx hb hrt hlocks hSo hS dJ5_length_8abf5_4
def fJ5_isLatin1_aae02 (So : Mem) (cp : Nat) : Option (Int32) := (if (1 : Int32) = 0 then some 0 else (if (So 0 1) = 0 then some 1 else some 0))
set_option maxHeartbeats 4000000 in
set_option maxRecDepth 100000 in
theorem mJ5_isLatin1_aae02 (l : Launch) (E : EP) (B0 : Nat) (bs : Nat) (w : Nat) (hb0 : B0 ≤ bs) (hb1 : 1 ≤ w) (So : Mem) (cp : Nat) (r : Int32) (hf : fJ5_isLatin1_aae02 So cp = some r) : MU l E B0 yJ5_isLatin1_aae02 cJ5_isLatin1_aae02 1 (some .boolean) 0 0 0 [.ref (bs + 0)] (Blk E bs (sbO w) 1 So) (some (.int r)) (Blk E bs (sbO w) 1 So) nv := by
  refine mu_of (by decide +kernel) (Nat.le_of_ble_eq_true rfl) ?_
  intro p e s m args below meth c hx hb hml hown hts hrt hlocks hE H hSo hS ls hl
  have hown : s.vm.findClass RJ5 = some m.cls := hown
  have hl : lv_has ls 1 [(0, .ref (bs + 0))] := hl
  have hw : ∀ w ∈ WA, w.before args s = true := fun w h => hts w (List.mem_cons_of_mem _ h)
  have hAB : ∀ q, nv q → B0 ≤ q := fun _ h => h.elim
  unfold fJ5_isLatin1_aae02 at hf
  refine w_compact hx hb hw hown hE gc_J5_18 hS hAB dJ5_isLatin1_aae02_0 ?_
  refine lv_if_eq (tgt := 17) hx hb dJ5_isLatin1_aae02_3 (by decide) (fun c1 => ?_) (fun c1 => ?_)
  · rw [if_pos c1] at hf
    refine lv_iconst (v := 0) hx hb dJ5_isLatin1_aae02_17 (by decide) ?_
    have hre := Option.some.inj hf
    subst hre
    exact mu_z (v := 0) hx hb hrt rfl hlocks hSo hS dJ5_isLatin1_aae02_18
  · rw [if_neg c1] at hf
    refine lv_aload_n hx hb dJ5_isLatin1_aae02_6 rfl (lv_at hl 0 rfl) ?_
    refine w_get (k := 0) (v := .int (So 0 1)) hx hb hw hown hE fl_J5_22 hSo (by decide) rfl rfl rfl dJ5_isLatin1_aae02_7 ?_
    refine lv_if_ne (tgt := 17) hx hb dJ5_isLatin1_aae02_10 (by decide) (fun c2 => ?_) (fun c2 => ?_)
    · rw [if_neg c2] at hf
      refine lv_iconst (v := 0) hx hb dJ5_isLatin1_aae02_17 (by decide) ?_
      have hre := Option.some.inj hf
      subst hre
      exact mu_z (v := 0) hx hb hrt rfl hlocks hSo hS dJ5_isLatin1_aae02_18
    · rw [if_pos c2] at hf
      refine lv_iconst (v := 1) hx hb dJ5_isLatin1_aae02_13 (by decide) ?_
      refine lv_goto (tgt := 18) hx hb dJ5_isLatin1_aae02_14 (by decide) ?_
      have hre := Option.some.inj hf
      subst hre
      exact mu_z (v := 1) hx hb hrt rfl hlocks hSo hS dJ5_isLatin1_aae02_18
def fJ8_newLength_cabcc (a1 : Int32) (a2 : Int32) (a3 : Int32) : Option (Int32) := (if (a1 + (if a2 < a3 then a3 else a2)) ≤ (0 : Int32) then none else (if (2147483639 : Int32) < (a1 + (if a2 < a3 then a3 else a2)) then none else some (a1 + (if a2 < a3 then a3 else a2))))
set_option maxHeartbeats 4000000 in
set_option maxRecDepth 100000 in
theorem mJ8_newLength_cabcc (l : Launch) (E : EP) (B0 : Nat) (a1 : Int32) (a2 : Int32) (a3 : Int32) (r : Int32) (hf : fJ8_newLength_cabcc a1 a2 a3 = some r) : MU l E B0 yJ8_newLength_cabcc cJ8_newLength_cabcc 4 (some .int) 1 0 0 [.int a1, .int a2, .int a3] (fun _ => True) (some (.int r)) (fun _ => True) nv := by
  refine mu_of (by decide +kernel) (Nat.le_of_ble_eq_true rfl) ?_
  intro p e s m args below meth c hx hb hml hown hts hrt hlocks hE H _ hS ls hl
  have hown : s.vm.findClass RJ8 = some m.cls := hown
  have hl : lv_has ls 4 [(0, .int a1), (1, .int a2), (2, .int a3)] := hl
  have hw : ∀ w ∈ WA, w.before args s = true := fun w h => hts w (List.mem_cons_of_mem _ h)
  have hAB : ∀ q, nv q → B0 ≤ q := fun _ h => h.elim
  unfold fJ8_newLength_cabcc at hf
  refine lv_iload_n hx hb dJ8_newLength_cabcc_0 rfl (lv_at hl 0 rfl) ?_
  refine lv_iload_n hx hb dJ8_newLength_cabcc_1 rfl (lv_at hl 1 rfl) ?_
  refine lv_iload_n hx hb dJ8_newLength_cabcc_2 rfl (lv_at hl 2 rfl) ?_
  refine va_mmax hx hb (hml.trans hl.1.symm) hown (hw _ (pm_J8_194 _ (by simp))) (hw _ (pm_J8_194 _ (by simp))) (hw _ (pm_J8_194 _ (by simp))) (hw _ (pm_J8_194 _ (by simp))) (by decide) (Nat.le_of_ble_eq_true rfl) (Nat.zero_le _) (Nat.zero_le _) dJ8_newLength_cabcc_3 ?_
  refine lv_iadd hx hb dJ8_newLength_cabcc_6 ?_
  refine lv_istore_n (lv' := [(3, .int (a1 + (if a2 < a3 then a3 else a2))), (0, .int a1), (1, .int a2), (2, .int a3)]) hx hb dJ8_newLength_cabcc_7 rfl hl (by decide) rfl (fun ls hl => ?_)
  refine lv_iconst (v := 0) hx hb dJ8_newLength_cabcc_8 (by decide) ?_
  refine lv_iload_n hx hb dJ8_newLength_cabcc_9 rfl (lv_at hl 0 rfl) ?_
  refine lv_icmp_ge (tgt := 21) hx hb dJ8_newLength_cabcc_10 (by decide) (fun c1 => ?_) (fun c1 => ?_)
  · rw [if_pos c1] at hf
    refine lv_iload_n hx hb dJ8_newLength_cabcc_21 rfl (lv_at hl 1 rfl) ?_
    refine lv_iload_n hx hb dJ8_newLength_cabcc_22 rfl (lv_at hl 2 rfl) ?_
    exact nomatch hf
  · rw [if_neg c1] at hf
    refine lv_iload_n hx hb dJ8_newLength_cabcc_13 rfl (lv_at hl 0 rfl) ?_
    refine lv_ldc (v := 2147483639) hx hb hown (hw _ kc_J8_200) dJ8_newLength_cabcc_14 ?_
    refine lv_icmp_gt (tgt := 21) hx hb dJ8_newLength_cabcc_16 (by decide) (fun c2 => ?_) (fun c2 => ?_)
    · rw [if_pos c2] at hf
      refine lv_iload_n hx hb dJ8_newLength_cabcc_21 rfl (lv_at hl 1 rfl) ?_
      refine lv_iload_n hx hb dJ8_newLength_cabcc_22 rfl (lv_at hl 2 rfl) ?_
      exact nomatch hf
    · rw [if_neg c2] at hf
      refine lv_iload_n hx hb dJ8_newLength_cabcc_19 rfl (lv_at hl 0 rfl) ?_
      have hre := Option.some.inj hf
      subst hre
      exact mu_i (v := (a1 + (if a2 < a3 then a3 else a2))) hx hb hrt hlocks trivial hS dJ8_newLength_cabcc_20
def fJ5_newCapacity_0f7a4 (So : Mem) (Sy : Mem) (cp : Nat) (a1 : Int32) : Option (Int32) := (fJ8_newLength_cabcc (nI cp) ((a1 <<< ((So 0 1) &&& 31)) - (nI cp)) ((nI cp) + ((2 : Int32) <<< ((So 0 1) &&& 31)))).bind fun z1 => (if z1 = (2147483647 : Int32) then none else some (z1 >>> ((So 0 1) &&& 31)))
set_option maxHeartbeats 4000000 in
set_option maxRecDepth 100000 in
theorem mJ5_newCapacity_0f7a4 (l : Launch) (E : EP) (B0 : Nat) (bs : Nat) (w : Nat) (hb0 : B0 ≤ bs) (hb1 : 1 ≤ w) (So : Mem) (Sy : Mem) (cp : Nat) (a1 : Int32) (r : Int32) (hf : fJ5_newCapacity_0f7a4 So Sy cp a1 = some r) : MU l E B0 yJ5_newCapacity_0f7a4 cJ5_newCapacity_0f7a4 6 (some .int) 2 0 0 [.ref (bs + 0), .int a1] (fun H => Blk E bs (sbO w) 1 So H ∧ Blk E (bs + w) (sbB cp) 1 Sy H) (some (.int r)) (fun H => Blk E bs (sbO w) 1 So H ∧ Blk E (bs + w) (sbB cp) 1 Sy H) nv := by
  refine mu_of (by decide +kernel) (Nat.le_of_ble_eq_true rfl) ?_
  intro p e s m args below meth c hx hb hml hown hts hrt hlocks hE H hP9 hS ls hl
  obtain ⟨hSo, hSy⟩ := hP9
  have hown : s.vm.findClass RJ5 = some m.cls := hown
  have hl : lv_has ls 6 [(0, .ref (bs + 0)), (1, .int a1)] := hl
  have hw : ∀ w ∈ WA, w.before args s = true := fun w h => hts w (List.mem_cons_of_mem _ h)
  have hAB : ∀ q, nv q → B0 ≤ q := fun _ h => h.elim
  unfold fJ5_newCapacity_0f7a4 at hf
  refine lv_aload_n hx hb dJ5_newCapacity_0f7a4_0 rfl (lv_at hl 0 rfl) ?_
  refine w_get (k := 0) (v := .ref ((bs + w) + 0)) hx hb hw hown hE fl_J5_15 hSo (by decide) rfl rfl rfl dJ5_newCapacity_0f7a4_1 ?_
  refine w_blen (k := 0) hx hb hE hSy (by decide) rfl dJ5_newCapacity_0f7a4_4 ?_
  refine lv_istore_n (lv' := [(2, .int (nI cp)), (0, .ref (bs + 0)), (1, .int a1)]) hx hb dJ5_newCapacity_0f7a4_5 rfl hl (by decide) rfl (fun ls hl => ?_)
  refine lv_iload_n hx hb dJ5_newCapacity_0f7a4_6 rfl (lv_at hl 2 rfl) ?_
  refine lv_aload_n hx hb dJ5_newCapacity_0f7a4_7 rfl (lv_at hl 1 rfl) ?_
  refine w_get (k := 0) (v := .int (So 0 1)) hx hb hw hown hE fl_J5_22 hSo (by decide) rfl rfl rfl dJ5_newCapacity_0f7a4_8 ?_
  refine lv_ishl hx hb dJ5_newCapacity_0f7a4_11 ?_
  refine lv_istore_n (lv' := [(3, .int (a1 <<< ((So 0 1) &&& 31))), (2, .int (nI cp)), (0, .ref (bs + 0)), (1, .int a1)]) hx hb dJ5_newCapacity_0f7a4_12 rfl hl (by decide) rfl (fun ls hl => ?_)
  refine lv_iload_n hx hb dJ5_newCapacity_0f7a4_13 rfl (lv_at hl 0 rfl) ?_
  refine lv_iload_n hx hb dJ5_newCapacity_0f7a4_14 rfl (lv_at hl 1 rfl) ?_
  refine lv_isub hx hb dJ5_newCapacity_0f7a4_15 ?_
  refine lv_istore (lv' := [(4, .int ((a1 <<< ((So 0 1) &&& 31)) - (nI cp))), (3, .int (a1 <<< ((So 0 1) &&& 31))), (2, .int (nI cp)), (0, .ref (bs + 0)), (1, .int a1)]) hx hb dJ5_newCapacity_0f7a4_16 hl (by decide) rfl (fun ls hl => ?_)
  refine lv_iload_n hx hb dJ5_newCapacity_0f7a4_18 rfl (lv_at hl 2 rfl) ?_
  refine lv_iload hx hb dJ5_newCapacity_0f7a4_19 (lv_at hl 0 rfl) ?_
  refine lv_iload_n hx hb dJ5_newCapacity_0f7a4_21 rfl (lv_at hl 2 rfl) ?_
  refine lv_iconst (v := 2) hx hb dJ5_newCapacity_0f7a4_22 (by decide) ?_
  refine lv_aload_n hx hb dJ5_newCapacity_0f7a4_23 rfl (lv_at hl 3 rfl) ?_
  refine w_get (k := 0) (v := .int (So 0 1)) hx hb hw hown hE fl_J5_22 hSo (by decide) rfl rfl rfl dJ5_newCapacity_0f7a4_24 ?_
  refine lv_ishl hx hb dJ5_newCapacity_0f7a4_27 ?_
  refine lv_iadd hx hb dJ5_newCapacity_0f7a4_28 ?_
  obtain ⟨z1, hc2, hf⟩ := br_some hf
  refine mu_cS (As := [.int (nI cp), .int ((a1 <<< ((So 0 1) &&& 31)) - (nI cp)), .int ((nI cp) + ((2 : Int32) <<< ((So 0 1) &&& 31)))]) (rest := []) hx hb hml hown hts hE (mJ8_newLength_cabcc l E B0 (nI cp) ((a1 <<< ((So 0 1) &&& 31)) - (nI cp)) ((nI cp) + ((2 : Int32) <<< ((So 0 1) &&& 31))) z1 hc2) cs_J5_114 trivial hS hAB (fun _ h => h.elim) rfl hl.1 rfl (by decide) (Nat.le_of_ble_eq_true rfl) ⟨Nat.le_refl _, Nat.le_refl _⟩ dJ5_newCapacity_0f7a4_29 (fun H locs _ _ hu hS => ?_)
  have hSo := Blk.off hSo hu (fun _ _ _ h => h)
  have hSy := Blk.off hSy hu (fun _ _ _ h => h)
  refine lv_istore (lv' := [(5, .int z1), (4, .int ((a1 <<< ((So 0 1) &&& 31)) - (nI cp))), (3, .int (a1 <<< ((So 0 1) &&& 31))), (2, .int (nI cp)), (0, .ref (bs + 0)), (1, .int a1)]) hx hb dJ5_newCapacity_0f7a4_32 hl (by decide) rfl (fun ls hl => ?_)
  refine lv_iload hx hb dJ5_newCapacity_0f7a4_34 (lv_at hl 0 rfl) ?_
  refine lv_ldc (v := 2147483647) hx hb hown (hw _ kc_J5_39) dJ5_newCapacity_0f7a4_36 ?_
  refine lv_icmp_ne (tgt := 51) hx hb dJ5_newCapacity_0f7a4_38 (by decide) (fun c3 => ?_) (fun c3 => ?_)
  · rw [if_neg c3] at hf
    refine lv_iload hx hb dJ5_newCapacity_0f7a4_51 (lv_at hl 0 rfl) ?_
    refine lv_aload_n hx hb dJ5_newCapacity_0f7a4_53 rfl (lv_at hl 4 rfl) ?_
    refine w_get (k := 0) (v := .int (So 0 1)) hx hb hw hown hE fl_J5_22 hSo (by decide) rfl rfl rfl dJ5_newCapacity_0f7a4_54 ?_
    refine lv_ishr hx hb dJ5_newCapacity_0f7a4_57 ?_
    have hre := Option.some.inj hf
    subst hre
    exact mu_i (v := (z1 >>> ((So 0 1) &&& 31))) hx hb hrt hlocks ⟨hSo, hSy⟩ hS dJ5_newCapacity_0f7a4_58
  · rw [if_pos c3] at hf
    exact nomatch hf
def fJ5_ensureCapacityInternal_d00df (So : Mem) (Sy : Mem) (cp : Nat) (a1 : Int32) : Option (Unit) := (if (a1 - ((nI cp) >>> ((So 0 1) &&& 31))) ≤ 0 then some () else none)
set_option maxHeartbeats 4000000 in
set_option maxRecDepth 100000 in
theorem mJ5_ensureCapacityInternal_d00df (l : Launch) (E : EP) (B0 : Nat) (bs : Nat) (w : Nat) (hb0 : B0 ≤ bs) (hb1 : 1 ≤ w) (So : Mem) (Sy : Mem) (cp : Nat) (a1 : Int32) (r : Unit) (hf : fJ5_ensureCapacityInternal_d00df So Sy cp a1 = some r) : MU l E B0 yJ5_ensureCapacityInternal_d00df cJ5_ensureCapacityInternal_d00df 3 none 3 0 0 [.ref (bs + 0), .int a1] (fun H => Blk E bs (sbO w) 1 So H ∧ Blk E (bs + w) (sbB cp) 1 Sy H) none (fun H => Blk E bs (sbO w) 1 So H ∧ Blk E (bs + w) (sbB cp) 1 Sy H) nv := by
  refine mu_of (by decide +kernel) (Nat.le_of_ble_eq_true rfl) ?_
  intro p e s m args below meth c hx hb hml hown hts hrt hlocks hE H hP9 hS ls hl
  obtain ⟨hSo, hSy⟩ := hP9
  have hown : s.vm.findClass RJ5 = some m.cls := hown
  have hl : lv_has ls 3 [(0, .ref (bs + 0)), (1, .int a1)] := hl
  have hw : ∀ w ∈ WA, w.before args s = true := fun w h => hts w (List.mem_cons_of_mem _ h)
  have hAB : ∀ q, nv q → B0 ≤ q := fun _ h => h.elim
  unfold fJ5_ensureCapacityInternal_d00df at hf
  refine lv_aload_n hx hb dJ5_ensureCapacityInternal_d00df_0 rfl (lv_at hl 0 rfl) ?_
  refine w_get (k := 0) (v := .ref ((bs + w) + 0)) hx hb hw hown hE fl_J5_15 hSo (by decide) rfl rfl rfl dJ5_ensureCapacityInternal_d00df_1 ?_
  refine w_blen (k := 0) hx hb hE hSy (by decide) rfl dJ5_ensureCapacityInternal_d00df_4 ?_
  refine lv_aload_n hx hb dJ5_ensureCapacityInternal_d00df_5 rfl (lv_at hl 0 rfl) ?_
  refine w_get (k := 0) (v := .int (So 0 1)) hx hb hw hown hE fl_J5_22 hSo (by decide) rfl rfl rfl dJ5_ensureCapacityInternal_d00df_6 ?_
  refine lv_ishr hx hb dJ5_ensureCapacityInternal_d00df_9 ?_
  refine lv_istore_n (lv' := [(2, .int ((nI cp) >>> ((So 0 1) &&& 31))), (0, .ref (bs + 0)), (1, .int a1)]) hx hb dJ5_ensureCapacityInternal_d00df_10 rfl hl (by decide) rfl (fun ls hl => ?_)
  refine lv_iload_n hx hb dJ5_ensureCapacityInternal_d00df_11 rfl (lv_at hl 2 rfl) ?_
  refine lv_iload_n hx hb dJ5_ensureCapacityInternal_d00df_12 rfl (lv_at hl 0 rfl) ?_
  refine lv_isub hx hb dJ5_ensureCapacityInternal_d00df_13 ?_
  refine lv_if_le (tgt := 38) hx hb dJ5_ensureCapacityInternal_d00df_14 (by decide) (fun c1 => ?_) (fun c1 => ?_)
  · rw [if_pos c1] at hf
    have hre := Option.some.inj hf
    subst hre
    exact mu_v hx hb hrt hlocks ⟨hSo, hSy⟩ hS dJ5_ensureCapacityInternal_d00df_38
  · rw [if_neg c1] at hf
    refine lv_aload_n hx hb dJ5_ensureCapacityInternal_d00df_17 rfl (lv_at hl 1 rfl) ?_
    refine lv_aload_n hx hb dJ5_ensureCapacityInternal_d00df_18 rfl (lv_at hl 1 rfl) ?_
    refine w_get (k := 0) (v := .ref ((bs + w) + 0)) hx hb hw hown hE fl_J5_15 hSo (by decide) rfl rfl rfl dJ5_ensureCapacityInternal_d00df_19 ?_
    refine lv_aload_n hx hb dJ5_ensureCapacityInternal_d00df_22 rfl (lv_at hl 1 rfl) ?_
    refine lv_iload_n hx hb dJ5_ensureCapacityInternal_d00df_23 rfl (lv_at hl 2 rfl) ?_
    exact nomatch hf
def fJ5_charAt_5068e (So : Mem) (Sy : Mem) (cp : Nat) (a1 : Int32) : Option (Int32) := (fJ0_checkIndex_df160 a1 (if ((nI cp) >>> ((So 0 1) &&& 31)) < (So 0 3) then ((nI cp) >>> ((So 0 1) &&& 31)) else (So 0 3))).bind fun z1 => (if (So 0 1) = 0 then gd (inb a1 cp) (gd (isC ((((Sy 0 a1.toNatClampNeg) &&& 255).toUInt32 % 65536).toInt32)) (some ((((Sy 0 a1.toNatClampNeg) &&& 255).toUInt32 % 65536).toInt32))) else none)
set_option maxHeartbeats 4000000 in
set_option maxRecDepth 100000 in
theorem mJ5_charAt_5068e (l : Launch) (E : EP) (B0 : Nat) (bs : Nat) (w : Nat) (hb0 : B0 ≤ bs) (hb1 : 1 ≤ w) (So : Mem) (Sy : Mem) (cp : Nat) (a1 : Int32) (r : Int32) (hf : fJ5_charAt_5068e So Sy cp a1 = some r) : MU l E B0 yJ5_charAt_5068e cJ5_charAt_5068e 5 (some .char) 2 0 0 [.ref (bs + 0), .int a1] (fun H => Blk E bs (sbO w) 1 So H ∧ Blk E (bs + w) (sbB cp) 1 Sy H) (some (.int r)) (fun H => Blk E bs (sbO w) 1 So H ∧ Blk E (bs + w) (sbB cp) 1 Sy H) nv := by
  refine mu_of (by decide +kernel) (Nat.le_of_ble_eq_true rfl) ?_
  intro p e s m args below meth c hx hb hml hown hts hrt hlocks hE H hP9 hS ls hl
  obtain ⟨hSo, hSy⟩ := hP9
  have hown : s.vm.findClass RJ5 = some m.cls := hown
  have hl : lv_has ls 5 [(0, .ref (bs + 0)), (1, .int a1)] := hl
  have hw : ∀ w ∈ WA, w.before args s = true := fun w h => hts w (List.mem_cons_of_mem _ h)
  have hAB : ∀ q, nv q → B0 ≤ q := fun _ h => h.elim
  unfold fJ5_charAt_5068e at hf
  refine lv_aload_n hx hb dJ5_charAt_5068e_0 rfl (lv_at hl 0 rfl) ?_
  refine w_get (k := 0) (v := .int (So 0 1)) hx hb hw hown hE fl_J5_22 hSo (by decide) rfl rfl rfl dJ5_charAt_5068e_1 ?_
  refine lv_istore_n (lv' := [(2, .int (So 0 1)), (0, .ref (bs + 0)), (1, .int a1)]) hx hb dJ5_charAt_5068e_4 rfl hl (by decide) rfl (fun ls hl => ?_)
  refine lv_aload_n hx hb dJ5_charAt_5068e_5 rfl (lv_at hl 1 rfl) ?_
  refine w_get (k := 0) (v := .ref ((bs + w) + 0)) hx hb hw hown hE fl_J5_15 hSo (by decide) rfl rfl rfl dJ5_charAt_5068e_6 ?_
  refine lv_astore_n (lv' := [(3, .ref ((bs + w) + 0)), (2, .int (So 0 1)), (0, .ref (bs + 0)), (1, .int a1)]) hx hb dJ5_charAt_5068e_9 rfl hl (by decide) rfl (fun ls hl => ?_)
  refine lv_aload_n hx hb dJ5_charAt_5068e_10 rfl (lv_at hl 2 rfl) ?_
  refine w_get (k := 0) (v := .int (So 0 3)) hx hb hw hown hE fl_J5_79 hSo (by decide) rfl rfl rfl dJ5_charAt_5068e_11 ?_
  refine lv_aload_n hx hb dJ5_charAt_5068e_14 rfl (lv_at hl 0 rfl) ?_
  refine w_blen (k := 0) hx hb hE hSy (by decide) rfl dJ5_charAt_5068e_15 ?_
  refine lv_iload_n hx hb dJ5_charAt_5068e_16 rfl (lv_at hl 1 rfl) ?_
  refine lv_ishr hx hb dJ5_charAt_5068e_17 ?_
  refine va_mmin hx hb (hml.trans hl.1.symm) hown (hw _ (pm_J5_138 _ (by simp))) (hw _ (pm_J5_138 _ (by simp))) (hw _ (pm_J5_138 _ (by simp))) (hw _ (pm_J5_138 _ (by simp))) (by decide) (Nat.le_of_ble_eq_true rfl) (Nat.zero_le _) (Nat.zero_le _) dJ5_charAt_5068e_18 ?_
  refine lv_istore (lv' := [(4, .int (if ((nI cp) >>> ((So 0 1) &&& 31)) < (So 0 3) then ((nI cp) >>> ((So 0 1) &&& 31)) else (So 0 3))), (3, .ref ((bs + w) + 0)), (2, .int (So 0 1)), (0, .ref (bs + 0)), (1, .int a1)]) hx hb dJ5_charAt_5068e_21 hl (by decide) rfl (fun ls hl => ?_)
  refine lv_iload_n hx hb dJ5_charAt_5068e_23 rfl (lv_at hl 4 rfl) ?_
  refine lv_iload hx hb dJ5_charAt_5068e_24 (lv_at hl 0 rfl) ?_
  obtain ⟨z1, hc2, hf⟩ := br_some hf
  refine mu_cS (As := [.int a1, .int (if ((nI cp) >>> ((So 0 1) &&& 31)) < (So 0 3) then ((nI cp) >>> ((So 0 1) &&& 31)) else (So 0 3))]) (rest := []) hx hb hml hown hts hE (mJ0_checkIndex_df160 l E B0 a1 (if ((nI cp) >>> ((So 0 1) &&& 31)) < (So 0 3) then ((nI cp) >>> ((So 0 1) &&& 31)) else (So 0 3)) z1 hc2) cs_J5_144 trivial hS hAB (fun _ h => h.elim) rfl hl.1 rfl (by decide) (Nat.le_of_ble_eq_true rfl) ⟨Nat.le_refl _, Nat.le_refl _⟩ dJ5_charAt_5068e_26 (fun H locs _ _ hu hS => ?_)
  have hSo := Blk.off hSo hu (fun _ _ _ h => h)
  have hSy := Blk.off hSy hu (fun _ _ _ h => h)
  refine lv_iload_n hx hb dJ5_charAt_5068e_29 rfl (lv_at hl 2 rfl) ?_
  refine lv_if_ne (tgt := 42) hx hb dJ5_charAt_5068e_30 (by decide) (fun c3 => ?_) (fun c3 => ?_)
  · rw [if_neg c3] at hf
    refine lv_aload_n hx hb dJ5_charAt_5068e_42 rfl (lv_at hl 1 rfl) ?_
    refine lv_iload_n hx hb dJ5_charAt_5068e_43 rfl (lv_at hl 4 rfl) ?_
    exact nomatch hf
  · rw [if_pos c3] at hf
    refine lv_aload_n hx hb dJ5_charAt_5068e_33 rfl (lv_at hl 1 rfl) ?_
    refine lv_iload_n hx hb dJ5_charAt_5068e_34 rfl (lv_at hl 4 rfl) ?_
    obtain ⟨h4, hf⟩ := gd_some hf
    refine w_bald (k := 0) (x9 := a1.toNatClampNeg) hx hb hE hSy (by decide) rfl rfl h4 dJ5_charAt_5068e_35 ?_
    refine lv_sipush (v := 255) hx hb dJ5_charAt_5068e_36 (by decide) ?_
    refine lv_iand hx hb dJ5_charAt_5068e_39 ?_
    refine lv_i2c (v := (((Sy 0 a1.toNatClampNeg) &&& 255).toUInt32 % 65536).toInt32) hx hb dJ5_charAt_5068e_40 rfl ?_
    obtain ⟨h5, hf⟩ := gd_some hf
    have hre := Option.some.inj hf
    subst hre
    exact mu_z (v := ((((Sy 0 a1.toNatClampNeg) &&& 255).toUInt32 % 65536).toInt32)) hx hb hrt (isC_n h5) hlocks ⟨hSo, hSy⟩ hS dJ5_charAt_5068e_41
def fJ5_setLength_d00df (So : Mem) (Sy : Mem) (cp : Nat) (a1 : Int32) : Option (Mem) := (if 0 ≤ a1 then (fJ5_ensureCapacityInternal_d00df So Sy cp a1).bind fun z2 => (if a1 ≤ (So 0 3) then (if (So 0 3) ≤ a1 then some (up2 So 0 3 a1) else some (up2 (up2 So 0 2 (1 : Int32)) 0 3 a1)) else (fJ5_isLatin1_aae02 So cp).bind fun z6 => (if z6 = 0 then none else none)) else none)
set_option maxHeartbeats 4000000 in
set_option maxRecDepth 100000 in
theorem mJ5_setLength_d00df (l : Launch) (E : EP) (B0 : Nat) (bs : Nat) (w : Nat) (hb0 : B0 ≤ bs) (hb1 : 1 ≤ w) (So : Mem) (Sy : Mem) (cp : Nat) (a1 : Int32) (r : Mem) (hf : fJ5_setLength_d00df So Sy cp a1 = some r) : MU l E B0 yJ5_setLength_d00df cJ5_setLength_d00df 2 none 4 0 0 [.ref (bs + 0), .int a1] (fun H => Blk E bs (sbO w) 1 So H ∧ Blk E (bs + w) (sbB cp) 1 Sy H) none (fun H => Blk E bs (sbO w) 1 r H ∧ Blk E (bs + w) (sbB cp) 1 Sy H) (iv bs 1) := by
  refine mu_of (by decide +kernel) (Nat.le_of_ble_eq_true rfl) ?_
  intro p e s m args below meth c hx hb hml hown hts hrt hlocks hE H hP9 hS ls hl
  obtain ⟨hSo, hSy⟩ := hP9
  have hown : s.vm.findClass RJ5 = some m.cls := hown
  have hl : lv_has ls 2 [(0, .ref (bs + 0)), (1, .int a1)] := hl
  have hw : ∀ w ∈ WA, w.before args s = true := fun w h => hts w (List.mem_cons_of_mem _ h)
  have hAB : ∀ q, (iv bs 1) q → B0 ≤ q := (iv_ge (by omega))
  unfold fJ5_setLength_d00df at hf
  refine lv_iload_n hx hb dJ5_setLength_d00df_0 rfl (lv_at hl 1 rfl) ?_
  refine lv_if_ge (tgt := 13) hx hb dJ5_setLength_d00df_1 (by decide) (fun c1 => ?_) (fun c1 => ?_)
  · rw [if_pos c1] at hf
    refine lv_aload_n hx hb dJ5_setLength_d00df_13 rfl (lv_at hl 0 rfl) ?_
    refine lv_iload_n hx hb dJ5_setLength_d00df_14 rfl (lv_at hl 1 rfl) ?_
    obtain ⟨z2, hc3, hf⟩ := br_some hf
    refine mu_cVU (As := [.int a1]) (rest := []) hx hb hml hown hts hE (mJ5_ensureCapacityInternal_d00df l E B0 bs w (by omega) (by omega) So Sy cp a1 z2 hc3) ci_J5_100 (w_recv (k := 0) (ci := 1) hE hSo (by decide) rfl rfl) ⟨hSo, hSy⟩ hS hAB (fun _ h => h.elim) rfl hl.1 rfl (by decide) (Nat.le_of_ble_eq_true rfl) ⟨Nat.le_refl _, Nat.le_refl _⟩ dJ5_setLength_d00df_15 (fun H locs hP9 _ hu hS => ?_)
    obtain ⟨hSo, hSy⟩ := hP9
    refine lv_aload_n hx hb dJ5_setLength_d00df_18 rfl (lv_at hl 0 rfl) ?_
    refine w_get (k := 0) (v := .int (So 0 3)) hx hb hw hown hE fl_J5_79 hSo (by decide) rfl rfl rfl dJ5_setLength_d00df_19 ?_
    refine lv_iload_n hx hb dJ5_setLength_d00df_22 rfl (lv_at hl 1 rfl) ?_
    refine lv_icmp_ge (tgt := 63) hx hb dJ5_setLength_d00df_23 (by decide) (fun c4 => ?_) (fun c4 => ?_)
    · rw [if_pos c4] at hf
      refine lv_aload_n hx hb dJ5_setLength_d00df_63 rfl (lv_at hl 0 rfl) ?_
      refine w_get (k := 0) (v := .int (So 0 3)) hx hb hw hown hE fl_J5_79 hSo (by decide) rfl rfl rfl dJ5_setLength_d00df_64 ?_
      refine lv_iload_n hx hb dJ5_setLength_d00df_67 rfl (lv_at hl 1 rfl) ?_
      refine lv_icmp_le (tgt := 76) hx hb dJ5_setLength_d00df_68 (by decide) (fun c5 => ?_) (fun c5 => ?_)
      · rw [if_pos c5] at hf
        refine lv_aload_n hx hb dJ5_setLength_d00df_76 rfl (lv_at hl 0 rfl) ?_
        refine lv_iload_n hx hb dJ5_setLength_d00df_77 rfl (lv_at hl 1 rfl) ?_
        refine w_put (k := 0) (v := .int a1) hx hb hw hown hE fl_J5_79 fw_J4_3 hSo (by decide) rfl rfl a1 rfl rfl rfl hS (iv_mem (by decide)) dJ5_setLength_d00df_78 (fun H locs hSo _ hu hS => ?_)
        have hu := hu_iv (n := 1) (by decide) hu
        have hSy := Blk.off hSy hu (iv_dis (by omega))
        have hre := Option.some.inj hf
        subst hre
        exact mu_v hx hb hrt hlocks ⟨hSo, hSy⟩ hS dJ5_setLength_d00df_81
      · rw [if_neg c5] at hf
        refine lv_aload_n hx hb dJ5_setLength_d00df_71 rfl (lv_at hl 0 rfl) ?_
        refine lv_iconst (v := 1) hx hb dJ5_setLength_d00df_72 (by decide) ?_
        refine w_put (k := 0) (v := .int 1) hx hb hw hown hE fl_J5_73 fw_J4_2 hSo (by decide) rfl rfl (1 : Int32) rfl rfl rfl hS (iv_mem (by decide)) dJ5_setLength_d00df_73 (fun H locs hSo _ hu hS => ?_)
        have hu := hu_iv (n := 1) (by decide) hu
        have hSy := Blk.off hSy hu (iv_dis (by omega))
        refine lv_aload_n hx hb dJ5_setLength_d00df_76 rfl (lv_at hl 0 rfl) ?_
        refine lv_iload_n hx hb dJ5_setLength_d00df_77 rfl (lv_at hl 1 rfl) ?_
        refine w_put (k := 0) (v := .int a1) hx hb hw hown hE fl_J5_79 fw_J4_3 hSo (by decide) rfl rfl a1 rfl rfl rfl hS (iv_mem (by decide)) dJ5_setLength_d00df_78 (fun H locs hSo _ hu hS => ?_)
        have hu := hu_iv (n := 1) (by decide) hu
        have hSy := Blk.off hSy hu (iv_dis (by omega))
        have hre := Option.some.inj hf
        subst hre
        exact mu_v hx hb hrt hlocks ⟨hSo, hSy⟩ hS dJ5_setLength_d00df_81
    · rw [if_neg c4] at hf
      refine lv_aload_n hx hb dJ5_setLength_d00df_26 rfl (lv_at hl 0 rfl) ?_
      obtain ⟨z6, hc7, hf⟩ := br_some hf
      refine mu_cVU (As := []) (rest := []) hx hb hml hown hts hE (mJ5_isLatin1_aae02 l E B0 bs w (by omega) (by omega) So cp z6 hc7) ci_J5_83 (w_recv (k := 0) (ci := 1) hE hSo (by decide) rfl rfl) hSo hS hAB (fun _ h => h.elim) rfl hl.1 rfl (by decide) (Nat.le_of_ble_eq_true rfl) ⟨Nat.le_refl _, Nat.le_refl _⟩ dJ5_setLength_d00df_27 (fun H locs hSo _ hu hS => ?_)
      have hSy := Blk.off hSy hu (fun _ _ _ h => h)
      refine lv_if_eq (tgt := 48) hx hb dJ5_setLength_d00df_30 (by decide) (fun c8 => ?_) (fun c8 => ?_)
      · rw [if_pos c8] at hf
        refine lv_aload_n hx hb dJ5_setLength_d00df_48 rfl (lv_at hl 0 rfl) ?_
        refine w_get (k := 0) (v := .ref ((bs + w) + 0)) hx hb hw hown hE fl_J5_15 hSo (by decide) rfl rfl rfl dJ5_setLength_d00df_49 ?_
        refine lv_aload_n hx hb dJ5_setLength_d00df_52 rfl (lv_at hl 0 rfl) ?_
        refine w_get (k := 0) (v := .int (So 0 3)) hx hb hw hown hE fl_J5_79 hSo (by decide) rfl rfl rfl dJ5_setLength_d00df_53 ?_
        refine lv_iload_n hx hb dJ5_setLength_d00df_56 rfl (lv_at hl 1 rfl) ?_
        exact nomatch hf
      · rw [if_neg c8] at hf
        refine lv_aload_n hx hb dJ5_setLength_d00df_33 rfl (lv_at hl 0 rfl) ?_
        refine w_get (k := 0) (v := .ref ((bs + w) + 0)) hx hb hw hown hE fl_J5_15 hSo (by decide) rfl rfl rfl dJ5_setLength_d00df_34 ?_
        refine lv_aload_n hx hb dJ5_setLength_d00df_37 rfl (lv_at hl 0 rfl) ?_
        refine w_get (k := 0) (v := .int (So 0 3)) hx hb hw hown hE fl_J5_79 hSo (by decide) rfl rfl rfl dJ5_setLength_d00df_38 ?_
        refine lv_iload_n hx hb dJ5_setLength_d00df_41 rfl (lv_at hl 1 rfl) ?_
        exact nomatch hf
  · rw [if_neg c1] at hf
    exact nomatch hf
def fJ1_canEncode_fc78d (a1 : Int32) : Option (Int32) := (if (255 : Int32) < a1 then some 0 else some 1)
set_option maxHeartbeats 4000000 in
set_option maxRecDepth 100000 in
theorem mJ1_canEncode_fc78d (l : Launch) (E : EP) (B0 : Nat) (a1 : Int32) (r : Int32) (hf : fJ1_canEncode_fc78d a1 = some r) : MU l E B0 yJ1_canEncode_fc78d cJ1_canEncode_fc78d 1 (some .boolean) 0 0 0 [.int a1] (fun _ => True) (some (.int r)) (fun _ => True) nv := by
  refine mu_of (by decide +kernel) (Nat.le_of_ble_eq_true rfl) ?_
  intro p e s m args below meth c hx hb hml hown hts hrt hlocks hE H _ hS ls hl
  have hown : s.vm.findClass RJ1 = some m.cls := hown
  have hl : lv_has ls 1 [(0, .int a1)] := hl
  have hw : ∀ w ∈ WA, w.before args s = true := fun w h => hts w (List.mem_cons_of_mem _ h)
  have hAB : ∀ q, nv q → B0 ≤ q := fun _ h => h.elim
  unfold fJ1_canEncode_fc78d at hf
  refine lv_iload_n hx hb dJ1_canEncode_fc78d_0 rfl (lv_at hl 0 rfl) ?_
  refine lv_sipush (v := 255) hx hb dJ1_canEncode_fc78d_1 (by decide) ?_
  refine lv_icmp_gt (tgt := 11) hx hb dJ1_canEncode_fc78d_4 (by decide) (fun c1 => ?_) (fun c1 => ?_)
  · rw [if_pos c1] at hf
    refine lv_iconst (v := 0) hx hb dJ1_canEncode_fc78d_11 (by decide) ?_
    have hre := Option.some.inj hf
    subst hre
    exact mu_z (v := 0) hx hb hrt rfl hlocks trivial hS dJ1_canEncode_fc78d_12
  · rw [if_neg c1] at hf
    refine lv_iconst (v := 1) hx hb dJ1_canEncode_fc78d_7 (by decide) ?_
    refine lv_goto (tgt := 12) hx hb dJ1_canEncode_fc78d_8 (by decide) ?_
    have hre := Option.some.inj hf
    subst hre
    exact mu_z (v := 1) hx hb hrt rfl hlocks trivial hS dJ1_canEncode_fc78d_12
def fJ6_stringSize_0f7a4_s (a1 : Int32) (z : Int32 × Int32 × Int32 × Int32) : Option ((Int32 × Int32 × Int32 × Int32) ⊕ (Int32)) := (if (10 : Int32) ≤ z.2.2.2 then some (.inr ((10 : Int32) + z.2.1)) else (if z.1 ≤ z.2.2.1 then some (.inl (z.1, z.2.1, ((10 : Int32) * z.2.2.1), (z.2.2.2 + 1))) else some (.inr (z.2.2.2 + z.2.1))))
noncomputable def fJ6_stringSize_0f7a4 (a1 : Int32) : Option (Int32) := (if a1 < 0 then lp (fJ6_stringSize_0f7a4_s a1) (a1, 1, -10, 1) else lp (fJ6_stringSize_0f7a4_s a1) ((-a1), 0, -10, 1))
set_option maxHeartbeats 4000000 in
set_option maxRecDepth 100000 in
theorem mJ6_stringSize_0f7a4 (l : Launch) (E : EP) (B0 : Nat) (a1 : Int32) (r : Int32) (hf : fJ6_stringSize_0f7a4 a1 = some r) : MU l E B0 yJ6_stringSize_0f7a4 cJ6_stringSize_0f7a4 4 (some .int) 0 0 0 [.int a1] (fun _ => True) (some (.int r)) (fun _ => True) nv := by
  refine mu_of (by decide +kernel) (Nat.le_of_ble_eq_true rfl) ?_
  intro p e s m args below meth c hx hb hml hown hts hrt hlocks hE H _ hS ls hl
  have hown : s.vm.findClass RJ6 = some m.cls := hown
  have hl : lv_has ls 4 [(0, .int a1)] := hl
  have hw : ∀ w ∈ WA, w.before args s = true := fun w h => hts w (List.mem_cons_of_mem _ h)
  have hAB : ∀ q, nv q → B0 ≤ q := fun _ h => h.elim
  unfold fJ6_stringSize_0f7a4 at hf
  have loop : ∀ (fu : Nat) (z : Int32 × Int32 × Int32 × Int32), lpI (fJ6_stringSize_0f7a4_s a1) fu z = some r → (∀ (H : Heap) (locs : List Loc) (ls : Array Slot), va_S nv s.heap H locs → lv_has ls 4 [(0, .int z.1), (1, .int z.2.1), (2, .int z.2.2.1), (3, .int z.2.2.2)] → W p l e (rmD 0 0 0) s m args below meth c H locs 0 0 (MQ below (QU (some (.int r)) (fun _ => True) nv) args s 0 0 nv) (F0 m 16 ls [])) := by
    intro fu
    induction fu with
    | zero =>
      intro z hn
      exact nomatch hn
    | succ fu ih =>
      intro z hn
      obtain ⟨y, hf, hy⟩ := lpI_succ hn
      intro H locs ls hS hl
      unfold fJ6_stringSize_0f7a4_s at hf
      refine lv_iload_n hx hb dJ6_stringSize_0f7a4_16 rfl (lv_at hl 3 rfl) ?_
      refine lv_bipush (v := 10) hx hb dJ6_stringSize_0f7a4_17 (by decide) ?_
      refine lv_icmp_ge (tgt := 42) hx hb dJ6_stringSize_0f7a4_19 (by decide) (fun c1 => ?_) (fun c1 => ?_)
      · rw [if_pos c1] at hf
        refine lv_bipush (v := 10) hx hb dJ6_stringSize_0f7a4_42 (by decide) ?_
        refine lv_iload_n hx hb dJ6_stringSize_0f7a4_44 rfl (lv_at hl 1 rfl) ?_
        refine lv_iadd hx hb dJ6_stringSize_0f7a4_45 ?_
        have hre := lp_end hy (Option.some.inj hf).symm
        subst hre
        exact mu_i (v := ((10 : Int32) + z.2.1)) hx hb hrt hlocks trivial hS dJ6_stringSize_0f7a4_46
      · rw [if_neg c1] at hf
        refine lv_iload_n hx hb dJ6_stringSize_0f7a4_22 rfl (lv_at hl 0 rfl) ?_
        refine lv_iload_n hx hb dJ6_stringSize_0f7a4_23 rfl (lv_at hl 2 rfl) ?_
        refine lv_icmp_le (tgt := 31) hx hb dJ6_stringSize_0f7a4_24 (by decide) (fun c2 => ?_) (fun c2 => ?_)
        · rw [if_pos c2] at hf
          refine lv_bipush (v := 10) hx hb dJ6_stringSize_0f7a4_31 (by decide) ?_
          refine lv_iload_n hx hb dJ6_stringSize_0f7a4_33 rfl (lv_at hl 2 rfl) ?_
          refine lv_imul hx hb dJ6_stringSize_0f7a4_34 ?_
          refine lv_istore_n (lv' := [(2, .int ((10 : Int32) * z.2.2.1)), (0, .int z.1), (1, .int z.2.1), (3, .int z.2.2.2)]) hx hb dJ6_stringSize_0f7a4_35 rfl hl (by decide) rfl (fun ls hl => ?_)
          refine lv_iinc (v := (z.2.2.2 + 1)) (lv' := [(3, .int (z.2.2.2 + 1)), (2, .int ((10 : Int32) * z.2.2.1)), (0, .int z.1), (1, .int z.2.1)]) hx hb dJ6_stringSize_0f7a4_36 hl (k := 3) rfl rfl (by decide) rfl (fun ls hl => ?_)
          refine lv_goto (tgt := 16) hx hb dJ6_stringSize_0f7a4_39 (by decide) ?_
          exact ih (z.1, z.2.1, ((10 : Int32) * z.2.2.1), (z.2.2.2 + 1)) (lp_back hy (Option.some.inj hf).symm) _ _ _ hS (lv_sub hl [2, 3, 1, 0] rfl)
        · rw [if_neg c2] at hf
          refine lv_iload_n hx hb dJ6_stringSize_0f7a4_27 rfl (lv_at hl 3 rfl) ?_
          refine lv_iload_n hx hb dJ6_stringSize_0f7a4_28 rfl (lv_at hl 1 rfl) ?_
          refine lv_iadd hx hb dJ6_stringSize_0f7a4_29 ?_
          have hre := lp_end hy (Option.some.inj hf).symm
          subst hre
          exact mu_i (v := (z.2.2.2 + z.2.1)) hx hb hrt hlocks trivial hS dJ6_stringSize_0f7a4_30
  refine lv_iconst (v := 1) hx hb dJ6_stringSize_0f7a4_0 (by decide) ?_
  refine lv_istore_n (lv' := [(1, .int 1), (0, .int a1)]) hx hb dJ6_stringSize_0f7a4_1 rfl hl (by decide) rfl (fun ls hl => ?_)
  refine lv_iload_n hx hb dJ6_stringSize_0f7a4_2 rfl (lv_at hl 1 rfl) ?_
  refine lv_if_lt (tgt := 11) hx hb dJ6_stringSize_0f7a4_3 (by decide) (fun c3 => ?_) (fun c3 => ?_)
  · rw [if_pos c3] at hf
    refine lv_bipush (v := -10) hx hb dJ6_stringSize_0f7a4_11 (by decide) ?_
    refine lv_istore_n (lv' := [(2, .int (-10)), (1, .int 1), (0, .int a1)]) hx hb dJ6_stringSize_0f7a4_13 rfl hl (by decide) rfl (fun ls hl => ?_)
    refine lv_iconst (v := 1) hx hb dJ6_stringSize_0f7a4_14 (by decide) ?_
    refine lv_istore_n (lv' := [(3, .int 1), (2, .int (-10)), (1, .int 1), (0, .int a1)]) hx hb dJ6_stringSize_0f7a4_15 rfl hl (by decide) rfl (fun ls hl => ?_)
    obtain ⟨fu, hfu⟩ := lp_some hf
    exact (loop fu (a1, 1, -10, 1) hfu) _ _ _ hS (lv_sub hl [3, 2, 1, 0] rfl)
  · rw [if_neg c3] at hf
    refine lv_iconst (v := 0) hx hb dJ6_stringSize_0f7a4_6 (by decide) ?_
    refine lv_istore_n (lv' := [(1, .int 0), (0, .int a1)]) hx hb dJ6_stringSize_0f7a4_7 rfl hl (by decide) rfl (fun ls hl => ?_)
    refine lv_iload_n hx hb dJ6_stringSize_0f7a4_8 rfl (lv_at hl 1 rfl) ?_
    refine lv_ineg hx hb dJ6_stringSize_0f7a4_9 ?_
    refine lv_istore_n (lv' := [(0, .int (-a1)), (1, .int 0)]) hx hb dJ6_stringSize_0f7a4_10 rfl hl (by decide) rfl (fun ls hl => ?_)
    refine lv_bipush (v := -10) hx hb dJ6_stringSize_0f7a4_11 (by decide) ?_
    refine lv_istore_n (lv' := [(2, .int (-10)), (0, .int (-a1)), (1, .int 0)]) hx hb dJ6_stringSize_0f7a4_13 rfl hl (by decide) rfl (fun ls hl => ?_)
    refine lv_iconst (v := 1) hx hb dJ6_stringSize_0f7a4_14 (by decide) ?_
    refine lv_istore_n (lv' := [(3, .int 1), (2, .int (-10)), (0, .int (-a1)), (1, .int 0)]) hx hb dJ6_stringSize_0f7a4_15 rfl hl (by decide) rfl (fun ls hl => ?_)
    obtain ⟨fu, hfu⟩ := lp_some hf
    exact (loop fu ((-a1), 0, -10, 1) hfu) _ _ _ hS (lv_sub hl [2, 3, 1, 0] rfl)
def fJ6_getChars_ba4f3_s (cp : Nat) (a1 : Int32) (a2 : Int32) (z : Int32 × Int32 × Int32 × Mem) : Option ((Int32 × Int32 × Int32 × Mem) ⊕ (Int32 × Mem)) := (if (-100 : Int32) < z.1 then gd (inb (-z.1) 100) (gd (inb (z.2.1 + (-1)) cp) ((if (-9 : Int32) ≤ z.1 then (if z.2.2.1 = 0 then some (.inr ((z.2.1 + (-1)), (up2 z.2.2.2 0 ((z.2.1 + (-1)).toNatClampNeg) (vp_nar .byte (nI (48 + (-z.1).toNatClampNeg % 10)))))) else gd (inb ((z.2.1 + (-1)) + (-1)) cp) (some (.inr (((z.2.1 + (-1)) + (-1)), (up2 (up2 z.2.2.2 0 ((z.2.1 + (-1)).toNatClampNeg) (vp_nar .byte (nI (48 + (-z.1).toNatClampNeg % 10)))) 0 (((z.2.1 + (-1)) + (-1)).toNatClampNeg) (vp_nar .byte (45 : Int32))))))) else gd (inb (-z.1) 100) (gd (inb ((z.2.1 + (-1)) + (-1)) cp) ((if z.2.2.1 = 0 then some (.inr (((z.2.1 + (-1)) + (-1)), (up2 (up2 z.2.2.2 0 ((z.2.1 + (-1)).toNatClampNeg) (vp_nar .byte (nI (48 + (-z.1).toNatClampNeg % 10)))) 0 (((z.2.1 + (-1)) + (-1)).toNatClampNeg) (vp_nar .byte (nI (48 + (-z.1).toNatClampNeg / 10)))))) else gd (inb (((z.2.1 + (-1)) + (-1)) + (-1)) cp) (some (.inr ((((z.2.1 + (-1)) + (-1)) + (-1)), (up2 (up2 (up2 z.2.2.2 0 ((z.2.1 + (-1)).toNatClampNeg) (vp_nar .byte (nI (48 + (-z.1).toNatClampNeg % 10)))) 0 (((z.2.1 + (-1)) + (-1)).toNatClampNeg) (vp_nar .byte (nI (48 + (-z.1).toNatClampNeg / 10)))) 0 ((((z.2.1 + (-1)) + (-1)) + (-1)).toNatClampNeg) (vp_nar .byte (45 : Int32)))))))))))) else gd (inb (((z.1 / 100) * 100) - z.1) 100) (gd (inb (z.2.1 + (-1)) cp) (gd (inb (((z.1 / 100) * 100) - z.1) 100) (gd (inb ((z.2.1 + (-1)) + (-1)) cp) (some (.inl ((z.1 / 100), ((z.2.1 + (-1)) + (-1)), z.2.2.1, (up2 (up2 z.2.2.2 0 ((z.2.1 + (-1)).toNatClampNeg) (vp_nar .byte (nI (48 + (((z.1 / 100) * 100) - z.1).toNatClampNeg % 10)))) 0 (((z.2.1 + (-1)) + (-1)).toNatClampNeg) (vp_nar .byte (nI (48 + (((z.1 / 100) * 100) - z.1).toNatClampNeg / 10)))))))))))
noncomputable def fJ6_getChars_ba4f3 (Sy : Mem) (cp : Nat) (a1 : Int32) (a2 : Int32) : Option (Int32 × Mem) := (if 0 ≤ a1 then (if (0 : Int32) = 0 then lp (fJ6_getChars_ba4f3_s cp a1 a2) ((-a1), a2, 0, Sy) else lp (fJ6_getChars_ba4f3_s cp a1 a2) (a1, a2, 0, Sy)) else (if (1 : Int32) = 0 then lp (fJ6_getChars_ba4f3_s cp a1 a2) ((-a1), a2, 1, Sy) else lp (fJ6_getChars_ba4f3_s cp a1 a2) (a1, a2, 1, Sy)))
set_option maxHeartbeats 4000000 in
set_option maxRecDepth 100000 in
theorem mJ6_getChars_ba4f3 (l : Launch) (E : EP) (B0 : Nat) (bs : Nat) (w : Nat) (hb0 : B0 ≤ bs) (hb1 : 1 ≤ w) (Sy : Mem) (cp : Nat) (a1 : Int32) (a2 : Int32) (r : Int32 × Mem) (hf : fJ6_getChars_ba4f3 Sy cp a1 a2 = some r) : MU l E B0 yJ6_getChars_ba4f3 cJ6_getChars_ba4f3 7 (some .int) 0 0 0 [.int a1, .int a2, .ref ((bs + w) + 0)] (Blk E (bs + w) (sbB cp) 1 Sy) (some (.int r.1)) (Blk E (bs + w) (sbB cp) 1 r.2) (iv (bs + w) 1) := by
  refine mu_of (by decide +kernel) (Nat.le_of_ble_eq_true rfl) ?_
  intro p e s m args below meth c hx hb hml hown hts hrt hlocks hE H hSy hS ls hl
  have hown : s.vm.findClass RJ6 = some m.cls := hown
  have hl : lv_has ls 7 [(0, .int a1), (1, .int a2), (2, .ref ((bs + w) + 0))] := hl
  have hw : ∀ w ∈ WA, w.before args s = true := fun w h => hts w (List.mem_cons_of_mem _ h)
  have hAB : ∀ q, (iv (bs + w) 1) q → B0 ≤ q := (iv_ge (by omega))
  unfold fJ6_getChars_ba4f3 at hf
  have loop : ∀ (fu : Nat) (z : Int32 × Int32 × Int32 × Mem), lpI (fJ6_getChars_ba4f3_s cp a1 a2) fu z = some r → (∀ (H : Heap) (locs : List Loc) (ls : Array Slot), Blk E (bs + w) (sbB cp) 1 z.2.2.2 H → va_S (iv (bs + w) 1) s.heap H locs → lv_has ls 7 [(0, .int z.1), (1, .int a2), (2, .ref ((bs + w) + 0)), (5, .int z.2.1), (6, .int z.2.2.1)] → W p l e (rmD 0 0 0) s m args below meth c H locs 0 0 (MQ below (QU (some (.int r.1)) (Blk E (bs + w) (sbB cp) 1 r.2) (iv (bs + w) 1)) args s 0 0 (iv (bs + w) 1)) (F0 m 22 ls [])) := by
    intro fu
    induction fu with
    | zero =>
      intro z hn
      exact nomatch hn
    | succ fu ih =>
      intro z hn
      obtain ⟨y, hf, hy⟩ := lpI_succ hn
      intro H locs ls hSy hS hl
      unfold fJ6_getChars_ba4f3_s at hf
      refine lv_iload_n hx hb dJ6_getChars_ba4f3_22 rfl (lv_at hl 0 rfl) ?_
      refine lv_bipush (v := -100) hx hb dJ6_getChars_ba4f3_23 (by decide) ?_
      refine lv_icmp_gt (tgt := 72) hx hb dJ6_getChars_ba4f3_25 (by decide) (fun c1 => ?_) (fun c1 => ?_)
      · rw [if_pos c1] at hf
        refine lv_aload_n hx hb dJ6_getChars_ba4f3_72 rfl (lv_at hl 2 rfl) ?_
        refine lv_iinc (v := (z.2.1 + (-1))) (lv' := [(5, .int (z.2.1 + (-1))), (0, .int z.1), (1, .int a2), (2, .ref ((bs + w) + 0)), (6, .int z.2.2.1)]) hx hb dJ6_getChars_ba4f3_73 hl (k := 3) rfl rfl (by decide) rfl (fun ls hl => ?_)
        refine lv_iload hx hb dJ6_getChars_ba4f3_76 (lv_at hl 0 rfl) ?_
        refine w_dig3 hx hb hw hown hE gd_J6_83 hS hAB dJ6_getChars_ba4f3_78 ?_
        refine lv_iload_n hx hb dJ6_getChars_ba4f3_81 rfl (lv_at hl 1 rfl) ?_
        refine lv_ineg hx hb dJ6_getChars_ba4f3_82 ?_
        obtain ⟨h2, hf⟩ := gd_some hf
        refine w_digld3 hx hb hE hS hAB h2 dJ6_getChars_ba4f3_83 ?_
        obtain ⟨h3, hf⟩ := gd_some hf
        refine w_bast (k := 0) (x9 := (z.2.1 + (-1)).toNatClampNeg) (x := (nI (48 + (-z.1).toNatClampNeg % 10))) hx hb hE hSy (by decide) rfl rfl h3 hS (iv_mem (by decide)) dJ6_getChars_ba4f3_84 (fun H locs hSy _ hu hS => ?_)
        refine lv_iload_n hx hb dJ6_getChars_ba4f3_85 rfl (lv_at hl 1 rfl) ?_
        refine lv_bipush (v := -9) hx hb dJ6_getChars_ba4f3_86 (by decide) ?_
        refine lv_icmp_ge (tgt := 104) hx hb dJ6_getChars_ba4f3_88 (by decide) (fun c4 => ?_) (fun c4 => ?_)
        · rw [if_pos c4] at hf
          refine lv_iload hx hb dJ6_getChars_ba4f3_104 (lv_at hl 4 rfl) ?_
          refine lv_if_eq (tgt := 118) hx hb dJ6_getChars_ba4f3_106 (by decide) (fun c5 => ?_) (fun c5 => ?_)
          · rw [if_pos c5] at hf
            refine lv_iload hx hb dJ6_getChars_ba4f3_118 (lv_at hl 0 rfl) ?_
            have hre := lp_end hy (Option.some.inj hf).symm
            subst hre
            exact mu_i (v := (z.2.1 + (-1))) hx hb hrt hlocks hSy hS dJ6_getChars_ba4f3_120
          · rw [if_neg c5] at hf
            refine lv_aload_n hx hb dJ6_getChars_ba4f3_109 rfl (lv_at hl 3 rfl) ?_
            refine lv_iinc (v := ((z.2.1 + (-1)) + (-1))) (lv' := [(5, .int ((z.2.1 + (-1)) + (-1))), (0, .int z.1), (1, .int a2), (2, .ref ((bs + w) + 0)), (6, .int z.2.2.1)]) hx hb dJ6_getChars_ba4f3_110 hl (k := 0) rfl rfl (by decide) rfl (fun ls hl => ?_)
            refine lv_iload hx hb dJ6_getChars_ba4f3_113 (lv_at hl 0 rfl) ?_
            refine lv_bipush (v := 45) hx hb dJ6_getChars_ba4f3_115 (by decide) ?_
            obtain ⟨h6, hf⟩ := gd_some hf
            refine w_bast (k := 0) (x9 := ((z.2.1 + (-1)) + (-1)).toNatClampNeg) (x := (45 : Int32)) hx hb hE hSy (by decide) rfl rfl h6 hS (iv_mem (by decide)) dJ6_getChars_ba4f3_117 (fun H locs hSy _ hu hS => ?_)
            refine lv_iload hx hb dJ6_getChars_ba4f3_118 (lv_at hl 0 rfl) ?_
            have hre := lp_end hy (Option.some.inj hf).symm
            subst hre
            exact mu_i (v := ((z.2.1 + (-1)) + (-1))) hx hb hrt hlocks hSy hS dJ6_getChars_ba4f3_120
        · rw [if_neg c4] at hf
          refine lv_aload_n hx hb dJ6_getChars_ba4f3_91 rfl (lv_at hl 3 rfl) ?_
          refine lv_iinc (v := ((z.2.1 + (-1)) + (-1))) (lv' := [(5, .int ((z.2.1 + (-1)) + (-1))), (0, .int z.1), (1, .int a2), (2, .ref ((bs + w) + 0)), (6, .int z.2.2.1)]) hx hb dJ6_getChars_ba4f3_92 hl (k := 0) rfl rfl (by decide) rfl (fun ls hl => ?_)
          refine lv_iload hx hb dJ6_getChars_ba4f3_95 (lv_at hl 0 rfl) ?_
          refine w_dig4 hx hb hw hown hE gd_J6_87 hS hAB dJ6_getChars_ba4f3_97 ?_
          refine lv_iload_n hx hb dJ6_getChars_ba4f3_100 rfl (lv_at hl 1 rfl) ?_
          refine lv_ineg hx hb dJ6_getChars_ba4f3_101 ?_
          obtain ⟨h7, hf⟩ := gd_some hf
          refine w_digld4 hx hb hE hS hAB h7 dJ6_getChars_ba4f3_102 ?_
          obtain ⟨h8, hf⟩ := gd_some hf
          refine w_bast (k := 0) (x9 := ((z.2.1 + (-1)) + (-1)).toNatClampNeg) (x := (nI (48 + (-z.1).toNatClampNeg / 10))) hx hb hE hSy (by decide) rfl rfl h8 hS (iv_mem (by decide)) dJ6_getChars_ba4f3_103 (fun H locs hSy _ hu hS => ?_)
          refine lv_iload hx hb dJ6_getChars_ba4f3_104 (lv_at hl 4 rfl) ?_
          refine lv_if_eq (tgt := 118) hx hb dJ6_getChars_ba4f3_106 (by decide) (fun c9 => ?_) (fun c9 => ?_)
          · rw [if_pos c9] at hf
            refine lv_iload hx hb dJ6_getChars_ba4f3_118 (lv_at hl 0 rfl) ?_
            have hre := lp_end hy (Option.some.inj hf).symm
            subst hre
            exact mu_i (v := ((z.2.1 + (-1)) + (-1))) hx hb hrt hlocks hSy hS dJ6_getChars_ba4f3_120
          · rw [if_neg c9] at hf
            refine lv_aload_n hx hb dJ6_getChars_ba4f3_109 rfl (lv_at hl 3 rfl) ?_
            refine lv_iinc (v := (((z.2.1 + (-1)) + (-1)) + (-1))) (lv' := [(5, .int (((z.2.1 + (-1)) + (-1)) + (-1))), (0, .int z.1), (1, .int a2), (2, .ref ((bs + w) + 0)), (6, .int z.2.2.1)]) hx hb dJ6_getChars_ba4f3_110 hl (k := 0) rfl rfl (by decide) rfl (fun ls hl => ?_)
            refine lv_iload hx hb dJ6_getChars_ba4f3_113 (lv_at hl 0 rfl) ?_
            refine lv_bipush (v := 45) hx hb dJ6_getChars_ba4f3_115 (by decide) ?_
            obtain ⟨h10, hf⟩ := gd_some hf
            refine w_bast (k := 0) (x9 := (((z.2.1 + (-1)) + (-1)) + (-1)).toNatClampNeg) (x := (45 : Int32)) hx hb hE hSy (by decide) rfl rfl h10 hS (iv_mem (by decide)) dJ6_getChars_ba4f3_117 (fun H locs hSy _ hu hS => ?_)
            refine lv_iload hx hb dJ6_getChars_ba4f3_118 (lv_at hl 0 rfl) ?_
            have hre := lp_end hy (Option.some.inj hf).symm
            subst hre
            exact mu_i (v := (((z.2.1 + (-1)) + (-1)) + (-1))) hx hb hrt hlocks hSy hS dJ6_getChars_ba4f3_120
      · rw [if_neg c1] at hf
        refine lv_iload_n hx hb dJ6_getChars_ba4f3_28 rfl (lv_at hl 0 rfl) ?_
        refine lv_bipush (v := 100) hx hb dJ6_getChars_ba4f3_29 (by decide) ?_
        refine lv_idiv hx hb dJ6_getChars_ba4f3_31 (by decide) ?_
        refine lv_istore_n (lv' := [(3, .int (z.1 / 100)), (0, .int z.1), (1, .int a2), (2, .ref ((bs + w) + 0)), (5, .int z.2.1), (6, .int z.2.2.1)]) hx hb dJ6_getChars_ba4f3_32 rfl hl (by decide) rfl (fun ls hl => ?_)
        refine lv_iload_n hx hb dJ6_getChars_ba4f3_33 rfl (lv_at hl 0 rfl) ?_
        refine lv_bipush (v := 100) hx hb dJ6_getChars_ba4f3_34 (by decide) ?_
        refine lv_imul hx hb dJ6_getChars_ba4f3_36 ?_
        refine lv_iload_n hx hb dJ6_getChars_ba4f3_37 rfl (lv_at hl 1 rfl) ?_
        refine lv_isub hx hb dJ6_getChars_ba4f3_38 ?_
        refine lv_istore (lv' := [(4, .int (((z.1 / 100) * 100) - z.1)), (3, .int (z.1 / 100)), (0, .int z.1), (1, .int a2), (2, .ref ((bs + w) + 0)), (5, .int z.2.1), (6, .int z.2.2.1)]) hx hb dJ6_getChars_ba4f3_39 hl (by decide) rfl (fun ls hl => ?_)
        refine lv_iload_n hx hb dJ6_getChars_ba4f3_41 rfl (lv_at hl 1 rfl) ?_
        refine lv_istore_n (lv' := [(0, .int (z.1 / 100)), (4, .int (((z.1 / 100) * 100) - z.1)), (3, .int (z.1 / 100)), (1, .int a2), (2, .ref ((bs + w) + 0)), (5, .int z.2.1), (6, .int z.2.2.1)]) hx hb dJ6_getChars_ba4f3_42 rfl hl (by decide) rfl (fun ls hl => ?_)
        refine lv_aload_n hx hb dJ6_getChars_ba4f3_43 rfl (lv_at hl 4 rfl) ?_
        refine lv_iinc (v := (z.2.1 + (-1))) (lv' := [(5, .int (z.2.1 + (-1))), (0, .int (z.1 / 100)), (4, .int (((z.1 / 100) * 100) - z.1)), (3, .int (z.1 / 100)), (1, .int a2), (2, .ref ((bs + w) + 0)), (6, .int z.2.2.1)]) hx hb dJ6_getChars_ba4f3_44 hl (k := 5) rfl rfl (by decide) rfl (fun ls hl => ?_)
        refine lv_iload hx hb dJ6_getChars_ba4f3_47 (lv_at hl 0 rfl) ?_
        refine w_dig3 hx hb hw hown hE gd_J6_83 hS hAB dJ6_getChars_ba4f3_49 ?_
        refine lv_iload hx hb dJ6_getChars_ba4f3_52 (lv_at hl 2 rfl) ?_
        obtain ⟨h11, hf⟩ := gd_some hf
        refine w_digld3 hx hb hE hS hAB h11 dJ6_getChars_ba4f3_54 ?_
        obtain ⟨h12, hf⟩ := gd_some hf
        refine w_bast (k := 0) (x9 := (z.2.1 + (-1)).toNatClampNeg) (x := (nI (48 + (((z.1 / 100) * 100) - z.1).toNatClampNeg % 10))) hx hb hE hSy (by decide) rfl rfl h12 hS (iv_mem (by decide)) dJ6_getChars_ba4f3_55 (fun H locs hSy _ hu hS => ?_)
        refine lv_aload_n hx hb dJ6_getChars_ba4f3_56 rfl (lv_at hl 5 rfl) ?_
        refine lv_iinc (v := ((z.2.1 + (-1)) + (-1))) (lv' := [(5, .int ((z.2.1 + (-1)) + (-1))), (0, .int (z.1 / 100)), (4, .int (((z.1 / 100) * 100) - z.1)), (3, .int (z.1 / 100)), (1, .int a2), (2, .ref ((bs + w) + 0)), (6, .int z.2.2.1)]) hx hb dJ6_getChars_ba4f3_57 hl (k := 0) rfl rfl (by decide) rfl (fun ls hl => ?_)
        refine lv_iload hx hb dJ6_getChars_ba4f3_60 (lv_at hl 0 rfl) ?_
        refine w_dig4 hx hb hw hown hE gd_J6_87 hS hAB dJ6_getChars_ba4f3_62 ?_
        refine lv_iload hx hb dJ6_getChars_ba4f3_65 (lv_at hl 2 rfl) ?_
        obtain ⟨h13, hf⟩ := gd_some hf
        refine w_digld4 hx hb hE hS hAB h13 dJ6_getChars_ba4f3_67 ?_
        obtain ⟨h14, hf⟩ := gd_some hf
        refine w_bast (k := 0) (x9 := ((z.2.1 + (-1)) + (-1)).toNatClampNeg) (x := (nI (48 + (((z.1 / 100) * 100) - z.1).toNatClampNeg / 10))) hx hb hE hSy (by decide) rfl rfl h14 hS (iv_mem (by decide)) dJ6_getChars_ba4f3_68 (fun H locs hSy _ hu hS => ?_)
        refine lv_goto (tgt := 22) hx hb dJ6_getChars_ba4f3_69 (by decide) ?_
        exact ih ((z.1 / 100), ((z.2.1 + (-1)) + (-1)), z.2.2.1, (up2 (up2 z.2.2.2 0 ((z.2.1 + (-1)).toNatClampNeg) (vp_nar .byte (nI (48 + (((z.1 / 100) * 100) - z.1).toNatClampNeg % 10)))) 0 (((z.2.1 + (-1)) + (-1)).toNatClampNeg) (vp_nar .byte (nI (48 + (((z.1 / 100) * 100) - z.1).toNatClampNeg / 10))))) (lp_back hy (Option.some.inj hf).symm) _ _ _ hSy hS (lv_sub hl [1, 4, 5, 0, 6] rfl)
  refine lv_iload_n hx hb dJ6_getChars_ba4f3_0 rfl (lv_at hl 1 rfl) ?_
  refine lv_istore (lv' := [(5, .int a2), (0, .int a1), (1, .int a2), (2, .ref ((bs + w) + 0))]) hx hb dJ6_getChars_ba4f3_1 hl (by decide) rfl (fun ls hl => ?_)
  refine lv_iload_n hx hb dJ6_getChars_ba4f3_3 rfl (lv_at hl 1 rfl) ?_
  refine lv_if_ge (tgt := 11) hx hb dJ6_getChars_ba4f3_4 (by decide) (fun c15 => ?_) (fun c15 => ?_)
  · rw [if_pos c15] at hf
    refine lv_iconst (v := 0) hx hb dJ6_getChars_ba4f3_11 (by decide) ?_
    refine lv_istore (lv' := [(6, .int 0), (5, .int a2), (0, .int a1), (1, .int a2), (2, .ref ((bs + w) + 0))]) hx hb dJ6_getChars_ba4f3_12 hl (by decide) rfl (fun ls hl => ?_)
    refine lv_iload hx hb dJ6_getChars_ba4f3_14 (lv_at hl 0 rfl) ?_
    refine lv_if_ne (tgt := 22) hx hb dJ6_getChars_ba4f3_16 (by decide) (fun c16 => ?_) (fun c16 => ?_)
    · rw [if_neg c16] at hf
      obtain ⟨fu, hfu⟩ := lp_some hf
      exact (loop fu (a1, a2, 0, Sy) hfu) _ _ _ hSy hS (lv_sub hl [2, 3, 4, 1, 0] rfl)
    · rw [if_pos c16] at hf
      refine lv_iload_n hx hb dJ6_getChars_ba4f3_19 rfl (lv_at hl 2 rfl) ?_
      refine lv_ineg hx hb dJ6_getChars_ba4f3_20 ?_
      refine lv_istore_n (lv' := [(0, .int (-a1)), (6, .int 0), (5, .int a2), (1, .int a2), (2, .ref ((bs + w) + 0))]) hx hb dJ6_getChars_ba4f3_21 rfl hl (by decide) rfl (fun ls hl => ?_)
      obtain ⟨fu, hfu⟩ := lp_some hf
      exact (loop fu ((-a1), a2, 0, Sy) hfu) _ _ _ hSy hS (lv_sub hl [0, 3, 4, 2, 1] rfl)
  · rw [if_neg c15] at hf
    refine lv_iconst (v := 1) hx hb dJ6_getChars_ba4f3_7 (by decide) ?_
    refine lv_goto (tgt := 12) hx hb dJ6_getChars_ba4f3_8 (by decide) ?_
    refine lv_istore (lv' := [(6, .int 1), (5, .int a2), (0, .int a1), (1, .int a2), (2, .ref ((bs + w) + 0))]) hx hb dJ6_getChars_ba4f3_12 hl (by decide) rfl (fun ls hl => ?_)
    refine lv_iload hx hb dJ6_getChars_ba4f3_14 (lv_at hl 0 rfl) ?_
    refine lv_if_ne (tgt := 22) hx hb dJ6_getChars_ba4f3_16 (by decide) (fun c17 => ?_) (fun c17 => ?_)
    · rw [if_neg c17] at hf
      obtain ⟨fu, hfu⟩ := lp_some hf
      exact (loop fu (a1, a2, 1, Sy) hfu) _ _ _ hSy hS (lv_sub hl [2, 3, 4, 1, 0] rfl)
    · rw [if_pos c17] at hf
      refine lv_iload_n hx hb dJ6_getChars_ba4f3_19 rfl (lv_at hl 2 rfl) ?_
      refine lv_ineg hx hb dJ6_getChars_ba4f3_20 ?_
      refine lv_istore_n (lv' := [(0, .int (-a1)), (6, .int 1), (5, .int a2), (1, .int a2), (2, .ref ((bs + w) + 0))]) hx hb dJ6_getChars_ba4f3_21 rfl hl (by decide) rfl (fun ls hl => ?_)
      obtain ⟨fu, hfu⟩ := lp_some hf
      exact (loop fu ((-a1), a2, 1, Sy) hfu) _ _ _ hSy hS (lv_sub hl [0, 3, 4, 2, 1] rfl)
