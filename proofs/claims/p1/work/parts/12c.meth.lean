/-! ===== laid by program: relays ===== -/
def fX8_hopsByBreadth_s (N : Mem) (a2 : Int32) (a3 : Int32) (z : Nat × Int32 × Int32 × Int32 × Int32 × Mem) : Option ((Nat × Int32 × Int32 × Int32 × Int32 × Mem) ⊕ (Int32 × Mem)) := (if z.1 = 0 then (if (8 : Int32) ≤ z.2.1 then gd (inb a2 8) (some (.inl (1, 1, 0, 0, 0, (up2 (up2 z.2.2.2.2.2 1 a2.toNatClampNeg (0 : Int32)) 2 0 a2)))) else gd (inb z.2.1 8) (some (.inl (0, (z.2.1 + 1), 0, 0, 0, (up2 z.2.2.2.2.2 1 z.2.1.toNatClampNeg (-1 : Int32)))))) else (if z.1 = 1 then (if z.2.1 ≤ z.2.2.1 then gd (inb a3 8) (some (.inr ((z.2.2.2.2.2 1 a3.toNatClampNeg), z.2.2.2.2.2))) else (if (8 : Int32) ≤ z.2.2.1 then gd (inb a3 8) (some (.inr ((z.2.2.2.2.2 1 a3.toNatClampNeg), z.2.2.2.2.2))) else gd (inb z.2.2.1 8) (some (.inl (2, z.2.1, z.2.2.1, (z.2.2.2.2.2 2 z.2.2.1.toNatClampNeg), 0, z.2.2.2.2.2))))) else (if (N 0 1) ≤ z.2.2.2.2.1 then some (.inl (1, z.2.1, (z.2.2.1 + 1), 0, 0, z.2.2.2.2.2)) else gd (inb z.2.2.2.2.1 8) ((if 0 ≤ (z.2.2.2.2.2 1 z.2.2.2.2.1.toNatClampNeg) then some (.inl (2, z.2.1, z.2.2.1, z.2.2.2.1, (z.2.2.2.2.1 + 1), z.2.2.2.2.2)) else (if (8 : Int32) ≤ z.2.1 then some (.inl (2, z.2.1, z.2.2.1, z.2.2.2.1, (z.2.2.2.2.1 + 1), z.2.2.2.2.2)) else gd (inb z.2.2.2.2.1 8) (gd (inb z.2.2.2.1 8) ((fX9_hears N (2 + 1 * z.2.2.2.2.1.toNatClampNeg) (2 + 1 * z.2.2.2.1.toNatClampNeg)).bind fun z15 => (if z15 = 0 then some (.inl (2, z.2.1, z.2.2.1, z.2.2.2.1, (z.2.2.2.2.1 + 1), z.2.2.2.2.2)) else gd (inb z.2.2.2.1 8) (gd (inb z.2.2.2.2.1 8) (gd (inb z.2.1 8) (some (.inl (2, (z.2.1 + 1), z.2.2.1, z.2.2.2.1, (z.2.2.2.2.1 + 1), (up2 (up2 z.2.2.2.2.2 1 z.2.2.2.2.1.toNatClampNeg ((z.2.2.2.2.2 1 z.2.2.2.1.toNatClampNeg) + 1)) 2 z.2.1.toNatClampNeg z.2.2.2.2.1)))))))))))))))
noncomputable def fX8_hopsByBreadth (R : Mem) (N : Mem) (a2 : Int32) (a3 : Int32) : Option (Int32 × Mem) := lp (fX8_hopsByBreadth_s N a2 a3) (0, 0, 0, 0, 0, R)
set_option maxHeartbeats 4000000 in
set_option maxRecDepth 100000 in
theorem mX8_hopsByBreadth (l : Launch) (E : EP) (B0 : Nat) (br : Nat) (b : Nat) (hb0 : B0 ≤ br) (hb1 : B0 ≤ b) (hb2 : br + 3 ≤ b ∨ b + 15 ≤ br) (R : Mem) (N : Mem) (a2 : Int32) (a3 : Int32) (r : Int32 × Mem) (hf : fX8_hopsByBreadth R N a2 a3 = some r) : MU l E B0 yX8_hopsByBreadth cX8_hopsByBreadth 8 (some .int) 2 0 0 [.ref (br + 0), .ref (b + 0), .int a2, .int a3] (fun H => Blk E br relSh 3 R H ∧ Blk E b netSh 15 N H) (some (.int r.1)) (fun H => Blk E br relSh 3 r.2 H ∧ Blk E b netSh 15 N H) (iv br 3) := by
  refine mu_of (by decide +kernel) (Nat.le_of_ble_eq_true rfl) ?_
  intro p e s m args below meth c hx hb hml hown hts hrt hlocks hE H hP9 hS ls hl
  obtain ⟨hR, hN⟩ := hP9
  have hown : s.vm.findClass RX8 = some m.cls := hown
  have hl : lv_has ls 8 [(0, .ref (br + 0)), (1, .ref (b + 0)), (2, .int a2), (3, .int a3)] := hl
  have hw : ∀ w ∈ WA, w.before args s = true := fun w h => hts w (List.mem_cons_of_mem _ h)
  have hAB : ∀ q, (iv br 3) q → B0 ≤ q := (iv_ge (by omega))
  unfold fX8_hopsByBreadth at hf
  have loop : ∀ (fu : Nat) (z : Nat × Int32 × Int32 × Int32 × Int32 × Mem), lpI (fX8_hopsByBreadth_s N a2 a3) fu z = some r → (∀ (H : Heap) (locs : List Loc) (ls : Array Slot), z.1 = 0 → Blk E br relSh 3 z.2.2.2.2.2 H → Blk E b netSh 15 N H → va_S (iv br 3) s.heap H locs → lv_has ls 8 [(0, .ref (br + 0)), (1, .ref (b + 0)), (2, .int a2), (3, .int a3), (4, .int z.2.1)] → W p l e (rmD 2 0 0) s m args below meth c H locs 0 0 (MQ below (QU (some (.int r.1)) (fun H => Blk E br relSh 3 r.2 H ∧ Blk E b netSh 15 N H) (iv br 3)) args s 0 0 (iv br 3)) (F0 m 3 ls [])) ∧ (∀ (H : Heap) (locs : List Loc) (ls : Array Slot), z.1 = 1 → Blk E br relSh 3 z.2.2.2.2.2 H → Blk E b netSh 15 N H → va_S (iv br 3) s.heap H locs → lv_has ls 8 [(0, .ref (br + 0)), (1, .ref (b + 0)), (2, .int a2), (3, .int a3), (4, .int z.2.1), (5, .int z.2.2.1)] → W p l e (rmD 2 0 0) s m args below meth c H locs 0 0 (MQ below (QU (some (.int r.1)) (fun H => Blk E br relSh 3 r.2 H ∧ Blk E b netSh 15 N H) (iv br 3)) args s 0 0 (iv br 3)) (F0 m 44 ls [])) ∧ (∀ (H : Heap) (locs : List Loc) (ls : Array Slot), z.1 = 2 → Blk E br relSh 3 z.2.2.2.2.2 H → Blk E b netSh 15 N H → va_S (iv br 3) s.heap H locs → lv_has ls 8 [(0, .ref (br + 0)), (1, .ref (b + 0)), (2, .int a2), (3, .int a3), (4, .int z.2.1), (5, .int z.2.2.1), (6, .int z.2.2.2.1), (7, .int z.2.2.2.2.1)] → W p l e (rmD 2 0 0) s m args below meth c H locs 0 0 (MQ below (QU (some (.int r.1)) (fun H => Blk E br relSh 3 r.2 H ∧ Blk E b netSh 15 N H) (iv br 3)) args s 0 0 (iv br 3)) (F0 m 70 ls [])) := by
    intro fu
    induction fu with
    | zero =>
      intro z hn
      exact nomatch hn
    | succ fu ih =>
      intro z hn
      obtain ⟨y, hf, hy⟩ := lpI_succ hn
      refine ⟨?_, ?_, ?_⟩
      · intro H locs ls hz hR hN hS hl
        unfold fX8_hopsByBreadth_s at hf
        rw [if_pos hz] at hf
        refine lv_iload hx hb dX8_hopsByBreadth_3 (lv_at hl 4 rfl) ?_
        refine lv_bipush (v := 8) hx hb dX8_hopsByBreadth_5 (by decide) ?_
        refine lv_icmp_ge (tgt := 24) hx hb dX8_hopsByBreadth_7 (by decide) (fun c1 => ?_) (fun c1 => ?_)
        · rw [if_pos c1] at hf
          refine lv_aload_n hx hb dX8_hopsByBreadth_24 rfl (lv_at hl 0 rfl) ?_
          refine w_get (k := 0) (v := .ref (br + 1)) hx hb hw hown hE fl_X8_9 hR (by decide) rfl rfl rfl dX8_hopsByBreadth_25 ?_
          refine lv_iload_n hx hb dX8_hopsByBreadth_28 rfl (lv_at hl 2 rfl) ?_
          refine lv_iconst (v := 0) hx hb dX8_hopsByBreadth_29 (by decide) ?_
          obtain ⟨h2, hf⟩ := gd_some hf
          refine w_iast (k := 1) (x9 := a2.toNatClampNeg) (x := (0 : Int32)) hx hb hE hR (by decide) rfl rfl h2 hS (iv_mem (by decide)) dX8_hopsByBreadth_30 (fun H locs hR _ hu hS => ?_)
          have hu := hu_iv (n := 3) (by decide) hu
          have hN := Blk.off hN hu (iv_dis (by omega))
          refine lv_aload_n hx hb dX8_hopsByBreadth_31 rfl (lv_at hl 0 rfl) ?_
          refine w_get (k := 0) (v := .ref (br + 2)) hx hb hw hown hE fl_X8_15 hR (by decide) rfl rfl rfl dX8_hopsByBreadth_32 ?_
          refine lv_iconst (v := 0) hx hb dX8_hopsByBreadth_35 (by decide) ?_
          refine lv_iload_n hx hb dX8_hopsByBreadth_36 rfl (lv_at hl 2 rfl) ?_
          refine w_iast (k := 2) (x9 := 0) (x := a2) hx hb hE hR (by decide) rfl (by decide) (by decide) hS (iv_mem (by decide)) dX8_hopsByBreadth_37 (fun H locs hR _ hu hS => ?_)
          have hu := hu_iv (n := 3) (by decide) hu
          have hN := Blk.off hN hu (iv_dis (by omega))
          refine lv_iconst (v := 1) hx hb dX8_hopsByBreadth_38 (by decide) ?_
          refine lv_istore (lv' := [(4, .int 1), (0, .ref (br + 0)), (1, .ref (b + 0)), (2, .int a2), (3, .int a3)]) hx hb dX8_hopsByBreadth_39 hl (by decide) rfl (fun ls hl => ?_)
          refine lv_iconst (v := 0) hx hb dX8_hopsByBreadth_41 (by decide) ?_
          refine lv_istore (lv' := [(5, .int 0), (4, .int 1), (0, .ref (br + 0)), (1, .ref (b + 0)), (2, .int a2), (3, .int a3)]) hx hb dX8_hopsByBreadth_42 hl (by decide) rfl (fun ls hl => ?_)
          exact (ih (1, 1, 0, 0, 0, (up2 (up2 z.2.2.2.2.2 1 a2.toNatClampNeg (0 : Int32)) 2 0 a2)) (lp_back hy (Option.some.inj hf).symm)).2.1 _ _ _ rfl hR hN hS (lv_sub hl [2, 3, 4, 5, 1, 0] rfl)
        · rw [if_neg c1] at hf
          refine lv_aload_n hx hb dX8_hopsByBreadth_10 rfl (lv_at hl 0 rfl) ?_
          refine w_get (k := 0) (v := .ref (br + 1)) hx hb hw hown hE fl_X8_9 hR (by decide) rfl rfl rfl dX8_hopsByBreadth_11 ?_
          refine lv_iload hx hb dX8_hopsByBreadth_14 (lv_at hl 4 rfl) ?_
          refine lv_iconst (v := -1) hx hb dX8_hopsByBreadth_16 (by decide) ?_
          obtain ⟨h3, hf⟩ := gd_some hf
          refine w_iast (k := 1) (x9 := z.2.1.toNatClampNeg) (x := (-1 : Int32)) hx hb hE hR (by decide) rfl rfl h3 hS (iv_mem (by decide)) dX8_hopsByBreadth_17 (fun H locs hR _ hu hS => ?_)
          have hu := hu_iv (n := 3) (by decide) hu
          have hN := Blk.off hN hu (iv_dis (by omega))
          refine lv_iinc (v := (z.2.1 + 1)) (lv' := [(4, .int (z.2.1 + 1)), (0, .ref (br + 0)), (1, .ref (b + 0)), (2, .int a2), (3, .int a3)]) hx hb dX8_hopsByBreadth_18 hl (k := 4) rfl rfl (by decide) rfl (fun ls hl => ?_)
          refine lv_goto (tgt := 3) hx hb dX8_hopsByBreadth_21 (by decide) ?_
          exact (ih (0, (z.2.1 + 1), 0, 0, 0, (up2 z.2.2.2.2.2 1 z.2.1.toNatClampNeg (-1 : Int32))) (lp_back hy (Option.some.inj hf).symm)).1 _ _ _ rfl hR hN hS (lv_sub hl [1, 2, 3, 4, 0] rfl)
      · intro H locs ls hz hR hN hS hl
        unfold fX8_hopsByBreadth_s at hf
        rw [if_neg (by rw [hz]; decide), if_pos hz] at hf
        refine lv_iload hx hb dX8_hopsByBreadth_44 (lv_at hl 5 rfl) ?_
        refine lv_iload hx hb dX8_hopsByBreadth_46 (lv_at hl 4 rfl) ?_
        refine lv_icmp_ge (tgt := 156) hx hb dX8_hopsByBreadth_48 (by decide) (fun c4 => ?_) (fun c4 => ?_)
        · rw [if_pos c4] at hf
          refine lv_aload_n hx hb dX8_hopsByBreadth_156 rfl (lv_at hl 0 rfl) ?_
          refine w_get (k := 0) (v := .ref (br + 1)) hx hb hw hown hE fl_X8_9 hR (by decide) rfl rfl rfl dX8_hopsByBreadth_157 ?_
          refine lv_iload_n hx hb dX8_hopsByBreadth_160 rfl (lv_at hl 3 rfl) ?_
          obtain ⟨h5, hf⟩ := gd_some hf
          refine w_iald (k := 1) (x9 := a3.toNatClampNeg) hx hb hE hR (by decide) rfl rfl h5 dX8_hopsByBreadth_161 ?_
          have hre := lp_end hy (Option.some.inj hf).symm
          subst hre
          exact mu_i (v := (z.2.2.2.2.2 1 a3.toNatClampNeg)) hx hb hrt hlocks ⟨hR, hN⟩ hS dX8_hopsByBreadth_162
        · rw [if_neg c4] at hf
          refine lv_iload hx hb dX8_hopsByBreadth_51 (lv_at hl 5 rfl) ?_
          refine lv_bipush (v := 8) hx hb dX8_hopsByBreadth_53 (by decide) ?_
          refine lv_icmp_ge (tgt := 156) hx hb dX8_hopsByBreadth_55 (by decide) (fun c6 => ?_) (fun c6 => ?_)
          · rw [if_pos c6] at hf
            refine lv_aload_n hx hb dX8_hopsByBreadth_156 rfl (lv_at hl 0 rfl) ?_
            refine w_get (k := 0) (v := .ref (br + 1)) hx hb hw hown hE fl_X8_9 hR (by decide) rfl rfl rfl dX8_hopsByBreadth_157 ?_
            refine lv_iload_n hx hb dX8_hopsByBreadth_160 rfl (lv_at hl 3 rfl) ?_
            obtain ⟨h7, hf⟩ := gd_some hf
            refine w_iald (k := 1) (x9 := a3.toNatClampNeg) hx hb hE hR (by decide) rfl rfl h7 dX8_hopsByBreadth_161 ?_
            have hre := lp_end hy (Option.some.inj hf).symm
            subst hre
            exact mu_i (v := (z.2.2.2.2.2 1 a3.toNatClampNeg)) hx hb hrt hlocks ⟨hR, hN⟩ hS dX8_hopsByBreadth_162
          · rw [if_neg c6] at hf
            refine lv_aload_n hx hb dX8_hopsByBreadth_58 rfl (lv_at hl 0 rfl) ?_
            refine w_get (k := 0) (v := .ref (br + 2)) hx hb hw hown hE fl_X8_15 hR (by decide) rfl rfl rfl dX8_hopsByBreadth_59 ?_
            refine lv_iload hx hb dX8_hopsByBreadth_62 (lv_at hl 5 rfl) ?_
            obtain ⟨h8, hf⟩ := gd_some hf
            refine w_iald (k := 2) (x9 := z.2.2.1.toNatClampNeg) hx hb hE hR (by decide) rfl rfl h8 dX8_hopsByBreadth_64 ?_
            refine lv_istore (lv' := [(6, .int (z.2.2.2.2.2 2 z.2.2.1.toNatClampNeg)), (0, .ref (br + 0)), (1, .ref (b + 0)), (2, .int a2), (3, .int a3), (4, .int z.2.1), (5, .int z.2.2.1)]) hx hb dX8_hopsByBreadth_65 hl (by decide) rfl (fun ls hl => ?_)
            refine lv_iconst (v := 0) hx hb dX8_hopsByBreadth_67 (by decide) ?_
            refine lv_istore (lv' := [(7, .int 0), (6, .int (z.2.2.2.2.2 2 z.2.2.1.toNatClampNeg)), (0, .ref (br + 0)), (1, .ref (b + 0)), (2, .int a2), (3, .int a3), (4, .int z.2.1), (5, .int z.2.2.1)]) hx hb dX8_hopsByBreadth_68 hl (by decide) rfl (fun ls hl => ?_)
            exact (ih (2, z.2.1, z.2.2.1, (z.2.2.2.2.2 2 z.2.2.1.toNatClampNeg), 0, z.2.2.2.2.2) (lp_back hy (Option.some.inj hf).symm)).2.2 _ _ _ rfl hR hN hS (lv_sub hl [2, 3, 4, 5, 6, 7, 1, 0] rfl)
      · intro H locs ls hz hR hN hS hl
        unfold fX8_hopsByBreadth_s at hf
        rw [if_neg (by rw [hz]; decide), if_neg (by rw [hz]; decide)] at hf
        refine lv_iload hx hb dX8_hopsByBreadth_70 (lv_at hl 7 rfl) ?_
        refine lv_aload_n hx hb dX8_hopsByBreadth_72 rfl (lv_at hl 1 rfl) ?_
        refine w_get (k := 0) (v := .int (N 0 1)) hx hb hw hown hE fl_X8_18 hN (by decide) rfl rfl rfl dX8_hopsByBreadth_73 ?_
        refine lv_icmp_ge (tgt := 150) hx hb dX8_hopsByBreadth_76 (by decide) (fun c9 => ?_) (fun c9 => ?_)
        · rw [if_pos c9] at hf
          refine lv_iinc (v := (z.2.2.1 + 1)) (lv' := [(5, .int (z.2.2.1 + 1)), (0, .ref (br + 0)), (1, .ref (b + 0)), (2, .int a2), (3, .int a3), (4, .int z.2.1), (6, .int z.2.2.2.1), (7, .int z.2.2.2.2.1)]) hx hb dX8_hopsByBreadth_150 hl (k := 5) rfl rfl (by decide) rfl (fun ls hl => ?_)
          refine lv_goto (tgt := 44) hx hb dX8_hopsByBreadth_153 (by decide) ?_
          exact (ih (1, z.2.1, (z.2.2.1 + 1), 0, 0, z.2.2.2.2.2) (lp_back hy (Option.some.inj hf).symm)).2.1 _ _ _ rfl hR hN hS (lv_sub hl [1, 2, 3, 4, 5, 0] rfl)
        · rw [if_neg c9] at hf
          refine lv_aload_n hx hb dX8_hopsByBreadth_79 rfl (lv_at hl 0 rfl) ?_
          refine w_get (k := 0) (v := .ref (br + 1)) hx hb hw hown hE fl_X8_9 hR (by decide) rfl rfl rfl dX8_hopsByBreadth_80 ?_
          refine lv_iload hx hb dX8_hopsByBreadth_83 (lv_at hl 7 rfl) ?_
          obtain ⟨h10, hf⟩ := gd_some hf
          refine w_iald (k := 1) (x9 := z.2.2.2.2.1.toNatClampNeg) hx hb hE hR (by decide) rfl rfl h10 dX8_hopsByBreadth_85 ?_
          refine lv_if_ge (tgt := 144) hx hb dX8_hopsByBreadth_86 (by decide) (fun c11 => ?_) (fun c11 => ?_)
          · rw [if_pos c11] at hf
            refine lv_iinc (v := (z.2.2.2.2.1 + 1)) (lv' := [(7, .int (z.2.2.2.2.1 + 1)), (0, .ref (br + 0)), (1, .ref (b + 0)), (2, .int a2), (3, .int a3), (4, .int z.2.1), (5, .int z.2.2.1), (6, .int z.2.2.2.1)]) hx hb dX8_hopsByBreadth_144 hl (k := 7) rfl rfl (by decide) rfl (fun ls hl => ?_)
            refine lv_goto (tgt := 70) hx hb dX8_hopsByBreadth_147 (by decide) ?_
            exact (ih (2, z.2.1, z.2.2.1, z.2.2.2.1, (z.2.2.2.2.1 + 1), z.2.2.2.2.2) (lp_back hy (Option.some.inj hf).symm)).2.2 _ _ _ rfl hR hN hS (lv_sub hl [1, 2, 3, 4, 5, 6, 7, 0] rfl)
          · rw [if_neg c11] at hf
            refine lv_iload hx hb dX8_hopsByBreadth_89 (lv_at hl 4 rfl) ?_
            refine lv_bipush (v := 8) hx hb dX8_hopsByBreadth_91 (by decide) ?_
            refine lv_icmp_ge (tgt := 144) hx hb dX8_hopsByBreadth_93 (by decide) (fun c12 => ?_) (fun c12 => ?_)
            · rw [if_pos c12] at hf
              refine lv_iinc (v := (z.2.2.2.2.1 + 1)) (lv' := [(7, .int (z.2.2.2.2.1 + 1)), (0, .ref (br + 0)), (1, .ref (b + 0)), (2, .int a2), (3, .int a3), (4, .int z.2.1), (5, .int z.2.2.1), (6, .int z.2.2.2.1)]) hx hb dX8_hopsByBreadth_144 hl (k := 7) rfl rfl (by decide) rfl (fun ls hl => ?_)
              refine lv_goto (tgt := 70) hx hb dX8_hopsByBreadth_147 (by decide) ?_
              exact (ih (2, z.2.1, z.2.2.1, z.2.2.2.1, (z.2.2.2.2.1 + 1), z.2.2.2.2.2) (lp_back hy (Option.some.inj hf).symm)).2.2 _ _ _ rfl hR hN hS (lv_sub hl [1, 2, 3, 4, 5, 6, 7, 0] rfl)
            · rw [if_neg c12] at hf
              refine lv_aload_n hx hb dX8_hopsByBreadth_96 rfl (lv_at hl 1 rfl) ?_
              refine w_get (k := 0) (v := .ref (b + 1)) hx hb hw hown hE fl_X8_24 hN (by decide) rfl rfl rfl dX8_hopsByBreadth_97 ?_
              refine lv_iload hx hb dX8_hopsByBreadth_100 (lv_at hl 7 rfl) ?_
              obtain ⟨h13, hf⟩ := gd_some hf
              refine w_aald (k := 1) (j := 0) (x9 := z.2.2.2.2.1.toNatClampNeg) hx hb hE hN (by decide) rfl rfl rfl h13 dX8_hopsByBreadth_102 ?_
              refine lv_aload_n hx hb dX8_hopsByBreadth_103 rfl (lv_at hl 1 rfl) ?_
              refine w_get (k := 0) (v := .ref (b + 1)) hx hb hw hown hE fl_X8_24 hN (by decide) rfl rfl rfl dX8_hopsByBreadth_104 ?_
              refine lv_iload hx hb dX8_hopsByBreadth_107 (lv_at hl 6 rfl) ?_
              obtain ⟨h14, hf⟩ := gd_some hf
              refine w_aald (k := 1) (j := 0) (x9 := z.2.2.2.1.toNatClampNeg) hx hb hE hN (by decide) rfl rfl rfl h14 dX8_hopsByBreadth_109 ?_
              obtain ⟨z15, hc16, hf⟩ := br_some hf
              refine mu_cV (As := [.ref (b + (2 + 1 * z.2.2.2.1.toNatClampNeg))]) (rest := []) hx hb hml hown hts hE (mX9_hears l E B0 b (by omega) N (2 + 1 * z.2.2.2.2.1.toNatClampNeg) (2 + 1 * z.2.2.2.1.toNatClampNeg) z15 hc16) cv_X8_28 (w_recv (k := (2 + 1 * z.2.2.2.2.1.toNatClampNeg)) (ci := 9) hE hN (stn_lt (stn_ld h13)) (stn_sh (stn_ld h13)) rfl) hN hS hAB (fun _ h => h.elim) rfl hl.1 rfl (by decide) (Nat.le_of_ble_eq_true rfl) ⟨Nat.le_refl _, Nat.le_refl _⟩ dX8_hopsByBreadth_110 (fun H locs hN _ hu hS => ?_)
              have hR := Blk.off hR hu (fun _ _ _ h => h)
              refine lv_if_eq (tgt := 144) hx hb dX8_hopsByBreadth_113 (by decide) (fun c17 => ?_) (fun c17 => ?_)
              · rw [if_pos c17] at hf
                refine lv_iinc (v := (z.2.2.2.2.1 + 1)) (lv' := [(7, .int (z.2.2.2.2.1 + 1)), (0, .ref (br + 0)), (1, .ref (b + 0)), (2, .int a2), (3, .int a3), (4, .int z.2.1), (5, .int z.2.2.1), (6, .int z.2.2.2.1)]) hx hb dX8_hopsByBreadth_144 hl (k := 7) rfl rfl (by decide) rfl (fun ls hl => ?_)
                refine lv_goto (tgt := 70) hx hb dX8_hopsByBreadth_147 (by decide) ?_
                exact (ih (2, z.2.1, z.2.2.1, z.2.2.2.1, (z.2.2.2.2.1 + 1), z.2.2.2.2.2) (lp_back hy (Option.some.inj hf).symm)).2.2 _ _ _ rfl hR hN hS (lv_sub hl [1, 2, 3, 4, 5, 6, 7, 0] rfl)
              · rw [if_neg c17] at hf
                refine lv_aload_n hx hb dX8_hopsByBreadth_116 rfl (lv_at hl 0 rfl) ?_
                refine w_get (k := 0) (v := .ref (br + 1)) hx hb hw hown hE fl_X8_9 hR (by decide) rfl rfl rfl dX8_hopsByBreadth_117 ?_
                refine lv_iload hx hb dX8_hopsByBreadth_120 (lv_at hl 7 rfl) ?_
                refine lv_aload_n hx hb dX8_hopsByBreadth_122 rfl (lv_at hl 0 rfl) ?_
                refine w_get (k := 0) (v := .ref (br + 1)) hx hb hw hown hE fl_X8_9 hR (by decide) rfl rfl rfl dX8_hopsByBreadth_123 ?_
                refine lv_iload hx hb dX8_hopsByBreadth_126 (lv_at hl 6 rfl) ?_
                obtain ⟨h18, hf⟩ := gd_some hf
                refine w_iald (k := 1) (x9 := z.2.2.2.1.toNatClampNeg) hx hb hE hR (by decide) rfl rfl h18 dX8_hopsByBreadth_128 ?_
                refine lv_iconst (v := 1) hx hb dX8_hopsByBreadth_129 (by decide) ?_
                refine lv_iadd hx hb dX8_hopsByBreadth_130 ?_
                obtain ⟨h19, hf⟩ := gd_some hf
                refine w_iast (k := 1) (x9 := z.2.2.2.2.1.toNatClampNeg) (x := ((z.2.2.2.2.2 1 z.2.2.2.1.toNatClampNeg) + 1)) hx hb hE hR (by decide) rfl rfl h19 hS (iv_mem (by decide)) dX8_hopsByBreadth_131 (fun H locs hR _ hu hS => ?_)
                have hu := hu_iv (n := 3) (by decide) hu
                have hN := Blk.off hN hu (iv_dis (by omega))
                refine lv_aload_n hx hb dX8_hopsByBreadth_132 rfl (lv_at hl 0 rfl) ?_
                refine w_get (k := 0) (v := .ref (br + 2)) hx hb hw hown hE fl_X8_15 hR (by decide) rfl rfl rfl dX8_hopsByBreadth_133 ?_
                refine lv_iload hx hb dX8_hopsByBreadth_136 (lv_at hl 4 rfl) ?_
                refine lv_iload hx hb dX8_hopsByBreadth_138 (lv_at hl 7 rfl) ?_
                obtain ⟨h20, hf⟩ := gd_some hf
                refine w_iast (k := 2) (x9 := z.2.1.toNatClampNeg) (x := z.2.2.2.2.1) hx hb hE hR (by decide) rfl rfl h20 hS (iv_mem (by decide)) dX8_hopsByBreadth_140 (fun H locs hR _ hu hS => ?_)
                have hu := hu_iv (n := 3) (by decide) hu
                have hN := Blk.off hN hu (iv_dis (by omega))
                refine lv_iinc (v := (z.2.1 + 1)) (lv' := [(4, .int (z.2.1 + 1)), (0, .ref (br + 0)), (1, .ref (b + 0)), (2, .int a2), (3, .int a3), (5, .int z.2.2.1), (6, .int z.2.2.2.1), (7, .int z.2.2.2.2.1)]) hx hb dX8_hopsByBreadth_141 hl (k := 4) rfl rfl (by decide) rfl (fun ls hl => ?_)
                refine lv_iinc (v := (z.2.2.2.2.1 + 1)) (lv' := [(7, .int (z.2.2.2.2.1 + 1)), (4, .int (z.2.1 + 1)), (0, .ref (br + 0)), (1, .ref (b + 0)), (2, .int a2), (3, .int a3), (5, .int z.2.2.1), (6, .int z.2.2.2.1)]) hx hb dX8_hopsByBreadth_144 hl (k := 7) rfl rfl (by decide) rfl (fun ls hl => ?_)
                refine lv_goto (tgt := 70) hx hb dX8_hopsByBreadth_147 (by decide) ?_
                exact (ih (2, (z.2.1 + 1), z.2.2.1, z.2.2.2.1, (z.2.2.2.2.1 + 1), (up2 (up2 z.2.2.2.2.2 1 z.2.2.2.2.1.toNatClampNeg ((z.2.2.2.2.2 1 z.2.2.2.1.toNatClampNeg) + 1)) 2 z.2.1.toNatClampNeg z.2.2.2.2.1)) (lp_back hy (Option.some.inj hf).symm)).2.2 _ _ _ rfl hR hN hS (lv_sub hl [2, 3, 4, 5, 1, 6, 7, 0] rfl)
  refine lv_iconst (v := 0) hx hb dX8_hopsByBreadth_0 (by decide) ?_
  refine lv_istore (lv' := [(4, .int 0), (0, .ref (br + 0)), (1, .ref (b + 0)), (2, .int a2), (3, .int a3)]) hx hb dX8_hopsByBreadth_1 hl (by decide) rfl (fun ls hl => ?_)
  obtain ⟨fu, hfu⟩ := lp_some hf
  exact (loop fu (0, 0, 0, 0, 0, R) hfu).1 _ _ _ rfl hR hN hS (lv_sub hl [1, 2, 3, 4, 0] rfl)
def fX8_extended_s (R : Mem) (N : Mem) (a2 : Int32) (z : Nat × Int32 × Int32 × Int32) : Option ((Nat × Int32 × Int32 × Int32) ⊕ (Int32)) := (if z.1 = 0 then (if (N 0 1) ≤ z.2.2.1 then some (.inr z.2.1) else some (.inl (1, z.2.1, z.2.2.1, 0))) else (if (N 0 1) ≤ z.2.2.2 then some (.inl (0, z.2.1, (z.2.2.1 + 1), 0)) else (if (a2 &&& ((1 : Int32) <<< (z.2.2.1 &&& 31))) = 0 then some (.inl (0, z.2.1, (z.2.2.1 + 1), 0)) else gd (inb z.2.2.2 8) (gd (inb z.2.2.1 8) ((fX9_hears N (2 + 1 * z.2.2.2.toNatClampNeg) (2 + 1 * z.2.2.1.toNatClampNeg)).bind fun z6 => (if z6 = 0 then some (.inl (1, z.2.1, z.2.2.1, (z.2.2.2 + 1))) else some (.inl (1, (z.2.1 ||| ((1 : Int32) <<< (z.2.2.2 &&& 31))), z.2.2.1, (z.2.2.2 + 1)))))))))
noncomputable def fX8_extended (R : Mem) (N : Mem) (a2 : Int32) : Option (Int32) := lp (fX8_extended_s R N a2) (0, a2, 0, 0)
set_option maxHeartbeats 4000000 in
set_option maxRecDepth 100000 in
theorem mX8_extended (l : Launch) (E : EP) (B0 : Nat) (br : Nat) (b : Nat) (hb0 : B0 ≤ br) (hb1 : B0 ≤ b) (hb2 : br + 3 ≤ b ∨ b + 15 ≤ br) (R : Mem) (N : Mem) (a2 : Int32) (r : Int32) (hf : fX8_extended R N a2 = some r) : MU l E B0 yX8_extended cX8_extended 6 (some .int) 2 0 0 [.ref (br + 0), .ref (b + 0), .int a2] (fun H => Blk E br relSh 3 R H ∧ Blk E b netSh 15 N H) (some (.int r)) (fun H => Blk E br relSh 3 R H ∧ Blk E b netSh 15 N H) nv := by
  refine mu_of (by decide +kernel) (Nat.le_of_ble_eq_true rfl) ?_
  intro p e s m args below meth c hx hb hml hown hts hrt hlocks hE H hP9 hS ls hl
  obtain ⟨hR, hN⟩ := hP9
  have hown : s.vm.findClass RX8 = some m.cls := hown
  have hl : lv_has ls 6 [(0, .ref (br + 0)), (1, .ref (b + 0)), (2, .int a2)] := hl
  have hw : ∀ w ∈ WA, w.before args s = true := fun w h => hts w (List.mem_cons_of_mem _ h)
  have hAB : ∀ q, nv q → B0 ≤ q := fun _ h => h.elim
  unfold fX8_extended at hf
  have loop : ∀ (fu : Nat) (z : Nat × Int32 × Int32 × Int32), lpI (fX8_extended_s R N a2) fu z = some r → (∀ (H : Heap) (locs : List Loc) (ls : Array Slot), z.1 = 0 → Blk E br relSh 3 R H → Blk E b netSh 15 N H → va_S nv s.heap H locs → lv_has ls 6 [(0, .ref (br + 0)), (1, .ref (b + 0)), (2, .int a2), (3, .int z.2.1), (4, .int z.2.2.1)] → W p l e (rmD 2 0 0) s m args below meth c H locs 0 0 (MQ below (QU (some (.int r)) (fun H => Blk E br relSh 3 R H ∧ Blk E b netSh 15 N H) nv) args s 0 0 nv) (F0 m 5 ls [])) ∧ (∀ (H : Heap) (locs : List Loc) (ls : Array Slot), z.1 = 1 → Blk E br relSh 3 R H → Blk E b netSh 15 N H → va_S nv s.heap H locs → lv_has ls 6 [(0, .ref (br + 0)), (1, .ref (b + 0)), (2, .int a2), (3, .int z.2.1), (4, .int z.2.2.1), (5, .int z.2.2.2)] → W p l e (rmD 2 0 0) s m args below meth c H locs 0 0 (MQ below (QU (some (.int r)) (fun H => Blk E br relSh 3 R H ∧ Blk E b netSh 15 N H) nv) args s 0 0 nv) (F0 m 17 ls [])) := by
    intro fu
    induction fu with
    | zero =>
      intro z hn
      exact nomatch hn
    | succ fu ih =>
      intro z hn
      obtain ⟨y, hf, hy⟩ := lpI_succ hn
      refine ⟨?_, ?_⟩
      · intro H locs ls hz hR hN hS hl
        unfold fX8_extended_s at hf
        rw [if_pos hz] at hf
        refine lv_iload hx hb dX8_extended_5 (lv_at hl 4 rfl) ?_
        refine lv_aload_n hx hb dX8_extended_7 rfl (lv_at hl 1 rfl) ?_
        refine w_get (k := 0) (v := .int (N 0 1)) hx hb hw hown hE fl_X8_18 hN (by decide) rfl rfl rfl dX8_extended_8 ?_
        refine lv_icmp_ge (tgt := 74) hx hb dX8_extended_11 (by decide) (fun c1 => ?_) (fun c1 => ?_)
        · rw [if_pos c1] at hf
          refine lv_iload_n hx hb dX8_extended_74 rfl (lv_at hl 3 rfl) ?_
          have hre := lp_end hy (Option.some.inj hf).symm
          subst hre
          exact mu_i (v := z.2.1) hx hb hrt hlocks ⟨hR, hN⟩ hS dX8_extended_75
        · rw [if_neg c1] at hf
          refine lv_iconst (v := 0) hx hb dX8_extended_14 (by decide) ?_
          refine lv_istore (lv' := [(5, .int 0), (0, .ref (br + 0)), (1, .ref (b + 0)), (2, .int a2), (3, .int z.2.1), (4, .int z.2.2.1)]) hx hb dX8_extended_15 hl (by decide) rfl (fun ls hl => ?_)
          exact (ih (1, z.2.1, z.2.2.1, 0) (lp_back hy (Option.some.inj hf).symm)).2 _ _ _ rfl hR hN hS (lv_sub hl [1, 2, 3, 4, 5, 0] rfl)
      · intro H locs ls hz hR hN hS hl
        unfold fX8_extended_s at hf
        rw [if_neg (by rw [hz]; decide)] at hf
        refine lv_iload hx hb dX8_extended_17 (lv_at hl 5 rfl) ?_
        refine lv_aload_n hx hb dX8_extended_19 rfl (lv_at hl 1 rfl) ?_
        refine w_get (k := 0) (v := .int (N 0 1)) hx hb hw hown hE fl_X8_18 hN (by decide) rfl rfl rfl dX8_extended_20 ?_
        refine lv_icmp_ge (tgt := 68) hx hb dX8_extended_23 (by decide) (fun c2 => ?_) (fun c2 => ?_)
        · rw [if_pos c2] at hf
          refine lv_iinc (v := (z.2.2.1 + 1)) (lv' := [(4, .int (z.2.2.1 + 1)), (0, .ref (br + 0)), (1, .ref (b + 0)), (2, .int a2), (3, .int z.2.1), (5, .int z.2.2.2)]) hx hb dX8_extended_68 hl (k := 4) rfl rfl (by decide) rfl (fun ls hl => ?_)
          refine lv_goto (tgt := 5) hx hb dX8_extended_71 (by decide) ?_
          exact (ih (0, z.2.1, (z.2.2.1 + 1), 0) (lp_back hy (Option.some.inj hf).symm)).1 _ _ _ rfl hR hN hS (lv_sub hl [1, 2, 3, 4, 0] rfl)
        · rw [if_neg c2] at hf
          refine lv_iload_n hx hb dX8_extended_26 rfl (lv_at hl 2 rfl) ?_
          refine lv_iconst (v := 1) hx hb dX8_extended_27 (by decide) ?_
          refine lv_iload hx hb dX8_extended_28 (lv_at hl 4 rfl) ?_
          refine lv_ishl hx hb dX8_extended_30 ?_
          refine lv_iand hx hb dX8_extended_31 ?_
          refine lv_if_eq (tgt := 68) hx hb dX8_extended_32 (by decide) (fun c3 => ?_) (fun c3 => ?_)
          · rw [if_pos c3] at hf
            refine lv_iinc (v := (z.2.2.1 + 1)) (lv' := [(4, .int (z.2.2.1 + 1)), (0, .ref (br + 0)), (1, .ref (b + 0)), (2, .int a2), (3, .int z.2.1), (5, .int z.2.2.2)]) hx hb dX8_extended_68 hl (k := 4) rfl rfl (by decide) rfl (fun ls hl => ?_)
            refine lv_goto (tgt := 5) hx hb dX8_extended_71 (by decide) ?_
            exact (ih (0, z.2.1, (z.2.2.1 + 1), 0) (lp_back hy (Option.some.inj hf).symm)).1 _ _ _ rfl hR hN hS (lv_sub hl [1, 2, 3, 4, 0] rfl)
          · rw [if_neg c3] at hf
            refine lv_aload_n hx hb dX8_extended_35 rfl (lv_at hl 1 rfl) ?_
            refine w_get (k := 0) (v := .ref (b + 1)) hx hb hw hown hE fl_X8_24 hN (by decide) rfl rfl rfl dX8_extended_36 ?_
            refine lv_iload hx hb dX8_extended_39 (lv_at hl 5 rfl) ?_
            obtain ⟨h4, hf⟩ := gd_some hf
            refine w_aald (k := 1) (j := 0) (x9 := z.2.2.2.toNatClampNeg) hx hb hE hN (by decide) rfl rfl rfl h4 dX8_extended_41 ?_
            refine lv_aload_n hx hb dX8_extended_42 rfl (lv_at hl 1 rfl) ?_
            refine w_get (k := 0) (v := .ref (b + 1)) hx hb hw hown hE fl_X8_24 hN (by decide) rfl rfl rfl dX8_extended_43 ?_
            refine lv_iload hx hb dX8_extended_46 (lv_at hl 4 rfl) ?_
            obtain ⟨h5, hf⟩ := gd_some hf
            refine w_aald (k := 1) (j := 0) (x9 := z.2.2.1.toNatClampNeg) hx hb hE hN (by decide) rfl rfl rfl h5 dX8_extended_48 ?_
            obtain ⟨z6, hc7, hf⟩ := br_some hf
            refine mu_cV (As := [.ref (b + (2 + 1 * z.2.2.1.toNatClampNeg))]) (rest := []) hx hb hml hown hts hE (mX9_hears l E B0 b (by omega) N (2 + 1 * z.2.2.2.toNatClampNeg) (2 + 1 * z.2.2.1.toNatClampNeg) z6 hc7) cv_X8_28 (w_recv (k := (2 + 1 * z.2.2.2.toNatClampNeg)) (ci := 9) hE hN (stn_lt (stn_ld h4)) (stn_sh (stn_ld h4)) rfl) hN hS hAB (fun _ h => h.elim) rfl hl.1 rfl (by decide) (Nat.le_of_ble_eq_true rfl) ⟨Nat.le_refl _, Nat.le_refl _⟩ dX8_extended_49 (fun H locs hN _ hu hS => ?_)
            have hR := Blk.off hR hu (fun _ _ _ h => h)
            refine lv_if_eq (tgt := 62) hx hb dX8_extended_52 (by decide) (fun c8 => ?_) (fun c8 => ?_)
            · rw [if_pos c8] at hf
              refine lv_iinc (v := (z.2.2.2 + 1)) (lv' := [(5, .int (z.2.2.2 + 1)), (0, .ref (br + 0)), (1, .ref (b + 0)), (2, .int a2), (3, .int z.2.1), (4, .int z.2.2.1)]) hx hb dX8_extended_62 hl (k := 5) rfl rfl (by decide) rfl (fun ls hl => ?_)
              refine lv_goto (tgt := 17) hx hb dX8_extended_65 (by decide) ?_
              exact (ih (1, z.2.1, z.2.2.1, (z.2.2.2 + 1)) (lp_back hy (Option.some.inj hf).symm)).2 _ _ _ rfl hR hN hS (lv_sub hl [1, 2, 3, 4, 5, 0] rfl)
            · rw [if_neg c8] at hf
              refine lv_iload_n hx hb dX8_extended_55 rfl (lv_at hl 3 rfl) ?_
              refine lv_iconst (v := 1) hx hb dX8_extended_56 (by decide) ?_
              refine lv_iload hx hb dX8_extended_57 (lv_at hl 5 rfl) ?_
              refine lv_ishl hx hb dX8_extended_59 ?_
              refine lv_ior hx hb dX8_extended_60 ?_
              refine lv_istore_n (lv' := [(3, .int (z.2.1 ||| ((1 : Int32) <<< (z.2.2.2 &&& 31)))), (0, .ref (br + 0)), (1, .ref (b + 0)), (2, .int a2), (4, .int z.2.2.1), (5, .int z.2.2.2)]) hx hb dX8_extended_61 rfl hl (by decide) rfl (fun ls hl => ?_)
              refine lv_iinc (v := (z.2.2.2 + 1)) (lv' := [(5, .int (z.2.2.2 + 1)), (3, .int (z.2.1 ||| ((1 : Int32) <<< (z.2.2.2 &&& 31)))), (0, .ref (br + 0)), (1, .ref (b + 0)), (2, .int a2), (4, .int z.2.2.1)]) hx hb dX8_extended_62 hl (k := 5) rfl rfl (by decide) rfl (fun ls hl => ?_)
              refine lv_goto (tgt := 17) hx hb dX8_extended_65 (by decide) ?_
              exact (ih (1, (z.2.1 ||| ((1 : Int32) <<< (z.2.2.2 &&& 31))), z.2.2.1, (z.2.2.2 + 1)) (lp_back hy (Option.some.inj hf).symm)).2 _ _ _ rfl hR hN hS (lv_sub hl [2, 3, 4, 1, 5, 0] rfl)
  refine lv_iload_n hx hb dX8_extended_0 rfl (lv_at hl 2 rfl) ?_
  refine lv_istore_n (lv' := [(3, .int a2), (0, .ref (br + 0)), (1, .ref (b + 0)), (2, .int a2)]) hx hb dX8_extended_1 rfl hl (by decide) rfl (fun ls hl => ?_)
  refine lv_iconst (v := 0) hx hb dX8_extended_2 (by decide) ?_
  refine lv_istore (lv' := [(4, .int 0), (3, .int a2), (0, .ref (br + 0)), (1, .ref (b + 0)), (2, .int a2)]) hx hb dX8_extended_3 hl (by decide) rfl (fun ls hl => ?_)
  obtain ⟨fu, hfu⟩ := lp_some hf
  exact (loop fu (0, a2, 0, 0) hfu).1 _ _ _ rfl hR hN hS (lv_sub hl [2, 3, 4, 1, 0] rfl)
noncomputable def fX8_hopsOfSets_s (R : Mem) (N : Mem) (a2 : Int32) (a3 : Int32) (z : Int32 × Int32) : Option ((Int32 × Int32) ⊕ (Int32)) := (if (8 : Int32) ≤ z.2 then some (.inr (-1)) else (if (z.1 &&& ((1 : Int32) <<< (a3 &&& 31))) = 0 then (fX8_extended R N z.1).bind fun z3 => some (.inl (z3, (z.2 + 1))) else some (.inr z.2)))
noncomputable def fX8_hopsOfSets (R : Mem) (N : Mem) (a2 : Int32) (a3 : Int32) : Option (Int32) := lp (fX8_hopsOfSets_s R N a2 a3) (((1 : Int32) <<< (a2 &&& 31)), 0)
set_option maxHeartbeats 4000000 in
set_option maxRecDepth 100000 in
theorem mX8_hopsOfSets (l : Launch) (E : EP) (B0 : Nat) (br : Nat) (b : Nat) (hb0 : B0 ≤ br) (hb1 : B0 ≤ b) (hb2 : br + 3 ≤ b ∨ b + 15 ≤ br) (R : Mem) (N : Mem) (a2 : Int32) (a3 : Int32) (r : Int32) (hf : fX8_hopsOfSets R N a2 a3 = some r) : MU l E B0 yX8_hopsOfSets cX8_hopsOfSets 6 (some .int) 3 0 0 [.ref (br + 0), .ref (b + 0), .int a2, .int a3] (fun H => Blk E br relSh 3 R H ∧ Blk E b netSh 15 N H) (some (.int r)) (fun H => Blk E br relSh 3 R H ∧ Blk E b netSh 15 N H) nv := by
  refine mu_of (by decide +kernel) (Nat.le_of_ble_eq_true rfl) ?_
  intro p e s m args below meth c hx hb hml hown hts hrt hlocks hE H hP9 hS ls hl
  obtain ⟨hR, hN⟩ := hP9
  have hown : s.vm.findClass RX8 = some m.cls := hown
  have hl : lv_has ls 6 [(0, .ref (br + 0)), (1, .ref (b + 0)), (2, .int a2), (3, .int a3)] := hl
  have hw : ∀ w ∈ WA, w.before args s = true := fun w h => hts w (List.mem_cons_of_mem _ h)
  have hAB : ∀ q, nv q → B0 ≤ q := fun _ h => h.elim
  unfold fX8_hopsOfSets at hf
  have loop : ∀ (fu : Nat) (z : Int32 × Int32), lpI (fX8_hopsOfSets_s R N a2 a3) fu z = some r → (∀ (H : Heap) (locs : List Loc) (ls : Array Slot), Blk E br relSh 3 R H → Blk E b netSh 15 N H → va_S nv s.heap H locs → lv_has ls 6 [(0, .ref (br + 0)), (1, .ref (b + 0)), (2, .int a2), (3, .int a3), (4, .int z.1), (5, .int z.2)] → W p l e (rmD 3 0 0) s m args below meth c H locs 0 0 (MQ below (QU (some (.int r)) (fun H => Blk E br relSh 3 R H ∧ Blk E b netSh 15 N H) nv) args s 0 0 nv) (F0 m 8 ls [])) := by
    intro fu
    induction fu with
    | zero =>
      intro z hn
      exact nomatch hn
    | succ fu ih =>
      intro z hn
      obtain ⟨y, hf, hy⟩ := lpI_succ hn
      intro H locs ls hR hN hS hl
      unfold fX8_hopsOfSets_s at hf
      refine lv_iload hx hb dX8_hopsOfSets_8 (lv_at hl 5 rfl) ?_
      refine lv_bipush (v := 8) hx hb dX8_hopsOfSets_10 (by decide) ?_
      refine lv_icmp_ge (tgt := 42) hx hb dX8_hopsOfSets_12 (by decide) (fun c1 => ?_) (fun c1 => ?_)
      · rw [if_pos c1] at hf
        refine lv_iconst (v := -1) hx hb dX8_hopsOfSets_42 (by decide) ?_
        have hre := lp_end hy (Option.some.inj hf).symm
        subst hre
        exact mu_i (v := -1) hx hb hrt hlocks ⟨hR, hN⟩ hS dX8_hopsOfSets_43
      · rw [if_neg c1] at hf
        refine lv_iload hx hb dX8_hopsOfSets_15 (lv_at hl 4 rfl) ?_
        refine lv_iconst (v := 1) hx hb dX8_hopsOfSets_17 (by decide) ?_
        refine lv_iload_n hx hb dX8_hopsOfSets_18 rfl (lv_at hl 3 rfl) ?_
        refine lv_ishl hx hb dX8_hopsOfSets_19 ?_
        refine lv_iand hx hb dX8_hopsOfSets_20 ?_
        refine lv_if_eq (tgt := 27) hx hb dX8_hopsOfSets_21 (by decide) (fun c2 => ?_) (fun c2 => ?_)
        · rw [if_pos c2] at hf
          refine lv_aload_n hx hb dX8_hopsOfSets_27 rfl (lv_at hl 0 rfl) ?_
          refine lv_aload_n hx hb dX8_hopsOfSets_28 rfl (lv_at hl 1 rfl) ?_
          refine lv_iload hx hb dX8_hopsOfSets_29 (lv_at hl 4 rfl) ?_
          obtain ⟨z3, hc4, hf⟩ := br_some hf
          refine mu_cV (As := [.ref (b + 0), .int z.1]) (rest := []) hx hb hml hown hts hE (mX8_extended l E B0 br b (by omega) (by omega) (by omega) R N z.1 z3 hc4) cv_X8_34 (w_recv (k := 0) (ci := 8) hE hR (by decide) rfl rfl) ⟨hR, hN⟩ hS hAB (fun _ h => h.elim) rfl hl.1 rfl (by decide) (Nat.le_of_ble_eq_true rfl) ⟨Nat.le_refl _, Nat.le_refl _⟩ dX8_hopsOfSets_31 (fun H locs hP9 _ hu hS => ?_)
          obtain ⟨hR, hN⟩ := hP9
          refine lv_istore (lv' := [(4, .int z3), (0, .ref (br + 0)), (1, .ref (b + 0)), (2, .int a2), (3, .int a3), (5, .int z.2)]) hx hb dX8_hopsOfSets_34 hl (by decide) rfl (fun ls hl => ?_)
          refine lv_iinc (v := (z.2 + 1)) (lv' := [(5, .int (z.2 + 1)), (4, .int z3), (0, .ref (br + 0)), (1, .ref (b + 0)), (2, .int a2), (3, .int a3)]) hx hb dX8_hopsOfSets_36 hl (k := 5) rfl rfl (by decide) rfl (fun ls hl => ?_)
          refine lv_goto (tgt := 8) hx hb dX8_hopsOfSets_39 (by decide) ?_
          exact ih (z3, (z.2 + 1)) (lp_back hy (Option.some.inj hf).symm) _ _ _ hR hN hS (lv_sub hl [2, 3, 4, 5, 1, 0] rfl)
        · rw [if_neg c2] at hf
          refine lv_iload hx hb dX8_hopsOfSets_24 (lv_at hl 5 rfl) ?_
          have hre := lp_end hy (Option.some.inj hf).symm
          subst hre
          exact mu_i (v := z.2) hx hb hrt hlocks ⟨hR, hN⟩ hS dX8_hopsOfSets_26
  refine lv_iconst (v := 1) hx hb dX8_hopsOfSets_0 (by decide) ?_
  refine lv_iload_n hx hb dX8_hopsOfSets_1 rfl (lv_at hl 2 rfl) ?_
  refine lv_ishl hx hb dX8_hopsOfSets_2 ?_
  refine lv_istore (lv' := [(4, .int ((1 : Int32) <<< (a2 &&& 31))), (0, .ref (br + 0)), (1, .ref (b + 0)), (2, .int a2), (3, .int a3)]) hx hb dX8_hopsOfSets_3 hl (by decide) rfl (fun ls hl => ?_)
  refine lv_iconst (v := 0) hx hb dX8_hopsOfSets_5 (by decide) ?_
  refine lv_istore (lv' := [(5, .int 0), (4, .int ((1 : Int32) <<< (a2 &&& 31))), (0, .ref (br + 0)), (1, .ref (b + 0)), (2, .int a2), (3, .int a3)]) hx hb dX8_hopsOfSets_6 hl (by decide) rfl (fun ls hl => ?_)
  obtain ⟨fu, hfu⟩ := lp_some hf
  exact (loop fu (((1 : Int32) <<< (a2 &&& 31)), 0) hfu) _ _ _ hR hN hS (lv_sub hl [2, 3, 4, 5, 1, 0] rfl)
def fJ6_bitCount_0f7a4 (a1 : Int32) : Option (Int32) := some ((((((((a1 - (((a1.toUInt32 >>> ((1 : Int32).toUInt32 &&& Int32.toUInt32 31)).toInt32) &&& 1431655765)) &&& 858993459) + ((((a1 - (((a1.toUInt32 >>> ((1 : Int32).toUInt32 &&& Int32.toUInt32 31)).toInt32) &&& 1431655765)).toUInt32 >>> ((2 : Int32).toUInt32 &&& Int32.toUInt32 31)).toInt32) &&& 858993459)) + (((((a1 - (((a1.toUInt32 >>> ((1 : Int32).toUInt32 &&& Int32.toUInt32 31)).toInt32) &&& 1431655765)) &&& 858993459) + ((((a1 - (((a1.toUInt32 >>> ((1 : Int32).toUInt32 &&& Int32.toUInt32 31)).toInt32) &&& 1431655765)).toUInt32 >>> ((2 : Int32).toUInt32 &&& Int32.toUInt32 31)).toInt32) &&& 858993459)).toUInt32 >>> ((4 : Int32).toUInt32 &&& Int32.toUInt32 31)).toInt32)) &&& 252645135) + (((((((a1 - (((a1.toUInt32 >>> ((1 : Int32).toUInt32 &&& Int32.toUInt32 31)).toInt32) &&& 1431655765)) &&& 858993459) + ((((a1 - (((a1.toUInt32 >>> ((1 : Int32).toUInt32 &&& Int32.toUInt32 31)).toInt32) &&& 1431655765)).toUInt32 >>> ((2 : Int32).toUInt32 &&& Int32.toUInt32 31)).toInt32) &&& 858993459)) + (((((a1 - (((a1.toUInt32 >>> ((1 : Int32).toUInt32 &&& Int32.toUInt32 31)).toInt32) &&& 1431655765)) &&& 858993459) + ((((a1 - (((a1.toUInt32 >>> ((1 : Int32).toUInt32 &&& Int32.toUInt32 31)).toInt32) &&& 1431655765)).toUInt32 >>> ((2 : Int32).toUInt32 &&& Int32.toUInt32 31)).toInt32) &&& 858993459)).toUInt32 >>> ((4 : Int32).toUInt32 &&& Int32.toUInt32 31)).toInt32)) &&& 252645135).toUInt32 >>> ((8 : Int32).toUInt32 &&& Int32.toUInt32 31)).toInt32)) + ((((((((a1 - (((a1.toUInt32 >>> ((1 : Int32).toUInt32 &&& Int32.toUInt32 31)).toInt32) &&& 1431655765)) &&& 858993459) + ((((a1 - (((a1.toUInt32 >>> ((1 : Int32).toUInt32 &&& Int32.toUInt32 31)).toInt32) &&& 1431655765)).toUInt32 >>> ((2 : Int32).toUInt32 &&& Int32.toUInt32 31)).toInt32) &&& 858993459)) + (((((a1 - (((a1.toUInt32 >>> ((1 : Int32).toUInt32 &&& Int32.toUInt32 31)).toInt32) &&& 1431655765)) &&& 858993459) + ((((a1 - (((a1.toUInt32 >>> ((1 : Int32).toUInt32 &&& Int32.toUInt32 31)).toInt32) &&& 1431655765)).toUInt32 >>> ((2 : Int32).toUInt32 &&& Int32.toUInt32 31)).toInt32) &&& 858993459)).toUInt32 >>> ((4 : Int32).toUInt32 &&& Int32.toUInt32 31)).toInt32)) &&& 252645135) + (((((((a1 - (((a1.toUInt32 >>> ((1 : Int32).toUInt32 &&& Int32.toUInt32 31)).toInt32) &&& 1431655765)) &&& 858993459) + ((((a1 - (((a1.toUInt32 >>> ((1 : Int32).toUInt32 &&& Int32.toUInt32 31)).toInt32) &&& 1431655765)).toUInt32 >>> ((2 : Int32).toUInt32 &&& Int32.toUInt32 31)).toInt32) &&& 858993459)) + (((((a1 - (((a1.toUInt32 >>> ((1 : Int32).toUInt32 &&& Int32.toUInt32 31)).toInt32) &&& 1431655765)) &&& 858993459) + ((((a1 - (((a1.toUInt32 >>> ((1 : Int32).toUInt32 &&& Int32.toUInt32 31)).toInt32) &&& 1431655765)).toUInt32 >>> ((2 : Int32).toUInt32 &&& Int32.toUInt32 31)).toInt32) &&& 858993459)).toUInt32 >>> ((4 : Int32).toUInt32 &&& Int32.toUInt32 31)).toInt32)) &&& 252645135).toUInt32 >>> ((8 : Int32).toUInt32 &&& Int32.toUInt32 31)).toInt32)).toUInt32 >>> ((16 : Int32).toUInt32 &&& Int32.toUInt32 31)).toInt32)) &&& 63)
set_option maxHeartbeats 4000000 in
set_option maxRecDepth 100000 in
theorem mJ6_bitCount_0f7a4 (l : Launch) (E : EP) (B0 : Nat) (a1 : Int32) (r : Int32) (hf : fJ6_bitCount_0f7a4 a1 = some r) : MU l E B0 yJ6_bitCount_0f7a4 cJ6_bitCount_0f7a4 1 (some .int) 0 0 0 [.int a1] (fun _ => True) (some (.int r)) (fun _ => True) nv := by
  refine mu_of (by decide +kernel) (Nat.le_of_ble_eq_true rfl) ?_
  intro p e s m args below meth c hx hb hml hown hts hrt hlocks hE H _ hS ls hl
  have hown : s.vm.findClass RJ6 = some m.cls := hown
  have hl : lv_has ls 1 [(0, .int a1)] := hl
  have hw : ∀ w ∈ WA, w.before args s = true := fun w h => hts w (List.mem_cons_of_mem _ h)
  have hAB : ∀ q, nv q → B0 ≤ q := fun _ h => h.elim
  unfold fJ6_bitCount_0f7a4 at hf
  refine lv_iload_n hx hb dJ6_bitCount_0f7a4_0 rfl (lv_at hl 0 rfl) ?_
  refine lv_iload_n hx hb dJ6_bitCount_0f7a4_1 rfl (lv_at hl 0 rfl) ?_
  refine lv_iconst (v := 1) hx hb dJ6_bitCount_0f7a4_2 (by decide) ?_
  refine lv_iushr (v := (a1.toUInt32 >>> ((1 : Int32).toUInt32 &&& Int32.toUInt32 31)).toInt32) hx hb dJ6_bitCount_0f7a4_3 rfl ?_
  refine lv_ldcw (v := 1431655765) hx hb hown (hw _ kc_J6_265) dJ6_bitCount_0f7a4_4 ?_
  refine lv_iand hx hb dJ6_bitCount_0f7a4_7 ?_
  refine lv_isub hx hb dJ6_bitCount_0f7a4_8 ?_
  refine lv_istore_n (lv' := [(0, .int (a1 - (((a1.toUInt32 >>> ((1 : Int32).toUInt32 &&& Int32.toUInt32 31)).toInt32) &&& 1431655765)))]) hx hb dJ6_bitCount_0f7a4_9 rfl hl (by decide) rfl (fun ls hl => ?_)
  refine lv_iload_n hx hb dJ6_bitCount_0f7a4_10 rfl (lv_at hl 0 rfl) ?_
  refine lv_ldcw (v := 858993459) hx hb hown (hw _ kc_J6_266) dJ6_bitCount_0f7a4_11 ?_
  refine lv_iand hx hb dJ6_bitCount_0f7a4_14 ?_
  refine lv_iload_n hx hb dJ6_bitCount_0f7a4_15 rfl (lv_at hl 0 rfl) ?_
  refine lv_iconst (v := 2) hx hb dJ6_bitCount_0f7a4_16 (by decide) ?_
  refine lv_iushr (v := ((a1 - (((a1.toUInt32 >>> ((1 : Int32).toUInt32 &&& Int32.toUInt32 31)).toInt32) &&& 1431655765)).toUInt32 >>> ((2 : Int32).toUInt32 &&& Int32.toUInt32 31)).toInt32) hx hb dJ6_bitCount_0f7a4_17 rfl ?_
  refine lv_ldcw (v := 858993459) hx hb hown (hw _ kc_J6_266) dJ6_bitCount_0f7a4_18 ?_
  refine lv_iand hx hb dJ6_bitCount_0f7a4_21 ?_
  refine lv_iadd hx hb dJ6_bitCount_0f7a4_22 ?_
  refine lv_istore_n (lv' := [(0, .int (((a1 - (((a1.toUInt32 >>> ((1 : Int32).toUInt32 &&& Int32.toUInt32 31)).toInt32) &&& 1431655765)) &&& 858993459) + ((((a1 - (((a1.toUInt32 >>> ((1 : Int32).toUInt32 &&& Int32.toUInt32 31)).toInt32) &&& 1431655765)).toUInt32 >>> ((2 : Int32).toUInt32 &&& Int32.toUInt32 31)).toInt32) &&& 858993459)))]) hx hb dJ6_bitCount_0f7a4_23 rfl hl (by decide) rfl (fun ls hl => ?_)
  refine lv_iload_n hx hb dJ6_bitCount_0f7a4_24 rfl (lv_at hl 0 rfl) ?_
  refine lv_iload_n hx hb dJ6_bitCount_0f7a4_25 rfl (lv_at hl 0 rfl) ?_
  refine lv_iconst (v := 4) hx hb dJ6_bitCount_0f7a4_26 (by decide) ?_
  refine lv_iushr (v := ((((a1 - (((a1.toUInt32 >>> ((1 : Int32).toUInt32 &&& Int32.toUInt32 31)).toInt32) &&& 1431655765)) &&& 858993459) + ((((a1 - (((a1.toUInt32 >>> ((1 : Int32).toUInt32 &&& Int32.toUInt32 31)).toInt32) &&& 1431655765)).toUInt32 >>> ((2 : Int32).toUInt32 &&& Int32.toUInt32 31)).toInt32) &&& 858993459)).toUInt32 >>> ((4 : Int32).toUInt32 &&& Int32.toUInt32 31)).toInt32) hx hb dJ6_bitCount_0f7a4_27 rfl ?_
  refine lv_iadd hx hb dJ6_bitCount_0f7a4_28 ?_
  refine lv_ldcw (v := 252645135) hx hb hown (hw _ kc_J6_267) dJ6_bitCount_0f7a4_29 ?_
  refine lv_iand hx hb dJ6_bitCount_0f7a4_32 ?_
  refine lv_istore_n (lv' := [(0, .int (((((a1 - (((a1.toUInt32 >>> ((1 : Int32).toUInt32 &&& Int32.toUInt32 31)).toInt32) &&& 1431655765)) &&& 858993459) + ((((a1 - (((a1.toUInt32 >>> ((1 : Int32).toUInt32 &&& Int32.toUInt32 31)).toInt32) &&& 1431655765)).toUInt32 >>> ((2 : Int32).toUInt32 &&& Int32.toUInt32 31)).toInt32) &&& 858993459)) + (((((a1 - (((a1.toUInt32 >>> ((1 : Int32).toUInt32 &&& Int32.toUInt32 31)).toInt32) &&& 1431655765)) &&& 858993459) + ((((a1 - (((a1.toUInt32 >>> ((1 : Int32).toUInt32 &&& Int32.toUInt32 31)).toInt32) &&& 1431655765)).toUInt32 >>> ((2 : Int32).toUInt32 &&& Int32.toUInt32 31)).toInt32) &&& 858993459)).toUInt32 >>> ((4 : Int32).toUInt32 &&& Int32.toUInt32 31)).toInt32)) &&& 252645135))]) hx hb dJ6_bitCount_0f7a4_33 rfl hl (by decide) rfl (fun ls hl => ?_)
  refine lv_iload_n hx hb dJ6_bitCount_0f7a4_34 rfl (lv_at hl 0 rfl) ?_
  refine lv_iload_n hx hb dJ6_bitCount_0f7a4_35 rfl (lv_at hl 0 rfl) ?_
  refine lv_bipush (v := 8) hx hb dJ6_bitCount_0f7a4_36 (by decide) ?_
  refine lv_iushr (v := ((((((a1 - (((a1.toUInt32 >>> ((1 : Int32).toUInt32 &&& Int32.toUInt32 31)).toInt32) &&& 1431655765)) &&& 858993459) + ((((a1 - (((a1.toUInt32 >>> ((1 : Int32).toUInt32 &&& Int32.toUInt32 31)).toInt32) &&& 1431655765)).toUInt32 >>> ((2 : Int32).toUInt32 &&& Int32.toUInt32 31)).toInt32) &&& 858993459)) + (((((a1 - (((a1.toUInt32 >>> ((1 : Int32).toUInt32 &&& Int32.toUInt32 31)).toInt32) &&& 1431655765)) &&& 858993459) + ((((a1 - (((a1.toUInt32 >>> ((1 : Int32).toUInt32 &&& Int32.toUInt32 31)).toInt32) &&& 1431655765)).toUInt32 >>> ((2 : Int32).toUInt32 &&& Int32.toUInt32 31)).toInt32) &&& 858993459)).toUInt32 >>> ((4 : Int32).toUInt32 &&& Int32.toUInt32 31)).toInt32)) &&& 252645135).toUInt32 >>> ((8 : Int32).toUInt32 &&& Int32.toUInt32 31)).toInt32) hx hb dJ6_bitCount_0f7a4_38 rfl ?_
  refine lv_iadd hx hb dJ6_bitCount_0f7a4_39 ?_
  refine lv_istore_n (lv' := [(0, .int ((((((a1 - (((a1.toUInt32 >>> ((1 : Int32).toUInt32 &&& Int32.toUInt32 31)).toInt32) &&& 1431655765)) &&& 858993459) + ((((a1 - (((a1.toUInt32 >>> ((1 : Int32).toUInt32 &&& Int32.toUInt32 31)).toInt32) &&& 1431655765)).toUInt32 >>> ((2 : Int32).toUInt32 &&& Int32.toUInt32 31)).toInt32) &&& 858993459)) + (((((a1 - (((a1.toUInt32 >>> ((1 : Int32).toUInt32 &&& Int32.toUInt32 31)).toInt32) &&& 1431655765)) &&& 858993459) + ((((a1 - (((a1.toUInt32 >>> ((1 : Int32).toUInt32 &&& Int32.toUInt32 31)).toInt32) &&& 1431655765)).toUInt32 >>> ((2 : Int32).toUInt32 &&& Int32.toUInt32 31)).toInt32) &&& 858993459)).toUInt32 >>> ((4 : Int32).toUInt32 &&& Int32.toUInt32 31)).toInt32)) &&& 252645135) + (((((((a1 - (((a1.toUInt32 >>> ((1 : Int32).toUInt32 &&& Int32.toUInt32 31)).toInt32) &&& 1431655765)) &&& 858993459) + ((((a1 - (((a1.toUInt32 >>> ((1 : Int32).toUInt32 &&& Int32.toUInt32 31)).toInt32) &&& 1431655765)).toUInt32 >>> ((2 : Int32).toUInt32 &&& Int32.toUInt32 31)).toInt32) &&& 858993459)) + (((((a1 - (((a1.toUInt32 >>> ((1 : Int32).toUInt32 &&& Int32.toUInt32 31)).toInt32) &&& 1431655765)) &&& 858993459) + ((((a1 - (((a1.toUInt32 >>> ((1 : Int32).toUInt32 &&& Int32.toUInt32 31)).toInt32) &&& 1431655765)).toUInt32 >>> ((2 : Int32).toUInt32 &&& Int32.toUInt32 31)).toInt32) &&& 858993459)).toUInt32 >>> ((4 : Int32).toUInt32 &&& Int32.toUInt32 31)).toInt32)) &&& 252645135).toUInt32 >>> ((8 : Int32).toUInt32 &&& Int32.toUInt32 31)).toInt32)))]) hx hb dJ6_bitCount_0f7a4_40 rfl hl (by decide) rfl (fun ls hl => ?_)
  refine lv_iload_n hx hb dJ6_bitCount_0f7a4_41 rfl (lv_at hl 0 rfl) ?_
  refine lv_iload_n hx hb dJ6_bitCount_0f7a4_42 rfl (lv_at hl 0 rfl) ?_
  refine lv_bipush (v := 16) hx hb dJ6_bitCount_0f7a4_43 (by decide) ?_
  refine lv_iushr (v := (((((((a1 - (((a1.toUInt32 >>> ((1 : Int32).toUInt32 &&& Int32.toUInt32 31)).toInt32) &&& 1431655765)) &&& 858993459) + ((((a1 - (((a1.toUInt32 >>> ((1 : Int32).toUInt32 &&& Int32.toUInt32 31)).toInt32) &&& 1431655765)).toUInt32 >>> ((2 : Int32).toUInt32 &&& Int32.toUInt32 31)).toInt32) &&& 858993459)) + (((((a1 - (((a1.toUInt32 >>> ((1 : Int32).toUInt32 &&& Int32.toUInt32 31)).toInt32) &&& 1431655765)) &&& 858993459) + ((((a1 - (((a1.toUInt32 >>> ((1 : Int32).toUInt32 &&& Int32.toUInt32 31)).toInt32) &&& 1431655765)).toUInt32 >>> ((2 : Int32).toUInt32 &&& Int32.toUInt32 31)).toInt32) &&& 858993459)).toUInt32 >>> ((4 : Int32).toUInt32 &&& Int32.toUInt32 31)).toInt32)) &&& 252645135) + (((((((a1 - (((a1.toUInt32 >>> ((1 : Int32).toUInt32 &&& Int32.toUInt32 31)).toInt32) &&& 1431655765)) &&& 858993459) + ((((a1 - (((a1.toUInt32 >>> ((1 : Int32).toUInt32 &&& Int32.toUInt32 31)).toInt32) &&& 1431655765)).toUInt32 >>> ((2 : Int32).toUInt32 &&& Int32.toUInt32 31)).toInt32) &&& 858993459)) + (((((a1 - (((a1.toUInt32 >>> ((1 : Int32).toUInt32 &&& Int32.toUInt32 31)).toInt32) &&& 1431655765)) &&& 858993459) + ((((a1 - (((a1.toUInt32 >>> ((1 : Int32).toUInt32 &&& Int32.toUInt32 31)).toInt32) &&& 1431655765)).toUInt32 >>> ((2 : Int32).toUInt32 &&& Int32.toUInt32 31)).toInt32) &&& 858993459)).toUInt32 >>> ((4 : Int32).toUInt32 &&& Int32.toUInt32 31)).toInt32)) &&& 252645135).toUInt32 >>> ((8 : Int32).toUInt32 &&& Int32.toUInt32 31)).toInt32)).toUInt32 >>> ((16 : Int32).toUInt32 &&& Int32.toUInt32 31)).toInt32) hx hb dJ6_bitCount_0f7a4_45 rfl ?_
  refine lv_iadd hx hb dJ6_bitCount_0f7a4_46 ?_
  refine lv_istore_n (lv' := [(0, .int (((((((a1 - (((a1.toUInt32 >>> ((1 : Int32).toUInt32 &&& Int32.toUInt32 31)).toInt32) &&& 1431655765)) &&& 858993459) + ((((a1 - (((a1.toUInt32 >>> ((1 : Int32).toUInt32 &&& Int32.toUInt32 31)).toInt32) &&& 1431655765)).toUInt32 >>> ((2 : Int32).toUInt32 &&& Int32.toUInt32 31)).toInt32) &&& 858993459)) + (((((a1 - (((a1.toUInt32 >>> ((1 : Int32).toUInt32 &&& Int32.toUInt32 31)).toInt32) &&& 1431655765)) &&& 858993459) + ((((a1 - (((a1.toUInt32 >>> ((1 : Int32).toUInt32 &&& Int32.toUInt32 31)).toInt32) &&& 1431655765)).toUInt32 >>> ((2 : Int32).toUInt32 &&& Int32.toUInt32 31)).toInt32) &&& 858993459)).toUInt32 >>> ((4 : Int32).toUInt32 &&& Int32.toUInt32 31)).toInt32)) &&& 252645135) + (((((((a1 - (((a1.toUInt32 >>> ((1 : Int32).toUInt32 &&& Int32.toUInt32 31)).toInt32) &&& 1431655765)) &&& 858993459) + ((((a1 - (((a1.toUInt32 >>> ((1 : Int32).toUInt32 &&& Int32.toUInt32 31)).toInt32) &&& 1431655765)).toUInt32 >>> ((2 : Int32).toUInt32 &&& Int32.toUInt32 31)).toInt32) &&& 858993459)) + (((((a1 - (((a1.toUInt32 >>> ((1 : Int32).toUInt32 &&& Int32.toUInt32 31)).toInt32) &&& 1431655765)) &&& 858993459) + ((((a1 - (((a1.toUInt32 >>> ((1 : Int32).toUInt32 &&& Int32.toUInt32 31)).toInt32) &&& 1431655765)).toUInt32 >>> ((2 : Int32).toUInt32 &&& Int32.toUInt32 31)).toInt32) &&& 858993459)).toUInt32 >>> ((4 : Int32).toUInt32 &&& Int32.toUInt32 31)).toInt32)) &&& 252645135).toUInt32 >>> ((8 : Int32).toUInt32 &&& Int32.toUInt32 31)).toInt32)) + ((((((((a1 - (((a1.toUInt32 >>> ((1 : Int32).toUInt32 &&& Int32.toUInt32 31)).toInt32) &&& 1431655765)) &&& 858993459) + ((((a1 - (((a1.toUInt32 >>> ((1 : Int32).toUInt32 &&& Int32.toUInt32 31)).toInt32) &&& 1431655765)).toUInt32 >>> ((2 : Int32).toUInt32 &&& Int32.toUInt32 31)).toInt32) &&& 858993459)) + (((((a1 - (((a1.toUInt32 >>> ((1 : Int32).toUInt32 &&& Int32.toUInt32 31)).toInt32) &&& 1431655765)) &&& 858993459) + ((((a1 - (((a1.toUInt32 >>> ((1 : Int32).toUInt32 &&& Int32.toUInt32 31)).toInt32) &&& 1431655765)).toUInt32 >>> ((2 : Int32).toUInt32 &&& Int32.toUInt32 31)).toInt32) &&& 858993459)).toUInt32 >>> ((4 : Int32).toUInt32 &&& Int32.toUInt32 31)).toInt32)) &&& 252645135) + (((((((a1 - (((a1.toUInt32 >>> ((1 : Int32).toUInt32 &&& Int32.toUInt32 31)).toInt32) &&& 1431655765)) &&& 858993459) + ((((a1 - (((a1.toUInt32 >>> ((1 : Int32).toUInt32 &&& Int32.toUInt32 31)).toInt32) &&& 1431655765)).toUInt32 >>> ((2 : Int32).toUInt32 &&& Int32.toUInt32 31)).toInt32) &&& 858993459)) + (((((a1 - (((a1.toUInt32 >>> ((1 : Int32).toUInt32 &&& Int32.toUInt32 31)).toInt32) &&& 1431655765)) &&& 858993459) + ((((a1 - (((a1.toUInt32 >>> ((1 : Int32).toUInt32 &&& Int32.toUInt32 31)).toInt32) &&& 1431655765)).toUInt32 >>> ((2 : Int32).toUInt32 &&& Int32.toUInt32 31)).toInt32) &&& 858993459)).toUInt32 >>> ((4 : Int32).toUInt32 &&& Int32.toUInt32 31)).toInt32)) &&& 252645135).toUInt32 >>> ((8 : Int32).toUInt32 &&& Int32.toUInt32 31)).toInt32)).toUInt32 >>> ((16 : Int32).toUInt32 &&& Int32.toUInt32 31)).toInt32)))]) hx hb dJ6_bitCount_0f7a4_47 rfl hl (by decide) rfl (fun ls hl => ?_)
  refine lv_iload_n hx hb dJ6_bitCount_0f7a4_48 rfl (lv_at hl 0 rfl) ?_
  refine lv_bipush (v := 63) hx hb dJ6_bitCount_0f7a4_49 (by decide) ?_
  refine lv_iand hx hb dJ6_bitCount_0f7a4_51 ?_
  have hre := Option.some.inj hf
  subst hre
  exact mu_i (v := ((((((((a1 - (((a1.toUInt32 >>> ((1 : Int32).toUInt32 &&& Int32.toUInt32 31)).toInt32) &&& 1431655765)) &&& 858993459) + ((((a1 - (((a1.toUInt32 >>> ((1 : Int32).toUInt32 &&& Int32.toUInt32 31)).toInt32) &&& 1431655765)).toUInt32 >>> ((2 : Int32).toUInt32 &&& Int32.toUInt32 31)).toInt32) &&& 858993459)) + (((((a1 - (((a1.toUInt32 >>> ((1 : Int32).toUInt32 &&& Int32.toUInt32 31)).toInt32) &&& 1431655765)) &&& 858993459) + ((((a1 - (((a1.toUInt32 >>> ((1 : Int32).toUInt32 &&& Int32.toUInt32 31)).toInt32) &&& 1431655765)).toUInt32 >>> ((2 : Int32).toUInt32 &&& Int32.toUInt32 31)).toInt32) &&& 858993459)).toUInt32 >>> ((4 : Int32).toUInt32 &&& Int32.toUInt32 31)).toInt32)) &&& 252645135) + (((((((a1 - (((a1.toUInt32 >>> ((1 : Int32).toUInt32 &&& Int32.toUInt32 31)).toInt32) &&& 1431655765)) &&& 858993459) + ((((a1 - (((a1.toUInt32 >>> ((1 : Int32).toUInt32 &&& Int32.toUInt32 31)).toInt32) &&& 1431655765)).toUInt32 >>> ((2 : Int32).toUInt32 &&& Int32.toUInt32 31)).toInt32) &&& 858993459)) + (((((a1 - (((a1.toUInt32 >>> ((1 : Int32).toUInt32 &&& Int32.toUInt32 31)).toInt32) &&& 1431655765)) &&& 858993459) + ((((a1 - (((a1.toUInt32 >>> ((1 : Int32).toUInt32 &&& Int32.toUInt32 31)).toInt32) &&& 1431655765)).toUInt32 >>> ((2 : Int32).toUInt32 &&& Int32.toUInt32 31)).toInt32) &&& 858993459)).toUInt32 >>> ((4 : Int32).toUInt32 &&& Int32.toUInt32 31)).toInt32)) &&& 252645135).toUInt32 >>> ((8 : Int32).toUInt32 &&& Int32.toUInt32 31)).toInt32)) + ((((((((a1 - (((a1.toUInt32 >>> ((1 : Int32).toUInt32 &&& Int32.toUInt32 31)).toInt32) &&& 1431655765)) &&& 858993459) + ((((a1 - (((a1.toUInt32 >>> ((1 : Int32).toUInt32 &&& Int32.toUInt32 31)).toInt32) &&& 1431655765)).toUInt32 >>> ((2 : Int32).toUInt32 &&& Int32.toUInt32 31)).toInt32) &&& 858993459)) + (((((a1 - (((a1.toUInt32 >>> ((1 : Int32).toUInt32 &&& Int32.toUInt32 31)).toInt32) &&& 1431655765)) &&& 858993459) + ((((a1 - (((a1.toUInt32 >>> ((1 : Int32).toUInt32 &&& Int32.toUInt32 31)).toInt32) &&& 1431655765)).toUInt32 >>> ((2 : Int32).toUInt32 &&& Int32.toUInt32 31)).toInt32) &&& 858993459)).toUInt32 >>> ((4 : Int32).toUInt32 &&& Int32.toUInt32 31)).toInt32)) &&& 252645135) + (((((((a1 - (((a1.toUInt32 >>> ((1 : Int32).toUInt32 &&& Int32.toUInt32 31)).toInt32) &&& 1431655765)) &&& 858993459) + ((((a1 - (((a1.toUInt32 >>> ((1 : Int32).toUInt32 &&& Int32.toUInt32 31)).toInt32) &&& 1431655765)).toUInt32 >>> ((2 : Int32).toUInt32 &&& Int32.toUInt32 31)).toInt32) &&& 858993459)) + (((((a1 - (((a1.toUInt32 >>> ((1 : Int32).toUInt32 &&& Int32.toUInt32 31)).toInt32) &&& 1431655765)) &&& 858993459) + ((((a1 - (((a1.toUInt32 >>> ((1 : Int32).toUInt32 &&& Int32.toUInt32 31)).toInt32) &&& 1431655765)).toUInt32 >>> ((2 : Int32).toUInt32 &&& Int32.toUInt32 31)).toInt32) &&& 858993459)).toUInt32 >>> ((4 : Int32).toUInt32 &&& Int32.toUInt32 31)).toInt32)) &&& 252645135).toUInt32 >>> ((8 : Int32).toUInt32 &&& Int32.toUInt32 31)).toInt32)).toUInt32 >>> ((16 : Int32).toUInt32 &&& Int32.toUInt32 31)).toInt32)) &&& 63)) hx hb hrt hlocks trivial hS dJ6_bitCount_0f7a4_52
noncomputable def fX8_countReached_s (R : Mem) (N : Mem) (a2 : Int32) (z : Int32 × Int32) : Option ((Int32 × Int32) ⊕ (Int32)) := (if (8 : Int32) ≤ z.2 then (fJ6_bitCount_0f7a4 z.1).bind fun z2 => some (.inr z2) else (fX8_extended R N z.1).bind fun z4 => some (.inl (z4, (z.2 + 1))))
noncomputable def fX8_countReached (R : Mem) (N : Mem) (a2 : Int32) : Option (Int32) := lp (fX8_countReached_s R N a2) (((1 : Int32) <<< (a2 &&& 31)), 0)
set_option maxHeartbeats 4000000 in
set_option maxRecDepth 100000 in
theorem mX8_countReached (l : Launch) (E : EP) (B0 : Nat) (br : Nat) (b : Nat) (hb0 : B0 ≤ br) (hb1 : B0 ≤ b) (hb2 : br + 3 ≤ b ∨ b + 15 ≤ br) (R : Mem) (N : Mem) (a2 : Int32) (r : Int32) (hf : fX8_countReached R N a2 = some r) : MU l E B0 yX8_countReached cX8_countReached 5 (some .int) 3 0 0 [.ref (br + 0), .ref (b + 0), .int a2] (fun H => Blk E br relSh 3 R H ∧ Blk E b netSh 15 N H) (some (.int r)) (fun H => Blk E br relSh 3 R H ∧ Blk E b netSh 15 N H) nv := by
  refine mu_of (by decide +kernel) (Nat.le_of_ble_eq_true rfl) ?_
  intro p e s m args below meth c hx hb hml hown hts hrt hlocks hE H hP9 hS ls hl
  obtain ⟨hR, hN⟩ := hP9
  have hown : s.vm.findClass RX8 = some m.cls := hown
  have hl : lv_has ls 5 [(0, .ref (br + 0)), (1, .ref (b + 0)), (2, .int a2)] := hl
  have hw : ∀ w ∈ WA, w.before args s = true := fun w h => hts w (List.mem_cons_of_mem _ h)
  have hAB : ∀ q, nv q → B0 ≤ q := fun _ h => h.elim
  unfold fX8_countReached at hf
  have loop : ∀ (fu : Nat) (z : Int32 × Int32), lpI (fX8_countReached_s R N a2) fu z = some r → (∀ (H : Heap) (locs : List Loc) (ls : Array Slot), Blk E br relSh 3 R H → Blk E b netSh 15 N H → va_S nv s.heap H locs → lv_has ls 5 [(0, .ref (br + 0)), (1, .ref (b + 0)), (2, .int a2), (3, .int z.1), (4, .int z.2)] → W p l e (rmD 3 0 0) s m args below meth c H locs 0 0 (MQ below (QU (some (.int r)) (fun H => Blk E br relSh 3 R H ∧ Blk E b netSh 15 N H) nv) args s 0 0 nv) (F0 m 7 ls [])) := by
    intro fu
    induction fu with
    | zero =>
      intro z hn
      exact nomatch hn
    | succ fu ih =>
      intro z hn
      obtain ⟨y, hf, hy⟩ := lpI_succ hn
      intro H locs ls hR hN hS hl
      unfold fX8_countReached_s at hf
      refine lv_iload hx hb dX8_countReached_7 (lv_at hl 4 rfl) ?_
      refine lv_bipush (v := 8) hx hb dX8_countReached_9 (by decide) ?_
      refine lv_icmp_ge (tgt := 27) hx hb dX8_countReached_11 (by decide) (fun c1 => ?_) (fun c1 => ?_)
      · rw [if_pos c1] at hf
        refine lv_iload_n hx hb dX8_countReached_27 rfl (lv_at hl 3 rfl) ?_
        obtain ⟨z2, hc3, hf⟩ := br_some hf
        refine mu_cS (As := [.int z.1]) (rest := []) hx hb hml hown hts hE (mJ6_bitCount_0f7a4 l E B0 z.1 z2 hc3) cs_X8_38 trivial hS hAB (fun _ h => h.elim) rfl hl.1 rfl (by decide) (Nat.le_of_ble_eq_true rfl) ⟨Nat.le_refl _, Nat.le_refl _⟩ dX8_countReached_28 (fun H locs _ _ hu hS => ?_)
        have hR := Blk.off hR hu (fun _ _ _ h => h)
        have hN := Blk.off hN hu (fun _ _ _ h => h)
        have hre := lp_end hy (Option.some.inj hf).symm
        subst hre
        exact mu_i (v := z2) hx hb hrt hlocks ⟨hR, hN⟩ hS dX8_countReached_31
      · rw [if_neg c1] at hf
        refine lv_aload_n hx hb dX8_countReached_14 rfl (lv_at hl 0 rfl) ?_
        refine lv_aload_n hx hb dX8_countReached_15 rfl (lv_at hl 1 rfl) ?_
        refine lv_iload_n hx hb dX8_countReached_16 rfl (lv_at hl 3 rfl) ?_
        obtain ⟨z4, hc5, hf⟩ := br_some hf
        refine mu_cV (As := [.ref (b + 0), .int z.1]) (rest := []) hx hb hml hown hts hE (mX8_extended l E B0 br b (by omega) (by omega) (by omega) R N z.1 z4 hc5) cv_X8_34 (w_recv (k := 0) (ci := 8) hE hR (by decide) rfl rfl) ⟨hR, hN⟩ hS hAB (fun _ h => h.elim) rfl hl.1 rfl (by decide) (Nat.le_of_ble_eq_true rfl) ⟨Nat.le_refl _, Nat.le_refl _⟩ dX8_countReached_17 (fun H locs hP9 _ hu hS => ?_)
        obtain ⟨hR, hN⟩ := hP9
        refine lv_istore_n (lv' := [(3, .int z4), (0, .ref (br + 0)), (1, .ref (b + 0)), (2, .int a2), (4, .int z.2)]) hx hb dX8_countReached_20 rfl hl (by decide) rfl (fun ls hl => ?_)
        refine lv_iinc (v := (z.2 + 1)) (lv' := [(4, .int (z.2 + 1)), (3, .int z4), (0, .ref (br + 0)), (1, .ref (b + 0)), (2, .int a2)]) hx hb dX8_countReached_21 hl (k := 4) rfl rfl (by decide) rfl (fun ls hl => ?_)
        refine lv_goto (tgt := 7) hx hb dX8_countReached_24 (by decide) ?_
        exact ih (z4, (z.2 + 1)) (lp_back hy (Option.some.inj hf).symm) _ _ _ hR hN hS (lv_sub hl [2, 3, 4, 1, 0] rfl)
  refine lv_iconst (v := 1) hx hb dX8_countReached_0 (by decide) ?_
  refine lv_iload_n hx hb dX8_countReached_1 rfl (lv_at hl 2 rfl) ?_
  refine lv_ishl hx hb dX8_countReached_2 ?_
  refine lv_istore_n (lv' := [(3, .int ((1 : Int32) <<< (a2 &&& 31))), (0, .ref (br + 0)), (1, .ref (b + 0)), (2, .int a2)]) hx hb dX8_countReached_3 rfl hl (by decide) rfl (fun ls hl => ?_)
  refine lv_iconst (v := 0) hx hb dX8_countReached_4 (by decide) ?_
  refine lv_istore (lv' := [(4, .int 0), (3, .int ((1 : Int32) <<< (a2 &&& 31))), (0, .ref (br + 0)), (1, .ref (b + 0)), (2, .int a2)]) hx hb dX8_countReached_5 hl (by decide) rfl (fun ls hl => ?_)
  obtain ⟨fu, hfu⟩ := lp_some hf
  exact (loop fu (((1 : Int32) <<< (a2 &&& 31)), 0) hfu) _ _ _ hR hN hS (lv_sub hl [2, 3, 4, 1, 0] rfl)
