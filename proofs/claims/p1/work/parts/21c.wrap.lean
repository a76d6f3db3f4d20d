/-! ===== the wrappers, laid by program ===== -/
noncomputable def fL_addStation (z : KS) (a1 : Int32) (a2 : Int32) (a3 : Int32) (a4 : Int32) (a5 : Int32) (a6 : Int32) : Option (Int32 × KS) := (fX11_addStation z.G z.N z.Hs z.Q a1 a2 a3 a4 a5 a6).bind fun z1 => sx z1.1 (fun e9 => (if e9 = 1 then some (1, (KS.mk z.G z1.2.1 z.T z.V z1.2.2.1 z1.2.2.2 z.R z.P z.Sb z.o z.od)) else (if e9 = 2 then some (2, (KS.mk z.G z1.2.1 z.T z.V z1.2.2.1 z1.2.2.2 z.R z.P z.Sb z.o z.od)) else (if e9 = 3 then some (3, (KS.mk z.G z1.2.1 z.T z.V z1.2.2.1 z1.2.2.2 z.R z.P z.Sb z.o z.od)) else none)))) (fun v => some (0, (KS.mk z.G z1.2.1 z.T z.V z1.2.2.1 z1.2.2.2 z.R z.P z.Sb v.toInt64 z.od)))
set_option maxHeartbeats 4000000 in
set_option maxRecDepth 100000 in
theorem mL_addStation (l : Launch) (E : EP) (B0 : Nat) (htr : l.stackTraces = false) (B : Nat) (hb0 : B0 ≤ B) (z : KS) (a1 : Int32) (a2 : Int32) (a3 : Int32) (a4 : Int32) (a5 : Int32) (a6 : Int32) (r : Int32 × KS) (hf : fL_addStation z a1 a2 a3 a4 a5 a6 = some r) : MW l E B0 yL_addStation cL_addStation 9 (some .int) [(0, 18, 21, 13), (0, 18, 25, 15), (0, 18, 29, 17)] 10 1 6 [.ref (B + 0), .int a1, .int a2, .int a3, .int a4, .int a5, .int a6, .ref (B + 212)] (CW E B z) (some (.int r.1)) (CW E B r.2) (cA B) := by
  refine mw_of (by decide +kernel) (Nat.le_of_ble_eq_true rfl) ?_
  intro p e s m args below meth c hx hb hml hown hw hrt hlocks htb hE H hP9 hS ls hl
  obtain ⟨hG, hN, hT, hV, hHs, hQ, hR, hP, hSb, hO, hOd⟩ := hP9
  have hown : s.vm.findClass RL = some m.cls := hown
  have hl : lv_has ls 9 [(0, .ref (B + 0)), (1, .int a1), (2, .int a2), (3, .int a3), (4, .int a4), (5, .int a5), (6, .int a6), (7, .ref (B + 212))] := hl
  have hAB : ∀ q, cA B q → B0 ≤ q := cA_ge hb0
  unfold fL_addStation at hf
  obtain ⟨z1, hc, hf⟩ := br_some hf
  refine lv_aload hx hb dL_addStation_0 (lv_at hl 7 rfl) ?_
  refine lv_iconst (v := 0) hx hb dL_addStation_2 (by decide) ?_
  refine lv_aload_n hx hb dL_addStation_3 rfl (lv_at hl 0 rfl) ?_
  refine lv_iload_n hx hb dL_addStation_4 rfl (lv_at hl 1 rfl) ?_
  refine lv_iload_n hx hb dL_addStation_5 rfl (lv_at hl 2 rfl) ?_
  refine lv_iload_n hx hb dL_addStation_6 rfl (lv_at hl 3 rfl) ?_
  refine lv_iload hx hb dL_addStation_7 (lv_at hl 4 rfl) ?_
  refine lv_iload hx hb dL_addStation_9 (lv_at hl 5 rfl) ?_
  refine lv_iload hx hb dL_addStation_11 (lv_at hl 6 rfl) ?_
  refine mg_xV (As := [.int a1, .int a2, .int a3, .int a4, .int a5, .int a6]) (rest := [.int 0, .ref (B + 212)]) hx hb hml hown hw hE (mX11_addStation l E B0 htr B (B + 214) (by omega) (by omega) z.G z.N z.Hs z.Q a1 a2 a3 a4 a5 a6 z1 hc) cv_L_7 (w_recv (k := 0) (ci := 11) hE hG (by decide) rfl rfl) ⟨hG, hN, hHs, hQ⟩ hS hAB (fun q h => by simp only [orA, iv, nv, sbA] at h; show (B ≤ q ∧ q < B + 202) ∨ B + 212 ≤ q; omega) rfl hl.1 rfl (by decide) (by decide) (Nat.le_of_ble_eq_true rfl) ⟨by decide, by decide⟩ dL_addStation_13 (fun e9 ee H locs ce q hP9 hz hu hS hce hcv hcl => ?_) (fun v ev H locs hP9 hz hu hS => ?_)
  · have hf := sx_l ee hf
    obtain ⟨hG, hN, hHs, hQ⟩ := hP9
    have hT := Blk.off hT hu (or_dis (iv_dis (by omega)) (or_dis (iv_dis (by omega)) (iv_dis (by omega))))
    have hV := Blk.off hV hu (or_dis (iv_dis (by omega)) (or_dis (iv_dis (by omega)) (iv_dis (by omega))))
    have hR := Blk.off hR hu (or_dis (iv_dis (by omega)) (or_dis (iv_dis (by omega)) (iv_dis (by omega))))
    have hP := Blk.off hP hu (or_dis (iv_dis (by omega)) (or_dis (iv_dis (by omega)) (iv_dis (by omega))))
    have hSb := SBt.off hSb hz hu (or_dis_s (sb_iv_dis (by omega) (by omega)) (or_dis_s (sb_iv_dis (by omega) (by omega)) (sb_iv_dis (by omega) (by omega))))
    have hO := LO.off hO hu (fun h => by simp only [orA, iv, nv, sbA] at h; omega)
    have hOd := LD.off hOd hu (fun h => by simp only [orA, iv, nv, sbA] at h; omega)
    by_cases c0 : e9 = 1
    · subst c0
      rw [if_pos rfl] at hf
      have hre := Option.some.inj hf
      subst hre
      refine vx_catch (E := "java/lang/IllegalArgumentException") (name := "java/lang/IllegalArgumentException") hown [] ⟨0, 18, 21, 13⟩ [⟨0, 18, 25, 15⟩, ⟨0, 18, 29, 17⟩] (htb.trans rfl) (fun _ h => absurd h List.not_mem_nil) (by decide) (by decide) (hw _ kl_L_13) (va_Nw.use rfl (hE.2.2.2.2.1 _ kx_1 rfl)) hce hcv hcl ?_
      refine lv_astore (lv' := [(8, .ref q), (0, .ref (B + 0)), (1, .int a1), (2, .int a2), (3, .int a3), (4, .int a4), (5, .int a5), (6, .int a6), (7, .ref (B + 212))]) hx hb dL_addStation_21 hl (by decide) rfl (fun ls hl => ?_)
      refine lv_iconst (v := 1) hx hb dL_addStation_23 (by decide) ?_
      refine W.widen (k := 1) (n := 6) (by decide) (by decide) ?_
      exact mu_i (v := 1) hx hb hrt hlocks ⟨hG, hN, hT, hV, hHs, hQ, hR, hP, hSb, hO, hOd⟩ hS dL_addStation_24
    by_cases c1 : e9 = 2
    · subst c1
      rw [if_neg (by decide), if_pos rfl] at hf
      have hre := Option.some.inj hf
      subst hre
      refine vx_catch (E := "java/lang/UnsupportedOperationException") (name := "java/lang/UnsupportedOperationException") hown [⟨0, 18, 21, 13⟩] ⟨0, 18, 25, 15⟩ [⟨0, 18, 29, 17⟩] (htb.trans rfl) (List.forall_mem_cons.mpr ⟨Or.inr ⟨by decide, "java/lang/IllegalArgumentException", hw _ kl_L_13, hE.nc (by simp)⟩, (fun _ h => absurd h List.not_mem_nil)⟩) (by decide) (by decide) (hw _ kl_L_15) (va_Nw.use rfl (hE.2.2.2.2.1 _ kx_2 rfl)) hce hcv hcl ?_
      refine lv_astore (lv' := [(8, .ref q), (0, .ref (B + 0)), (1, .int a1), (2, .int a2), (3, .int a3), (4, .int a4), (5, .int a5), (6, .int a6), (7, .ref (B + 212))]) hx hb dL_addStation_25 hl (by decide) rfl (fun ls hl => ?_)
      refine lv_iconst (v := 2) hx hb dL_addStation_27 (by decide) ?_
      refine W.widen (k := 1) (n := 6) (by decide) (by decide) ?_
      exact mu_i (v := 2) hx hb hrt hlocks ⟨hG, hN, hT, hV, hHs, hQ, hR, hP, hSb, hO, hOd⟩ hS dL_addStation_28
    by_cases c2 : e9 = 3
    · subst c2
      rw [if_neg (by decide), if_neg (by decide), if_pos rfl] at hf
      have hre := Option.some.inj hf
      subst hre
      refine vx_catch (E := "java/lang/IllegalStateException") (name := "java/lang/IllegalStateException") hown [⟨0, 18, 21, 13⟩, ⟨0, 18, 25, 15⟩] ⟨0, 18, 29, 17⟩ [] (htb.trans rfl) (List.forall_mem_cons.mpr ⟨Or.inr ⟨by decide, "java/lang/IllegalArgumentException", hw _ kl_L_13, hE.nc (by simp)⟩, (List.forall_mem_cons.mpr ⟨Or.inr ⟨by decide, "java/lang/UnsupportedOperationException", hw _ kl_L_15, hE.nc (by simp)⟩, (fun _ h => absurd h List.not_mem_nil)⟩)⟩) (by decide) (by decide) (hw _ kl_L_17) (va_Nw.use rfl (hE.2.2.2.2.1 _ kx_3 rfl)) hce hcv hcl ?_
      refine lv_astore (lv' := [(8, .ref q), (0, .ref (B + 0)), (1, .int a1), (2, .int a2), (3, .int a3), (4, .int a4), (5, .int a5), (6, .int a6), (7, .ref (B + 212))]) hx hb dL_addStation_29 hl (by decide) rfl (fun ls hl => ?_)
      refine lv_iconst (v := 3) hx hb dL_addStation_31 (by decide) ?_
      refine W.widen (k := 1) (n := 6) (by decide) (by decide) ?_
      exact mu_i (v := 3) hx hb hrt hlocks ⟨hG, hN, hT, hV, hHs, hQ, hR, hP, hSb, hO, hOd⟩ hS dL_addStation_32
    rw [if_neg c0, if_neg c1, if_neg c2] at hf
    exact nomatch hf
  · have hf := sx_r ev hf
    obtain ⟨hG, hN, hHs, hQ⟩ := hP9
    have hT := Blk.off hT hu (or_dis (iv_dis (by omega)) (or_dis (iv_dis (by omega)) (iv_dis (by omega))))
    have hV := Blk.off hV hu (or_dis (iv_dis (by omega)) (or_dis (iv_dis (by omega)) (iv_dis (by omega))))
    have hR := Blk.off hR hu (or_dis (iv_dis (by omega)) (or_dis (iv_dis (by omega)) (iv_dis (by omega))))
    have hP := Blk.off hP hu (or_dis (iv_dis (by omega)) (or_dis (iv_dis (by omega)) (iv_dis (by omega))))
    have hSb := SBt.off hSb hz hu (or_dis_s (sb_iv_dis (by omega) (by omega)) (or_dis_s (sb_iv_dis (by omega) (by omega)) (sb_iv_dis (by omega) (by omega))))
    have hO := LO.off hO hu (fun h => by simp only [orA, iv, nv, sbA] at h; omega)
    have hOd := LD.off hOd hu (fun h => by simp only [orA, iv, nv, sbA] at h; omega)
    refine lv_i2l hx hb dL_addStation_16 rfl ?_
    refine w_last hx hb hE hO hS (Or.inr (by omega)) dL_addStation_17 (fun H locs hO z9 oq hS => ?_)
    have hG := Blk.offq hG oq (by omega)
    have hN := Blk.offq hN oq (by omega)
    have hT := Blk.offq hT oq (by omega)
    have hV := Blk.offq hV oq (by omega)
    have hHs := Blk.offq hHs oq (by omega)
    have hQ := Fam.offq hQ oq (by omega)
    have hR := Blk.offq hR oq (by omega)
    have hP := Blk.offq hP oq (by omega)
    have hSb := SBt.offq hSb z9 oq (by omega) (by omega)
    have hOd := LD.offq hOd oq (by omega)
    refine lv_goto (tgt := 33) hx hb dL_addStation_18 (by decide) ?_
    have hre := Option.some.inj hf
    subst hre
    refine lv_iconst (v := 0) hx hb dL_addStation_33 (by decide) ?_
    refine W.widen (k := 1) (n := 6) (by decide) (by decide) ?_
    exact mu_i (v := 0) hx hb hrt hlocks ⟨hG, hN, hT, hV, hHs, hQ, hR, hP, hSb, hO, hOd⟩ hS dL_addStation_34
noncomputable def fL_move (z : KS) (a1 : Int32) (a2 : Int32) (a3 : Int32) : Option (Int32 × KS) := (fX11_move z.G z.N z.Hs z.Q a1 a2 a3).bind fun z1 => sx z1.1 (fun e9 => (if e9 = 0 then some (1, (KS.mk z.G z1.2.1 z.T z.V z1.2.2.1 z1.2.2.2 z.R z.P z.Sb z.o z.od)) else (if e9 = 1 then some (2, (KS.mk z.G z1.2.1 z.T z.V z1.2.2.1 z1.2.2.2 z.R z.P z.Sb z.o z.od)) else none))) (fun v => some (0, (KS.mk z.G z1.2.1 z.T z.V z1.2.2.1 z1.2.2.2 z.R z.P z.Sb v.toInt64 z.od)))
set_option maxHeartbeats 4000000 in
set_option maxRecDepth 100000 in
theorem mL_move (l : Launch) (E : EP) (B0 : Nat) (htr : l.stackTraces = false) (B : Nat) (hb0 : B0 ≤ B) (z : KS) (a1 : Int32) (a2 : Int32) (a3 : Int32) (r : Int32 × KS) (hf : fL_move z a1 a2 a3 = some r) : MW l E B0 yL_move cL_move 6 (some .int) [(0, 12, 15, 23), (0, 12, 19, 13)] 10 1 6 [.ref (B + 0), .int a1, .int a2, .int a3, .ref (B + 212)] (CW E B z) (some (.int r.1)) (CW E B r.2) (cA B) := by
  refine mw_of (by decide +kernel) (Nat.le_of_ble_eq_true rfl) ?_
  intro p e s m args below meth c hx hb hml hown hw hrt hlocks htb hE H hP9 hS ls hl
  obtain ⟨hG, hN, hT, hV, hHs, hQ, hR, hP, hSb, hO, hOd⟩ := hP9
  have hown : s.vm.findClass RL = some m.cls := hown
  have hl : lv_has ls 6 [(0, .ref (B + 0)), (1, .int a1), (2, .int a2), (3, .int a3), (4, .ref (B + 212))] := hl
  have hAB : ∀ q, cA B q → B0 ≤ q := cA_ge hb0
  unfold fL_move at hf
  obtain ⟨z1, hc, hf⟩ := br_some hf
  refine lv_aload hx hb dL_move_0 (lv_at hl 4 rfl) ?_
  refine lv_iconst (v := 0) hx hb dL_move_2 (by decide) ?_
  refine lv_aload_n hx hb dL_move_3 rfl (lv_at hl 0 rfl) ?_
  refine lv_iload_n hx hb dL_move_4 rfl (lv_at hl 1 rfl) ?_
  refine lv_iload_n hx hb dL_move_5 rfl (lv_at hl 2 rfl) ?_
  refine lv_iload_n hx hb dL_move_6 rfl (lv_at hl 3 rfl) ?_
  refine mg_xV (As := [.int a1, .int a2, .int a3]) (rest := [.int 0, .ref (B + 212)]) hx hb hml hown hw hE (mX11_move l E B0 htr B (B + 214) (by omega) (by omega) z.G z.N z.Hs z.Q a1 a2 a3 z1 hc) cv_L_19 (w_recv (k := 0) (ci := 11) hE hG (by decide) rfl rfl) ⟨hG, hN, hHs, hQ⟩ hS hAB (fun q h => by simp only [orA, iv, nv, sbA] at h; show (B ≤ q ∧ q < B + 202) ∨ B + 212 ≤ q; omega) rfl hl.1 rfl (by decide) (by decide) (Nat.le_of_ble_eq_true rfl) ⟨by decide, by decide⟩ dL_move_7 (fun e9 ee H locs ce q hP9 hz hu hS hce hcv hcl => ?_) (fun v ev H locs hP9 hz hu hS => ?_)
  · have hf := sx_l ee hf
    obtain ⟨hG, hN, hHs, hQ⟩ := hP9
    have hT := Blk.off hT hu (or_dis (iv_dis (by omega)) (or_dis (iv_dis (by omega)) (iv_dis (by omega))))
    have hV := Blk.off hV hu (or_dis (iv_dis (by omega)) (or_dis (iv_dis (by omega)) (iv_dis (by omega))))
    have hR := Blk.off hR hu (or_dis (iv_dis (by omega)) (or_dis (iv_dis (by omega)) (iv_dis (by omega))))
    have hP := Blk.off hP hu (or_dis (iv_dis (by omega)) (or_dis (iv_dis (by omega)) (iv_dis (by omega))))
    have hSb := SBt.off hSb hz hu (or_dis_s (sb_iv_dis (by omega) (by omega)) (or_dis_s (sb_iv_dis (by omega) (by omega)) (sb_iv_dis (by omega) (by omega))))
    have hO := LO.off hO hu (fun h => by simp only [orA, iv, nv, sbA] at h; omega)
    have hOd := LD.off hOd hu (fun h => by simp only [orA, iv, nv, sbA] at h; omega)
    by_cases c0 : e9 = 0
    · subst c0
      rw [if_pos rfl] at hf
      have hre := Option.some.inj hf
      subst hre
      refine vx_catch (E := "java/lang/IndexOutOfBoundsException") (name := "java/lang/IndexOutOfBoundsException") hown [] ⟨0, 12, 15, 23⟩ [⟨0, 12, 19, 13⟩] (htb.trans rfl) (fun _ h => absurd h List.not_mem_nil) (by decide) (by decide) (hw _ kl_L_23) (va_Nw.use rfl (hE.2.2.2.2.1 _ kx_0 rfl)) hce hcv hcl ?_
      refine lv_astore (lv' := [(5, .ref q), (0, .ref (B + 0)), (1, .int a1), (2, .int a2), (3, .int a3), (4, .ref (B + 212))]) hx hb dL_move_15 hl (by decide) rfl (fun ls hl => ?_)
      refine lv_iconst (v := 1) hx hb dL_move_17 (by decide) ?_
      refine W.widen (k := 1) (n := 6) (by decide) (by decide) ?_
      exact mu_i (v := 1) hx hb hrt hlocks ⟨hG, hN, hT, hV, hHs, hQ, hR, hP, hSb, hO, hOd⟩ hS dL_move_18
    by_cases c1 : e9 = 1
    · subst c1
      rw [if_neg (by decide), if_pos rfl] at hf
      have hre := Option.some.inj hf
      subst hre
      refine vx_catch (E := "java/lang/IllegalArgumentException") (name := "java/lang/IllegalArgumentException") hown [⟨0, 12, 15, 23⟩] ⟨0, 12, 19, 13⟩ [] (htb.trans rfl) (List.forall_mem_cons.mpr ⟨Or.inr ⟨by decide, "java/lang/IndexOutOfBoundsException", hw _ kl_L_23, hE.nc (by simp)⟩, (fun _ h => absurd h List.not_mem_nil)⟩) (by decide) (by decide) (hw _ kl_L_13) (va_Nw.use rfl (hE.2.2.2.2.1 _ kx_1 rfl)) hce hcv hcl ?_
      refine lv_astore (lv' := [(5, .ref q), (0, .ref (B + 0)), (1, .int a1), (2, .int a2), (3, .int a3), (4, .ref (B + 212))]) hx hb dL_move_19 hl (by decide) rfl (fun ls hl => ?_)
      refine lv_iconst (v := 2) hx hb dL_move_21 (by decide) ?_
      refine W.widen (k := 1) (n := 6) (by decide) (by decide) ?_
      exact mu_i (v := 2) hx hb hrt hlocks ⟨hG, hN, hT, hV, hHs, hQ, hR, hP, hSb, hO, hOd⟩ hS dL_move_22
    rw [if_neg c0, if_neg c1] at hf
    exact nomatch hf
  · have hf := sx_r ev hf
    obtain ⟨hG, hN, hHs, hQ⟩ := hP9
    have hT := Blk.off hT hu (or_dis (iv_dis (by omega)) (or_dis (iv_dis (by omega)) (iv_dis (by omega))))
    have hV := Blk.off hV hu (or_dis (iv_dis (by omega)) (or_dis (iv_dis (by omega)) (iv_dis (by omega))))
    have hR := Blk.off hR hu (or_dis (iv_dis (by omega)) (or_dis (iv_dis (by omega)) (iv_dis (by omega))))
    have hP := Blk.off hP hu (or_dis (iv_dis (by omega)) (or_dis (iv_dis (by omega)) (iv_dis (by omega))))
    have hSb := SBt.off hSb hz hu (or_dis_s (sb_iv_dis (by omega) (by omega)) (or_dis_s (sb_iv_dis (by omega) (by omega)) (sb_iv_dis (by omega) (by omega))))
    have hO := LO.off hO hu (fun h => by simp only [orA, iv, nv, sbA] at h; omega)
    have hOd := LD.off hOd hu (fun h => by simp only [orA, iv, nv, sbA] at h; omega)
    refine lv_i2l hx hb dL_move_10 rfl ?_
    refine w_last hx hb hE hO hS (Or.inr (by omega)) dL_move_11 (fun H locs hO z9 oq hS => ?_)
    have hG := Blk.offq hG oq (by omega)
    have hN := Blk.offq hN oq (by omega)
    have hT := Blk.offq hT oq (by omega)
    have hV := Blk.offq hV oq (by omega)
    have hHs := Blk.offq hHs oq (by omega)
    have hQ := Fam.offq hQ oq (by omega)
    have hR := Blk.offq hR oq (by omega)
    have hP := Blk.offq hP oq (by omega)
    have hSb := SBt.offq hSb z9 oq (by omega) (by omega)
    have hOd := LD.offq hOd oq (by omega)
    refine lv_goto (tgt := 23) hx hb dL_move_12 (by decide) ?_
    have hre := Option.some.inj hf
    subst hre
    refine lv_iconst (v := 0) hx hb dL_move_23 (by decide) ?_
    refine W.widen (k := 1) (n := 6) (by decide) (by decide) ?_
    exact mu_i (v := 0) hx hb hrt hlocks ⟨hG, hN, hT, hV, hHs, hQ, hR, hP, hSb, hO, hOd⟩ hS dL_move_24
noncomputable def fL_setPower (z : KS) (a1 : Int32) (a2 : Int32) : Option (Int32 × KS) := (fX11_setPower z.G z.N z.Hs z.Q a1 a2).bind fun z1 => sx z1.1 (fun e9 => (if e9 = 0 then some (1, (KS.mk z.G z1.2.1 z.T z.V z1.2.2.1 z1.2.2.2 z.R z.P z.Sb z.o z.od)) else (if e9 = 1 then some (2, (KS.mk z.G z1.2.1 z.T z.V z1.2.2.1 z1.2.2.2 z.R z.P z.Sb z.o z.od)) else none))) (fun v => some (0, (KS.mk z.G z1.2.1 z.T z.V z1.2.2.1 z1.2.2.2 z.R z.P z.Sb v.toInt64 z.od)))
set_option maxHeartbeats 4000000 in
set_option maxRecDepth 100000 in
theorem mL_setPower (l : Launch) (E : EP) (B0 : Nat) (htr : l.stackTraces = false) (B : Nat) (hb0 : B0 ≤ B) (z : KS) (a1 : Int32) (a2 : Int32) (r : Int32 × KS) (hf : fL_setPower z a1 a2 = some r) : MW l E B0 yL_setPower cL_setPower 5 (some .int) [(0, 10, 13, 23), (0, 10, 17, 13)] 10 1 6 [.ref (B + 0), .int a1, .int a2, .ref (B + 212)] (CW E B z) (some (.int r.1)) (CW E B r.2) (cA B) := by
  refine mw_of (by decide +kernel) (Nat.le_of_ble_eq_true rfl) ?_
  intro p e s m args below meth c hx hb hml hown hw hrt hlocks htb hE H hP9 hS ls hl
  obtain ⟨hG, hN, hT, hV, hHs, hQ, hR, hP, hSb, hO, hOd⟩ := hP9
  have hown : s.vm.findClass RL = some m.cls := hown
  have hl : lv_has ls 5 [(0, .ref (B + 0)), (1, .int a1), (2, .int a2), (3, .ref (B + 212))] := hl
  have hAB : ∀ q, cA B q → B0 ≤ q := cA_ge hb0
  unfold fL_setPower at hf
  obtain ⟨z1, hc, hf⟩ := br_some hf
  refine lv_aload_n hx hb dL_setPower_0 rfl (lv_at hl 3 rfl) ?_
  refine lv_iconst (v := 0) hx hb dL_setPower_1 (by decide) ?_
  refine lv_aload_n hx hb dL_setPower_2 rfl (lv_at hl 0 rfl) ?_
  refine lv_iload_n hx hb dL_setPower_3 rfl (lv_at hl 1 rfl) ?_
  refine lv_iload_n hx hb dL_setPower_4 rfl (lv_at hl 2 rfl) ?_
  refine mg_xV (As := [.int a1, .int a2]) (rest := [.int 0, .ref (B + 212)]) hx hb hml hown hw hE (mX11_setPower l E B0 htr B (B + 214) (by omega) (by omega) z.G z.N z.Hs z.Q a1 a2 z1 hc) cv_L_25 (w_recv (k := 0) (ci := 11) hE hG (by decide) rfl rfl) ⟨hG, hN, hHs, hQ⟩ hS hAB (fun q h => by simp only [orA, iv, nv, sbA] at h; show (B ≤ q ∧ q < B + 202) ∨ B + 212 ≤ q; omega) rfl hl.1 rfl (by decide) (by decide) (Nat.le_of_ble_eq_true rfl) ⟨by decide, by decide⟩ dL_setPower_5 (fun e9 ee H locs ce q hP9 hz hu hS hce hcv hcl => ?_) (fun v ev H locs hP9 hz hu hS => ?_)
  · have hf := sx_l ee hf
    obtain ⟨hG, hN, hHs, hQ⟩ := hP9
    have hT := Blk.off hT hu (or_dis (iv_dis (by omega)) (or_dis (iv_dis (by omega)) (iv_dis (by omega))))
    have hV := Blk.off hV hu (or_dis (iv_dis (by omega)) (or_dis (iv_dis (by omega)) (iv_dis (by omega))))
    have hR := Blk.off hR hu (or_dis (iv_dis (by omega)) (or_dis (iv_dis (by omega)) (iv_dis (by omega))))
    have hP := Blk.off hP hu (or_dis (iv_dis (by omega)) (or_dis (iv_dis (by omega)) (iv_dis (by omega))))
    have hSb := SBt.off hSb hz hu (or_dis_s (sb_iv_dis (by omega) (by omega)) (or_dis_s (sb_iv_dis (by omega) (by omega)) (sb_iv_dis (by omega) (by omega))))
    have hO := LO.off hO hu (fun h => by simp only [orA, iv, nv, sbA] at h; omega)
    have hOd := LD.off hOd hu (fun h => by simp only [orA, iv, nv, sbA] at h; omega)
    by_cases c0 : e9 = 0
    · subst c0
      rw [if_pos rfl] at hf
      have hre := Option.some.inj hf
      subst hre
      refine vx_catch (E := "java/lang/IndexOutOfBoundsException") (name := "java/lang/IndexOutOfBoundsException") hown [] ⟨0, 10, 13, 23⟩ [⟨0, 10, 17, 13⟩] (htb.trans rfl) (fun _ h => absurd h List.not_mem_nil) (by decide) (by decide) (hw _ kl_L_23) (va_Nw.use rfl (hE.2.2.2.2.1 _ kx_0 rfl)) hce hcv hcl ?_
      refine lv_astore (lv' := [(4, .ref q), (0, .ref (B + 0)), (1, .int a1), (2, .int a2), (3, .ref (B + 212))]) hx hb dL_setPower_13 hl (by decide) rfl (fun ls hl => ?_)
      refine lv_iconst (v := 1) hx hb dL_setPower_15 (by decide) ?_
      refine W.widen (k := 1) (n := 6) (by decide) (by decide) ?_
      exact mu_i (v := 1) hx hb hrt hlocks ⟨hG, hN, hT, hV, hHs, hQ, hR, hP, hSb, hO, hOd⟩ hS dL_setPower_16
    by_cases c1 : e9 = 1
    · subst c1
      rw [if_neg (by decide), if_pos rfl] at hf
      have hre := Option.some.inj hf
      subst hre
      refine vx_catch (E := "java/lang/IllegalArgumentException") (name := "java/lang/IllegalArgumentException") hown [⟨0, 10, 13, 23⟩] ⟨0, 10, 17, 13⟩ [] (htb.trans rfl) (List.forall_mem_cons.mpr ⟨Or.inr ⟨by decide, "java/lang/IndexOutOfBoundsException", hw _ kl_L_23, hE.nc (by simp)⟩, (fun _ h => absurd h List.not_mem_nil)⟩) (by decide) (by decide) (hw _ kl_L_13) (va_Nw.use rfl (hE.2.2.2.2.1 _ kx_1 rfl)) hce hcv hcl ?_
      refine lv_astore (lv' := [(4, .ref q), (0, .ref (B + 0)), (1, .int a1), (2, .int a2), (3, .ref (B + 212))]) hx hb dL_setPower_17 hl (by decide) rfl (fun ls hl => ?_)
      refine lv_iconst (v := 2) hx hb dL_setPower_19 (by decide) ?_
      refine W.widen (k := 1) (n := 6) (by decide) (by decide) ?_
      exact mu_i (v := 2) hx hb hrt hlocks ⟨hG, hN, hT, hV, hHs, hQ, hR, hP, hSb, hO, hOd⟩ hS dL_setPower_20
    rw [if_neg c0, if_neg c1] at hf
    exact nomatch hf
  · have hf := sx_r ev hf
    obtain ⟨hG, hN, hHs, hQ⟩ := hP9
    have hT := Blk.off hT hu (or_dis (iv_dis (by omega)) (or_dis (iv_dis (by omega)) (iv_dis (by omega))))
    have hV := Blk.off hV hu (or_dis (iv_dis (by omega)) (or_dis (iv_dis (by omega)) (iv_dis (by omega))))
    have hR := Blk.off hR hu (or_dis (iv_dis (by omega)) (or_dis (iv_dis (by omega)) (iv_dis (by omega))))
    have hP := Blk.off hP hu (or_dis (iv_dis (by omega)) (or_dis (iv_dis (by omega)) (iv_dis (by omega))))
    have hSb := SBt.off hSb hz hu (or_dis_s (sb_iv_dis (by omega) (by omega)) (or_dis_s (sb_iv_dis (by omega) (by omega)) (sb_iv_dis (by omega) (by omega))))
    have hO := LO.off hO hu (fun h => by simp only [orA, iv, nv, sbA] at h; omega)
    have hOd := LD.off hOd hu (fun h => by simp only [orA, iv, nv, sbA] at h; omega)
    refine lv_i2l hx hb dL_setPower_8 rfl ?_
    refine w_last hx hb hE hO hS (Or.inr (by omega)) dL_setPower_9 (fun H locs hO z9 oq hS => ?_)
    have hG := Blk.offq hG oq (by omega)
    have hN := Blk.offq hN oq (by omega)
    have hT := Blk.offq hT oq (by omega)
    have hV := Blk.offq hV oq (by omega)
    have hHs := Blk.offq hHs oq (by omega)
    have hQ := Fam.offq hQ oq (by omega)
    have hR := Blk.offq hR oq (by omega)
    have hP := Blk.offq hP oq (by omega)
    have hSb := SBt.offq hSb z9 oq (by omega) (by omega)
    have hOd := LD.offq hOd oq (by omega)
    refine lv_goto (tgt := 21) hx hb dL_setPower_10 (by decide) ?_
    have hre := Option.some.inj hf
    subst hre
    refine lv_iconst (v := 0) hx hb dL_setPower_21 (by decide) ?_
    refine W.widen (k := 1) (n := 6) (by decide) (by decide) ?_
    exact mu_i (v := 0) hx hb hrt hlocks ⟨hG, hN, hT, hV, hHs, hQ, hR, hP, hSb, hO, hOd⟩ hS dL_setPower_22
noncomputable def fL_tune (z : KS) (a1 : Int32) (a2 : Int32) : Option (Int32 × KS) := (fX11_tune z.G z.N z.Hs z.Q a1 a2).bind fun z1 => sx z1.1 (fun e9 => (if e9 = 0 then some (1, (KS.mk z.G z1.2.1 z.T z.V z1.2.2.1 z1.2.2.2 z.R z.P z.Sb z.o z.od)) else (if e9 = 1 then some (2, (KS.mk z.G z1.2.1 z.T z.V z1.2.2.1 z1.2.2.2 z.R z.P z.Sb z.o z.od)) else (if e9 = 3 then some (3, (KS.mk z.G z1.2.1 z.T z.V z1.2.2.1 z1.2.2.2 z.R z.P z.Sb z.o z.od)) else none)))) (fun v => some (0, (KS.mk z.G z1.2.1 z.T z.V z1.2.2.1 z1.2.2.2 z.R z.P z.Sb v.toInt64 z.od)))
set_option maxHeartbeats 4000000 in
set_option maxRecDepth 100000 in
theorem mL_tune (l : Launch) (E : EP) (B0 : Nat) (htr : l.stackTraces = false) (B : Nat) (hb0 : B0 ≤ B) (z : KS) (a1 : Int32) (a2 : Int32) (r : Int32 × KS) (hf : fL_tune z a1 a2 = some r) : MW l E B0 yL_tune cL_tune 5 (some .int) [(0, 10, 13, 23), (0, 10, 17, 13), (0, 10, 21, 17)] 10 1 6 [.ref (B + 0), .int a1, .int a2, .ref (B + 212)] (CW E B z) (some (.int r.1)) (CW E B r.2) (cA B) := by
  refine mw_of (by decide +kernel) (Nat.le_of_ble_eq_true rfl) ?_
  intro p e s m args below meth c hx hb hml hown hw hrt hlocks htb hE H hP9 hS ls hl
  obtain ⟨hG, hN, hT, hV, hHs, hQ, hR, hP, hSb, hO, hOd⟩ := hP9
  have hown : s.vm.findClass RL = some m.cls := hown
  have hl : lv_has ls 5 [(0, .ref (B + 0)), (1, .int a1), (2, .int a2), (3, .ref (B + 212))] := hl
  have hAB : ∀ q, cA B q → B0 ≤ q := cA_ge hb0
  unfold fL_tune at hf
  obtain ⟨z1, hc, hf⟩ := br_some hf
  refine lv_aload_n hx hb dL_tune_0 rfl (lv_at hl 3 rfl) ?_
  refine lv_iconst (v := 0) hx hb dL_tune_1 (by decide) ?_
  refine lv_aload_n hx hb dL_tune_2 rfl (lv_at hl 0 rfl) ?_
  refine lv_iload_n hx hb dL_tune_3 rfl (lv_at hl 1 rfl) ?_
  refine lv_iload_n hx hb dL_tune_4 rfl (lv_at hl 2 rfl) ?_
  refine mg_xV (As := [.int a1, .int a2]) (rest := [.int 0, .ref (B + 212)]) hx hb hml hown hw hE (mX11_tune l E B0 htr B (B + 214) (by omega) (by omega) z.G z.N z.Hs z.Q a1 a2 z1 hc) cv_L_29 (w_recv (k := 0) (ci := 11) hE hG (by decide) rfl rfl) ⟨hG, hN, hHs, hQ⟩ hS hAB (fun q h => by simp only [orA, iv, nv, sbA] at h; show (B ≤ q ∧ q < B + 202) ∨ B + 212 ≤ q; omega) rfl hl.1 rfl (by decide) (by decide) (Nat.le_of_ble_eq_true rfl) ⟨by decide, by decide⟩ dL_tune_5 (fun e9 ee H locs ce q hP9 hz hu hS hce hcv hcl => ?_) (fun v ev H locs hP9 hz hu hS => ?_)
  · have hf := sx_l ee hf
    obtain ⟨hG, hN, hHs, hQ⟩ := hP9
    have hT := Blk.off hT hu (or_dis (iv_dis (by omega)) (or_dis (iv_dis (by omega)) (iv_dis (by omega))))
    have hV := Blk.off hV hu (or_dis (iv_dis (by omega)) (or_dis (iv_dis (by omega)) (iv_dis (by omega))))
    have hR := Blk.off hR hu (or_dis (iv_dis (by omega)) (or_dis (iv_dis (by omega)) (iv_dis (by omega))))
    have hP := Blk.off hP hu (or_dis (iv_dis (by omega)) (or_dis (iv_dis (by omega)) (iv_dis (by omega))))
    have hSb := SBt.off hSb hz hu (or_dis_s (sb_iv_dis (by omega) (by omega)) (or_dis_s (sb_iv_dis (by omega) (by omega)) (sb_iv_dis (by omega) (by omega))))
    have hO := LO.off hO hu (fun h => by simp only [orA, iv, nv, sbA] at h; omega)
    have hOd := LD.off hOd hu (fun h => by simp only [orA, iv, nv, sbA] at h; omega)
    by_cases c0 : e9 = 0
    · subst c0
      rw [if_pos rfl] at hf
      have hre := Option.some.inj hf
      subst hre
      refine vx_catch (E := "java/lang/IndexOutOfBoundsException") (name := "java/lang/IndexOutOfBoundsException") hown [] ⟨0, 10, 13, 23⟩ [⟨0, 10, 17, 13⟩, ⟨0, 10, 21, 17⟩] (htb.trans rfl) (fun _ h => absurd h List.not_mem_nil) (by decide) (by decide) (hw _ kl_L_23) (va_Nw.use rfl (hE.2.2.2.2.1 _ kx_0 rfl)) hce hcv hcl ?_
      refine lv_astore (lv' := [(4, .ref q), (0, .ref (B + 0)), (1, .int a1), (2, .int a2), (3, .ref (B + 212))]) hx hb dL_tune_13 hl (by decide) rfl (fun ls hl => ?_)
      refine lv_iconst (v := 1) hx hb dL_tune_15 (by decide) ?_
      refine W.widen (k := 1) (n := 6) (by decide) (by decide) ?_
      exact mu_i (v := 1) hx hb hrt hlocks ⟨hG, hN, hT, hV, hHs, hQ, hR, hP, hSb, hO, hOd⟩ hS dL_tune_16
    by_cases c1 : e9 = 1
    · subst c1
      rw [if_neg (by decide), if_pos rfl] at hf
      have hre := Option.some.inj hf
      subst hre
      refine vx_catch (E := "java/lang/IllegalArgumentException") (name := "java/lang/IllegalArgumentException") hown [⟨0, 10, 13, 23⟩] ⟨0, 10, 17, 13⟩ [⟨0, 10, 21, 17⟩] (htb.trans rfl) (List.forall_mem_cons.mpr ⟨Or.inr ⟨by decide, "java/lang/IndexOutOfBoundsException", hw _ kl_L_23, hE.nc (by simp)⟩, (fun _ h => absurd h List.not_mem_nil)⟩) (by decide) (by decide) (hw _ kl_L_13) (va_Nw.use rfl (hE.2.2.2.2.1 _ kx_1 rfl)) hce hcv hcl ?_
      refine lv_astore (lv' := [(4, .ref q), (0, .ref (B + 0)), (1, .int a1), (2, .int a2), (3, .ref (B + 212))]) hx hb dL_tune_17 hl (by decide) rfl (fun ls hl => ?_)
      refine lv_iconst (v := 2) hx hb dL_tune_19 (by decide) ?_
      refine W.widen (k := 1) (n := 6) (by decide) (by decide) ?_
      exact mu_i (v := 2) hx hb hrt hlocks ⟨hG, hN, hT, hV, hHs, hQ, hR, hP, hSb, hO, hOd⟩ hS dL_tune_20
    by_cases c2 : e9 = 3
    · subst c2
      rw [if_neg (by decide), if_neg (by decide), if_pos rfl] at hf
      have hre := Option.some.inj hf
      subst hre
      refine vx_catch (E := "java/lang/IllegalStateException") (name := "java/lang/IllegalStateException") hown [⟨0, 10, 13, 23⟩, ⟨0, 10, 17, 13⟩] ⟨0, 10, 21, 17⟩ [] (htb.trans rfl) (List.forall_mem_cons.mpr ⟨Or.inr ⟨by decide, "java/lang/IndexOutOfBoundsException", hw _ kl_L_23, hE.nc (by simp)⟩, (List.forall_mem_cons.mpr ⟨Or.inr ⟨by decide, "java/lang/IllegalArgumentException", hw _ kl_L_13, hE.nc (by simp)⟩, (fun _ h => absurd h List.not_mem_nil)⟩)⟩) (by decide) (by decide) (hw _ kl_L_17) (va_Nw.use rfl (hE.2.2.2.2.1 _ kx_3 rfl)) hce hcv hcl ?_
      refine lv_astore (lv' := [(4, .ref q), (0, .ref (B + 0)), (1, .int a1), (2, .int a2), (3, .ref (B + 212))]) hx hb dL_tune_21 hl (by decide) rfl (fun ls hl => ?_)
      refine lv_iconst (v := 3) hx hb dL_tune_23 (by decide) ?_
      refine W.widen (k := 1) (n := 6) (by decide) (by decide) ?_
      exact mu_i (v := 3) hx hb hrt hlocks ⟨hG, hN, hT, hV, hHs, hQ, hR, hP, hSb, hO, hOd⟩ hS dL_tune_24
    rw [if_neg c0, if_neg c1, if_neg c2] at hf
    exact nomatch hf
  · have hf := sx_r ev hf
    obtain ⟨hG, hN, hHs, hQ⟩ := hP9
    have hT := Blk.off hT hu (or_dis (iv_dis (by omega)) (or_dis (iv_dis (by omega)) (iv_dis (by omega))))
    have hV := Blk.off hV hu (or_dis (iv_dis (by omega)) (or_dis (iv_dis (by omega)) (iv_dis (by omega))))
    have hR := Blk.off hR hu (or_dis (iv_dis (by omega)) (or_dis (iv_dis (by omega)) (iv_dis (by omega))))
    have hP := Blk.off hP hu (or_dis (iv_dis (by omega)) (or_dis (iv_dis (by omega)) (iv_dis (by omega))))
    have hSb := SBt.off hSb hz hu (or_dis_s (sb_iv_dis (by omega) (by omega)) (or_dis_s (sb_iv_dis (by omega) (by omega)) (sb_iv_dis (by omega) (by omega))))
    have hO := LO.off hO hu (fun h => by simp only [orA, iv, nv, sbA] at h; omega)
    have hOd := LD.off hOd hu (fun h => by simp only [orA, iv, nv, sbA] at h; omega)
    refine lv_i2l hx hb dL_tune_8 rfl ?_
    refine w_last hx hb hE hO hS (Or.inr (by omega)) dL_tune_9 (fun H locs hO z9 oq hS => ?_)
    have hG := Blk.offq hG oq (by omega)
    have hN := Blk.offq hN oq (by omega)
    have hT := Blk.offq hT oq (by omega)
    have hV := Blk.offq hV oq (by omega)
    have hHs := Blk.offq hHs oq (by omega)
    have hQ := Fam.offq hQ oq (by omega)
    have hR := Blk.offq hR oq (by omega)
    have hP := Blk.offq hP oq (by omega)
    have hSb := SBt.offq hSb z9 oq (by omega) (by omega)
    have hOd := LD.offq hOd oq (by omega)
    refine lv_goto (tgt := 25) hx hb dL_tune_10 (by decide) ?_
    have hre := Option.some.inj hf
    subst hre
    refine lv_iconst (v := 0) hx hb dL_tune_25 (by decide) ?_
    refine W.widen (k := 1) (n := 6) (by decide) (by decide) ?_
    exact mu_i (v := 0) hx hb hrt hlocks ⟨hG, hN, hT, hV, hHs, hQ, hR, hP, hSb, hO, hOd⟩ hS dL_tune_26
noncomputable def fL_request (z : KS) (a1 : Int32) : Option (Int32 × KS) := (fX11_request z.G z.N z.Hs z.Q a1).bind fun z1 => sx z1.1 (fun e9 => (if e9 = 0 then some (1, (KS.mk z.G z1.2.1 z.T z.V z1.2.2.1 z1.2.2.2 z.R z.P z.Sb z.o z.od)) else (if e9 = 3 then some (2, (KS.mk z.G z1.2.1 z.T z.V z1.2.2.1 z1.2.2.2 z.R z.P z.Sb z.o z.od)) else none))) (fun v => some (0, (KS.mk z.G z1.2.1 z.T z.V z1.2.2.1 z1.2.2.2 z.R z.P z.Sb v.toInt64 z.od)))
set_option maxHeartbeats 4000000 in
set_option maxRecDepth 100000 in
theorem mL_request (l : Launch) (E : EP) (B0 : Nat) (htr : l.stackTraces = false) (B : Nat) (hb0 : B0 ≤ B) (z : KS) (a1 : Int32) (r : Int32 × KS) (hf : fL_request z a1 = some r) : MW l E B0 yL_request cL_request 4 (some .int) [(0, 9, 12, 23), (0, 9, 15, 17)] 10 1 6 [.ref (B + 0), .int a1, .ref (B + 212)] (CW E B z) (some (.int r.1)) (CW E B r.2) (cA B) := by
  refine mw_of (by decide +kernel) (Nat.le_of_ble_eq_true rfl) ?_
  intro p e s m args below meth c hx hb hml hown hw hrt hlocks htb hE H hP9 hS ls hl
  obtain ⟨hG, hN, hT, hV, hHs, hQ, hR, hP, hSb, hO, hOd⟩ := hP9
  have hown : s.vm.findClass RL = some m.cls := hown
  have hl : lv_has ls 4 [(0, .ref (B + 0)), (1, .int a1), (2, .ref (B + 212))] := hl
  have hAB : ∀ q, cA B q → B0 ≤ q := cA_ge hb0
  unfold fL_request at hf
  obtain ⟨z1, hc, hf⟩ := br_some hf
  refine lv_aload_n hx hb dL_request_0 rfl (lv_at hl 2 rfl) ?_
  refine lv_iconst (v := 0) hx hb dL_request_1 (by decide) ?_
  refine lv_aload_n hx hb dL_request_2 rfl (lv_at hl 0 rfl) ?_
  refine lv_iload_n hx hb dL_request_3 rfl (lv_at hl 1 rfl) ?_
  refine mg_xV (As := [.int a1]) (rest := [.int 0, .ref (B + 212)]) hx hb hml hown hw hE (mX11_request l E B0 htr B (B + 214) (by omega) (by omega) z.G z.N z.Hs z.Q a1 z1 hc) cv_L_32 (w_recv (k := 0) (ci := 11) hE hG (by decide) rfl rfl) ⟨hG, hN, hHs, hQ⟩ hS hAB (fun q h => by simp only [orA, iv, nv, sbA] at h; show (B ≤ q ∧ q < B + 202) ∨ B + 212 ≤ q; omega) rfl hl.1 rfl (by decide) (by decide) (Nat.le_of_ble_eq_true rfl) ⟨by decide, by decide⟩ dL_request_4 (fun e9 ee H locs ce q hP9 hz hu hS hce hcv hcl => ?_) (fun v ev H locs hP9 hz hu hS => ?_)
  · have hf := sx_l ee hf
    obtain ⟨hG, hN, hHs, hQ⟩ := hP9
    have hT := Blk.off hT hu (or_dis (iv_dis (by omega)) (or_dis (iv_dis (by omega)) (iv_dis (by omega))))
    have hV := Blk.off hV hu (or_dis (iv_dis (by omega)) (or_dis (iv_dis (by omega)) (iv_dis (by omega))))
    have hR := Blk.off hR hu (or_dis (iv_dis (by omega)) (or_dis (iv_dis (by omega)) (iv_dis (by omega))))
    have hP := Blk.off hP hu (or_dis (iv_dis (by omega)) (or_dis (iv_dis (by omega)) (iv_dis (by omega))))
    have hSb := SBt.off hSb hz hu (or_dis_s (sb_iv_dis (by omega) (by omega)) (or_dis_s (sb_iv_dis (by omega) (by omega)) (sb_iv_dis (by omega) (by omega))))
    have hO := LO.off hO hu (fun h => by simp only [orA, iv, nv, sbA] at h; omega)
    have hOd := LD.off hOd hu (fun h => by simp only [orA, iv, nv, sbA] at h; omega)
    by_cases c0 : e9 = 0
    · subst c0
      rw [if_pos rfl] at hf
      have hre := Option.some.inj hf
      subst hre
      refine vx_catch (E := "java/lang/IndexOutOfBoundsException") (name := "java/lang/IndexOutOfBoundsException") hown [] ⟨0, 9, 12, 23⟩ [⟨0, 9, 15, 17⟩] (htb.trans rfl) (fun _ h => absurd h List.not_mem_nil) (by decide) (by decide) (hw _ kl_L_23) (va_Nw.use rfl (hE.2.2.2.2.1 _ kx_0 rfl)) hce hcv hcl ?_
      refine lv_astore_n (lv' := [(3, .ref q), (0, .ref (B + 0)), (1, .int a1), (2, .ref (B + 212))]) hx hb dL_request_12 rfl hl (by decide) rfl (fun ls hl => ?_)
      refine lv_iconst (v := 1) hx hb dL_request_13 (by decide) ?_
      refine W.widen (k := 1) (n := 6) (by decide) (by decide) ?_
      exact mu_i (v := 1) hx hb hrt hlocks ⟨hG, hN, hT, hV, hHs, hQ, hR, hP, hSb, hO, hOd⟩ hS dL_request_14
    by_cases c1 : e9 = 3
    · subst c1
      rw [if_neg (by decide), if_pos rfl] at hf
      have hre := Option.some.inj hf
      subst hre
      refine vx_catch (E := "java/lang/IllegalStateException") (name := "java/lang/IllegalStateException") hown [⟨0, 9, 12, 23⟩] ⟨0, 9, 15, 17⟩ [] (htb.trans rfl) (List.forall_mem_cons.mpr ⟨Or.inr ⟨by decide, "java/lang/IndexOutOfBoundsException", hw _ kl_L_23, hE.nc (by simp)⟩, (fun _ h => absurd h List.not_mem_nil)⟩) (by decide) (by decide) (hw _ kl_L_17) (va_Nw.use rfl (hE.2.2.2.2.1 _ kx_3 rfl)) hce hcv hcl ?_
      refine lv_astore_n (lv' := [(3, .ref q), (0, .ref (B + 0)), (1, .int a1), (2, .ref (B + 212))]) hx hb dL_request_15 rfl hl (by decide) rfl (fun ls hl => ?_)
      refine lv_iconst (v := 2) hx hb dL_request_16 (by decide) ?_
      refine W.widen (k := 1) (n := 6) (by decide) (by decide) ?_
      exact mu_i (v := 2) hx hb hrt hlocks ⟨hG, hN, hT, hV, hHs, hQ, hR, hP, hSb, hO, hOd⟩ hS dL_request_17
    rw [if_neg c0, if_neg c1] at hf
    exact nomatch hf
  · have hf := sx_r ev hf
    obtain ⟨hG, hN, hHs, hQ⟩ := hP9
    have hT := Blk.off hT hu (or_dis (iv_dis (by omega)) (or_dis (iv_dis (by omega)) (iv_dis (by omega))))
    have hV := Blk.off hV hu (or_dis (iv_dis (by omega)) (or_dis (iv_dis (by omega)) (iv_dis (by omega))))
    have hR := Blk.off hR hu (or_dis (iv_dis (by omega)) (or_dis (iv_dis (by omega)) (iv_dis (by omega))))
    have hP := Blk.off hP hu (or_dis (iv_dis (by omega)) (or_dis (iv_dis (by omega)) (iv_dis (by omega))))
    have hSb := SBt.off hSb hz hu (or_dis_s (sb_iv_dis (by omega) (by omega)) (or_dis_s (sb_iv_dis (by omega) (by omega)) (sb_iv_dis (by omega) (by omega))))
    have hO := LO.off hO hu (fun h => by simp only [orA, iv, nv, sbA] at h; omega)
    have hOd := LD.off hOd hu (fun h => by simp only [orA, iv, nv, sbA] at h; omega)
    refine lv_i2l hx hb dL_request_7 rfl ?_
    refine w_last hx hb hE hO hS (Or.inr (by omega)) dL_request_8 (fun H locs hO z9 oq hS => ?_)
    have hG := Blk.offq hG oq (by omega)
    have hN := Blk.offq hN oq (by omega)
    have hT := Blk.offq hT oq (by omega)
    have hV := Blk.offq hV oq (by omega)
    have hHs := Blk.offq hHs oq (by omega)
    have hQ := Fam.offq hQ oq (by omega)
    have hR := Blk.offq hR oq (by omega)
    have hP := Blk.offq hP oq (by omega)
    have hSb := SBt.offq hSb z9 oq (by omega) (by omega)
    have hOd := LD.offq hOd oq (by omega)
    refine lv_goto (tgt := 18) hx hb dL_request_9 (by decide) ?_
    have hre := Option.some.inj hf
    subst hre
    refine lv_iconst (v := 0) hx hb dL_request_18 (by decide) ?_
    refine W.widen (k := 1) (n := 6) (by decide) (by decide) ?_
    exact mu_i (v := 0) hx hb hrt hlocks ⟨hG, hN, hT, hV, hHs, hQ, hR, hP, hSb, hO, hOd⟩ hS dL_request_19
noncomputable def fL_release (z : KS) (a1 : Int32) : Option (Int32 × KS) := (fX11_release z.G z.N z.Hs z.Q a1).bind fun z1 => sx z1.1 (fun e9 => (if e9 = 0 then some (1, (KS.mk z.G z1.2.1 z.T z.V z1.2.2.1 z1.2.2.2 z.R z.P z.Sb z.o z.od)) else (if e9 = 3 then some (2, (KS.mk z.G z1.2.1 z.T z.V z1.2.2.1 z1.2.2.2 z.R z.P z.Sb z.o z.od)) else none))) (fun v => some (0, (KS.mk z.G z1.2.1 z.T z.V z1.2.2.1 z1.2.2.2 z.R z.P z.Sb v.toInt64 z.od)))
set_option maxHeartbeats 4000000 in
set_option maxRecDepth 100000 in
theorem mL_release (l : Launch) (E : EP) (B0 : Nat) (htr : l.stackTraces = false) (B : Nat) (hb0 : B0 ≤ B) (z : KS) (a1 : Int32) (r : Int32 × KS) (hf : fL_release z a1 = some r) : MW l E B0 yL_release cL_release 4 (some .int) [(0, 9, 12, 23), (0, 9, 15, 17)] 10 1 6 [.ref (B + 0), .int a1, .ref (B + 212)] (CW E B z) (some (.int r.1)) (CW E B r.2) (cA B) := by
  refine mw_of (by decide +kernel) (Nat.le_of_ble_eq_true rfl) ?_
  intro p e s m args below meth c hx hb hml hown hw hrt hlocks htb hE H hP9 hS ls hl
  obtain ⟨hG, hN, hT, hV, hHs, hQ, hR, hP, hSb, hO, hOd⟩ := hP9
  have hown : s.vm.findClass RL = some m.cls := hown
  have hl : lv_has ls 4 [(0, .ref (B + 0)), (1, .int a1), (2, .ref (B + 212))] := hl
  have hAB : ∀ q, cA B q → B0 ≤ q := cA_ge hb0
  unfold fL_release at hf
  obtain ⟨z1, hc, hf⟩ := br_some hf
  refine lv_aload_n hx hb dL_release_0 rfl (lv_at hl 2 rfl) ?_
  refine lv_iconst (v := 0) hx hb dL_release_1 (by decide) ?_
  refine lv_aload_n hx hb dL_release_2 rfl (lv_at hl 0 rfl) ?_
  refine lv_iload_n hx hb dL_release_3 rfl (lv_at hl 1 rfl) ?_
  refine mg_xV (As := [.int a1]) (rest := [.int 0, .ref (B + 212)]) hx hb hml hown hw hE (mX11_release l E B0 htr B (B + 214) (by omega) (by omega) z.G z.N z.Hs z.Q a1 z1 hc) cv_L_36 (w_recv (k := 0) (ci := 11) hE hG (by decide) rfl rfl) ⟨hG, hN, hHs, hQ⟩ hS hAB (fun q h => by simp only [orA, iv, nv, sbA] at h; show (B ≤ q ∧ q < B + 202) ∨ B + 212 ≤ q; omega) rfl hl.1 rfl (by decide) (by decide) (Nat.le_of_ble_eq_true rfl) ⟨by decide, by decide⟩ dL_release_4 (fun e9 ee H locs ce q hP9 hz hu hS hce hcv hcl => ?_) (fun v ev H locs hP9 hz hu hS => ?_)
  · have hf := sx_l ee hf
    obtain ⟨hG, hN, hHs, hQ⟩ := hP9
    have hT := Blk.off hT hu (or_dis (iv_dis (by omega)) (or_dis (iv_dis (by omega)) (iv_dis (by omega))))
    have hV := Blk.off hV hu (or_dis (iv_dis (by omega)) (or_dis (iv_dis (by omega)) (iv_dis (by omega))))
    have hR := Blk.off hR hu (or_dis (iv_dis (by omega)) (or_dis (iv_dis (by omega)) (iv_dis (by omega))))
    have hP := Blk.off hP hu (or_dis (iv_dis (by omega)) (or_dis (iv_dis (by omega)) (iv_dis (by omega))))
    have hSb := SBt.off hSb hz hu (or_dis_s (sb_iv_dis (by omega) (by omega)) (or_dis_s (sb_iv_dis (by omega) (by omega)) (sb_iv_dis (by omega) (by omega))))
    have hO := LO.off hO hu (fun h => by simp only [orA, iv, nv, sbA] at h; omega)
    have hOd := LD.off hOd hu (fun h => by simp only [orA, iv, nv, sbA] at h; omega)
    by_cases c0 : e9 = 0
    · subst c0
      rw [if_pos rfl] at hf
      have hre := Option.some.inj hf
      subst hre
      refine vx_catch (E := "java/lang/IndexOutOfBoundsException") (name := "java/lang/IndexOutOfBoundsException") hown [] ⟨0, 9, 12, 23⟩ [⟨0, 9, 15, 17⟩] (htb.trans rfl) (fun _ h => absurd h List.not_mem_nil) (by decide) (by decide) (hw _ kl_L_23) (va_Nw.use rfl (hE.2.2.2.2.1 _ kx_0 rfl)) hce hcv hcl ?_
      refine lv_astore_n (lv' := [(3, .ref q), (0, .ref (B + 0)), (1, .int a1), (2, .ref (B + 212))]) hx hb dL_release_12 rfl hl (by decide) rfl (fun ls hl => ?_)
      refine lv_iconst (v := 1) hx hb dL_release_13 (by decide) ?_
      refine W.widen (k := 1) (n := 6) (by decide) (by decide) ?_
      exact mu_i (v := 1) hx hb hrt hlocks ⟨hG, hN, hT, hV, hHs, hQ, hR, hP, hSb, hO, hOd⟩ hS dL_release_14
    by_cases c1 : e9 = 3
    · subst c1
      rw [if_neg (by decide), if_pos rfl] at hf
      have hre := Option.some.inj hf
      subst hre
      refine vx_catch (E := "java/lang/IllegalStateException") (name := "java/lang/IllegalStateException") hown [⟨0, 9, 12, 23⟩] ⟨0, 9, 15, 17⟩ [] (htb.trans rfl) (List.forall_mem_cons.mpr ⟨Or.inr ⟨by decide, "java/lang/IndexOutOfBoundsException", hw _ kl_L_23, hE.nc (by simp)⟩, (fun _ h => absurd h List.not_mem_nil)⟩) (by decide) (by decide) (hw _ kl_L_17) (va_Nw.use rfl (hE.2.2.2.2.1 _ kx_3 rfl)) hce hcv hcl ?_
      refine lv_astore_n (lv' := [(3, .ref q), (0, .ref (B + 0)), (1, .int a1), (2, .ref (B + 212))]) hx hb dL_release_15 rfl hl (by decide) rfl (fun ls hl => ?_)
      refine lv_iconst (v := 2) hx hb dL_release_16 (by decide) ?_
      refine W.widen (k := 1) (n := 6) (by decide) (by decide) ?_
      exact mu_i (v := 2) hx hb hrt hlocks ⟨hG, hN, hT, hV, hHs, hQ, hR, hP, hSb, hO, hOd⟩ hS dL_release_17
    rw [if_neg c0, if_neg c1] at hf
    exact nomatch hf
  · have hf := sx_r ev hf
    obtain ⟨hG, hN, hHs, hQ⟩ := hP9
    have hT := Blk.off hT hu (or_dis (iv_dis (by omega)) (or_dis (iv_dis (by omega)) (iv_dis (by omega))))
    have hV := Blk.off hV hu (or_dis (iv_dis (by omega)) (or_dis (iv_dis (by omega)) (iv_dis (by omega))))
    have hR := Blk.off hR hu (or_dis (iv_dis (by omega)) (or_dis (iv_dis (by omega)) (iv_dis (by omega))))
    have hP := Blk.off hP hu (or_dis (iv_dis (by omega)) (or_dis (iv_dis (by omega)) (iv_dis (by omega))))
    have hSb := SBt.off hSb hz hu (or_dis_s (sb_iv_dis (by omega) (by omega)) (or_dis_s (sb_iv_dis (by omega) (by omega)) (sb_iv_dis (by omega) (by omega))))
    have hO := LO.off hO hu (fun h => by simp only [orA, iv, nv, sbA] at h; omega)
    have hOd := LD.off hOd hu (fun h => by simp only [orA, iv, nv, sbA] at h; omega)
    refine lv_i2l hx hb dL_release_7 rfl ?_
    refine w_last hx hb hE hO hS (Or.inr (by omega)) dL_release_8 (fun H locs hO z9 oq hS => ?_)
    have hG := Blk.offq hG oq (by omega)
    have hN := Blk.offq hN oq (by omega)
    have hT := Blk.offq hT oq (by omega)
    have hV := Blk.offq hV oq (by omega)
    have hHs := Blk.offq hHs oq (by omega)
    have hQ := Fam.offq hQ oq (by omega)
    have hR := Blk.offq hR oq (by omega)
    have hP := Blk.offq hP oq (by omega)
    have hSb := SBt.offq hSb z9 oq (by omega) (by omega)
    have hOd := LD.offq hOd oq (by omega)
    refine lv_goto (tgt := 18) hx hb dL_release_9 (by decide) ?_
    have hre := Option.some.inj hf
    subst hre
    refine lv_iconst (v := 0) hx hb dL_release_18 (by decide) ?_
    refine W.widen (k := 1) (n := 6) (by decide) (by decide) ?_
    exact mu_i (v := 0) hx hb hrt hlocks ⟨hG, hN, hT, hV, hHs, hQ, hR, hP, hSb, hO, hOd⟩ hS dL_release_19
noncomputable def fL_cancel (z : KS) (a1 : Int32) : Option (Int32 × KS) := (fX11_cancel z.G z.N z.Hs z.Q a1).bind fun z1 => sx z1.1 (fun e9 => (if e9 = 0 then some (1, (KS.mk z.G z1.2.1 z.T z.V z1.2.2.1 z1.2.2.2 z.R z.P z.Sb z.o z.od)) else (if e9 = 3 then some (2, (KS.mk z.G z1.2.1 z.T z.V z1.2.2.1 z1.2.2.2 z.R z.P z.Sb z.o z.od)) else none))) (fun v => some (0, (KS.mk z.G z1.2.1 z.T z.V z1.2.2.1 z1.2.2.2 z.R z.P z.Sb v.toInt64 z.od)))
set_option maxHeartbeats 4000000 in
set_option maxRecDepth 100000 in
theorem mL_cancel (l : Launch) (E : EP) (B0 : Nat) (htr : l.stackTraces = false) (B : Nat) (hb0 : B0 ≤ B) (z : KS) (a1 : Int32) (r : Int32 × KS) (hf : fL_cancel z a1 = some r) : MW l E B0 yL_cancel cL_cancel 4 (some .int) [(0, 9, 12, 23), (0, 9, 15, 17)] 10 1 6 [.ref (B + 0), .int a1, .ref (B + 212)] (CW E B z) (some (.int r.1)) (CW E B r.2) (cA B) := by
  refine mw_of (by decide +kernel) (Nat.le_of_ble_eq_true rfl) ?_
  intro p e s m args below meth c hx hb hml hown hw hrt hlocks htb hE H hP9 hS ls hl
  obtain ⟨hG, hN, hT, hV, hHs, hQ, hR, hP, hSb, hO, hOd⟩ := hP9
  have hown : s.vm.findClass RL = some m.cls := hown
  have hl : lv_has ls 4 [(0, .ref (B + 0)), (1, .int a1), (2, .ref (B + 212))] := hl
  have hAB : ∀ q, cA B q → B0 ≤ q := cA_ge hb0
  unfold fL_cancel at hf
  obtain ⟨z1, hc, hf⟩ := br_some hf
  refine lv_aload_n hx hb dL_cancel_0 rfl (lv_at hl 2 rfl) ?_
  refine lv_iconst (v := 0) hx hb dL_cancel_1 (by decide) ?_
  refine lv_aload_n hx hb dL_cancel_2 rfl (lv_at hl 0 rfl) ?_
  refine lv_iload_n hx hb dL_cancel_3 rfl (lv_at hl 1 rfl) ?_
  refine mg_xV (As := [.int a1]) (rest := [.int 0, .ref (B + 212)]) hx hb hml hown hw hE (mX11_cancel l E B0 htr B (B + 214) (by omega) (by omega) z.G z.N z.Hs z.Q a1 z1 hc) cv_L_39 (w_recv (k := 0) (ci := 11) hE hG (by decide) rfl rfl) ⟨hG, hN, hHs, hQ⟩ hS hAB (fun q h => by simp only [orA, iv, nv, sbA] at h; show (B ≤ q ∧ q < B + 202) ∨ B + 212 ≤ q; omega) rfl hl.1 rfl (by decide) (by decide) (Nat.le_of_ble_eq_true rfl) ⟨by decide, by decide⟩ dL_cancel_4 (fun e9 ee H locs ce q hP9 hz hu hS hce hcv hcl => ?_) (fun v ev H locs hP9 hz hu hS => ?_)
  · have hf := sx_l ee hf
    obtain ⟨hG, hN, hHs, hQ⟩ := hP9
    have hT := Blk.off hT hu (or_dis (iv_dis (by omega)) (or_dis (iv_dis (by omega)) (iv_dis (by omega))))
    have hV := Blk.off hV hu (or_dis (iv_dis (by omega)) (or_dis (iv_dis (by omega)) (iv_dis (by omega))))
    have hR := Blk.off hR hu (or_dis (iv_dis (by omega)) (or_dis (iv_dis (by omega)) (iv_dis (by omega))))
    have hP := Blk.off hP hu (or_dis (iv_dis (by omega)) (or_dis (iv_dis (by omega)) (iv_dis (by omega))))
    have hSb := SBt.off hSb hz hu (or_dis_s (sb_iv_dis (by omega) (by omega)) (or_dis_s (sb_iv_dis (by omega) (by omega)) (sb_iv_dis (by omega) (by omega))))
    have hO := LO.off hO hu (fun h => by simp only [orA, iv, nv, sbA] at h; omega)
    have hOd := LD.off hOd hu (fun h => by simp only [orA, iv, nv, sbA] at h; omega)
    by_cases c0 : e9 = 0
    · subst c0
      rw [if_pos rfl] at hf
      have hre := Option.some.inj hf
      subst hre
      refine vx_catch (E := "java/lang/IndexOutOfBoundsException") (name := "java/lang/IndexOutOfBoundsException") hown [] ⟨0, 9, 12, 23⟩ [⟨0, 9, 15, 17⟩] (htb.trans rfl) (fun _ h => absurd h List.not_mem_nil) (by decide) (by decide) (hw _ kl_L_23) (va_Nw.use rfl (hE.2.2.2.2.1 _ kx_0 rfl)) hce hcv hcl ?_
      refine lv_astore_n (lv' := [(3, .ref q), (0, .ref (B + 0)), (1, .int a1), (2, .ref (B + 212))]) hx hb dL_cancel_12 rfl hl (by decide) rfl (fun ls hl => ?_)
      refine lv_iconst (v := 1) hx hb dL_cancel_13 (by decide) ?_
      refine W.widen (k := 1) (n := 6) (by decide) (by decide) ?_
      exact mu_i (v := 1) hx hb hrt hlocks ⟨hG, hN, hT, hV, hHs, hQ, hR, hP, hSb, hO, hOd⟩ hS dL_cancel_14
    by_cases c1 : e9 = 3
    · subst c1
      rw [if_neg (by decide), if_pos rfl] at hf
      have hre := Option.some.inj hf
      subst hre
      refine vx_catch (E := "java/lang/IllegalStateException") (name := "java/lang/IllegalStateException") hown [⟨0, 9, 12, 23⟩] ⟨0, 9, 15, 17⟩ [] (htb.trans rfl) (List.forall_mem_cons.mpr ⟨Or.inr ⟨by decide, "java/lang/IndexOutOfBoundsException", hw _ kl_L_23, hE.nc (by simp)⟩, (fun _ h => absurd h List.not_mem_nil)⟩) (by decide) (by decide) (hw _ kl_L_17) (va_Nw.use rfl (hE.2.2.2.2.1 _ kx_3 rfl)) hce hcv hcl ?_
      refine lv_astore_n (lv' := [(3, .ref q), (0, .ref (B + 0)), (1, .int a1), (2, .ref (B + 212))]) hx hb dL_cancel_15 rfl hl (by decide) rfl (fun ls hl => ?_)
      refine lv_iconst (v := 2) hx hb dL_cancel_16 (by decide) ?_
      refine W.widen (k := 1) (n := 6) (by decide) (by decide) ?_
      exact mu_i (v := 2) hx hb hrt hlocks ⟨hG, hN, hT, hV, hHs, hQ, hR, hP, hSb, hO, hOd⟩ hS dL_cancel_17
    rw [if_neg c0, if_neg c1] at hf
    exact nomatch hf
  · have hf := sx_r ev hf
    obtain ⟨hG, hN, hHs, hQ⟩ := hP9
    have hT := Blk.off hT hu (or_dis (iv_dis (by omega)) (or_dis (iv_dis (by omega)) (iv_dis (by omega))))
    have hV := Blk.off hV hu (or_dis (iv_dis (by omega)) (or_dis (iv_dis (by omega)) (iv_dis (by omega))))
    have hR := Blk.off hR hu (or_dis (iv_dis (by omega)) (or_dis (iv_dis (by omega)) (iv_dis (by omega))))
    have hP := Blk.off hP hu (or_dis (iv_dis (by omega)) (or_dis (iv_dis (by omega)) (iv_dis (by omega))))
    have hSb := SBt.off hSb hz hu (or_dis_s (sb_iv_dis (by omega) (by omega)) (or_dis_s (sb_iv_dis (by omega) (by omega)) (sb_iv_dis (by omega) (by omega))))
    have hO := LO.off hO hu (fun h => by simp only [orA, iv, nv, sbA] at h; omega)
    have hOd := LD.off hOd hu (fun h => by simp only [orA, iv, nv, sbA] at h; omega)
    refine lv_i2l hx hb dL_cancel_7 rfl ?_
    refine w_last hx hb hE hO hS (Or.inr (by omega)) dL_cancel_8 (fun H locs hO z9 oq hS => ?_)
    have hG := Blk.offq hG oq (by omega)
    have hN := Blk.offq hN oq (by omega)
    have hT := Blk.offq hT oq (by omega)
    have hV := Blk.offq hV oq (by omega)
    have hHs := Blk.offq hHs oq (by omega)
    have hQ := Fam.offq hQ oq (by omega)
    have hR := Blk.offq hR oq (by omega)
    have hP := Blk.offq hP oq (by omega)
    have hSb := SBt.offq hSb z9 oq (by omega) (by omega)
    have hOd := LD.offq hOd oq (by omega)
    refine lv_goto (tgt := 18) hx hb dL_cancel_9 (by decide) ?_
    have hre := Option.some.inj hf
    subst hre
    refine lv_iconst (v := 0) hx hb dL_cancel_18 (by decide) ?_
    refine W.widen (k := 1) (n := 6) (by decide) (by decide) ?_
    exact mu_i (v := 0) hx hb hrt hlocks ⟨hG, hN, hT, hV, hHs, hQ, hR, hP, hSb, hO, hOd⟩ hS dL_cancel_19
noncomputable def fL_setTurnLimit (z : KS) (a1 : Int32) : Option (Int32 × KS) := (fX11_setTurnLimit z.G z.N z.Hs z.Q a1).bind fun z1 => sx z1.1 (fun e9 => (if e9 = 1 then some (1, (KS.mk z.G z1.2.1 z.T z.V z1.2.2.1 z1.2.2.2 z.R z.P z.Sb z.o z.od)) else none)) (fun v => some (0, (KS.mk z.G z1.2.1 z.T z.V z1.2.2.1 z1.2.2.2 z.R z.P z.Sb v.toInt64 z.od)))
set_option maxHeartbeats 4000000 in
set_option maxRecDepth 100000 in
theorem mL_setTurnLimit (l : Launch) (E : EP) (B0 : Nat) (htr : l.stackTraces = false) (B : Nat) (hb0 : B0 ≤ B) (z : KS) (a1 : Int32) (r : Int32 × KS) (hf : fL_setTurnLimit z a1 = some r) : MW l E B0 yL_setTurnLimit cL_setTurnLimit 4 (some .int) [(0, 9, 12, 13)] 10 1 6 [.ref (B + 0), .int a1, .ref (B + 212)] (CW E B z) (some (.int r.1)) (CW E B r.2) (cA B) := by
  refine mw_of (by decide +kernel) (Nat.le_of_ble_eq_true rfl) ?_
  intro p e s m args below meth c hx hb hml hown hw hrt hlocks htb hE H hP9 hS ls hl
  obtain ⟨hG, hN, hT, hV, hHs, hQ, hR, hP, hSb, hO, hOd⟩ := hP9
  have hown : s.vm.findClass RL = some m.cls := hown
  have hl : lv_has ls 4 [(0, .ref (B + 0)), (1, .int a1), (2, .ref (B + 212))] := hl
  have hAB : ∀ q, cA B q → B0 ≤ q := cA_ge hb0
  unfold fL_setTurnLimit at hf
  obtain ⟨z1, hc, hf⟩ := br_some hf
  refine lv_aload_n hx hb dL_setTurnLimit_0 rfl (lv_at hl 2 rfl) ?_
  refine lv_iconst (v := 0) hx hb dL_setTurnLimit_1 (by decide) ?_
  refine lv_aload_n hx hb dL_setTurnLimit_2 rfl (lv_at hl 0 rfl) ?_
  refine lv_iload_n hx hb dL_setTurnLimit_3 rfl (lv_at hl 1 rfl) ?_
  refine mg_xV (As := [.int a1]) (rest := [.int 0, .ref (B + 212)]) hx hb hml hown hw hE (mX11_setTurnLimit l E B0 htr B (B + 214) (by omega) (by omega) z.G z.N z.Hs z.Q a1 z1 hc) cv_L_42 (w_recv (k := 0) (ci := 11) hE hG (by decide) rfl rfl) ⟨hG, hN, hHs, hQ⟩ hS hAB (fun q h => by simp only [orA, iv, nv, sbA] at h; show (B ≤ q ∧ q < B + 202) ∨ B + 212 ≤ q; omega) rfl hl.1 rfl (by decide) (by decide) (Nat.le_of_ble_eq_true rfl) ⟨by decide, by decide⟩ dL_setTurnLimit_4 (fun e9 ee H locs ce q hP9 hz hu hS hce hcv hcl => ?_) (fun v ev H locs hP9 hz hu hS => ?_)
  · have hf := sx_l ee hf
    obtain ⟨hG, hN, hHs, hQ⟩ := hP9
    have hT := Blk.off hT hu (or_dis (iv_dis (by omega)) (or_dis (iv_dis (by omega)) (iv_dis (by omega))))
    have hV := Blk.off hV hu (or_dis (iv_dis (by omega)) (or_dis (iv_dis (by omega)) (iv_dis (by omega))))
    have hR := Blk.off hR hu (or_dis (iv_dis (by omega)) (or_dis (iv_dis (by omega)) (iv_dis (by omega))))
    have hP := Blk.off hP hu (or_dis (iv_dis (by omega)) (or_dis (iv_dis (by omega)) (iv_dis (by omega))))
    have hSb := SBt.off hSb hz hu (or_dis_s (sb_iv_dis (by omega) (by omega)) (or_dis_s (sb_iv_dis (by omega) (by omega)) (sb_iv_dis (by omega) (by omega))))
    have hO := LO.off hO hu (fun h => by simp only [orA, iv, nv, sbA] at h; omega)
    have hOd := LD.off hOd hu (fun h => by simp only [orA, iv, nv, sbA] at h; omega)
    by_cases c0 : e9 = 1
    · subst c0
      rw [if_pos rfl] at hf
      have hre := Option.some.inj hf
      subst hre
      refine vx_catch (E := "java/lang/IllegalArgumentException") (name := "java/lang/IllegalArgumentException") hown [] ⟨0, 9, 12, 13⟩ [] (htb.trans rfl) (fun _ h => absurd h List.not_mem_nil) (by decide) (by decide) (hw _ kl_L_13) (va_Nw.use rfl (hE.2.2.2.2.1 _ kx_1 rfl)) hce hcv hcl ?_
      refine lv_astore_n (lv' := [(3, .ref q), (0, .ref (B + 0)), (1, .int a1), (2, .ref (B + 212))]) hx hb dL_setTurnLimit_12 rfl hl (by decide) rfl (fun ls hl => ?_)
      refine lv_iconst (v := 1) hx hb dL_setTurnLimit_13 (by decide) ?_
      refine W.widen (k := 1) (n := 6) (by decide) (by decide) ?_
      exact mu_i (v := 1) hx hb hrt hlocks ⟨hG, hN, hT, hV, hHs, hQ, hR, hP, hSb, hO, hOd⟩ hS dL_setTurnLimit_14
    rw [if_neg c0] at hf
    exact nomatch hf
  · have hf := sx_r ev hf
    obtain ⟨hG, hN, hHs, hQ⟩ := hP9
    have hT := Blk.off hT hu (or_dis (iv_dis (by omega)) (or_dis (iv_dis (by omega)) (iv_dis (by omega))))
    have hV := Blk.off hV hu (or_dis (iv_dis (by omega)) (or_dis (iv_dis (by omega)) (iv_dis (by omega))))
    have hR := Blk.off hR hu (or_dis (iv_dis (by omega)) (or_dis (iv_dis (by omega)) (iv_dis (by omega))))
    have hP := Blk.off hP hu (or_dis (iv_dis (by omega)) (or_dis (iv_dis (by omega)) (iv_dis (by omega))))
    have hSb := SBt.off hSb hz hu (or_dis_s (sb_iv_dis (by omega) (by omega)) (or_dis_s (sb_iv_dis (by omega) (by omega)) (sb_iv_dis (by omega) (by omega))))
    have hO := LO.off hO hu (fun h => by simp only [orA, iv, nv, sbA] at h; omega)
    have hOd := LD.off hOd hu (fun h => by simp only [orA, iv, nv, sbA] at h; omega)
    refine lv_i2l hx hb dL_setTurnLimit_7 rfl ?_
    refine w_last hx hb hE hO hS (Or.inr (by omega)) dL_setTurnLimit_8 (fun H locs hO z9 oq hS => ?_)
    have hG := Blk.offq hG oq (by omega)
    have hN := Blk.offq hN oq (by omega)
    have hT := Blk.offq hT oq (by omega)
    have hV := Blk.offq hV oq (by omega)
    have hHs := Blk.offq hHs oq (by omega)
    have hQ := Fam.offq hQ oq (by omega)
    have hR := Blk.offq hR oq (by omega)
    have hP := Blk.offq hP oq (by omega)
    have hSb := SBt.offq hSb z9 oq (by omega) (by omega)
    have hOd := LD.offq hOd oq (by omega)
    refine lv_goto (tgt := 15) hx hb dL_setTurnLimit_9 (by decide) ?_
    have hre := Option.some.inj hf
    subst hre
    refine lv_iconst (v := 0) hx hb dL_setTurnLimit_15 (by decide) ?_
    refine W.widen (k := 1) (n := 6) (by decide) (by decide) ?_
    exact mu_i (v := 0) hx hb hrt hlocks ⟨hG, hN, hT, hV, hHs, hQ, hR, hP, hSb, hO, hOd⟩ hS dL_setTurnLimit_16
noncomputable def fL_pass (z : KS) (a1 : Int32) : Option (Int32 × KS) := (fX11_pass z.G z.N z.Hs z.Q a1).bind fun z1 => sx z1.1 (fun e9 => (if e9 = 1 then some (1, (KS.mk z.G z1.2.1 z.T z.V z1.2.2.1 z1.2.2.2 z.R z.P z.Sb z.o z.od)) else none)) (fun v => some (0, (KS.mk z.G z1.2.1 z.T z.V z1.2.2.1 z1.2.2.2 z.R z.P z.Sb v.toInt64 z.od)))
set_option maxHeartbeats 4000000 in
set_option maxRecDepth 100000 in
theorem mL_pass (l : Launch) (E : EP) (B0 : Nat) (htr : l.stackTraces = false) (B : Nat) (hb0 : B0 ≤ B) (z : KS) (a1 : Int32) (r : Int32 × KS) (hf : fL_pass z a1 = some r) : MW l E B0 yL_pass cL_pass 4 (some .int) [(0, 9, 12, 13)] 10 1 6 [.ref (B + 0), .int a1, .ref (B + 212)] (CW E B z) (some (.int r.1)) (CW E B r.2) (cA B) := by
  refine mw_of (by decide +kernel) (Nat.le_of_ble_eq_true rfl) ?_
  intro p e s m args below meth c hx hb hml hown hw hrt hlocks htb hE H hP9 hS ls hl
  obtain ⟨hG, hN, hT, hV, hHs, hQ, hR, hP, hSb, hO, hOd⟩ := hP9
  have hown : s.vm.findClass RL = some m.cls := hown
  have hl : lv_has ls 4 [(0, .ref (B + 0)), (1, .int a1), (2, .ref (B + 212))] := hl
  have hAB : ∀ q, cA B q → B0 ≤ q := cA_ge hb0
  unfold fL_pass at hf
  obtain ⟨z1, hc, hf⟩ := br_some hf
  refine lv_aload_n hx hb dL_pass_0 rfl (lv_at hl 2 rfl) ?_
  refine lv_iconst (v := 0) hx hb dL_pass_1 (by decide) ?_
  refine lv_aload_n hx hb dL_pass_2 rfl (lv_at hl 0 rfl) ?_
  refine lv_iload_n hx hb dL_pass_3 rfl (lv_at hl 1 rfl) ?_
  refine mg_xV (As := [.int a1]) (rest := [.int 0, .ref (B + 212)]) hx hb hml hown hw hE (mX11_pass l E B0 htr B (B + 214) (by omega) (by omega) z.G z.N z.Hs z.Q a1 z1 hc) cv_L_45 (w_recv (k := 0) (ci := 11) hE hG (by decide) rfl rfl) ⟨hG, hN, hHs, hQ⟩ hS hAB (fun q h => by simp only [orA, iv, nv, sbA] at h; show (B ≤ q ∧ q < B + 202) ∨ B + 212 ≤ q; omega) rfl hl.1 rfl (by decide) (by decide) (Nat.le_of_ble_eq_true rfl) ⟨by decide, by decide⟩ dL_pass_4 (fun e9 ee H locs ce q hP9 hz hu hS hce hcv hcl => ?_) (fun v ev H locs hP9 hz hu hS => ?_)
  · have hf := sx_l ee hf
    obtain ⟨hG, hN, hHs, hQ⟩ := hP9
    have hT := Blk.off hT hu (or_dis (iv_dis (by omega)) (or_dis (iv_dis (by omega)) (iv_dis (by omega))))
    have hV := Blk.off hV hu (or_dis (iv_dis (by omega)) (or_dis (iv_dis (by omega)) (iv_dis (by omega))))
    have hR := Blk.off hR hu (or_dis (iv_dis (by omega)) (or_dis (iv_dis (by omega)) (iv_dis (by omega))))
    have hP := Blk.off hP hu (or_dis (iv_dis (by omega)) (or_dis (iv_dis (by omega)) (iv_dis (by omega))))
    have hSb := SBt.off hSb hz hu (or_dis_s (sb_iv_dis (by omega) (by omega)) (or_dis_s (sb_iv_dis (by omega) (by omega)) (sb_iv_dis (by omega) (by omega))))
    have hO := LO.off hO hu (fun h => by simp only [orA, iv, nv, sbA] at h; omega)
    have hOd := LD.off hOd hu (fun h => by simp only [orA, iv, nv, sbA] at h; omega)
    by_cases c0 : e9 = 1
    · subst c0
      rw [if_pos rfl] at hf
      have hre := Option.some.inj hf
      subst hre
      refine vx_catch (E := "java/lang/IllegalArgumentException") (name := "java/lang/IllegalArgumentException") hown [] ⟨0, 9, 12, 13⟩ [] (htb.trans rfl) (fun _ h => absurd h List.not_mem_nil) (by decide) (by decide) (hw _ kl_L_13) (va_Nw.use rfl (hE.2.2.2.2.1 _ kx_1 rfl)) hce hcv hcl ?_
      refine lv_astore_n (lv' := [(3, .ref q), (0, .ref (B + 0)), (1, .int a1), (2, .ref (B + 212))]) hx hb dL_pass_12 rfl hl (by decide) rfl (fun ls hl => ?_)
      refine lv_iconst (v := 1) hx hb dL_pass_13 (by decide) ?_
      refine W.widen (k := 1) (n := 6) (by decide) (by decide) ?_
      exact mu_i (v := 1) hx hb hrt hlocks ⟨hG, hN, hT, hV, hHs, hQ, hR, hP, hSb, hO, hOd⟩ hS dL_pass_14
    rw [if_neg c0] at hf
    exact nomatch hf
  · have hf := sx_r ev hf
    obtain ⟨hG, hN, hHs, hQ⟩ := hP9
    have hT := Blk.off hT hu (or_dis (iv_dis (by omega)) (or_dis (iv_dis (by omega)) (iv_dis (by omega))))
    have hV := Blk.off hV hu (or_dis (iv_dis (by omega)) (or_dis (iv_dis (by omega)) (iv_dis (by omega))))
    have hR := Blk.off hR hu (or_dis (iv_dis (by omega)) (or_dis (iv_dis (by omega)) (iv_dis (by omega))))
    have hP := Blk.off hP hu (or_dis (iv_dis (by omega)) (or_dis (iv_dis (by omega)) (iv_dis (by omega))))
    have hSb := SBt.off hSb hz hu (or_dis_s (sb_iv_dis (by omega) (by omega)) (or_dis_s (sb_iv_dis (by omega) (by omega)) (sb_iv_dis (by omega) (by omega))))
    have hO := LO.off hO hu (fun h => by simp only [orA, iv, nv, sbA] at h; omega)
    have hOd := LD.off hOd hu (fun h => by simp only [orA, iv, nv, sbA] at h; omega)
    refine lv_i2l hx hb dL_pass_7 rfl ?_
    refine w_last hx hb hE hO hS (Or.inr (by omega)) dL_pass_8 (fun H locs hO z9 oq hS => ?_)
    have hG := Blk.offq hG oq (by omega)
    have hN := Blk.offq hN oq (by omega)
    have hT := Blk.offq hT oq (by omega)
    have hV := Blk.offq hV oq (by omega)
    have hHs := Blk.offq hHs oq (by omega)
    have hQ := Fam.offq hQ oq (by omega)
    have hR := Blk.offq hR oq (by omega)
    have hP := Blk.offq hP oq (by omega)
    have hSb := SBt.offq hSb z9 oq (by omega) (by omega)
    have hOd := LD.offq hOd oq (by omega)
    refine lv_goto (tgt := 15) hx hb dL_pass_9 (by decide) ?_
    have hre := Option.some.inj hf
    subst hre
    refine lv_iconst (v := 0) hx hb dL_pass_15 (by decide) ?_
    refine W.widen (k := 1) (n := 6) (by decide) (by decide) ?_
    exact mu_i (v := 0) hx hb hrt hlocks ⟨hG, hN, hT, hV, hHs, hQ, hR, hP, hSb, hO, hOd⟩ hS dL_pass_16
noncomputable def fL_find (z : KS) (a1 : Int32) (a2 : Int32) : Option (Int32 × KS) := (fX11_find z.G z.N a1 a2).bind fun z1 => sx z1 (fun e9 => (if e9 = 5 then some (1, (KS.mk z.G z.N z.T z.V z.Hs z.Q z.R z.P z.Sb z.o z.od)) else none)) (fun v => some (0, (KS.mk z.G z.N z.T z.V z.Hs z.Q z.R z.P z.Sb v.toInt64 z.od)))
set_option maxHeartbeats 4000000 in
set_option maxRecDepth 100000 in
theorem mL_find (l : Launch) (E : EP) (B0 : Nat) (htr : l.stackTraces = false) (B : Nat) (hb0 : B0 ≤ B) (z : KS) (a1 : Int32) (a2 : Int32) (r : Int32 × KS) (hf : fL_find z a1 a2 = some r) : MW l E B0 yL_find cL_find 5 (some .int) [(0, 10, 13, 52)] 9 1 6 [.ref (B + 0), .int a1, .int a2, .ref (B + 212)] (CW E B z) (some (.int r.1)) (CW E B r.2) (cA B) := by
  refine mw_of (by decide +kernel) (Nat.le_of_ble_eq_true rfl) ?_
  intro p e s m args below meth c hx hb hml hown hw hrt hlocks htb hE H hP9 hS ls hl
  obtain ⟨hG, hN, hT, hV, hHs, hQ, hR, hP, hSb, hO, hOd⟩ := hP9
  have hown : s.vm.findClass RL = some m.cls := hown
  have hl : lv_has ls 5 [(0, .ref (B + 0)), (1, .int a1), (2, .int a2), (3, .ref (B + 212))] := hl
  have hAB : ∀ q, cA B q → B0 ≤ q := cA_ge hb0
  unfold fL_find at hf
  obtain ⟨z1, hc, hf⟩ := br_some hf
  refine lv_aload_n hx hb dL_find_0 rfl (lv_at hl 3 rfl) ?_
  refine lv_iconst (v := 0) hx hb dL_find_1 (by decide) ?_
  refine lv_aload_n hx hb dL_find_2 rfl (lv_at hl 0 rfl) ?_
  refine lv_iload_n hx hb dL_find_3 rfl (lv_at hl 1 rfl) ?_
  refine lv_iload_n hx hb dL_find_4 rfl (lv_at hl 2 rfl) ?_
  refine mg_xV (As := [.int a1, .int a2]) (rest := [.int 0, .ref (B + 212)]) hx hb hml hown hw hE (mX11_find l E B0 htr B (B + 214) (by omega) (by omega) z.G z.N a1 a2 z1 hc) cv_L_48 (w_recv (k := 0) (ci := 11) hE hG (by decide) rfl rfl) ⟨hG, hN⟩ hS hAB (fun _ h => h.elim) rfl hl.1 rfl (by decide) (by decide) (Nat.le_of_ble_eq_true rfl) ⟨by decide, by decide⟩ dL_find_5 (fun e9 ee H locs ce q hP9 hz hu hS hce hcv hcl => ?_) (fun v ev H locs hP9 hz hu hS => ?_)
  · have hf := sx_l ee hf
    obtain ⟨hG, hN⟩ := hP9
    have hT := Blk.off hT hu (fun _ _ _ h => h)
    have hV := Blk.off hV hu (fun _ _ _ h => h)
    have hHs := Blk.off hHs hu (fun _ _ _ h => h)
    have hQ := Fam.off hQ hu (fun _ _ _ h => h)
    have hR := Blk.off hR hu (fun _ _ _ h => h)
    have hP := Blk.off hP hu (fun _ _ _ h => h)
    have hSb := SBt.off hSb hz hu (fun _ _ h => h)
    have hO := LO.off hO hu (fun h => h)
    have hOd := LD.off hOd hu (fun h => h)
    by_cases c0 : e9 = 5
    · subst c0
      rw [if_pos rfl] at hf
      have hre := Option.some.inj hf
      subst hre
      refine vx_catch (E := "java/util/NoSuchElementException") (name := "java/util/NoSuchElementException") hown [] ⟨0, 10, 13, 52⟩ [] (htb.trans rfl) (fun _ h => absurd h List.not_mem_nil) (by decide) (by decide) (hw _ kl_L_52) (va_Nw.use rfl (hE.2.2.2.2.1 _ kx_5 rfl)) hce hcv hcl ?_
      refine lv_astore (lv' := [(4, .ref q), (0, .ref (B + 0)), (1, .int a1), (2, .int a2), (3, .ref (B + 212))]) hx hb dL_find_13 hl (by decide) rfl (fun ls hl => ?_)
      refine lv_iconst (v := 1) hx hb dL_find_15 (by decide) ?_
      refine W.widen (k := 1) (n := 6) (by decide) (by decide) ?_
      exact mu_i (v := 1) hx hb hrt hlocks ⟨hG, hN, hT, hV, hHs, hQ, hR, hP, hSb, hO, hOd⟩ hS dL_find_16
    rw [if_neg c0] at hf
    exact nomatch hf
  · have hf := sx_r ev hf
    obtain ⟨hG, hN⟩ := hP9
    have hT := Blk.off hT hu (fun _ _ _ h => h)
    have hV := Blk.off hV hu (fun _ _ _ h => h)
    have hHs := Blk.off hHs hu (fun _ _ _ h => h)
    have hQ := Fam.off hQ hu (fun _ _ _ h => h)
    have hR := Blk.off hR hu (fun _ _ _ h => h)
    have hP := Blk.off hP hu (fun _ _ _ h => h)
    have hSb := SBt.off hSb hz hu (fun _ _ h => h)
    have hO := LO.off hO hu (fun h => h)
    have hOd := LD.off hOd hu (fun h => h)
    refine lv_i2l hx hb dL_find_8 rfl ?_
    refine w_last hx hb hE hO hS (Or.inr (by omega)) dL_find_9 (fun H locs hO z9 oq hS => ?_)
    have hG := Blk.offq hG oq (by omega)
    have hN := Blk.offq hN oq (by omega)
    have hT := Blk.offq hT oq (by omega)
    have hV := Blk.offq hV oq (by omega)
    have hHs := Blk.offq hHs oq (by omega)
    have hQ := Fam.offq hQ oq (by omega)
    have hR := Blk.offq hR oq (by omega)
    have hP := Blk.offq hP oq (by omega)
    have hSb := SBt.offq hSb z9 oq (by omega) (by omega)
    have hOd := LD.offq hOd oq (by omega)
    refine lv_goto (tgt := 17) hx hb dL_find_10 (by decide) ?_
    have hre := Option.some.inj hf
    subst hre
    refine lv_iconst (v := 0) hx hb dL_find_17 (by decide) ?_
    refine W.widen (k := 1) (n := 6) (by decide) (by decide) ?_
    exact mu_i (v := 0) hx hb hrt hlocks ⟨hG, hN, hT, hV, hHs, hQ, hR, hP, hSb, hO, hOd⟩ hS dL_find_18
noncomputable def fL_letter (z : KS) (a1 : Int32) : Option (Int32 × KS) := (fX11_letter z.G z.N a1).bind fun z1 => sx z1 (fun e9 => (if e9 = 0 then some (1, (KS.mk z.G z.N z.T z.V z.Hs z.Q z.R z.P z.Sb z.o z.od)) else none)) (fun v => some (0, (KS.mk z.G z.N z.T z.V z.Hs z.Q z.R z.P z.Sb v.toInt64 z.od)))
set_option maxHeartbeats 4000000 in
set_option maxRecDepth 100000 in
theorem mL_letter (l : Launch) (E : EP) (B0 : Nat) (htr : l.stackTraces = false) (B : Nat) (hb0 : B0 ≤ B) (z : KS) (a1 : Int32) (r : Int32 × KS) (hf : fL_letter z a1 = some r) : MW l E B0 yL_letter cL_letter 4 (some .int) [(0, 9, 12, 23)] 11 1 6 [.ref (B + 0), .int a1, .ref (B + 212)] (CW E B z) (some (.int r.1)) (CW E B r.2) (cA B) := by
  refine mw_of (by decide +kernel) (Nat.le_of_ble_eq_true rfl) ?_
  intro p e s m args below meth c hx hb hml hown hw hrt hlocks htb hE H hP9 hS ls hl
  obtain ⟨hG, hN, hT, hV, hHs, hQ, hR, hP, hSb, hO, hOd⟩ := hP9
  have hown : s.vm.findClass RL = some m.cls := hown
  have hl : lv_has ls 4 [(0, .ref (B + 0)), (1, .int a1), (2, .ref (B + 212))] := hl
  have hAB : ∀ q, cA B q → B0 ≤ q := cA_ge hb0
  unfold fL_letter at hf
  obtain ⟨z1, hc, hf⟩ := br_some hf
  refine lv_aload_n hx hb dL_letter_0 rfl (lv_at hl 2 rfl) ?_
  refine lv_iconst (v := 0) hx hb dL_letter_1 (by decide) ?_
  refine lv_aload_n hx hb dL_letter_2 rfl (lv_at hl 0 rfl) ?_
  refine lv_iload_n hx hb dL_letter_3 rfl (lv_at hl 1 rfl) ?_
  refine mg_xV (As := [.int a1]) (rest := [.int 0, .ref (B + 212)]) hx hb hml hown hw hE (mX11_letter l E B0 htr B (B + 214) (by omega) (by omega) z.G z.N a1 z1 hc) cv_L_54 (w_recv (k := 0) (ci := 11) hE hG (by decide) rfl rfl) ⟨hG, hN⟩ hS hAB (fun _ h => h.elim) rfl hl.1 rfl (by decide) (by decide) (Nat.le_of_ble_eq_true rfl) ⟨by decide, by decide⟩ dL_letter_4 (fun e9 ee H locs ce q hP9 hz hu hS hce hcv hcl => ?_) (fun v ev H locs hP9 hz hu hS => ?_)
  · have hf := sx_l ee hf
    obtain ⟨hG, hN⟩ := hP9
    have hT := Blk.off hT hu (fun _ _ _ h => h)
    have hV := Blk.off hV hu (fun _ _ _ h => h)
    have hHs := Blk.off hHs hu (fun _ _ _ h => h)
    have hQ := Fam.off hQ hu (fun _ _ _ h => h)
    have hR := Blk.off hR hu (fun _ _ _ h => h)
    have hP := Blk.off hP hu (fun _ _ _ h => h)
    have hSb := SBt.off hSb hz hu (fun _ _ h => h)
    have hO := LO.off hO hu (fun h => h)
    have hOd := LD.off hOd hu (fun h => h)
    by_cases c0 : e9 = 0
    · subst c0
      rw [if_pos rfl] at hf
      have hre := Option.some.inj hf
      subst hre
      refine vx_catch (E := "java/lang/IndexOutOfBoundsException") (name := "java/lang/IndexOutOfBoundsException") hown [] ⟨0, 9, 12, 23⟩ [] (htb.trans rfl) (fun _ h => absurd h List.not_mem_nil) (by decide) (by decide) (hw _ kl_L_23) (va_Nw.use rfl (hE.2.2.2.2.1 _ kx_0 rfl)) hce hcv hcl ?_
      refine lv_astore_n (lv' := [(3, .ref q), (0, .ref (B + 0)), (1, .int a1), (2, .ref (B + 212))]) hx hb dL_letter_12 rfl hl (by decide) rfl (fun ls hl => ?_)
      refine lv_iconst (v := 1) hx hb dL_letter_13 (by decide) ?_
      refine W.widen (k := 1) (n := 6) (by decide) (by decide) ?_
      exact mu_i (v := 1) hx hb hrt hlocks ⟨hG, hN, hT, hV, hHs, hQ, hR, hP, hSb, hO, hOd⟩ hS dL_letter_14
    rw [if_neg c0] at hf
    exact nomatch hf
  · have hf := sx_r ev hf
    obtain ⟨hG, hN⟩ := hP9
    have hT := Blk.off hT hu (fun _ _ _ h => h)
    have hV := Blk.off hV hu (fun _ _ _ h => h)
    have hHs := Blk.off hHs hu (fun _ _ _ h => h)
    have hQ := Fam.off hQ hu (fun _ _ _ h => h)
    have hR := Blk.off hR hu (fun _ _ _ h => h)
    have hP := Blk.off hP hu (fun _ _ _ h => h)
    have hSb := SBt.off hSb hz hu (fun _ _ h => h)
    have hO := LO.off hO hu (fun h => h)
    have hOd := LD.off hOd hu (fun h => h)
    refine lv_i2l hx hb dL_letter_7 rfl ?_
    refine w_last hx hb hE hO hS (Or.inr (by omega)) dL_letter_8 (fun H locs hO z9 oq hS => ?_)
    have hG := Blk.offq hG oq (by omega)
    have hN := Blk.offq hN oq (by omega)
    have hT := Blk.offq hT oq (by omega)
    have hV := Blk.offq hV oq (by omega)
    have hHs := Blk.offq hHs oq (by omega)
    have hQ := Fam.offq hQ oq (by omega)
    have hR := Blk.offq hR oq (by omega)
    have hP := Blk.offq hP oq (by omega)
    have hSb := SBt.offq hSb z9 oq (by omega) (by omega)
    have hOd := LD.offq hOd oq (by omega)
    refine lv_goto (tgt := 15) hx hb dL_letter_9 (by decide) ?_
    have hre := Option.some.inj hf
    subst hre
    refine lv_iconst (v := 0) hx hb dL_letter_15 (by decide) ?_
    refine W.widen (k := 1) (n := 6) (by decide) (by decide) ?_
    exact mu_i (v := 0) hx hb hrt hlocks ⟨hG, hN, hT, hV, hHs, hQ, hR, hP, hSb, hO, hOd⟩ hS dL_letter_16
noncomputable def fL_digit (z : KS) (a1 : Int32) : Option (Int32 × KS) := (fX11_digit z.G z.N a1).bind fun z1 => sx z1 (fun e9 => (if e9 = 0 then some (1, (KS.mk z.G z.N z.T z.V z.Hs z.Q z.R z.P z.Sb z.o z.od)) else none)) (fun v => some (0, (KS.mk z.G z.N z.T z.V z.Hs z.Q z.R z.P z.Sb v.toInt64 z.od)))
set_option maxHeartbeats 4000000 in
set_option maxRecDepth 100000 in
theorem mL_digit (l : Launch) (E : EP) (B0 : Nat) (htr : l.stackTraces = false) (B : Nat) (hb0 : B0 ≤ B) (z : KS) (a1 : Int32) (r : Int32 × KS) (hf : fL_digit z a1 = some r) : MW l E B0 yL_digit cL_digit 4 (some .int) [(0, 9, 12, 23)] 11 1 6 [.ref (B + 0), .int a1, .ref (B + 212)] (CW E B z) (some (.int r.1)) (CW E B r.2) (cA B) := by
  refine mw_of (by decide +kernel) (Nat.le_of_ble_eq_true rfl) ?_
  intro p e s m args below meth c hx hb hml hown hw hrt hlocks htb hE H hP9 hS ls hl
  obtain ⟨hG, hN, hT, hV, hHs, hQ, hR, hP, hSb, hO, hOd⟩ := hP9
  have hown : s.vm.findClass RL = some m.cls := hown
  have hl : lv_has ls 4 [(0, .ref (B + 0)), (1, .int a1), (2, .ref (B + 212))] := hl
  have hAB : ∀ q, cA B q → B0 ≤ q := cA_ge hb0
  unfold fL_digit at hf
  obtain ⟨z1, hc, hf⟩ := br_some hf
  refine lv_aload_n hx hb dL_digit_0 rfl (lv_at hl 2 rfl) ?_
  refine lv_iconst (v := 0) hx hb dL_digit_1 (by decide) ?_
  refine lv_aload_n hx hb dL_digit_2 rfl (lv_at hl 0 rfl) ?_
  refine lv_iload_n hx hb dL_digit_3 rfl (lv_at hl 1 rfl) ?_
  refine mg_xV (As := [.int a1]) (rest := [.int 0, .ref (B + 212)]) hx hb hml hown hw hE (mX11_digit l E B0 htr B (B + 214) (by omega) (by omega) z.G z.N a1 z1 hc) cv_L_58 (w_recv (k := 0) (ci := 11) hE hG (by decide) rfl rfl) ⟨hG, hN⟩ hS hAB (fun _ h => h.elim) rfl hl.1 rfl (by decide) (by decide) (Nat.le_of_ble_eq_true rfl) ⟨by decide, by decide⟩ dL_digit_4 (fun e9 ee H locs ce q hP9 hz hu hS hce hcv hcl => ?_) (fun v ev H locs hP9 hz hu hS => ?_)
  · have hf := sx_l ee hf
    obtain ⟨hG, hN⟩ := hP9
    have hT := Blk.off hT hu (fun _ _ _ h => h)
    have hV := Blk.off hV hu (fun _ _ _ h => h)
    have hHs := Blk.off hHs hu (fun _ _ _ h => h)
    have hQ := Fam.off hQ hu (fun _ _ _ h => h)
    have hR := Blk.off hR hu (fun _ _ _ h => h)
    have hP := Blk.off hP hu (fun _ _ _ h => h)
    have hSb := SBt.off hSb hz hu (fun _ _ h => h)
    have hO := LO.off hO hu (fun h => h)
    have hOd := LD.off hOd hu (fun h => h)
    by_cases c0 : e9 = 0
    · subst c0
      rw [if_pos rfl] at hf
      have hre := Option.some.inj hf
      subst hre
      refine vx_catch (E := "java/lang/IndexOutOfBoundsException") (name := "java/lang/IndexOutOfBoundsException") hown [] ⟨0, 9, 12, 23⟩ [] (htb.trans rfl) (fun _ h => absurd h List.not_mem_nil) (by decide) (by decide) (hw _ kl_L_23) (va_Nw.use rfl (hE.2.2.2.2.1 _ kx_0 rfl)) hce hcv hcl ?_
      refine lv_astore_n (lv' := [(3, .ref q), (0, .ref (B + 0)), (1, .int a1), (2, .ref (B + 212))]) hx hb dL_digit_12 rfl hl (by decide) rfl (fun ls hl => ?_)
      refine lv_iconst (v := 1) hx hb dL_digit_13 (by decide) ?_
      refine W.widen (k := 1) (n := 6) (by decide) (by decide) ?_
      exact mu_i (v := 1) hx hb hrt hlocks ⟨hG, hN, hT, hV, hHs, hQ, hR, hP, hSb, hO, hOd⟩ hS dL_digit_14
    rw [if_neg c0] at hf
    exact nomatch hf
  · have hf := sx_r ev hf
    obtain ⟨hG, hN⟩ := hP9
    have hT := Blk.off hT hu (fun _ _ _ h => h)
    have hV := Blk.off hV hu (fun _ _ _ h => h)
    have hHs := Blk.off hHs hu (fun _ _ _ h => h)
    have hQ := Fam.off hQ hu (fun _ _ _ h => h)
    have hR := Blk.off hR hu (fun _ _ _ h => h)
    have hP := Blk.off hP hu (fun _ _ _ h => h)
    have hSb := SBt.off hSb hz hu (fun _ _ h => h)
    have hO := LO.off hO hu (fun h => h)
    have hOd := LD.off hOd hu (fun h => h)
    refine lv_i2l hx hb dL_digit_7 rfl ?_
    refine w_last hx hb hE hO hS (Or.inr (by omega)) dL_digit_8 (fun H locs hO z9 oq hS => ?_)
    have hG := Blk.offq hG oq (by omega)
    have hN := Blk.offq hN oq (by omega)
    have hT := Blk.offq hT oq (by omega)
    have hV := Blk.offq hV oq (by omega)
    have hHs := Blk.offq hHs oq (by omega)
    have hQ := Fam.offq hQ oq (by omega)
    have hR := Blk.offq hR oq (by omega)
    have hP := Blk.offq hP oq (by omega)
    have hSb := SBt.offq hSb z9 oq (by omega) (by omega)
    have hOd := LD.offq hOd oq (by omega)
    refine lv_goto (tgt := 15) hx hb dL_digit_9 (by decide) ?_
    have hre := Option.some.inj hf
    subst hre
    refine lv_iconst (v := 0) hx hb dL_digit_15 (by decide) ?_
    refine W.widen (k := 1) (n := 6) (by decide) (by decide) ?_
    exact mu_i (v := 0) hx hb hrt hlocks ⟨hG, hN, hT, hV, hHs, hQ, hR, hP, hSb, hO, hOd⟩ hS dL_digit_16
noncomputable def fL_channel (z : KS) (a1 : Int32) : Option (Int32 × KS) := (fX11_channel z.G z.N a1).bind fun z1 => sx z1 (fun e9 => (if e9 = 0 then some (1, (KS.mk z.G z.N z.T z.V z.Hs z.Q z.R z.P z.Sb z.o z.od)) else none)) (fun v => some (0, (KS.mk z.G z.N z.T z.V z.Hs z.Q z.R z.P z.Sb v.toInt64 z.od)))
set_option maxHeartbeats 4000000 in
set_option maxRecDepth 100000 in
theorem mL_channel (l : Launch) (E : EP) (B0 : Nat) (htr : l.stackTraces = false) (B : Nat) (hb0 : B0 ≤ B) (z : KS) (a1 : Int32) (r : Int32 × KS) (hf : fL_channel z a1 = some r) : MW l E B0 yL_channel cL_channel 4 (some .int) [(0, 9, 12, 23)] 11 1 6 [.ref (B + 0), .int a1, .ref (B + 212)] (CW E B z) (some (.int r.1)) (CW E B r.2) (cA B) := by
  refine mw_of (by decide +kernel) (Nat.le_of_ble_eq_true rfl) ?_
  intro p e s m args below meth c hx hb hml hown hw hrt hlocks htb hE H hP9 hS ls hl
  obtain ⟨hG, hN, hT, hV, hHs, hQ, hR, hP, hSb, hO, hOd⟩ := hP9
  have hown : s.vm.findClass RL = some m.cls := hown
  have hl : lv_has ls 4 [(0, .ref (B + 0)), (1, .int a1), (2, .ref (B + 212))] := hl
  have hAB : ∀ q, cA B q → B0 ≤ q := cA_ge hb0
  unfold fL_channel at hf
  obtain ⟨z1, hc, hf⟩ := br_some hf
  refine lv_aload_n hx hb dL_channel_0 rfl (lv_at hl 2 rfl) ?_
  refine lv_iconst (v := 0) hx hb dL_channel_1 (by decide) ?_
  refine lv_aload_n hx hb dL_channel_2 rfl (lv_at hl 0 rfl) ?_
  refine lv_iload_n hx hb dL_channel_3 rfl (lv_at hl 1 rfl) ?_
  refine mg_xV (As := [.int a1]) (rest := [.int 0, .ref (B + 212)]) hx hb hml hown hw hE (mX11_channel l E B0 htr B (B + 214) (by omega) (by omega) z.G z.N a1 z1 hc) cv_L_61 (w_recv (k := 0) (ci := 11) hE hG (by decide) rfl rfl) ⟨hG, hN⟩ hS hAB (fun _ h => h.elim) rfl hl.1 rfl (by decide) (by decide) (Nat.le_of_ble_eq_true rfl) ⟨by decide, by decide⟩ dL_channel_4 (fun e9 ee H locs ce q hP9 hz hu hS hce hcv hcl => ?_) (fun v ev H locs hP9 hz hu hS => ?_)
  · have hf := sx_l ee hf
    obtain ⟨hG, hN⟩ := hP9
    have hT := Blk.off hT hu (fun _ _ _ h => h)
    have hV := Blk.off hV hu (fun _ _ _ h => h)
    have hHs := Blk.off hHs hu (fun _ _ _ h => h)
    have hQ := Fam.off hQ hu (fun _ _ _ h => h)
    have hR := Blk.off hR hu (fun _ _ _ h => h)
    have hP := Blk.off hP hu (fun _ _ _ h => h)
    have hSb := SBt.off hSb hz hu (fun _ _ h => h)
    have hO := LO.off hO hu (fun h => h)
    have hOd := LD.off hOd hu (fun h => h)
    by_cases c0 : e9 = 0
    · subst c0
      rw [if_pos rfl] at hf
      have hre := Option.some.inj hf
      subst hre
      refine vx_catch (E := "java/lang/IndexOutOfBoundsException") (name := "java/lang/IndexOutOfBoundsException") hown [] ⟨0, 9, 12, 23⟩ [] (htb.trans rfl) (fun _ h => absurd h List.not_mem_nil) (by decide) (by decide) (hw _ kl_L_23) (va_Nw.use rfl (hE.2.2.2.2.1 _ kx_0 rfl)) hce hcv hcl ?_
      refine lv_astore_n (lv' := [(3, .ref q), (0, .ref (B + 0)), (1, .int a1), (2, .ref (B + 212))]) hx hb dL_channel_12 rfl hl (by decide) rfl (fun ls hl => ?_)
      refine lv_iconst (v := 1) hx hb dL_channel_13 (by decide) ?_
      refine W.widen (k := 1) (n := 6) (by decide) (by decide) ?_
      exact mu_i (v := 1) hx hb hrt hlocks ⟨hG, hN, hT, hV, hHs, hQ, hR, hP, hSb, hO, hOd⟩ hS dL_channel_14
    rw [if_neg c0] at hf
    exact nomatch hf
  · have hf := sx_r ev hf
    obtain ⟨hG, hN⟩ := hP9
    have hT := Blk.off hT hu (fun _ _ _ h => h)
    have hV := Blk.off hV hu (fun _ _ _ h => h)
    have hHs := Blk.off hHs hu (fun _ _ _ h => h)
    have hQ := Fam.off hQ hu (fun _ _ _ h => h)
    have hR := Blk.off hR hu (fun _ _ _ h => h)
    have hP := Blk.off hP hu (fun _ _ _ h => h)
    have hSb := SBt.off hSb hz hu (fun _ _ h => h)
    have hO := LO.off hO hu (fun h => h)
    have hOd := LD.off hOd hu (fun h => h)
    refine lv_i2l hx hb dL_channel_7 rfl ?_
    refine w_last hx hb hE hO hS (Or.inr (by omega)) dL_channel_8 (fun H locs hO z9 oq hS => ?_)
    have hG := Blk.offq hG oq (by omega)
    have hN := Blk.offq hN oq (by omega)
    have hT := Blk.offq hT oq (by omega)
    have hV := Blk.offq hV oq (by omega)
    have hHs := Blk.offq hHs oq (by omega)
    have hQ := Fam.offq hQ oq (by omega)
    have hR := Blk.offq hR oq (by omega)
    have hP := Blk.offq hP oq (by omega)
    have hSb := SBt.offq hSb z9 oq (by omega) (by omega)
    have hOd := LD.offq hOd oq (by omega)
    refine lv_goto (tgt := 15) hx hb dL_channel_9 (by decide) ?_
    have hre := Option.some.inj hf
    subst hre
    refine lv_iconst (v := 0) hx hb dL_channel_15 (by decide) ?_
    refine W.widen (k := 1) (n := 6) (by decide) (by decide) ?_
    exact mu_i (v := 0) hx hb hrt hlocks ⟨hG, hN, hT, hV, hHs, hQ, hR, hP, hSb, hO, hOd⟩ hS dL_channel_16
noncomputable def fL_power (z : KS) (a1 : Int32) : Option (Int32 × KS) := (fX11_power z.G z.N a1).bind fun z1 => sx z1 (fun e9 => (if e9 = 0 then some (1, (KS.mk z.G z.N z.T z.V z.Hs z.Q z.R z.P z.Sb z.o z.od)) else none)) (fun v => some (0, (KS.mk z.G z.N z.T z.V z.Hs z.Q z.R z.P z.Sb v.toInt64 z.od)))
set_option maxHeartbeats 4000000 in
set_option maxRecDepth 100000 in
theorem mL_power (l : Launch) (E : EP) (B0 : Nat) (htr : l.stackTraces = false) (B : Nat) (hb0 : B0 ≤ B) (z : KS) (a1 : Int32) (r : Int32 × KS) (hf : fL_power z a1 = some r) : MW l E B0 yL_power cL_power 4 (some .int) [(0, 9, 12, 23)] 11 1 6 [.ref (B + 0), .int a1, .ref (B + 212)] (CW E B z) (some (.int r.1)) (CW E B r.2) (cA B) := by
  refine mw_of (by decide +kernel) (Nat.le_of_ble_eq_true rfl) ?_
  intro p e s m args below meth c hx hb hml hown hw hrt hlocks htb hE H hP9 hS ls hl
  obtain ⟨hG, hN, hT, hV, hHs, hQ, hR, hP, hSb, hO, hOd⟩ := hP9
  have hown : s.vm.findClass RL = some m.cls := hown
  have hl : lv_has ls 4 [(0, .ref (B + 0)), (1, .int a1), (2, .ref (B + 212))] := hl
  have hAB : ∀ q, cA B q → B0 ≤ q := cA_ge hb0
  unfold fL_power at hf
  obtain ⟨z1, hc, hf⟩ := br_some hf
  refine lv_aload_n hx hb dL_power_0 rfl (lv_at hl 2 rfl) ?_
  refine lv_iconst (v := 0) hx hb dL_power_1 (by decide) ?_
  refine lv_aload_n hx hb dL_power_2 rfl (lv_at hl 0 rfl) ?_
  refine lv_iload_n hx hb dL_power_3 rfl (lv_at hl 1 rfl) ?_
  refine mg_xV (As := [.int a1]) (rest := [.int 0, .ref (B + 212)]) hx hb hml hown hw hE (mX11_power l E B0 htr B (B + 214) (by omega) (by omega) z.G z.N a1 z1 hc) cv_L_64 (w_recv (k := 0) (ci := 11) hE hG (by decide) rfl rfl) ⟨hG, hN⟩ hS hAB (fun _ h => h.elim) rfl hl.1 rfl (by decide) (by decide) (Nat.le_of_ble_eq_true rfl) ⟨by decide, by decide⟩ dL_power_4 (fun e9 ee H locs ce q hP9 hz hu hS hce hcv hcl => ?_) (fun v ev H locs hP9 hz hu hS => ?_)
  · have hf := sx_l ee hf
    obtain ⟨hG, hN⟩ := hP9
    have hT := Blk.off hT hu (fun _ _ _ h => h)
    have hV := Blk.off hV hu (fun _ _ _ h => h)
    have hHs := Blk.off hHs hu (fun _ _ _ h => h)
    have hQ := Fam.off hQ hu (fun _ _ _ h => h)
    have hR := Blk.off hR hu (fun _ _ _ h => h)
    have hP := Blk.off hP hu (fun _ _ _ h => h)
    have hSb := SBt.off hSb hz hu (fun _ _ h => h)
    have hO := LO.off hO hu (fun h => h)
    have hOd := LD.off hOd hu (fun h => h)
    by_cases c0 : e9 = 0
    · subst c0
      rw [if_pos rfl] at hf
      have hre := Option.some.inj hf
      subst hre
      refine vx_catch (E := "java/lang/IndexOutOfBoundsException") (name := "java/lang/IndexOutOfBoundsException") hown [] ⟨0, 9, 12, 23⟩ [] (htb.trans rfl) (fun _ h => absurd h List.not_mem_nil) (by decide) (by decide) (hw _ kl_L_23) (va_Nw.use rfl (hE.2.2.2.2.1 _ kx_0 rfl)) hce hcv hcl ?_
      refine lv_astore_n (lv' := [(3, .ref q), (0, .ref (B + 0)), (1, .int a1), (2, .ref (B + 212))]) hx hb dL_power_12 rfl hl (by decide) rfl (fun ls hl => ?_)
      refine lv_iconst (v := 1) hx hb dL_power_13 (by decide) ?_
      refine W.widen (k := 1) (n := 6) (by decide) (by decide) ?_
      exact mu_i (v := 1) hx hb hrt hlocks ⟨hG, hN, hT, hV, hHs, hQ, hR, hP, hSb, hO, hOd⟩ hS dL_power_14
    rw [if_neg c0] at hf
    exact nomatch hf
  · have hf := sx_r ev hf
    obtain ⟨hG, hN⟩ := hP9
    have hT := Blk.off hT hu (fun _ _ _ h => h)
    have hV := Blk.off hV hu (fun _ _ _ h => h)
    have hHs := Blk.off hHs hu (fun _ _ _ h => h)
    have hQ := Fam.off hQ hu (fun _ _ _ h => h)
    have hR := Blk.off hR hu (fun _ _ _ h => h)
    have hP := Blk.off hP hu (fun _ _ _ h => h)
    have hSb := SBt.off hSb hz hu (fun _ _ h => h)
    have hO := LO.off hO hu (fun h => h)
    have hOd := LD.off hOd hu (fun h => h)
    refine lv_i2l hx hb dL_power_7 rfl ?_
    refine w_last hx hb hE hO hS (Or.inr (by omega)) dL_power_8 (fun H locs hO z9 oq hS => ?_)
    have hG := Blk.offq hG oq (by omega)
    have hN := Blk.offq hN oq (by omega)
    have hT := Blk.offq hT oq (by omega)
    have hV := Blk.offq hV oq (by omega)
    have hHs := Blk.offq hHs oq (by omega)
    have hQ := Fam.offq hQ oq (by omega)
    have hR := Blk.offq hR oq (by omega)
    have hP := Blk.offq hP oq (by omega)
    have hSb := SBt.offq hSb z9 oq (by omega) (by omega)
    have hOd := LD.offq hOd oq (by omega)
    refine lv_goto (tgt := 15) hx hb dL_power_9 (by decide) ?_
    have hre := Option.some.inj hf
    subst hre
    refine lv_iconst (v := 0) hx hb dL_power_15 (by decide) ?_
    refine W.widen (k := 1) (n := 6) (by decide) (by decide) ?_
    exact mu_i (v := 0) hx hb hrt hlocks ⟨hG, hN, hT, hV, hHs, hQ, hR, hP, hSb, hO, hOd⟩ hS dL_power_16
noncomputable def fL_isSpeaking (z : KS) (a1 : Int32) : Option (Int32 × KS) := (fX11_isSpeaking z.G z.N a1).bind fun z1 => sx z1 (fun e9 => (if e9 = 0 then some (1, (KS.mk z.G z.N z.T z.V z.Hs z.Q z.R z.P z.Sb z.o z.od)) else none)) (fun v => (if v = 0 then some (0, (KS.mk z.G z.N z.T z.V z.Hs z.Q z.R z.P z.Sb 0 z.od)) else some (0, (KS.mk z.G z.N z.T z.V z.Hs z.Q z.R z.P z.Sb 1 z.od))))
set_option maxHeartbeats 4000000 in
set_option maxRecDepth 100000 in
theorem mL_isSpeaking (l : Launch) (E : EP) (B0 : Nat) (htr : l.stackTraces = false) (B : Nat) (hb0 : B0 ≤ B) (z : KS) (a1 : Int32) (r : Int32 × KS) (hf : fL_isSpeaking z a1 = some r) : MW l E B0 yL_isSpeaking cL_isSpeaking 4 (some .int) [(0, 16, 19, 23)] 11 1 6 [.ref (B + 0), .int a1, .ref (B + 212)] (CW E B z) (some (.int r.1)) (CW E B r.2) (cA B) := by
  refine mw_of (by decide +kernel) (Nat.le_of_ble_eq_true rfl) ?_
  intro p e s m args below meth c hx hb hml hown hw hrt hlocks htb hE H hP9 hS ls hl
  obtain ⟨hG, hN, hT, hV, hHs, hQ, hR, hP, hSb, hO, hOd⟩ := hP9
  have hown : s.vm.findClass RL = some m.cls := hown
  have hl : lv_has ls 4 [(0, .ref (B + 0)), (1, .int a1), (2, .ref (B + 212))] := hl
  have hAB : ∀ q, cA B q → B0 ≤ q := cA_ge hb0
  unfold fL_isSpeaking at hf
  obtain ⟨z1, hc, hf⟩ := br_some hf
  refine lv_aload_n hx hb dL_isSpeaking_0 rfl (lv_at hl 2 rfl) ?_
  refine lv_iconst (v := 0) hx hb dL_isSpeaking_1 (by decide) ?_
  refine lv_aload_n hx hb dL_isSpeaking_2 rfl (lv_at hl 0 rfl) ?_
  refine lv_iload_n hx hb dL_isSpeaking_3 rfl (lv_at hl 1 rfl) ?_
  refine mg_xV (As := [.int a1]) (rest := [.int 0, .ref (B + 212)]) hx hb hml hown hw hE (mX11_isSpeaking l E B0 htr B (B + 214) (by omega) (by omega) z.G z.N a1 z1 hc) cv_L_67 (w_recv (k := 0) (ci := 11) hE hG (by decide) rfl rfl) ⟨hG, hN⟩ hS hAB (fun _ h => h.elim) rfl hl.1 rfl (by decide) (by decide) (Nat.le_of_ble_eq_true rfl) ⟨by decide, by decide⟩ dL_isSpeaking_4 (fun e9 ee H locs ce q hP9 hz hu hS hce hcv hcl => ?_) (fun v ev H locs hP9 hz hu hS => ?_)
  · have hf := sx_l ee hf
    obtain ⟨hG, hN⟩ := hP9
    have hT := Blk.off hT hu (fun _ _ _ h => h)
    have hV := Blk.off hV hu (fun _ _ _ h => h)
    have hHs := Blk.off hHs hu (fun _ _ _ h => h)
    have hQ := Fam.off hQ hu (fun _ _ _ h => h)
    have hR := Blk.off hR hu (fun _ _ _ h => h)
    have hP := Blk.off hP hu (fun _ _ _ h => h)
    have hSb := SBt.off hSb hz hu (fun _ _ h => h)
    have hO := LO.off hO hu (fun h => h)
    have hOd := LD.off hOd hu (fun h => h)
    by_cases c0 : e9 = 0
    · subst c0
      rw [if_pos rfl] at hf
      have hre := Option.some.inj hf
      subst hre
      refine vx_catch (E := "java/lang/IndexOutOfBoundsException") (name := "java/lang/IndexOutOfBoundsException") hown [] ⟨0, 16, 19, 23⟩ [] (htb.trans rfl) (fun _ h => absurd h List.not_mem_nil) (by decide) (by decide) (hw _ kl_L_23) (va_Nw.use rfl (hE.2.2.2.2.1 _ kx_0 rfl)) hce hcv hcl ?_
      refine lv_astore_n (lv' := [(3, .ref q), (0, .ref (B + 0)), (1, .int a1), (2, .ref (B + 212))]) hx hb dL_isSpeaking_19 rfl hl (by decide) rfl (fun ls hl => ?_)
      refine lv_iconst (v := 1) hx hb dL_isSpeaking_20 (by decide) ?_
      refine W.widen (k := 1) (n := 6) (by decide) (by decide) ?_
      exact mu_i (v := 1) hx hb hrt hlocks ⟨hG, hN, hT, hV, hHs, hQ, hR, hP, hSb, hO, hOd⟩ hS dL_isSpeaking_21
    rw [if_neg c0] at hf
    exact nomatch hf
  · have hf := sx_r ev hf
    obtain ⟨hG, hN⟩ := hP9
    have hT := Blk.off hT hu (fun _ _ _ h => h)
    have hV := Blk.off hV hu (fun _ _ _ h => h)
    have hHs := Blk.off hHs hu (fun _ _ _ h => h)
    have hQ := Fam.off hQ hu (fun _ _ _ h => h)
    have hR := Blk.off hR hu (fun _ _ _ h => h)
    have hP := Blk.off hP hu (fun _ _ _ h => h)
    have hSb := SBt.off hSb hz hu (fun _ _ h => h)
    have hO := LO.off hO hu (fun h => h)
    have hOd := LD.off hOd hu (fun h => h)
    refine lv_if_eq (tgt := 14) hx hb dL_isSpeaking_7 (by decide) (fun c9 => ?_) (fun c9 => ?_)
    · rw [if_pos c9] at hf
      refine lv_lconst (v := 0) hx hb dL_isSpeaking_14 rfl ?_
      refine w_last hx hb hE hO hS (Or.inr (by omega)) dL_isSpeaking_15 (fun H locs hO z9 oq hS => ?_)
      have hG := Blk.offq hG oq (by omega)
      have hN := Blk.offq hN oq (by omega)
      have hT := Blk.offq hT oq (by omega)
      have hV := Blk.offq hV oq (by omega)
      have hHs := Blk.offq hHs oq (by omega)
      have hQ := Fam.offq hQ oq (by omega)
      have hR := Blk.offq hR oq (by omega)
      have hP := Blk.offq hP oq (by omega)
      have hSb := SBt.offq hSb z9 oq (by omega) (by omega)
      have hOd := LD.offq hOd oq (by omega)
      refine lv_goto (tgt := 22) hx hb dL_isSpeaking_16 (by decide) ?_
      have hre := Option.some.inj hf
      subst hre
      refine lv_iconst (v := 0) hx hb dL_isSpeaking_22 (by decide) ?_
      refine W.widen (k := 1) (n := 6) (by decide) (by decide) ?_
      exact mu_i (v := 0) hx hb hrt hlocks ⟨hG, hN, hT, hV, hHs, hQ, hR, hP, hSb, hO, hOd⟩ hS dL_isSpeaking_23
    · rw [if_neg c9] at hf
      refine lv_lconst (v := 1) hx hb dL_isSpeaking_10 rfl ?_
      refine lv_goto (tgt := 15) hx hb dL_isSpeaking_11 (by decide) ?_
      refine w_last hx hb hE hO hS (Or.inr (by omega)) dL_isSpeaking_15 (fun H locs hO z9 oq hS => ?_)
      have hG := Blk.offq hG oq (by omega)
      have hN := Blk.offq hN oq (by omega)
      have hT := Blk.offq hT oq (by omega)
      have hV := Blk.offq hV oq (by omega)
      have hHs := Blk.offq hHs oq (by omega)
      have hQ := Fam.offq hQ oq (by omega)
      have hR := Blk.offq hR oq (by omega)
      have hP := Blk.offq hP oq (by omega)
      have hSb := SBt.offq hSb z9 oq (by omega) (by omega)
      have hOd := LD.offq hOd oq (by omega)
      refine lv_goto (tgt := 22) hx hb dL_isSpeaking_16 (by decide) ?_
      have hre := Option.some.inj hf
      subst hre
      refine lv_iconst (v := 0) hx hb dL_isSpeaking_22 (by decide) ?_
      refine W.widen (k := 1) (n := 6) (by decide) (by decide) ?_
      exact mu_i (v := 0) hx hb hrt hlocks ⟨hG, hN, hT, hV, hHs, hQ, hR, hP, hSb, hO, hOd⟩ hS dL_isSpeaking_23
noncomputable def fL_isWaiting (z : KS) (a1 : Int32) : Option (Int32 × KS) := (fX11_isWaiting z.G z.N a1).bind fun z1 => sx z1 (fun e9 => (if e9 = 0 then some (1, (KS.mk z.G z.N z.T z.V z.Hs z.Q z.R z.P z.Sb z.o z.od)) else none)) (fun v => (if v = 0 then some (0, (KS.mk z.G z.N z.T z.V z.Hs z.Q z.R z.P z.Sb 0 z.od)) else some (0, (KS.mk z.G z.N z.T z.V z.Hs z.Q z.R z.P z.Sb 1 z.od))))
set_option maxHeartbeats 4000000 in
set_option maxRecDepth 100000 in
theorem mL_isWaiting (l : Launch) (E : EP) (B0 : Nat) (htr : l.stackTraces = false) (B : Nat) (hb0 : B0 ≤ B) (z : KS) (a1 : Int32) (r : Int32 × KS) (hf : fL_isWaiting z a1 = some r) : MW l E B0 yL_isWaiting cL_isWaiting 4 (some .int) [(0, 16, 19, 23)] 11 1 6 [.ref (B + 0), .int a1, .ref (B + 212)] (CW E B z) (some (.int r.1)) (CW E B r.2) (cA B) := by
  refine mw_of (by decide +kernel) (Nat.le_of_ble_eq_true rfl) ?_
  intro p e s m args below meth c hx hb hml hown hw hrt hlocks htb hE H hP9 hS ls hl
  obtain ⟨hG, hN, hT, hV, hHs, hQ, hR, hP, hSb, hO, hOd⟩ := hP9
  have hown : s.vm.findClass RL = some m.cls := hown
  have hl : lv_has ls 4 [(0, .ref (B + 0)), (1, .int a1), (2, .ref (B + 212))] := hl
  have hAB : ∀ q, cA B q → B0 ≤ q := cA_ge hb0
  unfold fL_isWaiting at hf
  obtain ⟨z1, hc, hf⟩ := br_some hf
  refine lv_aload_n hx hb dL_isWaiting_0 rfl (lv_at hl 2 rfl) ?_
  refine lv_iconst (v := 0) hx hb dL_isWaiting_1 (by decide) ?_
  refine lv_aload_n hx hb dL_isWaiting_2 rfl (lv_at hl 0 rfl) ?_
  refine lv_iload_n hx hb dL_isWaiting_3 rfl (lv_at hl 1 rfl) ?_
  refine mg_xV (As := [.int a1]) (rest := [.int 0, .ref (B + 212)]) hx hb hml hown hw hE (mX11_isWaiting l E B0 htr B (B + 214) (by omega) (by omega) z.G z.N a1 z1 hc) cv_L_71 (w_recv (k := 0) (ci := 11) hE hG (by decide) rfl rfl) ⟨hG, hN⟩ hS hAB (fun _ h => h.elim) rfl hl.1 rfl (by decide) (by decide) (Nat.le_of_ble_eq_true rfl) ⟨by decide, by decide⟩ dL_isWaiting_4 (fun e9 ee H locs ce q hP9 hz hu hS hce hcv hcl => ?_) (fun v ev H locs hP9 hz hu hS => ?_)
  · have hf := sx_l ee hf
    obtain ⟨hG, hN⟩ := hP9
    have hT := Blk.off hT hu (fun _ _ _ h => h)
    have hV := Blk.off hV hu (fun _ _ _ h => h)
    have hHs := Blk.off hHs hu (fun _ _ _ h => h)
    have hQ := Fam.off hQ hu (fun _ _ _ h => h)
    have hR := Blk.off hR hu (fun _ _ _ h => h)
    have hP := Blk.off hP hu (fun _ _ _ h => h)
    have hSb := SBt.off hSb hz hu (fun _ _ h => h)
    have hO := LO.off hO hu (fun h => h)
    have hOd := LD.off hOd hu (fun h => h)
    by_cases c0 : e9 = 0
    · subst c0
      rw [if_pos rfl] at hf
      have hre := Option.some.inj hf
      subst hre
      refine vx_catch (E := "java/lang/IndexOutOfBoundsException") (name := "java/lang/IndexOutOfBoundsException") hown [] ⟨0, 16, 19, 23⟩ [] (htb.trans rfl) (fun _ h => absurd h List.not_mem_nil) (by decide) (by decide) (hw _ kl_L_23) (va_Nw.use rfl (hE.2.2.2.2.1 _ kx_0 rfl)) hce hcv hcl ?_
      refine lv_astore_n (lv' := [(3, .ref q), (0, .ref (B + 0)), (1, .int a1), (2, .ref (B + 212))]) hx hb dL_isWaiting_19 rfl hl (by decide) rfl (fun ls hl => ?_)
      refine lv_iconst (v := 1) hx hb dL_isWaiting_20 (by decide) ?_
      refine W.widen (k := 1) (n := 6) (by decide) (by decide) ?_
      exact mu_i (v := 1) hx hb hrt hlocks ⟨hG, hN, hT, hV, hHs, hQ, hR, hP, hSb, hO, hOd⟩ hS dL_isWaiting_21
    rw [if_neg c0] at hf
    exact nomatch hf
  · have hf := sx_r ev hf
    obtain ⟨hG, hN⟩ := hP9
    have hT := Blk.off hT hu (fun _ _ _ h => h)
    have hV := Blk.off hV hu (fun _ _ _ h => h)
    have hHs := Blk.off hHs hu (fun _ _ _ h => h)
    have hQ := Fam.off hQ hu (fun _ _ _ h => h)
    have hR := Blk.off hR hu (fun _ _ _ h => h)
    have hP := Blk.off hP hu (fun _ _ _ h => h)
    have hSb := SBt.off hSb hz hu (fun _ _ h => h)
    have hO := LO.off hO hu (fun h => h)
    have hOd := LD.off hOd hu (fun h => h)
    refine lv_if_eq (tgt := 14) hx hb dL_isWaiting_7 (by decide) (fun c9 => ?_) (fun c9 => ?_)
    · rw [if_pos c9] at hf
      refine lv_lconst (v := 0) hx hb dL_isWaiting_14 rfl ?_
      refine w_last hx hb hE hO hS (Or.inr (by omega)) dL_isWaiting_15 (fun H locs hO z9 oq hS => ?_)
      have hG := Blk.offq hG oq (by omega)
      have hN := Blk.offq hN oq (by omega)
      have hT := Blk.offq hT oq (by omega)
      have hV := Blk.offq hV oq (by omega)
      have hHs := Blk.offq hHs oq (by omega)
      have hQ := Fam.offq hQ oq (by omega)
      have hR := Blk.offq hR oq (by omega)
      have hP := Blk.offq hP oq (by omega)
      have hSb := SBt.offq hSb z9 oq (by omega) (by omega)
      have hOd := LD.offq hOd oq (by omega)
      refine lv_goto (tgt := 22) hx hb dL_isWaiting_16 (by decide) ?_
      have hre := Option.some.inj hf
      subst hre
      refine lv_iconst (v := 0) hx hb dL_isWaiting_22 (by decide) ?_
      refine W.widen (k := 1) (n := 6) (by decide) (by decide) ?_
      exact mu_i (v := 0) hx hb hrt hlocks ⟨hG, hN, hT, hV, hHs, hQ, hR, hP, hSb, hO, hOd⟩ hS dL_isWaiting_23
    · rw [if_neg c9] at hf
      refine lv_lconst (v := 1) hx hb dL_isWaiting_10 rfl ?_
      refine lv_goto (tgt := 15) hx hb dL_isWaiting_11 (by decide) ?_
      refine w_last hx hb hE hO hS (Or.inr (by omega)) dL_isWaiting_15 (fun H locs hO z9 oq hS => ?_)
      have hG := Blk.offq hG oq (by omega)
      have hN := Blk.offq hN oq (by omega)
      have hT := Blk.offq hT oq (by omega)
      have hV := Blk.offq hV oq (by omega)
      have hHs := Blk.offq hHs oq (by omega)
      have hQ := Fam.offq hQ oq (by omega)
      have hR := Blk.offq hR oq (by omega)
      have hP := Blk.offq hP oq (by omega)
      have hSb := SBt.offq hSb z9 oq (by omega) (by omega)
      have hOd := LD.offq hOd oq (by omega)
      refine lv_goto (tgt := 22) hx hb dL_isWaiting_16 (by decide) ?_
      have hre := Option.some.inj hf
      subst hre
      refine lv_iconst (v := 0) hx hb dL_isWaiting_22 (by decide) ?_
      refine W.widen (k := 1) (n := 6) (by decide) (by decide) ?_
      exact mu_i (v := 0) hx hb hrt hlocks ⟨hG, hN, hT, hV, hHs, hQ, hR, hP, hSb, hO, hOd⟩ hS dL_isWaiting_23
noncomputable def fL_minutesSpoken (z : KS) (a1 : Int32) : Option (Int32 × KS) := (fX11_minutesSpoken z.G z.N a1).bind fun z1 => sx z1 (fun e9 => (if e9 = 0 then some (1, (KS.mk z.G z.N z.T z.V z.Hs z.Q z.R z.P z.Sb z.o z.od)) else none)) (fun v => some (0, (KS.mk z.G z.N z.T z.V z.Hs z.Q z.R z.P z.Sb v.toInt64 z.od)))
set_option maxHeartbeats 4000000 in
set_option maxRecDepth 100000 in
theorem mL_minutesSpoken (l : Launch) (E : EP) (B0 : Nat) (htr : l.stackTraces = false) (B : Nat) (hb0 : B0 ≤ B) (z : KS) (a1 : Int32) (r : Int32 × KS) (hf : fL_minutesSpoken z a1 = some r) : MW l E B0 yL_minutesSpoken cL_minutesSpoken 4 (some .int) [(0, 9, 12, 23)] 11 1 6 [.ref (B + 0), .int a1, .ref (B + 212)] (CW E B z) (some (.int r.1)) (CW E B r.2) (cA B) := by
  refine mw_of (by decide +kernel) (Nat.le_of_ble_eq_true rfl) ?_
  intro p e s m args below meth c hx hb hml hown hw hrt hlocks htb hE H hP9 hS ls hl
  obtain ⟨hG, hN, hT, hV, hHs, hQ, hR, hP, hSb, hO, hOd⟩ := hP9
  have hown : s.vm.findClass RL = some m.cls := hown
  have hl : lv_has ls 4 [(0, .ref (B + 0)), (1, .int a1), (2, .ref (B + 212))] := hl
  have hAB : ∀ q, cA B q → B0 ≤ q := cA_ge hb0
  unfold fL_minutesSpoken at hf
  obtain ⟨z1, hc, hf⟩ := br_some hf
  refine lv_aload_n hx hb dL_minutesSpoken_0 rfl (lv_at hl 2 rfl) ?_
  refine lv_iconst (v := 0) hx hb dL_minutesSpoken_1 (by decide) ?_
  refine lv_aload_n hx hb dL_minutesSpoken_2 rfl (lv_at hl 0 rfl) ?_
  refine lv_iload_n hx hb dL_minutesSpoken_3 rfl (lv_at hl 1 rfl) ?_
  refine mg_xV (As := [.int a1]) (rest := [.int 0, .ref (B + 212)]) hx hb hml hown hw hE (mX11_minutesSpoken l E B0 htr B (B + 214) (by omega) (by omega) z.G z.N a1 z1 hc) cv_L_74 (w_recv (k := 0) (ci := 11) hE hG (by decide) rfl rfl) ⟨hG, hN⟩ hS hAB (fun _ h => h.elim) rfl hl.1 rfl (by decide) (by decide) (Nat.le_of_ble_eq_true rfl) ⟨by decide, by decide⟩ dL_minutesSpoken_4 (fun e9 ee H locs ce q hP9 hz hu hS hce hcv hcl => ?_) (fun v ev H locs hP9 hz hu hS => ?_)
  · have hf := sx_l ee hf
    obtain ⟨hG, hN⟩ := hP9
    have hT := Blk.off hT hu (fun _ _ _ h => h)
    have hV := Blk.off hV hu (fun _ _ _ h => h)
    have hHs := Blk.off hHs hu (fun _ _ _ h => h)
    have hQ := Fam.off hQ hu (fun _ _ _ h => h)
    have hR := Blk.off hR hu (fun _ _ _ h => h)
    have hP := Blk.off hP hu (fun _ _ _ h => h)
    have hSb := SBt.off hSb hz hu (fun _ _ h => h)
    have hO := LO.off hO hu (fun h => h)
    have hOd := LD.off hOd hu (fun h => h)
    by_cases c0 : e9 = 0
    · subst c0
      rw [if_pos rfl] at hf
      have hre := Option.some.inj hf
      subst hre
      refine vx_catch (E := "java/lang/IndexOutOfBoundsException") (name := "java/lang/IndexOutOfBoundsException") hown [] ⟨0, 9, 12, 23⟩ [] (htb.trans rfl) (fun _ h => absurd h List.not_mem_nil) (by decide) (by decide) (hw _ kl_L_23) (va_Nw.use rfl (hE.2.2.2.2.1 _ kx_0 rfl)) hce hcv hcl ?_
      refine lv_astore_n (lv' := [(3, .ref q), (0, .ref (B + 0)), (1, .int a1), (2, .ref (B + 212))]) hx hb dL_minutesSpoken_12 rfl hl (by decide) rfl (fun ls hl => ?_)
      refine lv_iconst (v := 1) hx hb dL_minutesSpoken_13 (by decide) ?_
      refine W.widen (k := 1) (n := 6) (by decide) (by decide) ?_
      exact mu_i (v := 1) hx hb hrt hlocks ⟨hG, hN, hT, hV, hHs, hQ, hR, hP, hSb, hO, hOd⟩ hS dL_minutesSpoken_14
    rw [if_neg c0] at hf
    exact nomatch hf
  · have hf := sx_r ev hf
    obtain ⟨hG, hN⟩ := hP9
    have hT := Blk.off hT hu (fun _ _ _ h => h)
    have hV := Blk.off hV hu (fun _ _ _ h => h)
    have hHs := Blk.off hHs hu (fun _ _ _ h => h)
    have hQ := Fam.off hQ hu (fun _ _ _ h => h)
    have hR := Blk.off hR hu (fun _ _ _ h => h)
    have hP := Blk.off hP hu (fun _ _ _ h => h)
    have hSb := SBt.off hSb hz hu (fun _ _ h => h)
    have hO := LO.off hO hu (fun h => h)
    have hOd := LD.off hOd hu (fun h => h)
    refine lv_i2l hx hb dL_minutesSpoken_7 rfl ?_
    refine w_last hx hb hE hO hS (Or.inr (by omega)) dL_minutesSpoken_8 (fun H locs hO z9 oq hS => ?_)
    have hG := Blk.offq hG oq (by omega)
    have hN := Blk.offq hN oq (by omega)
    have hT := Blk.offq hT oq (by omega)
    have hV := Blk.offq hV oq (by omega)
    have hHs := Blk.offq hHs oq (by omega)
    have hQ := Fam.offq hQ oq (by omega)
    have hR := Blk.offq hR oq (by omega)
    have hP := Blk.offq hP oq (by omega)
    have hSb := SBt.offq hSb z9 oq (by omega) (by omega)
    have hOd := LD.offq hOd oq (by omega)
    refine lv_goto (tgt := 15) hx hb dL_minutesSpoken_9 (by decide) ?_
    have hre := Option.some.inj hf
    subst hre
    refine lv_iconst (v := 0) hx hb dL_minutesSpoken_15 (by decide) ?_
    refine W.widen (k := 1) (n := 6) (by decide) (by decide) ?_
    exact mu_i (v := 0) hx hb hrt hlocks ⟨hG, hN, hT, hV, hHs, hQ, hR, hP, hSb, hO, hOd⟩ hS dL_minutesSpoken_16
noncomputable def fL_minutesReceived (z : KS) (a1 : Int32) : Option (Int32 × KS) := (fX11_minutesReceived z.G z.N a1).bind fun z1 => sx z1 (fun e9 => (if e9 = 0 then some (1, (KS.mk z.G z.N z.T z.V z.Hs z.Q z.R z.P z.Sb z.o z.od)) else none)) (fun v => some (0, (KS.mk z.G z.N z.T z.V z.Hs z.Q z.R z.P z.Sb v.toInt64 z.od)))
set_option maxHeartbeats 4000000 in
set_option maxRecDepth 100000 in
theorem mL_minutesReceived (l : Launch) (E : EP) (B0 : Nat) (htr : l.stackTraces = false) (B : Nat) (hb0 : B0 ≤ B) (z : KS) (a1 : Int32) (r : Int32 × KS) (hf : fL_minutesReceived z a1 = some r) : MW l E B0 yL_minutesReceived cL_minutesReceived 4 (some .int) [(0, 9, 12, 23)] 11 1 6 [.ref (B + 0), .int a1, .ref (B + 212)] (CW E B z) (some (.int r.1)) (CW E B r.2) (cA B) := by
  refine mw_of (by decide +kernel) (Nat.le_of_ble_eq_true rfl) ?_
  intro p e s m args below meth c hx hb hml hown hw hrt hlocks htb hE H hP9 hS ls hl
  obtain ⟨hG, hN, hT, hV, hHs, hQ, hR, hP, hSb, hO, hOd⟩ := hP9
  have hown : s.vm.findClass RL = some m.cls := hown
  have hl : lv_has ls 4 [(0, .ref (B + 0)), (1, .int a1), (2, .ref (B + 212))] := hl
  have hAB : ∀ q, cA B q → B0 ≤ q := cA_ge hb0
  unfold fL_minutesReceived at hf
  obtain ⟨z1, hc, hf⟩ := br_some hf
  refine lv_aload_n hx hb dL_minutesReceived_0 rfl (lv_at hl 2 rfl) ?_
  refine lv_iconst (v := 0) hx hb dL_minutesReceived_1 (by decide) ?_
  refine lv_aload_n hx hb dL_minutesReceived_2 rfl (lv_at hl 0 rfl) ?_
  refine lv_iload_n hx hb dL_minutesReceived_3 rfl (lv_at hl 1 rfl) ?_
  refine mg_xV (As := [.int a1]) (rest := [.int 0, .ref (B + 212)]) hx hb hml hown hw hE (mX11_minutesReceived l E B0 htr B (B + 214) (by omega) (by omega) z.G z.N a1 z1 hc) cv_L_77 (w_recv (k := 0) (ci := 11) hE hG (by decide) rfl rfl) ⟨hG, hN⟩ hS hAB (fun _ h => h.elim) rfl hl.1 rfl (by decide) (by decide) (Nat.le_of_ble_eq_true rfl) ⟨by decide, by decide⟩ dL_minutesReceived_4 (fun e9 ee H locs ce q hP9 hz hu hS hce hcv hcl => ?_) (fun v ev H locs hP9 hz hu hS => ?_)
  · have hf := sx_l ee hf
    obtain ⟨hG, hN⟩ := hP9
    have hT := Blk.off hT hu (fun _ _ _ h => h)
    have hV := Blk.off hV hu (fun _ _ _ h => h)
    have hHs := Blk.off hHs hu (fun _ _ _ h => h)
    have hQ := Fam.off hQ hu (fun _ _ _ h => h)
    have hR := Blk.off hR hu (fun _ _ _ h => h)
    have hP := Blk.off hP hu (fun _ _ _ h => h)
    have hSb := SBt.off hSb hz hu (fun _ _ h => h)
    have hO := LO.off hO hu (fun h => h)
    have hOd := LD.off hOd hu (fun h => h)
    by_cases c0 : e9 = 0
    · subst c0
      rw [if_pos rfl] at hf
      have hre := Option.some.inj hf
      subst hre
      refine vx_catch (E := "java/lang/IndexOutOfBoundsException") (name := "java/lang/IndexOutOfBoundsException") hown [] ⟨0, 9, 12, 23⟩ [] (htb.trans rfl) (fun _ h => absurd h List.not_mem_nil) (by decide) (by decide) (hw _ kl_L_23) (va_Nw.use rfl (hE.2.2.2.2.1 _ kx_0 rfl)) hce hcv hcl ?_
      refine lv_astore_n (lv' := [(3, .ref q), (0, .ref (B + 0)), (1, .int a1), (2, .ref (B + 212))]) hx hb dL_minutesReceived_12 rfl hl (by decide) rfl (fun ls hl => ?_)
      refine lv_iconst (v := 1) hx hb dL_minutesReceived_13 (by decide) ?_
      refine W.widen (k := 1) (n := 6) (by decide) (by decide) ?_
      exact mu_i (v := 1) hx hb hrt hlocks ⟨hG, hN, hT, hV, hHs, hQ, hR, hP, hSb, hO, hOd⟩ hS dL_minutesReceived_14
    rw [if_neg c0] at hf
    exact nomatch hf
  · have hf := sx_r ev hf
    obtain ⟨hG, hN⟩ := hP9
    have hT := Blk.off hT hu (fun _ _ _ h => h)
    have hV := Blk.off hV hu (fun _ _ _ h => h)
    have hHs := Blk.off hHs hu (fun _ _ _ h => h)
    have hQ := Fam.off hQ hu (fun _ _ _ h => h)
    have hR := Blk.off hR hu (fun _ _ _ h => h)
    have hP := Blk.off hP hu (fun _ _ _ h => h)
    have hSb := SBt.off hSb hz hu (fun _ _ h => h)
    have hO := LO.off hO hu (fun h => h)
    have hOd := LD.off hOd hu (fun h => h)
    refine lv_i2l hx hb dL_minutesReceived_7 rfl ?_
    refine w_last hx hb hE hO hS (Or.inr (by omega)) dL_minutesReceived_8 (fun H locs hO z9 oq hS => ?_)
    have hG := Blk.offq hG oq (by omega)
    have hN := Blk.offq hN oq (by omega)
    have hT := Blk.offq hT oq (by omega)
    have hV := Blk.offq hV oq (by omega)
    have hHs := Blk.offq hHs oq (by omega)
    have hQ := Fam.offq hQ oq (by omega)
    have hR := Blk.offq hR oq (by omega)
    have hP := Blk.offq hP oq (by omega)
    have hSb := SBt.offq hSb z9 oq (by omega) (by omega)
    have hOd := LD.offq hOd oq (by omega)
    refine lv_goto (tgt := 15) hx hb dL_minutesReceived_9 (by decide) ?_
    have hre := Option.some.inj hf
    subst hre
    refine lv_iconst (v := 0) hx hb dL_minutesReceived_15 (by decide) ?_
    refine W.widen (k := 1) (n := 6) (by decide) (by decide) ?_
    exact mu_i (v := 0) hx hb hrt hlocks ⟨hG, hN, hT, hV, hHs, hQ, hR, hP, hSb, hO, hOd⟩ hS dL_minutesReceived_16
noncomputable def fL_stationByMinutes (z : KS) (a1 : Int32) : Option (Int32 × KS) := (fX11_stationByMinutes z.G z.N a1).bind fun z1 => sx z1 (fun e9 => (if e9 = 5 then some (1, (KS.mk z.G z.N z.T z.V z.Hs z.Q z.R z.P z.Sb z.o z.od)) else none)) (fun v => some (0, (KS.mk z.G z.N z.T z.V z.Hs z.Q z.R z.P z.Sb v.toInt64 z.od)))
set_option maxHeartbeats 4000000 in
set_option maxRecDepth 100000 in
theorem mL_stationByMinutes (l : Launch) (E : EP) (B0 : Nat) (htr : l.stackTraces = false) (B : Nat) (hb0 : B0 ≤ B) (z : KS) (a1 : Int32) (r : Int32 × KS) (hf : fL_stationByMinutes z a1 = some r) : MW l E B0 yL_stationByMinutes cL_stationByMinutes 4 (some .int) [(0, 9, 12, 52)] 9 1 6 [.ref (B + 0), .int a1, .ref (B + 212)] (CW E B z) (some (.int r.1)) (CW E B r.2) (cA B) := by
  refine mw_of (by decide +kernel) (Nat.le_of_ble_eq_true rfl) ?_
  intro p e s m args below meth c hx hb hml hown hw hrt hlocks htb hE H hP9 hS ls hl
  obtain ⟨hG, hN, hT, hV, hHs, hQ, hR, hP, hSb, hO, hOd⟩ := hP9
  have hown : s.vm.findClass RL = some m.cls := hown
  have hl : lv_has ls 4 [(0, .ref (B + 0)), (1, .int a1), (2, .ref (B + 212))] := hl
  have hAB : ∀ q, cA B q → B0 ≤ q := cA_ge hb0
  unfold fL_stationByMinutes at hf
  obtain ⟨z1, hc, hf⟩ := br_some hf
  refine lv_aload_n hx hb dL_stationByMinutes_0 rfl (lv_at hl 2 rfl) ?_
  refine lv_iconst (v := 0) hx hb dL_stationByMinutes_1 (by decide) ?_
  refine lv_aload_n hx hb dL_stationByMinutes_2 rfl (lv_at hl 0 rfl) ?_
  refine lv_iload_n hx hb dL_stationByMinutes_3 rfl (lv_at hl 1 rfl) ?_
  refine mg_xV (As := [.int a1]) (rest := [.int 0, .ref (B + 212)]) hx hb hml hown hw hE (mX11_stationByMinutes l E B0 htr B (B + 214) (by omega) (by omega) z.G z.N a1 z1 hc) cv_L_80 (w_recv (k := 0) (ci := 11) hE hG (by decide) rfl rfl) ⟨hG, hN⟩ hS hAB (fun _ h => h.elim) rfl hl.1 rfl (by decide) (by decide) (Nat.le_of_ble_eq_true rfl) ⟨by decide, by decide⟩ dL_stationByMinutes_4 (fun e9 ee H locs ce q hP9 hz hu hS hce hcv hcl => ?_) (fun v ev H locs hP9 hz hu hS => ?_)
  · have hf := sx_l ee hf
    obtain ⟨hG, hN⟩ := hP9
    have hT := Blk.off hT hu (fun _ _ _ h => h)
    have hV := Blk.off hV hu (fun _ _ _ h => h)
    have hHs := Blk.off hHs hu (fun _ _ _ h => h)
    have hQ := Fam.off hQ hu (fun _ _ _ h => h)
    have hR := Blk.off hR hu (fun _ _ _ h => h)
    have hP := Blk.off hP hu (fun _ _ _ h => h)
    have hSb := SBt.off hSb hz hu (fun _ _ h => h)
    have hO := LO.off hO hu (fun h => h)
    have hOd := LD.off hOd hu (fun h => h)
    by_cases c0 : e9 = 5
    · subst c0
      rw [if_pos rfl] at hf
      have hre := Option.some.inj hf
      subst hre
      refine vx_catch (E := "java/util/NoSuchElementException") (name := "java/util/NoSuchElementException") hown [] ⟨0, 9, 12, 52⟩ [] (htb.trans rfl) (fun _ h => absurd h List.not_mem_nil) (by decide) (by decide) (hw _ kl_L_52) (va_Nw.use rfl (hE.2.2.2.2.1 _ kx_5 rfl)) hce hcv hcl ?_
      refine lv_astore_n (lv' := [(3, .ref q), (0, .ref (B + 0)), (1, .int a1), (2, .ref (B + 212))]) hx hb dL_stationByMinutes_12 rfl hl (by decide) rfl (fun ls hl => ?_)
      refine lv_iconst (v := 1) hx hb dL_stationByMinutes_13 (by decide) ?_
      refine W.widen (k := 1) (n := 6) (by decide) (by decide) ?_
      exact mu_i (v := 1) hx hb hrt hlocks ⟨hG, hN, hT, hV, hHs, hQ, hR, hP, hSb, hO, hOd⟩ hS dL_stationByMinutes_14
    rw [if_neg c0] at hf
    exact nomatch hf
  · have hf := sx_r ev hf
    obtain ⟨hG, hN⟩ := hP9
    have hT := Blk.off hT hu (fun _ _ _ h => h)
    have hV := Blk.off hV hu (fun _ _ _ h => h)
    have hHs := Blk.off hHs hu (fun _ _ _ h => h)
    have hQ := Fam.off hQ hu (fun _ _ _ h => h)
    have hR := Blk.off hR hu (fun _ _ _ h => h)
    have hP := Blk.off hP hu (fun _ _ _ h => h)
    have hSb := SBt.off hSb hz hu (fun _ _ h => h)
    have hO := LO.off hO hu (fun h => h)
    have hOd := LD.off hOd hu (fun h => h)
    refine lv_i2l hx hb dL_stationByMinutes_7 rfl ?_
    refine w_last hx hb hE hO hS (Or.inr (by omega)) dL_stationByMinutes_8 (fun H locs hO z9 oq hS => ?_)
    have hG := Blk.offq hG oq (by omega)
    have hN := Blk.offq hN oq (by omega)
    have hT := Blk.offq hT oq (by omega)
    have hV := Blk.offq hV oq (by omega)
    have hHs := Blk.offq hHs oq (by omega)
    have hQ := Fam.offq hQ oq (by omega)
    have hR := Blk.offq hR oq (by omega)
    have hP := Blk.offq hP oq (by omega)
    have hSb := SBt.offq hSb z9 oq (by omega) (by omega)
    have hOd := LD.offq hOd oq (by omega)
    refine lv_goto (tgt := 15) hx hb dL_stationByMinutes_9 (by decide) ?_
    have hre := Option.some.inj hf
    subst hre
    refine lv_iconst (v := 0) hx hb dL_stationByMinutes_15 (by decide) ?_
    refine W.widen (k := 1) (n := 6) (by decide) (by decide) ?_
    exact mu_i (v := 0) hx hb hrt hlocks ⟨hG, hN, hT, hV, hHs, hQ, hR, hP, hSb, hO, hOd⟩ hS dL_stationByMinutes_16
noncomputable def fL_speaker (z : KS) (a1 : Int32) : Option (Int32 × KS) := (fX11_speaker z.G z.N a1).bind fun z1 => sx z1 (fun e9 => (if e9 = 0 then some (1, (KS.mk z.G z.N z.T z.V z.Hs z.Q z.R z.P z.Sb z.o z.od)) else (if e9 = 5 then some (2, (KS.mk z.G z.N z.T z.V z.Hs z.Q z.R z.P z.Sb z.o z.od)) else none))) (fun v => some (0, (KS.mk z.G z.N z.T z.V z.Hs z.Q z.R z.P z.Sb v.toInt64 z.od)))
set_option maxHeartbeats 4000000 in
set_option maxRecDepth 100000 in
theorem mL_speaker (l : Launch) (E : EP) (B0 : Nat) (htr : l.stackTraces = false) (B : Nat) (hb0 : B0 ≤ B) (z : KS) (a1 : Int32) (r : Int32 × KS) (hf : fL_speaker z a1 = some r) : MW l E B0 yL_speaker cL_speaker 4 (some .int) [(0, 9, 12, 23), (0, 9, 15, 52)] 10 2 12 [.ref (B + 0), .int a1, .ref (B + 212)] (CW E B z) (some (.int r.1)) (CW E B r.2) (cA B) := by
  refine mw_of (by decide +kernel) (Nat.le_of_ble_eq_true rfl) ?_
  intro p e s m args below meth c hx hb hml hown hw hrt hlocks htb hE H hP9 hS ls hl
  obtain ⟨hG, hN, hT, hV, hHs, hQ, hR, hP, hSb, hO, hOd⟩ := hP9
  have hown : s.vm.findClass RL = some m.cls := hown
  have hl : lv_has ls 4 [(0, .ref (B + 0)), (1, .int a1), (2, .ref (B + 212))] := hl
  have hAB : ∀ q, cA B q → B0 ≤ q := cA_ge hb0
  unfold fL_speaker at hf
  obtain ⟨z1, hc, hf⟩ := br_some hf
  refine lv_aload_n hx hb dL_speaker_0 rfl (lv_at hl 2 rfl) ?_
  refine lv_iconst (v := 0) hx hb dL_speaker_1 (by decide) ?_
  refine lv_aload_n hx hb dL_speaker_2 rfl (lv_at hl 0 rfl) ?_
  refine lv_iload_n hx hb dL_speaker_3 rfl (lv_at hl 1 rfl) ?_
  refine mg_xV (As := [.int a1]) (rest := [.int 0, .ref (B + 212)]) hx hb hml hown hw hE (mX11_speaker l E B0 htr B (B + 214) (by omega) (by omega) z.G z.N a1 z1 hc) cv_L_83 (w_recv (k := 0) (ci := 11) hE hG (by decide) rfl rfl) ⟨hG, hN⟩ hS hAB (fun _ h => h.elim) rfl hl.1 rfl (by decide) (by decide) (Nat.le_of_ble_eq_true rfl) ⟨by decide, by decide⟩ dL_speaker_4 (fun e9 ee H locs ce q hP9 hz hu hS hce hcv hcl => ?_) (fun v ev H locs hP9 hz hu hS => ?_)
  · have hf := sx_l ee hf
    obtain ⟨hG, hN⟩ := hP9
    have hT := Blk.off hT hu (fun _ _ _ h => h)
    have hV := Blk.off hV hu (fun _ _ _ h => h)
    have hHs := Blk.off hHs hu (fun _ _ _ h => h)
    have hQ := Fam.off hQ hu (fun _ _ _ h => h)
    have hR := Blk.off hR hu (fun _ _ _ h => h)
    have hP := Blk.off hP hu (fun _ _ _ h => h)
    have hSb := SBt.off hSb hz hu (fun _ _ h => h)
    have hO := LO.off hO hu (fun h => h)
    have hOd := LD.off hOd hu (fun h => h)
    by_cases c0 : e9 = 0
    · subst c0
      rw [if_pos rfl] at hf
      have hre := Option.some.inj hf
      subst hre
      refine vx_catch (E := "java/lang/IndexOutOfBoundsException") (name := "java/lang/IndexOutOfBoundsException") hown [] ⟨0, 9, 12, 23⟩ [⟨0, 9, 15, 52⟩] (htb.trans rfl) (fun _ h => absurd h List.not_mem_nil) (by decide) (by decide) (hw _ kl_L_23) (va_Nw.use rfl (hE.2.2.2.2.1 _ kx_0 rfl)) hce hcv hcl ?_
      refine lv_astore_n (lv' := [(3, .ref q), (0, .ref (B + 0)), (1, .int a1), (2, .ref (B + 212))]) hx hb dL_speaker_12 rfl hl (by decide) rfl (fun ls hl => ?_)
      refine lv_iconst (v := 1) hx hb dL_speaker_13 (by decide) ?_
      refine W.widen (k := 2) (n := 12) (by decide) (by decide) ?_
      exact mu_i (v := 1) hx hb hrt hlocks ⟨hG, hN, hT, hV, hHs, hQ, hR, hP, hSb, hO, hOd⟩ hS dL_speaker_14
    by_cases c1 : e9 = 5
    · subst c1
      rw [if_neg (by decide), if_pos rfl] at hf
      have hre := Option.some.inj hf
      subst hre
      refine vx_catch (E := "java/util/NoSuchElementException") (name := "java/util/NoSuchElementException") hown [⟨0, 9, 12, 23⟩] ⟨0, 9, 15, 52⟩ [] (htb.trans rfl) (List.forall_mem_cons.mpr ⟨Or.inr ⟨by decide, "java/lang/IndexOutOfBoundsException", hw _ kl_L_23, hE.nc (by simp)⟩, (fun _ h => absurd h List.not_mem_nil)⟩) (by decide) (by decide) (hw _ kl_L_52) (va_Nw.use rfl (hE.2.2.2.2.1 _ kx_5 rfl)) hce hcv hcl ?_
      refine lv_astore_n (lv' := [(3, .ref q), (0, .ref (B + 0)), (1, .int a1), (2, .ref (B + 212))]) hx hb dL_speaker_15 rfl hl (by decide) rfl (fun ls hl => ?_)
      refine lv_iconst (v := 2) hx hb dL_speaker_16 (by decide) ?_
      refine W.widen (k := 2) (n := 12) (by decide) (by decide) ?_
      exact mu_i (v := 2) hx hb hrt hlocks ⟨hG, hN, hT, hV, hHs, hQ, hR, hP, hSb, hO, hOd⟩ hS dL_speaker_17
    rw [if_neg c0, if_neg c1] at hf
    exact nomatch hf
  · have hf := sx_r ev hf
    obtain ⟨hG, hN⟩ := hP9
    have hT := Blk.off hT hu (fun _ _ _ h => h)
    have hV := Blk.off hV hu (fun _ _ _ h => h)
    have hHs := Blk.off hHs hu (fun _ _ _ h => h)
    have hQ := Fam.off hQ hu (fun _ _ _ h => h)
    have hR := Blk.off hR hu (fun _ _ _ h => h)
    have hP := Blk.off hP hu (fun _ _ _ h => h)
    have hSb := SBt.off hSb hz hu (fun _ _ h => h)
    have hO := LO.off hO hu (fun h => h)
    have hOd := LD.off hOd hu (fun h => h)
    refine lv_i2l hx hb dL_speaker_7 rfl ?_
    refine w_last hx hb hE hO hS (Or.inr (by omega)) dL_speaker_8 (fun H locs hO z9 oq hS => ?_)
    have hG := Blk.offq hG oq (by omega)
    have hN := Blk.offq hN oq (by omega)
    have hT := Blk.offq hT oq (by omega)
    have hV := Blk.offq hV oq (by omega)
    have hHs := Blk.offq hHs oq (by omega)
    have hQ := Fam.offq hQ oq (by omega)
    have hR := Blk.offq hR oq (by omega)
    have hP := Blk.offq hP oq (by omega)
    have hSb := SBt.offq hSb z9 oq (by omega) (by omega)
    have hOd := LD.offq hOd oq (by omega)
    refine lv_goto (tgt := 18) hx hb dL_speaker_9 (by decide) ?_
    have hre := Option.some.inj hf
    subst hre
    refine lv_iconst (v := 0) hx hb dL_speaker_18 (by decide) ?_
    refine W.widen (k := 2) (n := 12) (by decide) (by decide) ?_
    exact mu_i (v := 0) hx hb hrt hlocks ⟨hG, hN, hT, hV, hHs, hQ, hR, hP, hSb, hO, hOd⟩ hS dL_speaker_19
noncomputable def fL_lineLength (z : KS) (a1 : Int32) : Option (Int32 × KS) := (fX11_lineLength z.G z.N a1).bind fun z1 => sx z1 (fun e9 => (if e9 = 0 then some (1, (KS.mk z.G z.N z.T z.V z.Hs z.Q z.R z.P z.Sb z.o z.od)) else none)) (fun v => some (0, (KS.mk z.G z.N z.T z.V z.Hs z.Q z.R z.P z.Sb v.toInt64 z.od)))
set_option maxHeartbeats 4000000 in
set_option maxRecDepth 100000 in
theorem mL_lineLength (l : Launch) (E : EP) (B0 : Nat) (htr : l.stackTraces = false) (B : Nat) (hb0 : B0 ≤ B) (z : KS) (a1 : Int32) (r : Int32 × KS) (hf : fL_lineLength z a1 = some r) : MW l E B0 yL_lineLength cL_lineLength 4 (some .int) [(0, 9, 12, 23)] 10 1 6 [.ref (B + 0), .int a1, .ref (B + 212)] (CW E B z) (some (.int r.1)) (CW E B r.2) (cA B) := by
  refine mw_of (by decide +kernel) (Nat.le_of_ble_eq_true rfl) ?_
  intro p e s m args below meth c hx hb hml hown hw hrt hlocks htb hE H hP9 hS ls hl
  obtain ⟨hG, hN, hT, hV, hHs, hQ, hR, hP, hSb, hO, hOd⟩ := hP9
  have hown : s.vm.findClass RL = some m.cls := hown
  have hl : lv_has ls 4 [(0, .ref (B + 0)), (1, .int a1), (2, .ref (B + 212))] := hl
  have hAB : ∀ q, cA B q → B0 ≤ q := cA_ge hb0
  unfold fL_lineLength at hf
  obtain ⟨z1, hc, hf⟩ := br_some hf
  refine lv_aload_n hx hb dL_lineLength_0 rfl (lv_at hl 2 rfl) ?_
  refine lv_iconst (v := 0) hx hb dL_lineLength_1 (by decide) ?_
  refine lv_aload_n hx hb dL_lineLength_2 rfl (lv_at hl 0 rfl) ?_
  refine lv_iload_n hx hb dL_lineLength_3 rfl (lv_at hl 1 rfl) ?_
  refine mg_xV (As := [.int a1]) (rest := [.int 0, .ref (B + 212)]) hx hb hml hown hw hE (mX11_lineLength l E B0 htr B (B + 214) (by omega) (by omega) z.G z.N a1 z1 hc) cv_L_86 (w_recv (k := 0) (ci := 11) hE hG (by decide) rfl rfl) ⟨hG, hN⟩ hS hAB (fun _ h => h.elim) rfl hl.1 rfl (by decide) (by decide) (Nat.le_of_ble_eq_true rfl) ⟨by decide, by decide⟩ dL_lineLength_4 (fun e9 ee H locs ce q hP9 hz hu hS hce hcv hcl => ?_) (fun v ev H locs hP9 hz hu hS => ?_)
  · have hf := sx_l ee hf
    obtain ⟨hG, hN⟩ := hP9
    have hT := Blk.off hT hu (fun _ _ _ h => h)
    have hV := Blk.off hV hu (fun _ _ _ h => h)
    have hHs := Blk.off hHs hu (fun _ _ _ h => h)
    have hQ := Fam.off hQ hu (fun _ _ _ h => h)
    have hR := Blk.off hR hu (fun _ _ _ h => h)
    have hP := Blk.off hP hu (fun _ _ _ h => h)
    have hSb := SBt.off hSb hz hu (fun _ _ h => h)
    have hO := LO.off hO hu (fun h => h)
    have hOd := LD.off hOd hu (fun h => h)
    by_cases c0 : e9 = 0
    · subst c0
      rw [if_pos rfl] at hf
      have hre := Option.some.inj hf
      subst hre
      refine vx_catch (E := "java/lang/IndexOutOfBoundsException") (name := "java/lang/IndexOutOfBoundsException") hown [] ⟨0, 9, 12, 23⟩ [] (htb.trans rfl) (fun _ h => absurd h List.not_mem_nil) (by decide) (by decide) (hw _ kl_L_23) (va_Nw.use rfl (hE.2.2.2.2.1 _ kx_0 rfl)) hce hcv hcl ?_
      refine lv_astore_n (lv' := [(3, .ref q), (0, .ref (B + 0)), (1, .int a1), (2, .ref (B + 212))]) hx hb dL_lineLength_12 rfl hl (by decide) rfl (fun ls hl => ?_)
      refine lv_iconst (v := 1) hx hb dL_lineLength_13 (by decide) ?_
      refine W.widen (k := 1) (n := 6) (by decide) (by decide) ?_
      exact mu_i (v := 1) hx hb hrt hlocks ⟨hG, hN, hT, hV, hHs, hQ, hR, hP, hSb, hO, hOd⟩ hS dL_lineLength_14
    rw [if_neg c0] at hf
    exact nomatch hf
  · have hf := sx_r ev hf
    obtain ⟨hG, hN⟩ := hP9
    have hT := Blk.off hT hu (fun _ _ _ h => h)
    have hV := Blk.off hV hu (fun _ _ _ h => h)
    have hHs := Blk.off hHs hu (fun _ _ _ h => h)
    have hQ := Fam.off hQ hu (fun _ _ _ h => h)
    have hR := Blk.off hR hu (fun _ _ _ h => h)
    have hP := Blk.off hP hu (fun _ _ _ h => h)
    have hSb := SBt.off hSb hz hu (fun _ _ h => h)
    have hO := LO.off hO hu (fun h => h)
    have hOd := LD.off hOd hu (fun h => h)
    refine lv_i2l hx hb dL_lineLength_7 rfl ?_
    refine w_last hx hb hE hO hS (Or.inr (by omega)) dL_lineLength_8 (fun H locs hO z9 oq hS => ?_)
    have hG := Blk.offq hG oq (by omega)
    have hN := Blk.offq hN oq (by omega)
    have hT := Blk.offq hT oq (by omega)
    have hV := Blk.offq hV oq (by omega)
    have hHs := Blk.offq hHs oq (by omega)
    have hQ := Fam.offq hQ oq (by omega)
    have hR := Blk.offq hR oq (by omega)
    have hP := Blk.offq hP oq (by omega)
    have hSb := SBt.offq hSb z9 oq (by omega) (by omega)
    have hOd := LD.offq hOd oq (by omega)
    refine lv_goto (tgt := 15) hx hb dL_lineLength_9 (by decide) ?_
    have hre := Option.some.inj hf
    subst hre
    refine lv_iconst (v := 0) hx hb dL_lineLength_15 (by decide) ?_
    refine W.widen (k := 1) (n := 6) (by decide) (by decide) ?_
    exact mu_i (v := 0) hx hb hrt hlocks ⟨hG, hN, hT, hV, hHs, hQ, hR, hP, hSb, hO, hOd⟩ hS dL_lineLength_16
noncomputable def fL_waiting (z : KS) (a1 : Int32) (a2 : Int32) : Option (Int32 × KS) := (fX11_waiting z.G z.N a1 a2).bind fun z1 => sx z1 (fun e9 => (if e9 = 0 then some (1, (KS.mk z.G z.N z.T z.V z.Hs z.Q z.R z.P z.Sb z.o z.od)) else (if e9 = 5 then some (2, (KS.mk z.G z.N z.T z.V z.Hs z.Q z.R z.P z.Sb z.o z.od)) else none))) (fun v => some (0, (KS.mk z.G z.N z.T z.V z.Hs z.Q z.R z.P z.Sb v.toInt64 z.od)))
set_option maxHeartbeats 4000000 in
set_option maxRecDepth 100000 in
theorem mL_waiting (l : Launch) (E : EP) (B0 : Nat) (htr : l.stackTraces = false) (B : Nat) (hb0 : B0 ≤ B) (z : KS) (a1 : Int32) (a2 : Int32) (r : Int32 × KS) (hf : fL_waiting z a1 a2 = some r) : MW l E B0 yL_waiting cL_waiting 5 (some .int) [(0, 10, 13, 23), (0, 10, 17, 52)] 10 2 12 [.ref (B + 0), .int a1, .int a2, .ref (B + 212)] (CW E B z) (some (.int r.1)) (CW E B r.2) (cA B) := by
  refine mw_of (by decide +kernel) (Nat.le_of_ble_eq_true rfl) ?_
  intro p e s m args below meth c hx hb hml hown hw hrt hlocks htb hE H hP9 hS ls hl
  obtain ⟨hG, hN, hT, hV, hHs, hQ, hR, hP, hSb, hO, hOd⟩ := hP9
  have hown : s.vm.findClass RL = some m.cls := hown
  have hl : lv_has ls 5 [(0, .ref (B + 0)), (1, .int a1), (2, .int a2), (3, .ref (B + 212))] := hl
  have hAB : ∀ q, cA B q → B0 ≤ q := cA_ge hb0
  unfold fL_waiting at hf
  obtain ⟨z1, hc, hf⟩ := br_some hf
  refine lv_aload_n hx hb dL_waiting_0 rfl (lv_at hl 3 rfl) ?_
  refine lv_iconst (v := 0) hx hb dL_waiting_1 (by decide) ?_
  refine lv_aload_n hx hb dL_waiting_2 rfl (lv_at hl 0 rfl) ?_
  refine lv_iload_n hx hb dL_waiting_3 rfl (lv_at hl 1 rfl) ?_
  refine lv_iload_n hx hb dL_waiting_4 rfl (lv_at hl 2 rfl) ?_
  refine mg_xV (As := [.int a1, .int a2]) (rest := [.int 0, .ref (B + 212)]) hx hb hml hown hw hE (mX11_waiting l E B0 htr B (B + 214) (by omega) (by omega) z.G z.N a1 a2 z1 hc) cv_L_89 (w_recv (k := 0) (ci := 11) hE hG (by decide) rfl rfl) ⟨hG, hN⟩ hS hAB (fun _ h => h.elim) rfl hl.1 rfl (by decide) (by decide) (Nat.le_of_ble_eq_true rfl) ⟨by decide, by decide⟩ dL_waiting_5 (fun e9 ee H locs ce q hP9 hz hu hS hce hcv hcl => ?_) (fun v ev H locs hP9 hz hu hS => ?_)
  · have hf := sx_l ee hf
    obtain ⟨hG, hN⟩ := hP9
    have hT := Blk.off hT hu (fun _ _ _ h => h)
    have hV := Blk.off hV hu (fun _ _ _ h => h)
    have hHs := Blk.off hHs hu (fun _ _ _ h => h)
    have hQ := Fam.off hQ hu (fun _ _ _ h => h)
    have hR := Blk.off hR hu (fun _ _ _ h => h)
    have hP := Blk.off hP hu (fun _ _ _ h => h)
    have hSb := SBt.off hSb hz hu (fun _ _ h => h)
    have hO := LO.off hO hu (fun h => h)
    have hOd := LD.off hOd hu (fun h => h)
    by_cases c0 : e9 = 0
    · subst c0
      rw [if_pos rfl] at hf
      have hre := Option.some.inj hf
      subst hre
      refine vx_catch (E := "java/lang/IndexOutOfBoundsException") (name := "java/lang/IndexOutOfBoundsException") hown [] ⟨0, 10, 13, 23⟩ [⟨0, 10, 17, 52⟩] (htb.trans rfl) (fun _ h => absurd h List.not_mem_nil) (by decide) (by decide) (hw _ kl_L_23) (va_Nw.use rfl (hE.2.2.2.2.1 _ kx_0 rfl)) hce hcv hcl ?_
      refine lv_astore (lv' := [(4, .ref q), (0, .ref (B + 0)), (1, .int a1), (2, .int a2), (3, .ref (B + 212))]) hx hb dL_waiting_13 hl (by decide) rfl (fun ls hl => ?_)
      refine lv_iconst (v := 1) hx hb dL_waiting_15 (by decide) ?_
      refine W.widen (k := 2) (n := 12) (by decide) (by decide) ?_
      exact mu_i (v := 1) hx hb hrt hlocks ⟨hG, hN, hT, hV, hHs, hQ, hR, hP, hSb, hO, hOd⟩ hS dL_waiting_16
    by_cases c1 : e9 = 5
    · subst c1
      rw [if_neg (by decide), if_pos rfl] at hf
      have hre := Option.some.inj hf
      subst hre
      refine vx_catch (E := "java/util/NoSuchElementException") (name := "java/util/NoSuchElementException") hown [⟨0, 10, 13, 23⟩] ⟨0, 10, 17, 52⟩ [] (htb.trans rfl) (List.forall_mem_cons.mpr ⟨Or.inr ⟨by decide, "java/lang/IndexOutOfBoundsException", hw _ kl_L_23, hE.nc (by simp)⟩, (fun _ h => absurd h List.not_mem_nil)⟩) (by decide) (by decide) (hw _ kl_L_52) (va_Nw.use rfl (hE.2.2.2.2.1 _ kx_5 rfl)) hce hcv hcl ?_
      refine lv_astore (lv' := [(4, .ref q), (0, .ref (B + 0)), (1, .int a1), (2, .int a2), (3, .ref (B + 212))]) hx hb dL_waiting_17 hl (by decide) rfl (fun ls hl => ?_)
      refine lv_iconst (v := 2) hx hb dL_waiting_19 (by decide) ?_
      refine W.widen (k := 2) (n := 12) (by decide) (by decide) ?_
      exact mu_i (v := 2) hx hb hrt hlocks ⟨hG, hN, hT, hV, hHs, hQ, hR, hP, hSb, hO, hOd⟩ hS dL_waiting_20
    rw [if_neg c0, if_neg c1] at hf
    exact nomatch hf
  · have hf := sx_r ev hf
    obtain ⟨hG, hN⟩ := hP9
    have hT := Blk.off hT hu (fun _ _ _ h => h)
    have hV := Blk.off hV hu (fun _ _ _ h => h)
    have hHs := Blk.off hHs hu (fun _ _ _ h => h)
    have hQ := Fam.off hQ hu (fun _ _ _ h => h)
    have hR := Blk.off hR hu (fun _ _ _ h => h)
    have hP := Blk.off hP hu (fun _ _ _ h => h)
    have hSb := SBt.off hSb hz hu (fun _ _ h => h)
    have hO := LO.off hO hu (fun h => h)
    have hOd := LD.off hOd hu (fun h => h)
    refine lv_i2l hx hb dL_waiting_8 rfl ?_
    refine w_last hx hb hE hO hS (Or.inr (by omega)) dL_waiting_9 (fun H locs hO z9 oq hS => ?_)
    have hG := Blk.offq hG oq (by omega)
    have hN := Blk.offq hN oq (by omega)
    have hT := Blk.offq hT oq (by omega)
    have hV := Blk.offq hV oq (by omega)
    have hHs := Blk.offq hHs oq (by omega)
    have hQ := Fam.offq hQ oq (by omega)
    have hR := Blk.offq hR oq (by omega)
    have hP := Blk.offq hP oq (by omega)
    have hSb := SBt.offq hSb z9 oq (by omega) (by omega)
    have hOd := LD.offq hOd oq (by omega)
    refine lv_goto (tgt := 21) hx hb dL_waiting_10 (by decide) ?_
    have hre := Option.some.inj hf
    subst hre
    refine lv_iconst (v := 0) hx hb dL_waiting_21 (by decide) ?_
    refine W.widen (k := 2) (n := 12) (by decide) (by decide) ?_
    exact mu_i (v := 0) hx hb hrt hlocks ⟨hG, hN, hT, hV, hHs, hQ, hR, hP, hSb, hO, hOd⟩ hS dL_waiting_22
noncomputable def fL_minutesUntilTurn (z : KS) (a1 : Int32) : Option (Int32 × KS) := (fX11_minutesUntilTurn z.G z.N a1).bind fun z1 => sx z1 (fun e9 => (if e9 = 0 then some (1, (KS.mk z.G z.N z.T z.V z.Hs z.Q z.R z.P z.Sb z.o z.od)) else (if e9 = 3 then some (2, (KS.mk z.G z.N z.T z.V z.Hs z.Q z.R z.P z.Sb z.o z.od)) else none))) (fun v => some (0, (KS.mk z.G z.N z.T z.V z.Hs z.Q z.R z.P z.Sb v.toInt64 z.od)))
set_option maxHeartbeats 4000000 in
set_option maxRecDepth 100000 in
theorem mL_minutesUntilTurn (l : Launch) (E : EP) (B0 : Nat) (htr : l.stackTraces = false) (B : Nat) (hb0 : B0 ≤ B) (z : KS) (a1 : Int32) (r : Int32 × KS) (hf : fL_minutesUntilTurn z a1 = some r) : MW l E B0 yL_minutesUntilTurn cL_minutesUntilTurn 4 (some .int) [(0, 9, 12, 23), (0, 9, 15, 17)] 10 1 6 [.ref (B + 0), .int a1, .ref (B + 212)] (CW E B z) (some (.int r.1)) (CW E B r.2) (cA B) := by
  refine mw_of (by decide +kernel) (Nat.le_of_ble_eq_true rfl) ?_
  intro p e s m args below meth c hx hb hml hown hw hrt hlocks htb hE H hP9 hS ls hl
  obtain ⟨hG, hN, hT, hV, hHs, hQ, hR, hP, hSb, hO, hOd⟩ := hP9
  have hown : s.vm.findClass RL = some m.cls := hown
  have hl : lv_has ls 4 [(0, .ref (B + 0)), (1, .int a1), (2, .ref (B + 212))] := hl
  have hAB : ∀ q, cA B q → B0 ≤ q := cA_ge hb0
  unfold fL_minutesUntilTurn at hf
  obtain ⟨z1, hc, hf⟩ := br_some hf
  refine lv_aload_n hx hb dL_minutesUntilTurn_0 rfl (lv_at hl 2 rfl) ?_
  refine lv_iconst (v := 0) hx hb dL_minutesUntilTurn_1 (by decide) ?_
  refine lv_aload_n hx hb dL_minutesUntilTurn_2 rfl (lv_at hl 0 rfl) ?_
  refine lv_iload_n hx hb dL_minutesUntilTurn_3 rfl (lv_at hl 1 rfl) ?_
  refine mg_xV (As := [.int a1]) (rest := [.int 0, .ref (B + 212)]) hx hb hml hown hw hE (mX11_minutesUntilTurn l E B0 htr B (B + 214) (by omega) (by omega) z.G z.N a1 z1 hc) cv_L_92 (w_recv (k := 0) (ci := 11) hE hG (by decide) rfl rfl) ⟨hG, hN⟩ hS hAB (fun _ h => h.elim) rfl hl.1 rfl (by decide) (by decide) (Nat.le_of_ble_eq_true rfl) ⟨by decide, by decide⟩ dL_minutesUntilTurn_4 (fun e9 ee H locs ce q hP9 hz hu hS hce hcv hcl => ?_) (fun v ev H locs hP9 hz hu hS => ?_)
  · have hf := sx_l ee hf
    obtain ⟨hG, hN⟩ := hP9
    have hT := Blk.off hT hu (fun _ _ _ h => h)
    have hV := Blk.off hV hu (fun _ _ _ h => h)
    have hHs := Blk.off hHs hu (fun _ _ _ h => h)
    have hQ := Fam.off hQ hu (fun _ _ _ h => h)
    have hR := Blk.off hR hu (fun _ _ _ h => h)
    have hP := Blk.off hP hu (fun _ _ _ h => h)
    have hSb := SBt.off hSb hz hu (fun _ _ h => h)
    have hO := LO.off hO hu (fun h => h)
    have hOd := LD.off hOd hu (fun h => h)
    by_cases c0 : e9 = 0
    · subst c0
      rw [if_pos rfl] at hf
      have hre := Option.some.inj hf
      subst hre
      refine vx_catch (E := "java/lang/IndexOutOfBoundsException") (name := "java/lang/IndexOutOfBoundsException") hown [] ⟨0, 9, 12, 23⟩ [⟨0, 9, 15, 17⟩] (htb.trans rfl) (fun _ h => absurd h List.not_mem_nil) (by decide) (by decide) (hw _ kl_L_23) (va_Nw.use rfl (hE.2.2.2.2.1 _ kx_0 rfl)) hce hcv hcl ?_
      refine lv_astore_n (lv' := [(3, .ref q), (0, .ref (B + 0)), (1, .int a1), (2, .ref (B + 212))]) hx hb dL_minutesUntilTurn_12 rfl hl (by decide) rfl (fun ls hl => ?_)
      refine lv_iconst (v := 1) hx hb dL_minutesUntilTurn_13 (by decide) ?_
      refine W.widen (k := 1) (n := 6) (by decide) (by decide) ?_
      exact mu_i (v := 1) hx hb hrt hlocks ⟨hG, hN, hT, hV, hHs, hQ, hR, hP, hSb, hO, hOd⟩ hS dL_minutesUntilTurn_14
    by_cases c1 : e9 = 3
    · subst c1
      rw [if_neg (by decide), if_pos rfl] at hf
      have hre := Option.some.inj hf
      subst hre
      refine vx_catch (E := "java/lang/IllegalStateException") (name := "java/lang/IllegalStateException") hown [⟨0, 9, 12, 23⟩] ⟨0, 9, 15, 17⟩ [] (htb.trans rfl) (List.forall_mem_cons.mpr ⟨Or.inr ⟨by decide, "java/lang/IndexOutOfBoundsException", hw _ kl_L_23, hE.nc (by simp)⟩, (fun _ h => absurd h List.not_mem_nil)⟩) (by decide) (by decide) (hw _ kl_L_17) (va_Nw.use rfl (hE.2.2.2.2.1 _ kx_3 rfl)) hce hcv hcl ?_
      refine lv_astore_n (lv' := [(3, .ref q), (0, .ref (B + 0)), (1, .int a1), (2, .ref (B + 212))]) hx hb dL_minutesUntilTurn_15 rfl hl (by decide) rfl (fun ls hl => ?_)
      refine lv_iconst (v := 2) hx hb dL_minutesUntilTurn_16 (by decide) ?_
      refine W.widen (k := 1) (n := 6) (by decide) (by decide) ?_
      exact mu_i (v := 2) hx hb hrt hlocks ⟨hG, hN, hT, hV, hHs, hQ, hR, hP, hSb, hO, hOd⟩ hS dL_minutesUntilTurn_17
    rw [if_neg c0, if_neg c1] at hf
    exact nomatch hf
  · have hf := sx_r ev hf
    obtain ⟨hG, hN⟩ := hP9
    have hT := Blk.off hT hu (fun _ _ _ h => h)
    have hV := Blk.off hV hu (fun _ _ _ h => h)
    have hHs := Blk.off hHs hu (fun _ _ _ h => h)
    have hQ := Fam.off hQ hu (fun _ _ _ h => h)
    have hR := Blk.off hR hu (fun _ _ _ h => h)
    have hP := Blk.off hP hu (fun _ _ _ h => h)
    have hSb := SBt.off hSb hz hu (fun _ _ h => h)
    have hO := LO.off hO hu (fun h => h)
    have hOd := LD.off hOd hu (fun h => h)
    refine lv_i2l hx hb dL_minutesUntilTurn_7 rfl ?_
    refine w_last hx hb hE hO hS (Or.inr (by omega)) dL_minutesUntilTurn_8 (fun H locs hO z9 oq hS => ?_)
    have hG := Blk.offq hG oq (by omega)
    have hN := Blk.offq hN oq (by omega)
    have hT := Blk.offq hT oq (by omega)
    have hV := Blk.offq hV oq (by omega)
    have hHs := Blk.offq hHs oq (by omega)
    have hQ := Fam.offq hQ oq (by omega)
    have hR := Blk.offq hR oq (by omega)
    have hP := Blk.offq hP oq (by omega)
    have hSb := SBt.offq hSb z9 oq (by omega) (by omega)
    have hOd := LD.offq hOd oq (by omega)
    refine lv_goto (tgt := 18) hx hb dL_minutesUntilTurn_9 (by decide) ?_
    have hre := Option.some.inj hf
    subst hre
    refine lv_iconst (v := 0) hx hb dL_minutesUntilTurn_18 (by decide) ?_
    refine W.widen (k := 1) (n := 6) (by decide) (by decide) ?_
    exact mu_i (v := 0) hx hb hrt hlocks ⟨hG, hN, hT, hV, hHs, hQ, hR, hP, hSb, hO, hOd⟩ hS dL_minutesUntilTurn_19
noncomputable def fL_minutesUntilTurnBySimulation (z : KS) (a1 : Int32) : Option (Int32 × KS) := (fX11_minutesUntilTurnBySimulation z.G z.N z.T a1).bind fun z1 => sx z1.1 (fun e9 => (if e9 = 0 then some (1, (KS.mk z.G z.N z1.2 z.V z.Hs z.Q z.R z.P z.Sb z.o z.od)) else (if e9 = 3 then some (2, (KS.mk z.G z.N z1.2 z.V z.Hs z.Q z.R z.P z.Sb z.o z.od)) else none))) (fun v => some (0, (KS.mk z.G z.N z1.2 z.V z.Hs z.Q z.R z.P z.Sb v.toInt64 z.od)))
set_option maxHeartbeats 4000000 in
set_option maxRecDepth 100000 in
theorem mL_minutesUntilTurnBySimulation (l : Launch) (E : EP) (B0 : Nat) (htr : l.stackTraces = false) (B : Nat) (hb0 : B0 ≤ B) (z : KS) (a1 : Int32) (r : Int32 × KS) (hf : fL_minutesUntilTurnBySimulation z a1 = some r) : MW l E B0 yL_minutesUntilTurnBySimulation cL_minutesUntilTurnBySimulation 4 (some .int) [(0, 9, 12, 23), (0, 9, 15, 17)] 10 1 6 [.ref (B + 0), .int a1, .ref (B + 212)] (CW E B z) (some (.int r.1)) (CW E B r.2) (cA B) := by
  refine mw_of (by decide +kernel) (Nat.le_of_ble_eq_true rfl) ?_
  intro p e s m args below meth c hx hb hml hown hw hrt hlocks htb hE H hP9 hS ls hl
  obtain ⟨hG, hN, hT, hV, hHs, hQ, hR, hP, hSb, hO, hOd⟩ := hP9
  have hown : s.vm.findClass RL = some m.cls := hown
  have hl : lv_has ls 4 [(0, .ref (B + 0)), (1, .int a1), (2, .ref (B + 212))] := hl
  have hAB : ∀ q, cA B q → B0 ≤ q := cA_ge hb0
  unfold fL_minutesUntilTurnBySimulation at hf
  obtain ⟨z1, hc, hf⟩ := br_some hf
  refine lv_aload_n hx hb dL_minutesUntilTurnBySimulation_0 rfl (lv_at hl 2 rfl) ?_
  refine lv_iconst (v := 0) hx hb dL_minutesUntilTurnBySimulation_1 (by decide) ?_
  refine lv_aload_n hx hb dL_minutesUntilTurnBySimulation_2 rfl (lv_at hl 0 rfl) ?_
  refine lv_iload_n hx hb dL_minutesUntilTurnBySimulation_3 rfl (lv_at hl 1 rfl) ?_
  refine mg_xV (As := [.int a1]) (rest := [.int 0, .ref (B + 212)]) hx hb hml hown hw hE (mX11_minutesUntilTurnBySimulation l E B0 htr B (B + 214) (by omega) (by omega) z.G z.N z.T a1 z1 hc) cv_L_95 (w_recv (k := 0) (ci := 11) hE hG (by decide) rfl rfl) ⟨hG, hN, hT⟩ hS hAB (fun q h => by simp only [orA, iv, nv, sbA] at h; show (B ≤ q ∧ q < B + 202) ∨ B + 212 ≤ q; omega) rfl hl.1 rfl (by decide) (by decide) (Nat.le_of_ble_eq_true rfl) ⟨by decide, by decide⟩ dL_minutesUntilTurnBySimulation_4 (fun e9 ee H locs ce q hP9 hz hu hS hce hcv hcl => ?_) (fun v ev H locs hP9 hz hu hS => ?_)
  · have hf := sx_l ee hf
    obtain ⟨hG, hN, hT⟩ := hP9
    have hV := Blk.off hV hu (iv_dis (by omega))
    have hHs := Blk.off hHs hu (iv_dis (by omega))
    have hQ := Fam.off hQ hu (iv_dis (by omega))
    have hR := Blk.off hR hu (iv_dis (by omega))
    have hP := Blk.off hP hu (iv_dis (by omega))
    have hSb := SBt.off hSb hz hu (sb_iv_dis (by omega) (by omega))
    have hO := LO.off hO hu (fun h => by simp only [orA, iv, nv, sbA] at h; omega)
    have hOd := LD.off hOd hu (fun h => by simp only [orA, iv, nv, sbA] at h; omega)
    by_cases c0 : e9 = 0
    · subst c0
      rw [if_pos rfl] at hf
      have hre := Option.some.inj hf
      subst hre
      refine vx_catch (E := "java/lang/IndexOutOfBoundsException") (name := "java/lang/IndexOutOfBoundsException") hown [] ⟨0, 9, 12, 23⟩ [⟨0, 9, 15, 17⟩] (htb.trans rfl) (fun _ h => absurd h List.not_mem_nil) (by decide) (by decide) (hw _ kl_L_23) (va_Nw.use rfl (hE.2.2.2.2.1 _ kx_0 rfl)) hce hcv hcl ?_
      refine lv_astore_n (lv' := [(3, .ref q), (0, .ref (B + 0)), (1, .int a1), (2, .ref (B + 212))]) hx hb dL_minutesUntilTurnBySimulation_12 rfl hl (by decide) rfl (fun ls hl => ?_)
      refine lv_iconst (v := 1) hx hb dL_minutesUntilTurnBySimulation_13 (by decide) ?_
      refine W.widen (k := 1) (n := 6) (by decide) (by decide) ?_
      exact mu_i (v := 1) hx hb hrt hlocks ⟨hG, hN, hT, hV, hHs, hQ, hR, hP, hSb, hO, hOd⟩ hS dL_minutesUntilTurnBySimulation_14
    by_cases c1 : e9 = 3
    · subst c1
      rw [if_neg (by decide), if_pos rfl] at hf
      have hre := Option.some.inj hf
      subst hre
      refine vx_catch (E := "java/lang/IllegalStateException") (name := "java/lang/IllegalStateException") hown [⟨0, 9, 12, 23⟩] ⟨0, 9, 15, 17⟩ [] (htb.trans rfl) (List.forall_mem_cons.mpr ⟨Or.inr ⟨by decide, "java/lang/IndexOutOfBoundsException", hw _ kl_L_23, hE.nc (by simp)⟩, (fun _ h => absurd h List.not_mem_nil)⟩) (by decide) (by decide) (hw _ kl_L_17) (va_Nw.use rfl (hE.2.2.2.2.1 _ kx_3 rfl)) hce hcv hcl ?_
      refine lv_astore_n (lv' := [(3, .ref q), (0, .ref (B + 0)), (1, .int a1), (2, .ref (B + 212))]) hx hb dL_minutesUntilTurnBySimulation_15 rfl hl (by decide) rfl (fun ls hl => ?_)
      refine lv_iconst (v := 2) hx hb dL_minutesUntilTurnBySimulation_16 (by decide) ?_
      refine W.widen (k := 1) (n := 6) (by decide) (by decide) ?_
      exact mu_i (v := 2) hx hb hrt hlocks ⟨hG, hN, hT, hV, hHs, hQ, hR, hP, hSb, hO, hOd⟩ hS dL_minutesUntilTurnBySimulation_17
    rw [if_neg c0, if_neg c1] at hf
    exact nomatch hf
  · have hf := sx_r ev hf
    obtain ⟨hG, hN, hT⟩ := hP9
    have hV := Blk.off hV hu (iv_dis (by omega))
    have hHs := Blk.off hHs hu (iv_dis (by omega))
    have hQ := Fam.off hQ hu (iv_dis (by omega))
    have hR := Blk.off hR hu (iv_dis (by omega))
    have hP := Blk.off hP hu (iv_dis (by omega))
    have hSb := SBt.off hSb hz hu (sb_iv_dis (by omega) (by omega))
    have hO := LO.off hO hu (fun h => by simp only [orA, iv, nv, sbA] at h; omega)
    have hOd := LD.off hOd hu (fun h => by simp only [orA, iv, nv, sbA] at h; omega)
    refine lv_i2l hx hb dL_minutesUntilTurnBySimulation_7 rfl ?_
    refine w_last hx hb hE hO hS (Or.inr (by omega)) dL_minutesUntilTurnBySimulation_8 (fun H locs hO z9 oq hS => ?_)
    have hG := Blk.offq hG oq (by omega)
    have hN := Blk.offq hN oq (by omega)
    have hT := Blk.offq hT oq (by omega)
    have hV := Blk.offq hV oq (by omega)
    have hHs := Blk.offq hHs oq (by omega)
    have hQ := Fam.offq hQ oq (by omega)
    have hR := Blk.offq hR oq (by omega)
    have hP := Blk.offq hP oq (by omega)
    have hSb := SBt.offq hSb z9 oq (by omega) (by omega)
    have hOd := LD.offq hOd oq (by omega)
    refine lv_goto (tgt := 18) hx hb dL_minutesUntilTurnBySimulation_9 (by decide) ?_
    have hre := Option.some.inj hf
    subst hre
    refine lv_iconst (v := 0) hx hb dL_minutesUntilTurnBySimulation_18 (by decide) ?_
    refine W.widen (k := 1) (n := 6) (by decide) (by decide) ?_
    exact mu_i (v := 0) hx hb hrt hlocks ⟨hG, hN, hT, hV, hHs, hQ, hR, hP, hSb, hO, hOd⟩ hS dL_minutesUntilTurnBySimulation_19
noncomputable def fL_canHear (z : KS) (a1 : Int32) (a2 : Int32) : Option (Int32 × KS) := (fX11_canHear z.G z.N a1 a2).bind fun z1 => sx z1 (fun e9 => (if e9 = 0 then some (1, (KS.mk z.G z.N z.T z.V z.Hs z.Q z.R z.P z.Sb z.o z.od)) else none)) (fun v => (if v = 0 then some (0, (KS.mk z.G z.N z.T z.V z.Hs z.Q z.R z.P z.Sb 0 z.od)) else some (0, (KS.mk z.G z.N z.T z.V z.Hs z.Q z.R z.P z.Sb 1 z.od))))
set_option maxHeartbeats 4000000 in
set_option maxRecDepth 100000 in
theorem mL_canHear (l : Launch) (E : EP) (B0 : Nat) (htr : l.stackTraces = false) (B : Nat) (hb0 : B0 ≤ B) (z : KS) (a1 : Int32) (a2 : Int32) (r : Int32 × KS) (hf : fL_canHear z a1 a2 = some r) : MW l E B0 yL_canHear cL_canHear 5 (some .int) [(0, 17, 20, 23)] 11 2 12 [.ref (B + 0), .int a1, .int a2, .ref (B + 212)] (CW E B z) (some (.int r.1)) (CW E B r.2) (cA B) := by
  refine mw_of (by decide +kernel) (Nat.le_of_ble_eq_true rfl) ?_
  intro p e s m args below meth c hx hb hml hown hw hrt hlocks htb hE H hP9 hS ls hl
  obtain ⟨hG, hN, hT, hV, hHs, hQ, hR, hP, hSb, hO, hOd⟩ := hP9
  have hown : s.vm.findClass RL = some m.cls := hown
  have hl : lv_has ls 5 [(0, .ref (B + 0)), (1, .int a1), (2, .int a2), (3, .ref (B + 212))] := hl
  have hAB : ∀ q, cA B q → B0 ≤ q := cA_ge hb0
  unfold fL_canHear at hf
  obtain ⟨z1, hc, hf⟩ := br_some hf
  refine lv_aload_n hx hb dL_canHear_0 rfl (lv_at hl 3 rfl) ?_
  refine lv_iconst (v := 0) hx hb dL_canHear_1 (by decide) ?_
  refine lv_aload_n hx hb dL_canHear_2 rfl (lv_at hl 0 rfl) ?_
  refine lv_iload_n hx hb dL_canHear_3 rfl (lv_at hl 1 rfl) ?_
  refine lv_iload_n hx hb dL_canHear_4 rfl (lv_at hl 2 rfl) ?_
  refine mg_xV (As := [.int a1, .int a2]) (rest := [.int 0, .ref (B + 212)]) hx hb hml hown hw hE (mX11_canHear l E B0 htr B (B + 214) (by omega) (by omega) z.G z.N a1 a2 z1 hc) cv_L_98 (w_recv (k := 0) (ci := 11) hE hG (by decide) rfl rfl) ⟨hG, hN⟩ hS hAB (fun _ h => h.elim) rfl hl.1 rfl (by decide) (by decide) (Nat.le_of_ble_eq_true rfl) ⟨by decide, by decide⟩ dL_canHear_5 (fun e9 ee H locs ce q hP9 hz hu hS hce hcv hcl => ?_) (fun v ev H locs hP9 hz hu hS => ?_)
  · have hf := sx_l ee hf
    obtain ⟨hG, hN⟩ := hP9
    have hT := Blk.off hT hu (fun _ _ _ h => h)
    have hV := Blk.off hV hu (fun _ _ _ h => h)
    have hHs := Blk.off hHs hu (fun _ _ _ h => h)
    have hQ := Fam.off hQ hu (fun _ _ _ h => h)
    have hR := Blk.off hR hu (fun _ _ _ h => h)
    have hP := Blk.off hP hu (fun _ _ _ h => h)
    have hSb := SBt.off hSb hz hu (fun _ _ h => h)
    have hO := LO.off hO hu (fun h => h)
    have hOd := LD.off hOd hu (fun h => h)
    by_cases c0 : e9 = 0
    · subst c0
      rw [if_pos rfl] at hf
      have hre := Option.some.inj hf
      subst hre
      refine vx_catch (E := "java/lang/IndexOutOfBoundsException") (name := "java/lang/IndexOutOfBoundsException") hown [] ⟨0, 17, 20, 23⟩ [] (htb.trans rfl) (fun _ h => absurd h List.not_mem_nil) (by decide) (by decide) (hw _ kl_L_23) (va_Nw.use rfl (hE.2.2.2.2.1 _ kx_0 rfl)) hce hcv hcl ?_
      refine lv_astore (lv' := [(4, .ref q), (0, .ref (B + 0)), (1, .int a1), (2, .int a2), (3, .ref (B + 212))]) hx hb dL_canHear_20 hl (by decide) rfl (fun ls hl => ?_)
      refine lv_iconst (v := 1) hx hb dL_canHear_22 (by decide) ?_
      refine W.widen (k := 2) (n := 12) (by decide) (by decide) ?_
      exact mu_i (v := 1) hx hb hrt hlocks ⟨hG, hN, hT, hV, hHs, hQ, hR, hP, hSb, hO, hOd⟩ hS dL_canHear_23
    rw [if_neg c0] at hf
    exact nomatch hf
  · have hf := sx_r ev hf
    obtain ⟨hG, hN⟩ := hP9
    have hT := Blk.off hT hu (fun _ _ _ h => h)
    have hV := Blk.off hV hu (fun _ _ _ h => h)
    have hHs := Blk.off hHs hu (fun _ _ _ h => h)
    have hQ := Fam.off hQ hu (fun _ _ _ h => h)
    have hR := Blk.off hR hu (fun _ _ _ h => h)
    have hP := Blk.off hP hu (fun _ _ _ h => h)
    have hSb := SBt.off hSb hz hu (fun _ _ h => h)
    have hO := LO.off hO hu (fun h => h)
    have hOd := LD.off hOd hu (fun h => h)
    refine lv_if_eq (tgt := 15) hx hb dL_canHear_8 (by decide) (fun c9 => ?_) (fun c9 => ?_)
    · rw [if_pos c9] at hf
      refine lv_lconst (v := 0) hx hb dL_canHear_15 rfl ?_
      refine w_last hx hb hE hO hS (Or.inr (by omega)) dL_canHear_16 (fun H locs hO z9 oq hS => ?_)
      have hG := Blk.offq hG oq (by omega)
      have hN := Blk.offq hN oq (by omega)
      have hT := Blk.offq hT oq (by omega)
      have hV := Blk.offq hV oq (by omega)
      have hHs := Blk.offq hHs oq (by omega)
      have hQ := Fam.offq hQ oq (by omega)
      have hR := Blk.offq hR oq (by omega)
      have hP := Blk.offq hP oq (by omega)
      have hSb := SBt.offq hSb z9 oq (by omega) (by omega)
      have hOd := LD.offq hOd oq (by omega)
      refine lv_goto (tgt := 24) hx hb dL_canHear_17 (by decide) ?_
      have hre := Option.some.inj hf
      subst hre
      refine lv_iconst (v := 0) hx hb dL_canHear_24 (by decide) ?_
      refine W.widen (k := 2) (n := 12) (by decide) (by decide) ?_
      exact mu_i (v := 0) hx hb hrt hlocks ⟨hG, hN, hT, hV, hHs, hQ, hR, hP, hSb, hO, hOd⟩ hS dL_canHear_25
    · rw [if_neg c9] at hf
      refine lv_lconst (v := 1) hx hb dL_canHear_11 rfl ?_
      refine lv_goto (tgt := 16) hx hb dL_canHear_12 (by decide) ?_
      refine w_last hx hb hE hO hS (Or.inr (by omega)) dL_canHear_16 (fun H locs hO z9 oq hS => ?_)
      have hG := Blk.offq hG oq (by omega)
      have hN := Blk.offq hN oq (by omega)
      have hT := Blk.offq hT oq (by omega)
      have hV := Blk.offq hV oq (by omega)
      have hHs := Blk.offq hHs oq (by omega)
      have hQ := Fam.offq hQ oq (by omega)
      have hR := Blk.offq hR oq (by omega)
      have hP := Blk.offq hP oq (by omega)
      have hSb := SBt.offq hSb z9 oq (by omega) (by omega)
      have hOd := LD.offq hOd oq (by omega)
      refine lv_goto (tgt := 24) hx hb dL_canHear_17 (by decide) ?_
      have hre := Option.some.inj hf
      subst hre
      refine lv_iconst (v := 0) hx hb dL_canHear_24 (by decide) ?_
      refine W.widen (k := 2) (n := 12) (by decide) (by decide) ?_
      exact mu_i (v := 0) hx hb hrt hlocks ⟨hG, hN, hT, hV, hHs, hQ, hR, hP, hSb, hO, hOd⟩ hS dL_canHear_25
noncomputable def fL_isJammed (z : KS) (a1 : Int32) : Option (Int32 × KS) := (fX11_isJammed z.G z.N a1).bind fun z1 => sx z1 (fun e9 => (if e9 = 0 then some (1, (KS.mk z.G z.N z.T z.V z.Hs z.Q z.R z.P z.Sb z.o z.od)) else none)) (fun v => (if v = 0 then some (0, (KS.mk z.G z.N z.T z.V z.Hs z.Q z.R z.P z.Sb 0 z.od)) else some (0, (KS.mk z.G z.N z.T z.V z.Hs z.Q z.R z.P z.Sb 1 z.od))))
set_option maxHeartbeats 4000000 in
set_option maxRecDepth 100000 in
theorem mL_isJammed (l : Launch) (E : EP) (B0 : Nat) (htr : l.stackTraces = false) (B : Nat) (hb0 : B0 ≤ B) (z : KS) (a1 : Int32) (r : Int32 × KS) (hf : fL_isJammed z a1 = some r) : MW l E B0 yL_isJammed cL_isJammed 4 (some .int) [(0, 16, 19, 23)] 11 1 6 [.ref (B + 0), .int a1, .ref (B + 212)] (CW E B z) (some (.int r.1)) (CW E B r.2) (cA B) := by
  refine mw_of (by decide +kernel) (Nat.le_of_ble_eq_true rfl) ?_
  intro p e s m args below meth c hx hb hml hown hw hrt hlocks htb hE H hP9 hS ls hl
  obtain ⟨hG, hN, hT, hV, hHs, hQ, hR, hP, hSb, hO, hOd⟩ := hP9
  have hown : s.vm.findClass RL = some m.cls := hown
  have hl : lv_has ls 4 [(0, .ref (B + 0)), (1, .int a1), (2, .ref (B + 212))] := hl
  have hAB : ∀ q, cA B q → B0 ≤ q := cA_ge hb0
  unfold fL_isJammed at hf
  obtain ⟨z1, hc, hf⟩ := br_some hf
  refine lv_aload_n hx hb dL_isJammed_0 rfl (lv_at hl 2 rfl) ?_
  refine lv_iconst (v := 0) hx hb dL_isJammed_1 (by decide) ?_
  refine lv_aload_n hx hb dL_isJammed_2 rfl (lv_at hl 0 rfl) ?_
  refine lv_iload_n hx hb dL_isJammed_3 rfl (lv_at hl 1 rfl) ?_
  refine mg_xV (As := [.int a1]) (rest := [.int 0, .ref (B + 212)]) hx hb hml hown hw hE (mX11_isJammed l E B0 htr B (B + 214) (by omega) (by omega) z.G z.N a1 z1 hc) cv_L_102 (w_recv (k := 0) (ci := 11) hE hG (by decide) rfl rfl) ⟨hG, hN⟩ hS hAB (fun _ h => h.elim) rfl hl.1 rfl (by decide) (by decide) (Nat.le_of_ble_eq_true rfl) ⟨by decide, by decide⟩ dL_isJammed_4 (fun e9 ee H locs ce q hP9 hz hu hS hce hcv hcl => ?_) (fun v ev H locs hP9 hz hu hS => ?_)
  · have hf := sx_l ee hf
    obtain ⟨hG, hN⟩ := hP9
    have hT := Blk.off hT hu (fun _ _ _ h => h)
    have hV := Blk.off hV hu (fun _ _ _ h => h)
    have hHs := Blk.off hHs hu (fun _ _ _ h => h)
    have hQ := Fam.off hQ hu (fun _ _ _ h => h)
    have hR := Blk.off hR hu (fun _ _ _ h => h)
    have hP := Blk.off hP hu (fun _ _ _ h => h)
    have hSb := SBt.off hSb hz hu (fun _ _ h => h)
    have hO := LO.off hO hu (fun h => h)
    have hOd := LD.off hOd hu (fun h => h)
    by_cases c0 : e9 = 0
    · subst c0
      rw [if_pos rfl] at hf
      have hre := Option.some.inj hf
      subst hre
      refine vx_catch (E := "java/lang/IndexOutOfBoundsException") (name := "java/lang/IndexOutOfBoundsException") hown [] ⟨0, 16, 19, 23⟩ [] (htb.trans rfl) (fun _ h => absurd h List.not_mem_nil) (by decide) (by decide) (hw _ kl_L_23) (va_Nw.use rfl (hE.2.2.2.2.1 _ kx_0 rfl)) hce hcv hcl ?_
      refine lv_astore_n (lv' := [(3, .ref q), (0, .ref (B + 0)), (1, .int a1), (2, .ref (B + 212))]) hx hb dL_isJammed_19 rfl hl (by decide) rfl (fun ls hl => ?_)
      refine lv_iconst (v := 1) hx hb dL_isJammed_20 (by decide) ?_
      refine W.widen (k := 1) (n := 6) (by decide) (by decide) ?_
      exact mu_i (v := 1) hx hb hrt hlocks ⟨hG, hN, hT, hV, hHs, hQ, hR, hP, hSb, hO, hOd⟩ hS dL_isJammed_21
    rw [if_neg c0] at hf
    exact nomatch hf
  · have hf := sx_r ev hf
    obtain ⟨hG, hN⟩ := hP9
    have hT := Blk.off hT hu (fun _ _ _ h => h)
    have hV := Blk.off hV hu (fun _ _ _ h => h)
    have hHs := Blk.off hHs hu (fun _ _ _ h => h)
    have hQ := Fam.off hQ hu (fun _ _ _ h => h)
    have hR := Blk.off hR hu (fun _ _ _ h => h)
    have hP := Blk.off hP hu (fun _ _ _ h => h)
    have hSb := SBt.off hSb hz hu (fun _ _ h => h)
    have hO := LO.off hO hu (fun h => h)
    have hOd := LD.off hOd hu (fun h => h)
    refine lv_if_eq (tgt := 14) hx hb dL_isJammed_7 (by decide) (fun c9 => ?_) (fun c9 => ?_)
    · rw [if_pos c9] at hf
      refine lv_lconst (v := 0) hx hb dL_isJammed_14 rfl ?_
      refine w_last hx hb hE hO hS (Or.inr (by omega)) dL_isJammed_15 (fun H locs hO z9 oq hS => ?_)
      have hG := Blk.offq hG oq (by omega)
      have hN := Blk.offq hN oq (by omega)
      have hT := Blk.offq hT oq (by omega)
      have hV := Blk.offq hV oq (by omega)
      have hHs := Blk.offq hHs oq (by omega)
      have hQ := Fam.offq hQ oq (by omega)
      have hR := Blk.offq hR oq (by omega)
      have hP := Blk.offq hP oq (by omega)
      have hSb := SBt.offq hSb z9 oq (by omega) (by omega)
      have hOd := LD.offq hOd oq (by omega)
      refine lv_goto (tgt := 22) hx hb dL_isJammed_16 (by decide) ?_
      have hre := Option.some.inj hf
      subst hre
      refine lv_iconst (v := 0) hx hb dL_isJammed_22 (by decide) ?_
      refine W.widen (k := 1) (n := 6) (by decide) (by decide) ?_
      exact mu_i (v := 0) hx hb hrt hlocks ⟨hG, hN, hT, hV, hHs, hQ, hR, hP, hSb, hO, hOd⟩ hS dL_isJammed_23
    · rw [if_neg c9] at hf
      refine lv_lconst (v := 1) hx hb dL_isJammed_10 rfl ?_
      refine lv_goto (tgt := 15) hx hb dL_isJammed_11 (by decide) ?_
      refine w_last hx hb hE hO hS (Or.inr (by omega)) dL_isJammed_15 (fun H locs hO z9 oq hS => ?_)
      have hG := Blk.offq hG oq (by omega)
      have hN := Blk.offq hN oq (by omega)
      have hT := Blk.offq hT oq (by omega)
      have hV := Blk.offq hV oq (by omega)
      have hHs := Blk.offq hHs oq (by omega)
      have hQ := Fam.offq hQ oq (by omega)
      have hR := Blk.offq hR oq (by omega)
      have hP := Blk.offq hP oq (by omega)
      have hSb := SBt.offq hSb z9 oq (by omega) (by omega)
      have hOd := LD.offq hOd oq (by omega)
      refine lv_goto (tgt := 22) hx hb dL_isJammed_16 (by decide) ?_
      have hre := Option.some.inj hf
      subst hre
      refine lv_iconst (v := 0) hx hb dL_isJammed_22 (by decide) ?_
      refine W.widen (k := 1) (n := 6) (by decide) (by decide) ?_
      exact mu_i (v := 0) hx hb hrt hlocks ⟨hG, hN, hT, hV, hHs, hQ, hR, hP, hSb, hO, hOd⟩ hS dL_isJammed_23
noncomputable def fL_hops (z : KS) (a1 : Int32) (a2 : Int32) : Option (Int32 × KS) := (fX11_hops z.G z.N z.R a1 a2).bind fun z1 => sx z1.1 (fun e9 => (if e9 = 0 then some (1, (KS.mk z.G z.N z.T z.V z.Hs z.Q z1.2 z.P z.Sb z.o z.od)) else (if e9 = 5 then some (2, (KS.mk z.G z.N z.T z.V z.Hs z.Q z1.2 z.P z.Sb z.o z.od)) else none))) (fun v => some (0, (KS.mk z.G z.N z.T z.V z.Hs z.Q z1.2 z.P z.Sb v.toInt64 z.od)))
set_option maxHeartbeats 4000000 in
set_option maxRecDepth 100000 in
theorem mL_hops (l : Launch) (E : EP) (B0 : Nat) (htr : l.stackTraces = false) (B : Nat) (hb0 : B0 ≤ B) (z : KS) (a1 : Int32) (a2 : Int32) (r : Int32 × KS) (hf : fL_hops z a1 a2 = some r) : MW l E B0 yL_hops cL_hops 5 (some .int) [(0, 10, 13, 23), (0, 10, 17, 52)] 10 3 18 [.ref (B + 0), .int a1, .int a2, .ref (B + 212)] (CW E B z) (some (.int r.1)) (CW E B r.2) (cA B) := by
  refine mw_of (by decide +kernel) (Nat.le_of_ble_eq_true rfl) ?_
  intro p e s m args below meth c hx hb hml hown hw hrt hlocks htb hE H hP9 hS ls hl
  obtain ⟨hG, hN, hT, hV, hHs, hQ, hR, hP, hSb, hO, hOd⟩ := hP9
  have hown : s.vm.findClass RL = some m.cls := hown
  have hl : lv_has ls 5 [(0, .ref (B + 0)), (1, .int a1), (2, .int a2), (3, .ref (B + 212))] := hl
  have hAB : ∀ q, cA B q → B0 ≤ q := cA_ge hb0
  unfold fL_hops at hf
  obtain ⟨z1, hc, hf⟩ := br_some hf
  refine lv_aload_n hx hb dL_hops_0 rfl (lv_at hl 3 rfl) ?_
  refine lv_iconst (v := 0) hx hb dL_hops_1 (by decide) ?_
  refine lv_aload_n hx hb dL_hops_2 rfl (lv_at hl 0 rfl) ?_
  refine lv_iload_n hx hb dL_hops_3 rfl (lv_at hl 1 rfl) ?_
  refine lv_iload_n hx hb dL_hops_4 rfl (lv_at hl 2 rfl) ?_
  refine mg_xV (As := [.int a1, .int a2]) (rest := [.int 0, .ref (B + 212)]) hx hb hml hown hw hE (mX11_hops l E B0 htr B (B + 214) (by omega) (by omega) z.G z.N z.R a1 a2 z1 hc) cv_L_105 (w_recv (k := 0) (ci := 11) hE hG (by decide) rfl rfl) ⟨hG, hN, hR⟩ hS hAB (fun q h => by simp only [orA, iv, nv, sbA] at h; show (B ≤ q ∧ q < B + 202) ∨ B + 212 ≤ q; omega) rfl hl.1 rfl (by decide) (by decide) (Nat.le_of_ble_eq_true rfl) ⟨by decide, by decide⟩ dL_hops_5 (fun e9 ee H locs ce q hP9 hz hu hS hce hcv hcl => ?_) (fun v ev H locs hP9 hz hu hS => ?_)
  · have hf := sx_l ee hf
    obtain ⟨hG, hN, hR⟩ := hP9
    have hT := Blk.off hT hu (iv_dis (by omega))
    have hV := Blk.off hV hu (iv_dis (by omega))
    have hHs := Blk.off hHs hu (iv_dis (by omega))
    have hQ := Fam.off hQ hu (iv_dis (by omega))
    have hP := Blk.off hP hu (iv_dis (by omega))
    have hSb := SBt.off hSb hz hu (sb_iv_dis (by omega) (by omega))
    have hO := LO.off hO hu (fun h => by simp only [orA, iv, nv, sbA] at h; omega)
    have hOd := LD.off hOd hu (fun h => by simp only [orA, iv, nv, sbA] at h; omega)
    by_cases c0 : e9 = 0
    · subst c0
      rw [if_pos rfl] at hf
      have hre := Option.some.inj hf
      subst hre
      refine vx_catch (E := "java/lang/IndexOutOfBoundsException") (name := "java/lang/IndexOutOfBoundsException") hown [] ⟨0, 10, 13, 23⟩ [⟨0, 10, 17, 52⟩] (htb.trans rfl) (fun _ h => absurd h List.not_mem_nil) (by decide) (by decide) (hw _ kl_L_23) (va_Nw.use rfl (hE.2.2.2.2.1 _ kx_0 rfl)) hce hcv hcl ?_
      refine lv_astore (lv' := [(4, .ref q), (0, .ref (B + 0)), (1, .int a1), (2, .int a2), (3, .ref (B + 212))]) hx hb dL_hops_13 hl (by decide) rfl (fun ls hl => ?_)
      refine lv_iconst (v := 1) hx hb dL_hops_15 (by decide) ?_
      refine W.widen (k := 3) (n := 18) (by decide) (by decide) ?_
      exact mu_i (v := 1) hx hb hrt hlocks ⟨hG, hN, hT, hV, hHs, hQ, hR, hP, hSb, hO, hOd⟩ hS dL_hops_16
    by_cases c1 : e9 = 5
    · subst c1
      rw [if_neg (by decide), if_pos rfl] at hf
      have hre := Option.some.inj hf
      subst hre
      refine vx_catch (E := "java/util/NoSuchElementException") (name := "java/util/NoSuchElementException") hown [⟨0, 10, 13, 23⟩] ⟨0, 10, 17, 52⟩ [] (htb.trans rfl) (List.forall_mem_cons.mpr ⟨Or.inr ⟨by decide, "java/lang/IndexOutOfBoundsException", hw _ kl_L_23, hE.nc (by simp)⟩, (fun _ h => absurd h List.not_mem_nil)⟩) (by decide) (by decide) (hw _ kl_L_52) (va_Nw.use rfl (hE.2.2.2.2.1 _ kx_5 rfl)) hce hcv hcl ?_
      refine lv_astore (lv' := [(4, .ref q), (0, .ref (B + 0)), (1, .int a1), (2, .int a2), (3, .ref (B + 212))]) hx hb dL_hops_17 hl (by decide) rfl (fun ls hl => ?_)
      refine lv_iconst (v := 2) hx hb dL_hops_19 (by decide) ?_
      refine W.widen (k := 3) (n := 18) (by decide) (by decide) ?_
      exact mu_i (v := 2) hx hb hrt hlocks ⟨hG, hN, hT, hV, hHs, hQ, hR, hP, hSb, hO, hOd⟩ hS dL_hops_20
    rw [if_neg c0, if_neg c1] at hf
    exact nomatch hf
  · have hf := sx_r ev hf
    obtain ⟨hG, hN, hR⟩ := hP9
    have hT := Blk.off hT hu (iv_dis (by omega))
    have hV := Blk.off hV hu (iv_dis (by omega))
    have hHs := Blk.off hHs hu (iv_dis (by omega))
    have hQ := Fam.off hQ hu (iv_dis (by omega))
    have hP := Blk.off hP hu (iv_dis (by omega))
    have hSb := SBt.off hSb hz hu (sb_iv_dis (by omega) (by omega))
    have hO := LO.off hO hu (fun h => by simp only [orA, iv, nv, sbA] at h; omega)
    have hOd := LD.off hOd hu (fun h => by simp only [orA, iv, nv, sbA] at h; omega)
    refine lv_i2l hx hb dL_hops_8 rfl ?_
    refine w_last hx hb hE hO hS (Or.inr (by omega)) dL_hops_9 (fun H locs hO z9 oq hS => ?_)
    have hG := Blk.offq hG oq (by omega)
    have hN := Blk.offq hN oq (by omega)
    have hT := Blk.offq hT oq (by omega)
    have hV := Blk.offq hV oq (by omega)
    have hHs := Blk.offq hHs oq (by omega)
    have hQ := Fam.offq hQ oq (by omega)
    have hR := Blk.offq hR oq (by omega)
    have hP := Blk.offq hP oq (by omega)
    have hSb := SBt.offq hSb z9 oq (by omega) (by omega)
    have hOd := LD.offq hOd oq (by omega)
    refine lv_goto (tgt := 21) hx hb dL_hops_10 (by decide) ?_
    have hre := Option.some.inj hf
    subst hre
    refine lv_iconst (v := 0) hx hb dL_hops_21 (by decide) ?_
    refine W.widen (k := 3) (n := 18) (by decide) (by decide) ?_
    exact mu_i (v := 0) hx hb hrt hlocks ⟨hG, hN, hT, hV, hHs, hQ, hR, hP, hSb, hO, hOd⟩ hS dL_hops_22
noncomputable def fL_hopsBySets (z : KS) (a1 : Int32) (a2 : Int32) : Option (Int32 × KS) := (fX11_hopsBySets z.G z.N z.R a1 a2).bind fun z1 => sx z1 (fun e9 => (if e9 = 0 then some (1, (KS.mk z.G z.N z.T z.V z.Hs z.Q z.R z.P z.Sb z.o z.od)) else (if e9 = 5 then some (2, (KS.mk z.G z.N z.T z.V z.Hs z.Q z.R z.P z.Sb z.o z.od)) else none))) (fun v => some (0, (KS.mk z.G z.N z.T z.V z.Hs z.Q z.R z.P z.Sb v.toInt64 z.od)))
set_option maxHeartbeats 4000000 in
set_option maxRecDepth 100000 in
theorem mL_hopsBySets (l : Launch) (E : EP) (B0 : Nat) (htr : l.stackTraces = false) (B : Nat) (hb0 : B0 ≤ B) (z : KS) (a1 : Int32) (a2 : Int32) (r : Int32 × KS) (hf : fL_hopsBySets z a1 a2 = some r) : MW l E B0 yL_hopsBySets cL_hopsBySets 5 (some .int) [(0, 10, 13, 23), (0, 10, 17, 52)] 10 3 18 [.ref (B + 0), .int a1, .int a2, .ref (B + 212)] (CW E B z) (some (.int r.1)) (CW E B r.2) (cA B) := by
  refine mw_of (by decide +kernel) (Nat.le_of_ble_eq_true rfl) ?_
  intro p e s m args below meth c hx hb hml hown hw hrt hlocks htb hE H hP9 hS ls hl
  obtain ⟨hG, hN, hT, hV, hHs, hQ, hR, hP, hSb, hO, hOd⟩ := hP9
  have hown : s.vm.findClass RL = some m.cls := hown
  have hl : lv_has ls 5 [(0, .ref (B + 0)), (1, .int a1), (2, .int a2), (3, .ref (B + 212))] := hl
  have hAB : ∀ q, cA B q → B0 ≤ q := cA_ge hb0
  unfold fL_hopsBySets at hf
  obtain ⟨z1, hc, hf⟩ := br_some hf
  refine lv_aload_n hx hb dL_hopsBySets_0 rfl (lv_at hl 3 rfl) ?_
  refine lv_iconst (v := 0) hx hb dL_hopsBySets_1 (by decide) ?_
  refine lv_aload_n hx hb dL_hopsBySets_2 rfl (lv_at hl 0 rfl) ?_
  refine lv_iload_n hx hb dL_hopsBySets_3 rfl (lv_at hl 1 rfl) ?_
  refine lv_iload_n hx hb dL_hopsBySets_4 rfl (lv_at hl 2 rfl) ?_
  refine mg_xV (As := [.int a1, .int a2]) (rest := [.int 0, .ref (B + 212)]) hx hb hml hown hw hE (mX11_hopsBySets l E B0 htr B (B + 214) (by omega) (by omega) z.G z.N z.R a1 a2 z1 hc) cv_L_108 (w_recv (k := 0) (ci := 11) hE hG (by decide) rfl rfl) ⟨hG, hN, hR⟩ hS hAB (fun _ h => h.elim) rfl hl.1 rfl (by decide) (by decide) (Nat.le_of_ble_eq_true rfl) ⟨by decide, by decide⟩ dL_hopsBySets_5 (fun e9 ee H locs ce q hP9 hz hu hS hce hcv hcl => ?_) (fun v ev H locs hP9 hz hu hS => ?_)
  · have hf := sx_l ee hf
    obtain ⟨hG, hN, hR⟩ := hP9
    have hT := Blk.off hT hu (fun _ _ _ h => h)
    have hV := Blk.off hV hu (fun _ _ _ h => h)
    have hHs := Blk.off hHs hu (fun _ _ _ h => h)
    have hQ := Fam.off hQ hu (fun _ _ _ h => h)
    have hP := Blk.off hP hu (fun _ _ _ h => h)
    have hSb := SBt.off hSb hz hu (fun _ _ h => h)
    have hO := LO.off hO hu (fun h => h)
    have hOd := LD.off hOd hu (fun h => h)
    by_cases c0 : e9 = 0
    · subst c0
      rw [if_pos rfl] at hf
      have hre := Option.some.inj hf
      subst hre
      refine vx_catch (E := "java/lang/IndexOutOfBoundsException") (name := "java/lang/IndexOutOfBoundsException") hown [] ⟨0, 10, 13, 23⟩ [⟨0, 10, 17, 52⟩] (htb.trans rfl) (fun _ h => absurd h List.not_mem_nil) (by decide) (by decide) (hw _ kl_L_23) (va_Nw.use rfl (hE.2.2.2.2.1 _ kx_0 rfl)) hce hcv hcl ?_
      refine lv_astore (lv' := [(4, .ref q), (0, .ref (B + 0)), (1, .int a1), (2, .int a2), (3, .ref (B + 212))]) hx hb dL_hopsBySets_13 hl (by decide) rfl (fun ls hl => ?_)
      refine lv_iconst (v := 1) hx hb dL_hopsBySets_15 (by decide) ?_
      refine W.widen (k := 3) (n := 18) (by decide) (by decide) ?_
      exact mu_i (v := 1) hx hb hrt hlocks ⟨hG, hN, hT, hV, hHs, hQ, hR, hP, hSb, hO, hOd⟩ hS dL_hopsBySets_16
    by_cases c1 : e9 = 5
    · subst c1
      rw [if_neg (by decide), if_pos rfl] at hf
      have hre := Option.some.inj hf
      subst hre
      refine vx_catch (E := "java/util/NoSuchElementException") (name := "java/util/NoSuchElementException") hown [⟨0, 10, 13, 23⟩] ⟨0, 10, 17, 52⟩ [] (htb.trans rfl) (List.forall_mem_cons.mpr ⟨Or.inr ⟨by decide, "java/lang/IndexOutOfBoundsException", hw _ kl_L_23, hE.nc (by simp)⟩, (fun _ h => absurd h List.not_mem_nil)⟩) (by decide) (by decide) (hw _ kl_L_52) (va_Nw.use rfl (hE.2.2.2.2.1 _ kx_5 rfl)) hce hcv hcl ?_
      refine lv_astore (lv' := [(4, .ref q), (0, .ref (B + 0)), (1, .int a1), (2, .int a2), (3, .ref (B + 212))]) hx hb dL_hopsBySets_17 hl (by decide) rfl (fun ls hl => ?_)
      refine lv_iconst (v := 2) hx hb dL_hopsBySets_19 (by decide) ?_
      refine W.widen (k := 3) (n := 18) (by decide) (by decide) ?_
      exact mu_i (v := 2) hx hb hrt hlocks ⟨hG, hN, hT, hV, hHs, hQ, hR, hP, hSb, hO, hOd⟩ hS dL_hopsBySets_20
    rw [if_neg c0, if_neg c1] at hf
    exact nomatch hf
  · have hf := sx_r ev hf
    obtain ⟨hG, hN, hR⟩ := hP9
    have hT := Blk.off hT hu (fun _ _ _ h => h)
    have hV := Blk.off hV hu (fun _ _ _ h => h)
    have hHs := Blk.off hHs hu (fun _ _ _ h => h)
    have hQ := Fam.off hQ hu (fun _ _ _ h => h)
    have hP := Blk.off hP hu (fun _ _ _ h => h)
    have hSb := SBt.off hSb hz hu (fun _ _ h => h)
    have hO := LO.off hO hu (fun h => h)
    have hOd := LD.off hOd hu (fun h => h)
    refine lv_i2l hx hb dL_hopsBySets_8 rfl ?_
    refine w_last hx hb hE hO hS (Or.inr (by omega)) dL_hopsBySets_9 (fun H locs hO z9 oq hS => ?_)
    have hG := Blk.offq hG oq (by omega)
    have hN := Blk.offq hN oq (by omega)
    have hT := Blk.offq hT oq (by omega)
    have hV := Blk.offq hV oq (by omega)
    have hHs := Blk.offq hHs oq (by omega)
    have hQ := Fam.offq hQ oq (by omega)
    have hR := Blk.offq hR oq (by omega)
    have hP := Blk.offq hP oq (by omega)
    have hSb := SBt.offq hSb z9 oq (by omega) (by omega)
    have hOd := LD.offq hOd oq (by omega)
    refine lv_goto (tgt := 21) hx hb dL_hopsBySets_10 (by decide) ?_
    have hre := Option.some.inj hf
    subst hre
    refine lv_iconst (v := 0) hx hb dL_hopsBySets_21 (by decide) ?_
    refine W.widen (k := 3) (n := 18) (by decide) (by decide) ?_
    exact mu_i (v := 0) hx hb hrt hlocks ⟨hG, hN, hT, hV, hHs, hQ, hR, hP, hSb, hO, hOd⟩ hS dL_hopsBySets_22
noncomputable def fL_reachable (z : KS) (a1 : Int32) : Option (Int32 × KS) := (fX11_reachable z.G z.N z.R a1).bind fun z1 => sx z1 (fun e9 => (if e9 = 0 then some (1, (KS.mk z.G z.N z.T z.V z.Hs z.Q z.R z.P z.Sb z.o z.od)) else none)) (fun v => some (0, (KS.mk z.G z.N z.T z.V z.Hs z.Q z.R z.P z.Sb v.toInt64 z.od)))
set_option maxHeartbeats 4000000 in
set_option maxRecDepth 100000 in
theorem mL_reachable (l : Launch) (E : EP) (B0 : Nat) (htr : l.stackTraces = false) (B : Nat) (hb0 : B0 ≤ B) (z : KS) (a1 : Int32) (r : Int32 × KS) (hf : fL_reachable z a1 = some r) : MW l E B0 yL_reachable cL_reachable 4 (some .int) [(0, 9, 12, 23)] 10 1 6 [.ref (B + 0), .int a1, .ref (B + 212)] (CW E B z) (some (.int r.1)) (CW E B r.2) (cA B) := by
  refine mw_of (by decide +kernel) (Nat.le_of_ble_eq_true rfl) ?_
  intro p e s m args below meth c hx hb hml hown hw hrt hlocks htb hE H hP9 hS ls hl
  obtain ⟨hG, hN, hT, hV, hHs, hQ, hR, hP, hSb, hO, hOd⟩ := hP9
  have hown : s.vm.findClass RL = some m.cls := hown
  have hl : lv_has ls 4 [(0, .ref (B + 0)), (1, .int a1), (2, .ref (B + 212))] := hl
  have hAB : ∀ q, cA B q → B0 ≤ q := cA_ge hb0
  unfold fL_reachable at hf
  obtain ⟨z1, hc, hf⟩ := br_some hf
  refine lv_aload_n hx hb dL_reachable_0 rfl (lv_at hl 2 rfl) ?_
  refine lv_iconst (v := 0) hx hb dL_reachable_1 (by decide) ?_
  refine lv_aload_n hx hb dL_reachable_2 rfl (lv_at hl 0 rfl) ?_
  refine lv_iload_n hx hb dL_reachable_3 rfl (lv_at hl 1 rfl) ?_
  refine mg_xV (As := [.int a1]) (rest := [.int 0, .ref (B + 212)]) hx hb hml hown hw hE (mX11_reachable l E B0 htr B (B + 214) (by omega) (by omega) z.G z.N z.R a1 z1 hc) cv_L_111 (w_recv (k := 0) (ci := 11) hE hG (by decide) rfl rfl) ⟨hG, hN, hR⟩ hS hAB (fun _ h => h.elim) rfl hl.1 rfl (by decide) (by decide) (Nat.le_of_ble_eq_true rfl) ⟨by decide, by decide⟩ dL_reachable_4 (fun e9 ee H locs ce q hP9 hz hu hS hce hcv hcl => ?_) (fun v ev H locs hP9 hz hu hS => ?_)
  · have hf := sx_l ee hf
    obtain ⟨hG, hN, hR⟩ := hP9
    have hT := Blk.off hT hu (fun _ _ _ h => h)
    have hV := Blk.off hV hu (fun _ _ _ h => h)
    have hHs := Blk.off hHs hu (fun _ _ _ h => h)
    have hQ := Fam.off hQ hu (fun _ _ _ h => h)
    have hP := Blk.off hP hu (fun _ _ _ h => h)
    have hSb := SBt.off hSb hz hu (fun _ _ h => h)
    have hO := LO.off hO hu (fun h => h)
    have hOd := LD.off hOd hu (fun h => h)
    by_cases c0 : e9 = 0
    · subst c0
      rw [if_pos rfl] at hf
      have hre := Option.some.inj hf
      subst hre
      refine vx_catch (E := "java/lang/IndexOutOfBoundsException") (name := "java/lang/IndexOutOfBoundsException") hown [] ⟨0, 9, 12, 23⟩ [] (htb.trans rfl) (fun _ h => absurd h List.not_mem_nil) (by decide) (by decide) (hw _ kl_L_23) (va_Nw.use rfl (hE.2.2.2.2.1 _ kx_0 rfl)) hce hcv hcl ?_
      refine lv_astore_n (lv' := [(3, .ref q), (0, .ref (B + 0)), (1, .int a1), (2, .ref (B + 212))]) hx hb dL_reachable_12 rfl hl (by decide) rfl (fun ls hl => ?_)
      refine lv_iconst (v := 1) hx hb dL_reachable_13 (by decide) ?_
      refine W.widen (k := 1) (n := 6) (by decide) (by decide) ?_
      exact mu_i (v := 1) hx hb hrt hlocks ⟨hG, hN, hT, hV, hHs, hQ, hR, hP, hSb, hO, hOd⟩ hS dL_reachable_14
    rw [if_neg c0] at hf
    exact nomatch hf
  · have hf := sx_r ev hf
    obtain ⟨hG, hN, hR⟩ := hP9
    have hT := Blk.off hT hu (fun _ _ _ h => h)
    have hV := Blk.off hV hu (fun _ _ _ h => h)
    have hHs := Blk.off hHs hu (fun _ _ _ h => h)
    have hQ := Fam.off hQ hu (fun _ _ _ h => h)
    have hP := Blk.off hP hu (fun _ _ _ h => h)
    have hSb := SBt.off hSb hz hu (fun _ _ h => h)
    have hO := LO.off hO hu (fun h => h)
    have hOd := LD.off hOd hu (fun h => h)
    refine lv_i2l hx hb dL_reachable_7 rfl ?_
    refine w_last hx hb hE hO hS (Or.inr (by omega)) dL_reachable_8 (fun H locs hO z9 oq hS => ?_)
    have hG := Blk.offq hG oq (by omega)
    have hN := Blk.offq hN oq (by omega)
    have hT := Blk.offq hT oq (by omega)
    have hV := Blk.offq hV oq (by omega)
    have hHs := Blk.offq hHs oq (by omega)
    have hQ := Fam.offq hQ oq (by omega)
    have hR := Blk.offq hR oq (by omega)
    have hP := Blk.offq hP oq (by omega)
    have hSb := SBt.offq hSb z9 oq (by omega) (by omega)
    have hOd := LD.offq hOd oq (by omega)
    refine lv_goto (tgt := 15) hx hb dL_reachable_9 (by decide) ?_
    have hre := Option.some.inj hf
    subst hre
    refine lv_iconst (v := 0) hx hb dL_reachable_15 (by decide) ?_
    refine W.widen (k := 1) (n := 6) (by decide) (by decide) ?_
    exact mu_i (v := 0) hx hb hrt hlocks ⟨hG, hN, hT, hV, hHs, hQ, hR, hP, hSb, hO, hOd⟩ hS dL_reachable_16
noncomputable def fL_logStation (z : KS) (a1 : Int32) : Option (Int32 × KS) := (fX11_logStation z.G z.N a1).bind fun z1 => sx z1 (fun e9 => (if e9 = 0 then some (1, (KS.mk z.G z.N z.T z.V z.Hs z.Q z.R z.P z.Sb z.o z.od)) else none)) (fun v => some (0, (KS.mk z.G z.N z.T z.V z.Hs z.Q z.R z.P z.Sb v.toInt64 z.od)))
set_option maxHeartbeats 4000000 in
set_option maxRecDepth 100000 in
theorem mL_logStation (l : Launch) (E : EP) (B0 : Nat) (htr : l.stackTraces = false) (B : Nat) (hb0 : B0 ≤ B) (z : KS) (a1 : Int32) (r : Int32 × KS) (hf : fL_logStation z a1 = some r) : MW l E B0 yL_logStation cL_logStation 4 (some .int) [(0, 9, 12, 23)] 10 1 6 [.ref (B + 0), .int a1, .ref (B + 212)] (CW E B z) (some (.int r.1)) (CW E B r.2) (cA B) := by
  refine mw_of (by decide +kernel) (Nat.le_of_ble_eq_true rfl) ?_
  intro p e s m args below meth c hx hb hml hown hw hrt hlocks htb hE H hP9 hS ls hl
  obtain ⟨hG, hN, hT, hV, hHs, hQ, hR, hP, hSb, hO, hOd⟩ := hP9
  have hown : s.vm.findClass RL = some m.cls := hown
  have hl : lv_has ls 4 [(0, .ref (B + 0)), (1, .int a1), (2, .ref (B + 212))] := hl
  have hAB : ∀ q, cA B q → B0 ≤ q := cA_ge hb0
  unfold fL_logStation at hf
  obtain ⟨z1, hc, hf⟩ := br_some hf
  refine lv_aload_n hx hb dL_logStation_0 rfl (lv_at hl 2 rfl) ?_
  refine lv_iconst (v := 0) hx hb dL_logStation_1 (by decide) ?_
  refine lv_aload_n hx hb dL_logStation_2 rfl (lv_at hl 0 rfl) ?_
  refine lv_iload_n hx hb dL_logStation_3 rfl (lv_at hl 1 rfl) ?_
  refine mg_xV (As := [.int a1]) (rest := [.int 0, .ref (B + 212)]) hx hb hml hown hw hE (mX11_logStation l E B0 htr B (B + 214) (by omega) (by omega) z.G z.N a1 z1 hc) cv_L_114 (w_recv (k := 0) (ci := 11) hE hG (by decide) rfl rfl) ⟨hG, hN⟩ hS hAB (fun _ h => h.elim) rfl hl.1 rfl (by decide) (by decide) (Nat.le_of_ble_eq_true rfl) ⟨by decide, by decide⟩ dL_logStation_4 (fun e9 ee H locs ce q hP9 hz hu hS hce hcv hcl => ?_) (fun v ev H locs hP9 hz hu hS => ?_)
  · have hf := sx_l ee hf
    obtain ⟨hG, hN⟩ := hP9
    have hT := Blk.off hT hu (fun _ _ _ h => h)
    have hV := Blk.off hV hu (fun _ _ _ h => h)
    have hHs := Blk.off hHs hu (fun _ _ _ h => h)
    have hQ := Fam.off hQ hu (fun _ _ _ h => h)
    have hR := Blk.off hR hu (fun _ _ _ h => h)
    have hP := Blk.off hP hu (fun _ _ _ h => h)
    have hSb := SBt.off hSb hz hu (fun _ _ h => h)
    have hO := LO.off hO hu (fun h => h)
    have hOd := LD.off hOd hu (fun h => h)
    by_cases c0 : e9 = 0
    · subst c0
      rw [if_pos rfl] at hf
      have hre := Option.some.inj hf
      subst hre
      refine vx_catch (E := "java/lang/IndexOutOfBoundsException") (name := "java/lang/IndexOutOfBoundsException") hown [] ⟨0, 9, 12, 23⟩ [] (htb.trans rfl) (fun _ h => absurd h List.not_mem_nil) (by decide) (by decide) (hw _ kl_L_23) (va_Nw.use rfl (hE.2.2.2.2.1 _ kx_0 rfl)) hce hcv hcl ?_
      refine lv_astore_n (lv' := [(3, .ref q), (0, .ref (B + 0)), (1, .int a1), (2, .ref (B + 212))]) hx hb dL_logStation_12 rfl hl (by decide) rfl (fun ls hl => ?_)
      refine lv_iconst (v := 1) hx hb dL_logStation_13 (by decide) ?_
      refine W.widen (k := 1) (n := 6) (by decide) (by decide) ?_
      exact mu_i (v := 1) hx hb hrt hlocks ⟨hG, hN, hT, hV, hHs, hQ, hR, hP, hSb, hO, hOd⟩ hS dL_logStation_14
    rw [if_neg c0] at hf
    exact nomatch hf
  · have hf := sx_r ev hf
    obtain ⟨hG, hN⟩ := hP9
    have hT := Blk.off hT hu (fun _ _ _ h => h)
    have hV := Blk.off hV hu (fun _ _ _ h => h)
    have hHs := Blk.off hHs hu (fun _ _ _ h => h)
    have hQ := Fam.off hQ hu (fun _ _ _ h => h)
    have hR := Blk.off hR hu (fun _ _ _ h => h)
    have hP := Blk.off hP hu (fun _ _ _ h => h)
    have hSb := SBt.off hSb hz hu (fun _ _ h => h)
    have hO := LO.off hO hu (fun h => h)
    have hOd := LD.off hOd hu (fun h => h)
    refine lv_i2l hx hb dL_logStation_7 rfl ?_
    refine w_last hx hb hE hO hS (Or.inr (by omega)) dL_logStation_8 (fun H locs hO z9 oq hS => ?_)
    have hG := Blk.offq hG oq (by omega)
    have hN := Blk.offq hN oq (by omega)
    have hT := Blk.offq hT oq (by omega)
    have hV := Blk.offq hV oq (by omega)
    have hHs := Blk.offq hHs oq (by omega)
    have hQ := Fam.offq hQ oq (by omega)
    have hR := Blk.offq hR oq (by omega)
    have hP := Blk.offq hP oq (by omega)
    have hSb := SBt.offq hSb z9 oq (by omega) (by omega)
    have hOd := LD.offq hOd oq (by omega)
    refine lv_goto (tgt := 15) hx hb dL_logStation_9 (by decide) ?_
    have hre := Option.some.inj hf
    subst hre
    refine lv_iconst (v := 0) hx hb dL_logStation_15 (by decide) ?_
    refine W.widen (k := 1) (n := 6) (by decide) (by decide) ?_
    exact mu_i (v := 0) hx hb hrt hlocks ⟨hG, hN, hT, hV, hHs, hQ, hR, hP, hSb, hO, hOd⟩ hS dL_logStation_16
noncomputable def fL_logBegin (z : KS) (a1 : Int32) : Option (Int32 × KS) := (fX11_logBegin z.G z.N a1).bind fun z1 => sx z1 (fun e9 => (if e9 = 0 then some (1, (KS.mk z.G z.N z.T z.V z.Hs z.Q z.R z.P z.Sb z.o z.od)) else none)) (fun v => some (0, (KS.mk z.G z.N z.T z.V z.Hs z.Q z.R z.P z.Sb v.toInt64 z.od)))
set_option maxHeartbeats 4000000 in
set_option maxRecDepth 100000 in
theorem mL_logBegin (l : Launch) (E : EP) (B0 : Nat) (htr : l.stackTraces = false) (B : Nat) (hb0 : B0 ≤ B) (z : KS) (a1 : Int32) (r : Int32 × KS) (hf : fL_logBegin z a1 = some r) : MW l E B0 yL_logBegin cL_logBegin 4 (some .int) [(0, 9, 12, 23)] 10 1 6 [.ref (B + 0), .int a1, .ref (B + 212)] (CW E B z) (some (.int r.1)) (CW E B r.2) (cA B) := by
  refine mw_of (by decide +kernel) (Nat.le_of_ble_eq_true rfl) ?_
  intro p e s m args below meth c hx hb hml hown hw hrt hlocks htb hE H hP9 hS ls hl
  obtain ⟨hG, hN, hT, hV, hHs, hQ, hR, hP, hSb, hO, hOd⟩ := hP9
  have hown : s.vm.findClass RL = some m.cls := hown
  have hl : lv_has ls 4 [(0, .ref (B + 0)), (1, .int a1), (2, .ref (B + 212))] := hl
  have hAB : ∀ q, cA B q → B0 ≤ q := cA_ge hb0
  unfold fL_logBegin at hf
  obtain ⟨z1, hc, hf⟩ := br_some hf
  refine lv_aload_n hx hb dL_logBegin_0 rfl (lv_at hl 2 rfl) ?_
  refine lv_iconst (v := 0) hx hb dL_logBegin_1 (by decide) ?_
  refine lv_aload_n hx hb dL_logBegin_2 rfl (lv_at hl 0 rfl) ?_
  refine lv_iload_n hx hb dL_logBegin_3 rfl (lv_at hl 1 rfl) ?_
  refine mg_xV (As := [.int a1]) (rest := [.int 0, .ref (B + 212)]) hx hb hml hown hw hE (mX11_logBegin l E B0 htr B (B + 214) (by omega) (by omega) z.G z.N a1 z1 hc) cv_L_117 (w_recv (k := 0) (ci := 11) hE hG (by decide) rfl rfl) ⟨hG, hN⟩ hS hAB (fun _ h => h.elim) rfl hl.1 rfl (by decide) (by decide) (Nat.le_of_ble_eq_true rfl) ⟨by decide, by decide⟩ dL_logBegin_4 (fun e9 ee H locs ce q hP9 hz hu hS hce hcv hcl => ?_) (fun v ev H locs hP9 hz hu hS => ?_)
  · have hf := sx_l ee hf
    obtain ⟨hG, hN⟩ := hP9
    have hT := Blk.off hT hu (fun _ _ _ h => h)
    have hV := Blk.off hV hu (fun _ _ _ h => h)
    have hHs := Blk.off hHs hu (fun _ _ _ h => h)
    have hQ := Fam.off hQ hu (fun _ _ _ h => h)
    have hR := Blk.off hR hu (fun _ _ _ h => h)
    have hP := Blk.off hP hu (fun _ _ _ h => h)
    have hSb := SBt.off hSb hz hu (fun _ _ h => h)
    have hO := LO.off hO hu (fun h => h)
    have hOd := LD.off hOd hu (fun h => h)
    by_cases c0 : e9 = 0
    · subst c0
      rw [if_pos rfl] at hf
      have hre := Option.some.inj hf
      subst hre
      refine vx_catch (E := "java/lang/IndexOutOfBoundsException") (name := "java/lang/IndexOutOfBoundsException") hown [] ⟨0, 9, 12, 23⟩ [] (htb.trans rfl) (fun _ h => absurd h List.not_mem_nil) (by decide) (by decide) (hw _ kl_L_23) (va_Nw.use rfl (hE.2.2.2.2.1 _ kx_0 rfl)) hce hcv hcl ?_
      refine lv_astore_n (lv' := [(3, .ref q), (0, .ref (B + 0)), (1, .int a1), (2, .ref (B + 212))]) hx hb dL_logBegin_12 rfl hl (by decide) rfl (fun ls hl => ?_)
      refine lv_iconst (v := 1) hx hb dL_logBegin_13 (by decide) ?_
      refine W.widen (k := 1) (n := 6) (by decide) (by decide) ?_
      exact mu_i (v := 1) hx hb hrt hlocks ⟨hG, hN, hT, hV, hHs, hQ, hR, hP, hSb, hO, hOd⟩ hS dL_logBegin_14
    rw [if_neg c0] at hf
    exact nomatch hf
  · have hf := sx_r ev hf
    obtain ⟨hG, hN⟩ := hP9
    have hT := Blk.off hT hu (fun _ _ _ h => h)
    have hV := Blk.off hV hu (fun _ _ _ h => h)
    have hHs := Blk.off hHs hu (fun _ _ _ h => h)
    have hQ := Fam.off hQ hu (fun _ _ _ h => h)
    have hR := Blk.off hR hu (fun _ _ _ h => h)
    have hP := Blk.off hP hu (fun _ _ _ h => h)
    have hSb := SBt.off hSb hz hu (fun _ _ h => h)
    have hO := LO.off hO hu (fun h => h)
    have hOd := LD.off hOd hu (fun h => h)
    refine lv_i2l hx hb dL_logBegin_7 rfl ?_
    refine w_last hx hb hE hO hS (Or.inr (by omega)) dL_logBegin_8 (fun H locs hO z9 oq hS => ?_)
    have hG := Blk.offq hG oq (by omega)
    have hN := Blk.offq hN oq (by omega)
    have hT := Blk.offq hT oq (by omega)
    have hV := Blk.offq hV oq (by omega)
    have hHs := Blk.offq hHs oq (by omega)
    have hQ := Fam.offq hQ oq (by omega)
    have hR := Blk.offq hR oq (by omega)
    have hP := Blk.offq hP oq (by omega)
    have hSb := SBt.offq hSb z9 oq (by omega) (by omega)
    have hOd := LD.offq hOd oq (by omega)
    refine lv_goto (tgt := 15) hx hb dL_logBegin_9 (by decide) ?_
    have hre := Option.some.inj hf
    subst hre
    refine lv_iconst (v := 0) hx hb dL_logBegin_15 (by decide) ?_
    refine W.widen (k := 1) (n := 6) (by decide) (by decide) ?_
    exact mu_i (v := 0) hx hb hrt hlocks ⟨hG, hN, hT, hV, hHs, hQ, hR, hP, hSb, hO, hOd⟩ hS dL_logBegin_16
noncomputable def fL_logMinutes (z : KS) (a1 : Int32) : Option (Int32 × KS) := (fX11_logMinutes z.G z.N a1).bind fun z1 => sx z1 (fun e9 => (if e9 = 0 then some (1, (KS.mk z.G z.N z.T z.V z.Hs z.Q z.R z.P z.Sb z.o z.od)) else none)) (fun v => some (0, (KS.mk z.G z.N z.T z.V z.Hs z.Q z.R z.P z.Sb v.toInt64 z.od)))
set_option maxHeartbeats 4000000 in
set_option maxRecDepth 100000 in
theorem mL_logMinutes (l : Launch) (E : EP) (B0 : Nat) (htr : l.stackTraces = false) (B : Nat) (hb0 : B0 ≤ B) (z : KS) (a1 : Int32) (r : Int32 × KS) (hf : fL_logMinutes z a1 = some r) : MW l E B0 yL_logMinutes cL_logMinutes 4 (some .int) [(0, 9, 12, 23)] 10 1 6 [.ref (B + 0), .int a1, .ref (B + 212)] (CW E B z) (some (.int r.1)) (CW E B r.2) (cA B) := by
  refine mw_of (by decide +kernel) (Nat.le_of_ble_eq_true rfl) ?_
  intro p e s m args below meth c hx hb hml hown hw hrt hlocks htb hE H hP9 hS ls hl
  obtain ⟨hG, hN, hT, hV, hHs, hQ, hR, hP, hSb, hO, hOd⟩ := hP9
  have hown : s.vm.findClass RL = some m.cls := hown
  have hl : lv_has ls 4 [(0, .ref (B + 0)), (1, .int a1), (2, .ref (B + 212))] := hl
  have hAB : ∀ q, cA B q → B0 ≤ q := cA_ge hb0
  unfold fL_logMinutes at hf
  obtain ⟨z1, hc, hf⟩ := br_some hf
  refine lv_aload_n hx hb dL_logMinutes_0 rfl (lv_at hl 2 rfl) ?_
  refine lv_iconst (v := 0) hx hb dL_logMinutes_1 (by decide) ?_
  refine lv_aload_n hx hb dL_logMinutes_2 rfl (lv_at hl 0 rfl) ?_
  refine lv_iload_n hx hb dL_logMinutes_3 rfl (lv_at hl 1 rfl) ?_
  refine mg_xV (As := [.int a1]) (rest := [.int 0, .ref (B + 212)]) hx hb hml hown hw hE (mX11_logMinutes l E B0 htr B (B + 214) (by omega) (by omega) z.G z.N a1 z1 hc) cv_L_120 (w_recv (k := 0) (ci := 11) hE hG (by decide) rfl rfl) ⟨hG, hN⟩ hS hAB (fun _ h => h.elim) rfl hl.1 rfl (by decide) (by decide) (Nat.le_of_ble_eq_true rfl) ⟨by decide, by decide⟩ dL_logMinutes_4 (fun e9 ee H locs ce q hP9 hz hu hS hce hcv hcl => ?_) (fun v ev H locs hP9 hz hu hS => ?_)
  · have hf := sx_l ee hf
    obtain ⟨hG, hN⟩ := hP9
    have hT := Blk.off hT hu (fun _ _ _ h => h)
    have hV := Blk.off hV hu (fun _ _ _ h => h)
    have hHs := Blk.off hHs hu (fun _ _ _ h => h)
    have hQ := Fam.off hQ hu (fun _ _ _ h => h)
    have hR := Blk.off hR hu (fun _ _ _ h => h)
    have hP := Blk.off hP hu (fun _ _ _ h => h)
    have hSb := SBt.off hSb hz hu (fun _ _ h => h)
    have hO := LO.off hO hu (fun h => h)
    have hOd := LD.off hOd hu (fun h => h)
    by_cases c0 : e9 = 0
    · subst c0
      rw [if_pos rfl] at hf
      have hre := Option.some.inj hf
      subst hre
      refine vx_catch (E := "java/lang/IndexOutOfBoundsException") (name := "java/lang/IndexOutOfBoundsException") hown [] ⟨0, 9, 12, 23⟩ [] (htb.trans rfl) (fun _ h => absurd h List.not_mem_nil) (by decide) (by decide) (hw _ kl_L_23) (va_Nw.use rfl (hE.2.2.2.2.1 _ kx_0 rfl)) hce hcv hcl ?_
      refine lv_astore_n (lv' := [(3, .ref q), (0, .ref (B + 0)), (1, .int a1), (2, .ref (B + 212))]) hx hb dL_logMinutes_12 rfl hl (by decide) rfl (fun ls hl => ?_)
      refine lv_iconst (v := 1) hx hb dL_logMinutes_13 (by decide) ?_
      refine W.widen (k := 1) (n := 6) (by decide) (by decide) ?_
      exact mu_i (v := 1) hx hb hrt hlocks ⟨hG, hN, hT, hV, hHs, hQ, hR, hP, hSb, hO, hOd⟩ hS dL_logMinutes_14
    rw [if_neg c0] at hf
    exact nomatch hf
  · have hf := sx_r ev hf
    obtain ⟨hG, hN⟩ := hP9
    have hT := Blk.off hT hu (fun _ _ _ h => h)
    have hV := Blk.off hV hu (fun _ _ _ h => h)
    have hHs := Blk.off hHs hu (fun _ _ _ h => h)
    have hQ := Fam.off hQ hu (fun _ _ _ h => h)
    have hR := Blk.off hR hu (fun _ _ _ h => h)
    have hP := Blk.off hP hu (fun _ _ _ h => h)
    have hSb := SBt.off hSb hz hu (fun _ _ h => h)
    have hO := LO.off hO hu (fun h => h)
    have hOd := LD.off hOd hu (fun h => h)
    refine lv_i2l hx hb dL_logMinutes_7 rfl ?_
    refine w_last hx hb hE hO hS (Or.inr (by omega)) dL_logMinutes_8 (fun H locs hO z9 oq hS => ?_)
    have hG := Blk.offq hG oq (by omega)
    have hN := Blk.offq hN oq (by omega)
    have hT := Blk.offq hT oq (by omega)
    have hV := Blk.offq hV oq (by omega)
    have hHs := Blk.offq hHs oq (by omega)
    have hQ := Fam.offq hQ oq (by omega)
    have hR := Blk.offq hR oq (by omega)
    have hP := Blk.offq hP oq (by omega)
    have hSb := SBt.offq hSb z9 oq (by omega) (by omega)
    have hOd := LD.offq hOd oq (by omega)
    refine lv_goto (tgt := 15) hx hb dL_logMinutes_9 (by decide) ?_
    have hre := Option.some.inj hf
    subst hre
    refine lv_iconst (v := 0) hx hb dL_logMinutes_15 (by decide) ?_
    refine W.widen (k := 1) (n := 6) (by decide) (by decide) ?_
    exact mu_i (v := 0) hx hb hrt hlocks ⟨hG, hN, hT, hV, hHs, hQ, hR, hP, hSb, hO, hOd⟩ hS dL_logMinutes_16
noncomputable def fL_meanPower (z : KS) : Option (Int32 × KS) := (fX11_meanPower z.G z.N).bind fun z1 => sx z1 (fun e9 => (if e9 = 4 then some (1, (KS.mk z.G z.N z.T z.V z.Hs z.Q z.R z.P z.Sb z.o z.od)) else none)) (fun v => some (0, (KS.mk z.G z.N z.T z.V z.Hs z.Q z.R z.P z.Sb z.o v)))
set_option maxHeartbeats 4000000 in
set_option maxRecDepth 100000 in
theorem mL_meanPower (l : Launch) (E : EP) (B0 : Nat) (htr : l.stackTraces = false) (B : Nat) (hb0 : B0 ≤ B) (z : KS) (r : Int32 × KS) (hf : fL_meanPower z = some r) : MW l E B0 yL_meanPower cL_meanPower 3 (some .int) [(0, 7, 10, 127)] 9 1 6 [.ref (B + 0), .ref (B + 213)] (CW E B z) (some (.int r.1)) (CW E B r.2) (cA B) := by
  refine mw_of (by decide +kernel) (Nat.le_of_ble_eq_true rfl) ?_
  intro p e s m args below meth c hx hb hml hown hw hrt hlocks htb hE H hP9 hS ls hl
  obtain ⟨hG, hN, hT, hV, hHs, hQ, hR, hP, hSb, hO, hOd⟩ := hP9
  have hown : s.vm.findClass RL = some m.cls := hown
  have hl : lv_has ls 3 [(0, .ref (B + 0)), (1, .ref (B + 213))] := hl
  have hAB : ∀ q, cA B q → B0 ≤ q := cA_ge hb0
  unfold fL_meanPower at hf
  obtain ⟨z1, hc, hf⟩ := br_some hf
  refine lv_aload_n hx hb dL_meanPower_0 rfl (lv_at hl 1 rfl) ?_
  refine lv_iconst (v := 0) hx hb dL_meanPower_1 (by decide) ?_
  refine lv_aload_n hx hb dL_meanPower_2 rfl (lv_at hl 0 rfl) ?_
  refine mg_xV (As := []) (rest := [.int 0, .ref (B + 213)]) hx hb hml hown hw hE (mX11_meanPower l E B0 htr B (B + 214) (by omega) (by omega) z.G z.N z1 hc) cv_L_123 (w_recv (k := 0) (ci := 11) hE hG (by decide) rfl rfl) ⟨hG, hN⟩ hS hAB (fun _ h => h.elim) rfl hl.1 rfl (by decide) (by decide) (Nat.le_of_ble_eq_true rfl) ⟨by decide, by decide⟩ dL_meanPower_3 (fun e9 ee H locs ce q hP9 hz hu hS hce hcv hcl => ?_) (fun v ev H locs hP9 hz hu hS => ?_)
  · have hf := sx_l ee hf
    obtain ⟨hG, hN⟩ := hP9
    have hT := Blk.off hT hu (fun _ _ _ h => h)
    have hV := Blk.off hV hu (fun _ _ _ h => h)
    have hHs := Blk.off hHs hu (fun _ _ _ h => h)
    have hQ := Fam.off hQ hu (fun _ _ _ h => h)
    have hR := Blk.off hR hu (fun _ _ _ h => h)
    have hP := Blk.off hP hu (fun _ _ _ h => h)
    have hSb := SBt.off hSb hz hu (fun _ _ h => h)
    have hO := LO.off hO hu (fun h => h)
    have hOd := LD.off hOd hu (fun h => h)
    by_cases c0 : e9 = 4
    · subst c0
      rw [if_pos rfl] at hf
      have hre := Option.some.inj hf
      subst hre
      refine vx_catch (E := "java/lang/ArithmeticException") (name := "java/lang/ArithmeticException") hown [] ⟨0, 7, 10, 127⟩ [] (htb.trans rfl) (fun _ h => absurd h List.not_mem_nil) (by decide) (by decide) (hw _ kl_L_127) (va_Nw.use rfl (hE.2.2.2.2.1 _ kx_4 rfl)) hce hcv hcl ?_
      refine lv_astore_n (lv' := [(2, .ref q), (0, .ref (B + 0)), (1, .ref (B + 213))]) hx hb dL_meanPower_10 rfl hl (by decide) rfl (fun ls hl => ?_)
      refine lv_iconst (v := 1) hx hb dL_meanPower_11 (by decide) ?_
      refine W.widen (k := 1) (n := 6) (by decide) (by decide) ?_
      exact mu_i (v := 1) hx hb hrt hlocks ⟨hG, hN, hT, hV, hHs, hQ, hR, hP, hSb, hO, hOd⟩ hS dL_meanPower_12
    rw [if_neg c0] at hf
    exact nomatch hf
  · have hf := sx_r ev hf
    obtain ⟨hG, hN⟩ := hP9
    have hT := Blk.off hT hu (fun _ _ _ h => h)
    have hV := Blk.off hV hu (fun _ _ _ h => h)
    have hHs := Blk.off hHs hu (fun _ _ _ h => h)
    have hQ := Fam.off hQ hu (fun _ _ _ h => h)
    have hR := Blk.off hR hu (fun _ _ _ h => h)
    have hP := Blk.off hP hu (fun _ _ _ h => h)
    have hSb := SBt.off hSb hz hu (fun _ _ h => h)
    have hO := LO.off hO hu (fun h => h)
    have hOd := LD.off hOd hu (fun h => h)
    refine w_dast hx hb hE hOd hS (Or.inr (by omega)) dL_meanPower_6 (fun H locs hOd z9 oq hS => ?_)
    have hG := Blk.offq hG oq (by omega)
    have hN := Blk.offq hN oq (by omega)
    have hT := Blk.offq hT oq (by omega)
    have hV := Blk.offq hV oq (by omega)
    have hHs := Blk.offq hHs oq (by omega)
    have hQ := Fam.offq hQ oq (by omega)
    have hR := Blk.offq hR oq (by omega)
    have hP := Blk.offq hP oq (by omega)
    have hSb := SBt.offq hSb z9 oq (by omega) (by omega)
    have hO := LO.offq hO oq (by omega)
    refine lv_goto (tgt := 13) hx hb dL_meanPower_7 (by decide) ?_
    have hre := Option.some.inj hf
    subst hre
    refine lv_iconst (v := 0) hx hb dL_meanPower_13 (by decide) ?_
    refine W.widen (k := 1) (n := 6) (by decide) (by decide) ?_
    exact mu_i (v := 0) hx hb hrt hlocks ⟨hG, hN, hT, hV, hHs, hQ, hR, hP, hSb, hO, hOd⟩ hS dL_meanPower_14
noncomputable def fL_airtime (z : KS) : Option (Int32 × KS) := (fX11_airtime z.G z.N).bind fun z1 => sx z1 (fun e9 => (if e9 = 4 then some (1, (KS.mk z.G z.N z.T z.V z.Hs z.Q z.R z.P z.Sb z.o z.od)) else none)) (fun v => gd (n32b v) (some (0, (KS.mk z.G z.N z.T z.V z.Hs z.Q z.R z.P z.Sb z.o (FP.f2d v)))))
set_option maxHeartbeats 4000000 in
set_option maxRecDepth 100000 in
theorem mL_airtime (l : Launch) (E : EP) (B0 : Nat) (htr : l.stackTraces = false) (B : Nat) (hb0 : B0 ≤ B) (z : KS) (r : Int32 × KS) (hf : fL_airtime z = some r) : MW l E B0 yL_airtime cL_airtime 3 (some .int) [(0, 8, 11, 127)] 9 1 6 [.ref (B + 0), .ref (B + 213)] (CW E B z) (some (.int r.1)) (CW E B r.2) (cA B) := by
  refine mw_of (by decide +kernel) (Nat.le_of_ble_eq_true rfl) ?_
  intro p e s m args below meth c hx hb hml hown hw hrt hlocks htb hE H hP9 hS ls hl
  obtain ⟨hG, hN, hT, hV, hHs, hQ, hR, hP, hSb, hO, hOd⟩ := hP9
  have hown : s.vm.findClass RL = some m.cls := hown
  have hl : lv_has ls 3 [(0, .ref (B + 0)), (1, .ref (B + 213))] := hl
  have hAB : ∀ q, cA B q → B0 ≤ q := cA_ge hb0
  unfold fL_airtime at hf
  obtain ⟨z1, hc, hf⟩ := br_some hf
  refine lv_aload_n hx hb dL_airtime_0 rfl (lv_at hl 1 rfl) ?_
  refine lv_iconst (v := 0) hx hb dL_airtime_1 (by decide) ?_
  refine lv_aload_n hx hb dL_airtime_2 rfl (lv_at hl 0 rfl) ?_
  refine mg_xV (As := []) (rest := [.int 0, .ref (B + 213)]) hx hb hml hown hw hE (mX11_airtime l E B0 htr B (B + 214) (by omega) (by omega) z.G z.N z1 hc) cv_L_129 (w_recv (k := 0) (ci := 11) hE hG (by decide) rfl rfl) ⟨hG, hN⟩ hS hAB (fun _ h => h.elim) rfl hl.1 rfl (by decide) (by decide) (Nat.le_of_ble_eq_true rfl) ⟨by decide, by decide⟩ dL_airtime_3 (fun e9 ee H locs ce q hP9 hz hu hS hce hcv hcl => ?_) (fun v ev H locs hP9 hz hu hS => ?_)
  · have hf := sx_l ee hf
    obtain ⟨hG, hN⟩ := hP9
    have hT := Blk.off hT hu (fun _ _ _ h => h)
    have hV := Blk.off hV hu (fun _ _ _ h => h)
    have hHs := Blk.off hHs hu (fun _ _ _ h => h)
    have hQ := Fam.off hQ hu (fun _ _ _ h => h)
    have hR := Blk.off hR hu (fun _ _ _ h => h)
    have hP := Blk.off hP hu (fun _ _ _ h => h)
    have hSb := SBt.off hSb hz hu (fun _ _ h => h)
    have hO := LO.off hO hu (fun h => h)
    have hOd := LD.off hOd hu (fun h => h)
    by_cases c0 : e9 = 4
    · subst c0
      rw [if_pos rfl] at hf
      have hre := Option.some.inj hf
      subst hre
      refine vx_catch (E := "java/lang/ArithmeticException") (name := "java/lang/ArithmeticException") hown [] ⟨0, 8, 11, 127⟩ [] (htb.trans rfl) (fun _ h => absurd h List.not_mem_nil) (by decide) (by decide) (hw _ kl_L_127) (va_Nw.use rfl (hE.2.2.2.2.1 _ kx_4 rfl)) hce hcv hcl ?_
      refine lv_astore_n (lv' := [(2, .ref q), (0, .ref (B + 0)), (1, .ref (B + 213))]) hx hb dL_airtime_11 rfl hl (by decide) rfl (fun ls hl => ?_)
      refine lv_iconst (v := 1) hx hb dL_airtime_12 (by decide) ?_
      refine W.widen (k := 1) (n := 6) (by decide) (by decide) ?_
      exact mu_i (v := 1) hx hb hrt hlocks ⟨hG, hN, hT, hV, hHs, hQ, hR, hP, hSb, hO, hOd⟩ hS dL_airtime_13
    rw [if_neg c0] at hf
    exact nomatch hf
  · have hf := sx_r ev hf
    obtain ⟨hG, hN⟩ := hP9
    have hT := Blk.off hT hu (fun _ _ _ h => h)
    have hV := Blk.off hV hu (fun _ _ _ h => h)
    have hHs := Blk.off hHs hu (fun _ _ _ h => h)
    have hQ := Fam.off hQ hu (fun _ _ _ h => h)
    have hR := Blk.off hR hu (fun _ _ _ h => h)
    have hP := Blk.off hP hu (fun _ _ _ h => h)
    have hSb := SBt.off hSb hz hu (fun _ _ h => h)
    have hO := LO.off hO hu (fun h => h)
    have hOd := LD.off hOd hu (fun h => h)
    obtain ⟨h9, hf⟩ := gd_some hf
    refine lv_f2d hx hb dL_airtime_6 (fp_f2d v (n32b_n h9)) ?_
    refine w_dast hx hb hE hOd hS (Or.inr (by omega)) dL_airtime_7 (fun H locs hOd z9 oq hS => ?_)
    have hG := Blk.offq hG oq (by omega)
    have hN := Blk.offq hN oq (by omega)
    have hT := Blk.offq hT oq (by omega)
    have hV := Blk.offq hV oq (by omega)
    have hHs := Blk.offq hHs oq (by omega)
    have hQ := Fam.offq hQ oq (by omega)
    have hR := Blk.offq hR oq (by omega)
    have hP := Blk.offq hP oq (by omega)
    have hSb := SBt.offq hSb z9 oq (by omega) (by omega)
    have hO := LO.offq hO oq (by omega)
    refine lv_goto (tgt := 14) hx hb dL_airtime_8 (by decide) ?_
    have hre := Option.some.inj hf
    subst hre
    refine lv_iconst (v := 0) hx hb dL_airtime_14 (by decide) ?_
    refine W.widen (k := 1) (n := 6) (by decide) (by decide) ?_
    exact mu_i (v := 0) hx hb hrt hlocks ⟨hG, hN, hT, hV, hHs, hQ, hR, hP, hSb, hO, hOd⟩ hS dL_airtime_15
noncomputable def fL_writeStation (z : KS) (a1 : Int32) : Option (Int32 × KS) := (fX11_writeStation z.G z.N z.Sb a1).bind fun z1 => sx z1.1 (fun e9 => (if e9 = 0 then some (1, (KS.mk z.G z.N z.T z.V z.Hs z.Q z.R z.P z1.2 z.o z.od)) else none)) (fun v => some (0, (KS.mk z.G z.N z.T z.V z.Hs z.Q z.R z.P z1.2 v.toInt64 z.od)))
set_option maxHeartbeats 4000000 in
set_option maxRecDepth 100000 in
theorem mL_writeStation (l : Launch) (E : EP) (B0 : Nat) (htr : l.stackTraces = false) (B : Nat) (hb0 : B0 ≤ B) (z : KS) (a1 : Int32) (r : Int32 × KS) (hf : fL_writeStation z a1 = some r) : MW l E B0 yL_writeStation cL_writeStation 4 (some .int) [(0, 9, 12, 23)] 11 10 312 [.ref (B + 0), .int a1, .ref (B + 212)] (CW E B z) (some (.int r.1)) (CW E B r.2) (cA B) := by
  refine mw_of (by decide +kernel) (Nat.le_of_ble_eq_true rfl) ?_
  intro p e s m args below meth c hx hb hml hown hw hrt hlocks htb hE H hP9 hS ls hl
  obtain ⟨hG, hN, hT, hV, hHs, hQ, hR, hP, hSb, hO, hOd⟩ := hP9
  have hown : s.vm.findClass RL = some m.cls := hown
  have hl : lv_has ls 4 [(0, .ref (B + 0)), (1, .int a1), (2, .ref (B + 212))] := hl
  have hAB : ∀ q, cA B q → B0 ≤ q := cA_ge hb0
  unfold fL_writeStation at hf
  obtain ⟨z1, hc, hf⟩ := br_some hf
  refine lv_aload_n hx hb dL_writeStation_0 rfl (lv_at hl 2 rfl) ?_
  refine lv_iconst (v := 0) hx hb dL_writeStation_1 (by decide) ?_
  refine lv_aload_n hx hb dL_writeStation_2 rfl (lv_at hl 0 rfl) ?_
  refine lv_iload_n hx hb dL_writeStation_3 rfl (lv_at hl 1 rfl) ?_
  refine mg_xV (As := [.int a1]) (rest := [.int 0, .ref (B + 212)]) hx hb hml hown hw hE (mX11_writeStation l E B0 htr B (B + 214) (by omega) (by omega) z.G z.N z.Sb a1 z1 hc) cv_L_133 (w_recv (k := 0) (ci := 11) hE hG (by decide) rfl rfl) ⟨hG, hN, hSb⟩ hS hAB (fun q h => by simp only [orA, iv, nv, sbA] at h; show (B ≤ q ∧ q < B + 202) ∨ B + 212 ≤ q; omega) rfl hl.1 rfl (by decide) (by decide) (Nat.le_of_ble_eq_true rfl) ⟨by decide, by decide⟩ dL_writeStation_4 (fun e9 ee H locs ce q hP9 hz hu hS hce hcv hcl => ?_) (fun v ev H locs hP9 hz hu hS => ?_)
  · have hf := sx_l ee hf
    obtain ⟨hG, hN, hSb⟩ := hP9
    have hT := Blk.off hT hu (iv_sb_dis (by omega) (by omega))
    have hV := Blk.off hV hu (iv_sb_dis (by omega) (by omega))
    have hHs := Blk.off hHs hu (iv_sb_dis (by omega) (by omega))
    have hQ := Fam.off hQ hu (iv_sb_dis (by omega) (by omega))
    have hR := Blk.off hR hu (iv_sb_dis (by omega) (by omega))
    have hP := Blk.off hP hu (iv_sb_dis (by omega) (by omega))
    have hO := LO.off hO hu (fun h => by simp only [orA, iv, nv, sbA] at h; omega)
    have hOd := LD.off hOd hu (fun h => by simp only [orA, iv, nv, sbA] at h; omega)
    by_cases c0 : e9 = 0
    · subst c0
      rw [if_pos rfl] at hf
      have hre := Option.some.inj hf
      subst hre
      refine vx_catch (E := "java/lang/IndexOutOfBoundsException") (name := "java/lang/IndexOutOfBoundsException") hown [] ⟨0, 9, 12, 23⟩ [] (htb.trans rfl) (fun _ h => absurd h List.not_mem_nil) (by decide) (by decide) (hw _ kl_L_23) (va_Nw.use rfl (hE.2.2.2.2.1 _ kx_0 rfl)) hce hcv hcl ?_
      refine lv_astore_n (lv' := [(3, .ref q), (0, .ref (B + 0)), (1, .int a1), (2, .ref (B + 212))]) hx hb dL_writeStation_12 rfl hl (by decide) rfl (fun ls hl => ?_)
      refine lv_iconst (v := 1) hx hb dL_writeStation_13 (by decide) ?_
      refine W.widen (k := 10) (n := 312) (by decide) (by decide) ?_
      exact mu_i (v := 1) hx hb hrt hlocks ⟨hG, hN, hT, hV, hHs, hQ, hR, hP, hSb, hO, hOd⟩ hS dL_writeStation_14
    rw [if_neg c0] at hf
    exact nomatch hf
  · have hf := sx_r ev hf
    obtain ⟨hG, hN, hSb⟩ := hP9
    have hT := Blk.off hT hu (iv_sb_dis (by omega) (by omega))
    have hV := Blk.off hV hu (iv_sb_dis (by omega) (by omega))
    have hHs := Blk.off hHs hu (iv_sb_dis (by omega) (by omega))
    have hQ := Fam.off hQ hu (iv_sb_dis (by omega) (by omega))
    have hR := Blk.off hR hu (iv_sb_dis (by omega) (by omega))
    have hP := Blk.off hP hu (iv_sb_dis (by omega) (by omega))
    have hO := LO.off hO hu (fun h => by simp only [orA, iv, nv, sbA] at h; omega)
    have hOd := LD.off hOd hu (fun h => by simp only [orA, iv, nv, sbA] at h; omega)
    refine lv_i2l hx hb dL_writeStation_7 rfl ?_
    refine w_last hx hb hE hO hS (Or.inr (by omega)) dL_writeStation_8 (fun H locs hO z9 oq hS => ?_)
    have hG := Blk.offq hG oq (by omega)
    have hN := Blk.offq hN oq (by omega)
    have hT := Blk.offq hT oq (by omega)
    have hV := Blk.offq hV oq (by omega)
    have hHs := Blk.offq hHs oq (by omega)
    have hQ := Fam.offq hQ oq (by omega)
    have hR := Blk.offq hR oq (by omega)
    have hP := Blk.offq hP oq (by omega)
    have hSb := SBt.offq hSb z9 oq (by omega) (by omega)
    have hOd := LD.offq hOd oq (by omega)
    refine lv_goto (tgt := 15) hx hb dL_writeStation_9 (by decide) ?_
    have hre := Option.some.inj hf
    subst hre
    refine lv_iconst (v := 0) hx hb dL_writeStation_15 (by decide) ?_
    refine W.widen (k := 10) (n := 312) (by decide) (by decide) ?_
    exact mu_i (v := 0) hx hb hrt hlocks ⟨hG, hN, hT, hV, hHs, hQ, hR, hP, hSb, hO, hOd⟩ hS dL_writeStation_16
noncomputable def fL_writeChannel (z : KS) (a1 : Int32) : Option (Int32 × KS) := (fX11_writeChannel z.G z.N z.Sb a1).bind fun z1 => sx z1.1 (fun e9 => (if e9 = 0 then some (1, (KS.mk z.G z.N z.T z.V z.Hs z.Q z.R z.P z1.2 z.o z.od)) else none)) (fun v => some (0, (KS.mk z.G z.N z.T z.V z.Hs z.Q z.R z.P z1.2 v.toInt64 z.od)))
set_option maxHeartbeats 4000000 in
set_option maxRecDepth 100000 in
theorem mL_writeChannel (l : Launch) (E : EP) (B0 : Nat) (htr : l.stackTraces = false) (B : Nat) (hb0 : B0 ≤ B) (z : KS) (a1 : Int32) (r : Int32 × KS) (hf : fL_writeChannel z a1 = some r) : MW l E B0 yL_writeChannel cL_writeChannel 4 (some .int) [(0, 9, 12, 23)] 10 27 890 [.ref (B + 0), .int a1, .ref (B + 212)] (CW E B z) (some (.int r.1)) (CW E B r.2) (cA B) := by
  refine mw_of (by decide +kernel) (Nat.le_of_ble_eq_true rfl) ?_
  intro p e s m args below meth c hx hb hml hown hw hrt hlocks htb hE H hP9 hS ls hl
  obtain ⟨hG, hN, hT, hV, hHs, hQ, hR, hP, hSb, hO, hOd⟩ := hP9
  have hown : s.vm.findClass RL = some m.cls := hown
  have hl : lv_has ls 4 [(0, .ref (B + 0)), (1, .int a1), (2, .ref (B + 212))] := hl
  have hAB : ∀ q, cA B q → B0 ≤ q := cA_ge hb0
  unfold fL_writeChannel at hf
  obtain ⟨z1, hc, hf⟩ := br_some hf
  refine lv_aload_n hx hb dL_writeChannel_0 rfl (lv_at hl 2 rfl) ?_
  refine lv_iconst (v := 0) hx hb dL_writeChannel_1 (by decide) ?_
  refine lv_aload_n hx hb dL_writeChannel_2 rfl (lv_at hl 0 rfl) ?_
  refine lv_iload_n hx hb dL_writeChannel_3 rfl (lv_at hl 1 rfl) ?_
  refine mg_xV (As := [.int a1]) (rest := [.int 0, .ref (B + 212)]) hx hb hml hown hw hE (mX11_writeChannel l E B0 htr B (B + 214) (by omega) (by omega) z.G z.N z.Sb a1 z1 hc) cv_L_136 (w_recv (k := 0) (ci := 11) hE hG (by decide) rfl rfl) ⟨hG, hN, hSb⟩ hS hAB (fun q h => by simp only [orA, iv, nv, sbA] at h; show (B ≤ q ∧ q < B + 202) ∨ B + 212 ≤ q; omega) rfl hl.1 rfl (by decide) (by decide) (Nat.le_of_ble_eq_true rfl) ⟨by decide, by decide⟩ dL_writeChannel_4 (fun e9 ee H locs ce q hP9 hz hu hS hce hcv hcl => ?_) (fun v ev H locs hP9 hz hu hS => ?_)
  · have hf := sx_l ee hf
    obtain ⟨hG, hN, hSb⟩ := hP9
    have hT := Blk.off hT hu (iv_sb_dis (by omega) (by omega))
    have hV := Blk.off hV hu (iv_sb_dis (by omega) (by omega))
    have hHs := Blk.off hHs hu (iv_sb_dis (by omega) (by omega))
    have hQ := Fam.off hQ hu (iv_sb_dis (by omega) (by omega))
    have hR := Blk.off hR hu (iv_sb_dis (by omega) (by omega))
    have hP := Blk.off hP hu (iv_sb_dis (by omega) (by omega))
    have hO := LO.off hO hu (fun h => by simp only [orA, iv, nv, sbA] at h; omega)
    have hOd := LD.off hOd hu (fun h => by simp only [orA, iv, nv, sbA] at h; omega)
    by_cases c0 : e9 = 0
    · subst c0
      rw [if_pos rfl] at hf
      have hre := Option.some.inj hf
      subst hre
      refine vx_catch (E := "java/lang/IndexOutOfBoundsException") (name := "java/lang/IndexOutOfBoundsException") hown [] ⟨0, 9, 12, 23⟩ [] (htb.trans rfl) (fun _ h => absurd h List.not_mem_nil) (by decide) (by decide) (hw _ kl_L_23) (va_Nw.use rfl (hE.2.2.2.2.1 _ kx_0 rfl)) hce hcv hcl ?_
      refine lv_astore_n (lv' := [(3, .ref q), (0, .ref (B + 0)), (1, .int a1), (2, .ref (B + 212))]) hx hb dL_writeChannel_12 rfl hl (by decide) rfl (fun ls hl => ?_)
      refine lv_iconst (v := 1) hx hb dL_writeChannel_13 (by decide) ?_
      refine W.widen (k := 27) (n := 890) (by decide) (by decide) ?_
      exact mu_i (v := 1) hx hb hrt hlocks ⟨hG, hN, hT, hV, hHs, hQ, hR, hP, hSb, hO, hOd⟩ hS dL_writeChannel_14
    rw [if_neg c0] at hf
    exact nomatch hf
  · have hf := sx_r ev hf
    obtain ⟨hG, hN, hSb⟩ := hP9
    have hT := Blk.off hT hu (iv_sb_dis (by omega) (by omega))
    have hV := Blk.off hV hu (iv_sb_dis (by omega) (by omega))
    have hHs := Blk.off hHs hu (iv_sb_dis (by omega) (by omega))
    have hQ := Fam.off hQ hu (iv_sb_dis (by omega) (by omega))
    have hR := Blk.off hR hu (iv_sb_dis (by omega) (by omega))
    have hP := Blk.off hP hu (iv_sb_dis (by omega) (by omega))
    have hO := LO.off hO hu (fun h => by simp only [orA, iv, nv, sbA] at h; omega)
    have hOd := LD.off hOd hu (fun h => by simp only [orA, iv, nv, sbA] at h; omega)
    refine lv_i2l hx hb dL_writeChannel_7 rfl ?_
    refine w_last hx hb hE hO hS (Or.inr (by omega)) dL_writeChannel_8 (fun H locs hO z9 oq hS => ?_)
    have hG := Blk.offq hG oq (by omega)
    have hN := Blk.offq hN oq (by omega)
    have hT := Blk.offq hT oq (by omega)
    have hV := Blk.offq hV oq (by omega)
    have hHs := Blk.offq hHs oq (by omega)
    have hQ := Fam.offq hQ oq (by omega)
    have hR := Blk.offq hR oq (by omega)
    have hP := Blk.offq hP oq (by omega)
    have hSb := SBt.offq hSb z9 oq (by omega) (by omega)
    have hOd := LD.offq hOd oq (by omega)
    refine lv_goto (tgt := 15) hx hb dL_writeChannel_9 (by decide) ?_
    have hre := Option.some.inj hf
    subst hre
    refine lv_iconst (v := 0) hx hb dL_writeChannel_15 (by decide) ?_
    refine W.widen (k := 27) (n := 890) (by decide) (by decide) ?_
    exact mu_i (v := 0) hx hb hrt hlocks ⟨hG, hN, hT, hV, hHs, hQ, hR, hP, hSb, hO, hOd⟩ hS dL_writeChannel_16
noncomputable def fL_charAt (z : KS) (a1 : Int32) : Option (Int32 × KS) := (fX11_charAt z.G z.Sb a1).bind fun z1 => sx z1 (fun e9 => (if e9 = 0 then some (1, (KS.mk z.G z.N z.T z.V z.Hs z.Q z.R z.P z.Sb z.o z.od)) else none)) (fun v => some (0, (KS.mk z.G z.N z.T z.V z.Hs z.Q z.R z.P z.Sb v.toInt64 z.od)))
set_option maxHeartbeats 4000000 in
set_option maxRecDepth 100000 in
theorem mL_charAt (l : Launch) (E : EP) (B0 : Nat) (htr : l.stackTraces = false) (B : Nat) (hb0 : B0 ≤ B) (z : KS) (a1 : Int32) (r : Int32 × KS) (hf : fL_charAt z a1 = some r) : MW l E B0 yL_charAt cL_charAt 4 (some .int) [(0, 9, 12, 23)] 9 1 6 [.ref (B + 0), .int a1, .ref (B + 212)] (CW E B z) (some (.int r.1)) (CW E B r.2) (cA B) := by
  refine mw_of (by decide +kernel) (Nat.le_of_ble_eq_true rfl) ?_
  intro p e s m args below meth c hx hb hml hown hw hrt hlocks htb hE H hP9 hS ls hl
  obtain ⟨hG, hN, hT, hV, hHs, hQ, hR, hP, hSb, hO, hOd⟩ := hP9
  have hown : s.vm.findClass RL = some m.cls := hown
  have hl : lv_has ls 4 [(0, .ref (B + 0)), (1, .int a1), (2, .ref (B + 212))] := hl
  have hAB : ∀ q, cA B q → B0 ≤ q := cA_ge hb0
  unfold fL_charAt at hf
  obtain ⟨z1, hc, hf⟩ := br_some hf
  refine lv_aload_n hx hb dL_charAt_0 rfl (lv_at hl 2 rfl) ?_
  refine lv_iconst (v := 0) hx hb dL_charAt_1 (by decide) ?_
  refine lv_aload_n hx hb dL_charAt_2 rfl (lv_at hl 0 rfl) ?_
  refine lv_iload_n hx hb dL_charAt_3 rfl (lv_at hl 1 rfl) ?_
  refine mg_xV (As := [.int a1]) (rest := [.int 0, .ref (B + 212)]) hx hb hml hown hw hE (mX11_charAt l E B0 htr B (B + 214) (by omega) (by omega) z.G z.Sb a1 z1 hc) cv_L_139 (w_recv (k := 0) (ci := 11) hE hG (by decide) rfl rfl) ⟨hG, hSb⟩ hS hAB (fun _ h => h.elim) rfl hl.1 rfl (by decide) (by decide) (Nat.le_of_ble_eq_true rfl) ⟨by decide, by decide⟩ dL_charAt_4 (fun e9 ee H locs ce q hP9 hz hu hS hce hcv hcl => ?_) (fun v ev H locs hP9 hz hu hS => ?_)
  · have hf := sx_l ee hf
    obtain ⟨hG, hSb⟩ := hP9
    have hN := Blk.off hN hu (fun _ _ _ h => h)
    have hT := Blk.off hT hu (fun _ _ _ h => h)
    have hV := Blk.off hV hu (fun _ _ _ h => h)
    have hHs := Blk.off hHs hu (fun _ _ _ h => h)
    have hQ := Fam.off hQ hu (fun _ _ _ h => h)
    have hR := Blk.off hR hu (fun _ _ _ h => h)
    have hP := Blk.off hP hu (fun _ _ _ h => h)
    have hO := LO.off hO hu (fun h => h)
    have hOd := LD.off hOd hu (fun h => h)
    by_cases c0 : e9 = 0
    · subst c0
      rw [if_pos rfl] at hf
      have hre := Option.some.inj hf
      subst hre
      refine vx_catch (E := "java/lang/IndexOutOfBoundsException") (name := "java/lang/IndexOutOfBoundsException") hown [] ⟨0, 9, 12, 23⟩ [] (htb.trans rfl) (fun _ h => absurd h List.not_mem_nil) (by decide) (by decide) (hw _ kl_L_23) (va_Nw.use rfl (hE.2.2.2.2.1 _ kx_0 rfl)) hce hcv hcl ?_
      refine lv_astore_n (lv' := [(3, .ref q), (0, .ref (B + 0)), (1, .int a1), (2, .ref (B + 212))]) hx hb dL_charAt_12 rfl hl (by decide) rfl (fun ls hl => ?_)
      refine lv_iconst (v := 1) hx hb dL_charAt_13 (by decide) ?_
      refine W.widen (k := 1) (n := 6) (by decide) (by decide) ?_
      exact mu_i (v := 1) hx hb hrt hlocks ⟨hG, hN, hT, hV, hHs, hQ, hR, hP, hSb, hO, hOd⟩ hS dL_charAt_14
    rw [if_neg c0] at hf
    exact nomatch hf
  · have hf := sx_r ev hf
    obtain ⟨hG, hSb⟩ := hP9
    have hN := Blk.off hN hu (fun _ _ _ h => h)
    have hT := Blk.off hT hu (fun _ _ _ h => h)
    have hV := Blk.off hV hu (fun _ _ _ h => h)
    have hHs := Blk.off hHs hu (fun _ _ _ h => h)
    have hQ := Fam.off hQ hu (fun _ _ _ h => h)
    have hR := Blk.off hR hu (fun _ _ _ h => h)
    have hP := Blk.off hP hu (fun _ _ _ h => h)
    have hO := LO.off hO hu (fun h => h)
    have hOd := LD.off hOd hu (fun h => h)
    refine lv_i2l hx hb dL_charAt_7 rfl ?_
    refine w_last hx hb hE hO hS (Or.inr (by omega)) dL_charAt_8 (fun H locs hO z9 oq hS => ?_)
    have hG := Blk.offq hG oq (by omega)
    have hN := Blk.offq hN oq (by omega)
    have hT := Blk.offq hT oq (by omega)
    have hV := Blk.offq hV oq (by omega)
    have hHs := Blk.offq hHs oq (by omega)
    have hQ := Fam.offq hQ oq (by omega)
    have hR := Blk.offq hR oq (by omega)
    have hP := Blk.offq hP oq (by omega)
    have hSb := SBt.offq hSb z9 oq (by omega) (by omega)
    have hOd := LD.offq hOd oq (by omega)
    refine lv_goto (tgt := 15) hx hb dL_charAt_9 (by decide) ?_
    have hre := Option.some.inj hf
    subst hre
    refine lv_iconst (v := 0) hx hb dL_charAt_15 (by decide) ?_
    refine W.widen (k := 1) (n := 6) (by decide) (by decide) ?_
    exact mu_i (v := 0) hx hb hrt hlocks ⟨hG, hN, hT, hV, hHs, hQ, hR, hP, hSb, hO, hOd⟩ hS dL_charAt_16
noncomputable def fL_type (z : KS) (a1 : Int32) : Option (Int32 × KS) := (fX11_type z.G z.P a1).bind fun z1 => sx z1.1 (fun e9 => (if e9 = 3 then some (1, (KS.mk z.G z.N z.T z.V z.Hs z.Q z.R z1.2 z.Sb z.o z.od)) else none)) (fun v => some (0, (KS.mk z.G z.N z.T z.V z.Hs z.Q z.R z1.2 z.Sb v.toInt64 z.od)))
set_option maxHeartbeats 4000000 in
set_option maxRecDepth 100000 in
theorem mL_type (l : Launch) (E : EP) (B0 : Nat) (htr : l.stackTraces = false) (B : Nat) (hb0 : B0 ≤ B) (z : KS) (a1 : Int32) (r : Int32 × KS) (hf : fL_type z a1 = some r) : MW l E B0 yL_type cL_type 4 (some .int) [(0, 9, 12, 17)] 9 1 6 [.ref (B + 0), .int a1, .ref (B + 212)] (CW E B z) (some (.int r.1)) (CW E B r.2) (cA B) := by
  refine mw_of (by decide +kernel) (Nat.le_of_ble_eq_true rfl) ?_
  intro p e s m args below meth c hx hb hml hown hw hrt hlocks htb hE H hP9 hS ls hl
  obtain ⟨hG, hN, hT, hV, hHs, hQ, hR, hP, hSb, hO, hOd⟩ := hP9
  have hown : s.vm.findClass RL = some m.cls := hown
  have hl : lv_has ls 4 [(0, .ref (B + 0)), (1, .int a1), (2, .ref (B + 212))] := hl
  have hAB : ∀ q, cA B q → B0 ≤ q := cA_ge hb0
  unfold fL_type at hf
  obtain ⟨z1, hc, hf⟩ := br_some hf
  refine lv_aload_n hx hb dL_type_0 rfl (lv_at hl 2 rfl) ?_
  refine lv_iconst (v := 0) hx hb dL_type_1 (by decide) ?_
  refine lv_aload_n hx hb dL_type_2 rfl (lv_at hl 0 rfl) ?_
  refine lv_iload_n hx hb dL_type_3 rfl (lv_at hl 1 rfl) ?_
  refine mg_xV (As := [.int a1]) (rest := [.int 0, .ref (B + 212)]) hx hb hml hown hw hE (mX11_type l E B0 htr B (B + 214) (by omega) (by omega) z.G z.P a1 z1 hc) cv_L_142 (w_recv (k := 0) (ci := 11) hE hG (by decide) rfl rfl) ⟨hG, hP⟩ hS hAB (fun q h => by simp only [orA, iv, nv, sbA] at h; show (B ≤ q ∧ q < B + 202) ∨ B + 212 ≤ q; omega) rfl hl.1 rfl (by decide) (by decide) (Nat.le_of_ble_eq_true rfl) ⟨by decide, by decide⟩ dL_type_4 (fun e9 ee H locs ce q hP9 hz hu hS hce hcv hcl => ?_) (fun v ev H locs hP9 hz hu hS => ?_)
  · have hf := sx_l ee hf
    obtain ⟨hG, hP⟩ := hP9
    have hN := Blk.off hN hu (iv_dis (by omega))
    have hT := Blk.off hT hu (iv_dis (by omega))
    have hV := Blk.off hV hu (iv_dis (by omega))
    have hHs := Blk.off hHs hu (iv_dis (by omega))
    have hQ := Fam.off hQ hu (iv_dis (by omega))
    have hR := Blk.off hR hu (iv_dis (by omega))
    have hSb := SBt.off hSb hz hu (sb_iv_dis (by omega) (by omega))
    have hO := LO.off hO hu (fun h => by simp only [orA, iv, nv, sbA] at h; omega)
    have hOd := LD.off hOd hu (fun h => by simp only [orA, iv, nv, sbA] at h; omega)
    by_cases c0 : e9 = 3
    · subst c0
      rw [if_pos rfl] at hf
      have hre := Option.some.inj hf
      subst hre
      refine vx_catch (E := "java/lang/IllegalStateException") (name := "java/lang/IllegalStateException") hown [] ⟨0, 9, 12, 17⟩ [] (htb.trans rfl) (fun _ h => absurd h List.not_mem_nil) (by decide) (by decide) (hw _ kl_L_17) (va_Nw.use rfl (hE.2.2.2.2.1 _ kx_3 rfl)) hce hcv hcl ?_
      refine lv_astore_n (lv' := [(3, .ref q), (0, .ref (B + 0)), (1, .int a1), (2, .ref (B + 212))]) hx hb dL_type_12 rfl hl (by decide) rfl (fun ls hl => ?_)
      refine lv_iconst (v := 1) hx hb dL_type_13 (by decide) ?_
      refine W.widen (k := 1) (n := 6) (by decide) (by decide) ?_
      exact mu_i (v := 1) hx hb hrt hlocks ⟨hG, hN, hT, hV, hHs, hQ, hR, hP, hSb, hO, hOd⟩ hS dL_type_14
    rw [if_neg c0] at hf
    exact nomatch hf
  · have hf := sx_r ev hf
    obtain ⟨hG, hP⟩ := hP9
    have hN := Blk.off hN hu (iv_dis (by omega))
    have hT := Blk.off hT hu (iv_dis (by omega))
    have hV := Blk.off hV hu (iv_dis (by omega))
    have hHs := Blk.off hHs hu (iv_dis (by omega))
    have hQ := Fam.off hQ hu (iv_dis (by omega))
    have hR := Blk.off hR hu (iv_dis (by omega))
    have hSb := SBt.off hSb hz hu (sb_iv_dis (by omega) (by omega))
    have hO := LO.off hO hu (fun h => by simp only [orA, iv, nv, sbA] at h; omega)
    have hOd := LD.off hOd hu (fun h => by simp only [orA, iv, nv, sbA] at h; omega)
    refine lv_i2l hx hb dL_type_7 rfl ?_
    refine w_last hx hb hE hO hS (Or.inr (by omega)) dL_type_8 (fun H locs hO z9 oq hS => ?_)
    have hG := Blk.offq hG oq (by omega)
    have hN := Blk.offq hN oq (by omega)
    have hT := Blk.offq hT oq (by omega)
    have hV := Blk.offq hV oq (by omega)
    have hHs := Blk.offq hHs oq (by omega)
    have hQ := Fam.offq hQ oq (by omega)
    have hR := Blk.offq hR oq (by omega)
    have hP := Blk.offq hP oq (by omega)
    have hSb := SBt.offq hSb z9 oq (by omega) (by omega)
    have hOd := LD.offq hOd oq (by omega)
    refine lv_goto (tgt := 15) hx hb dL_type_9 (by decide) ?_
    have hre := Option.some.inj hf
    subst hre
    refine lv_iconst (v := 0) hx hb dL_type_15 (by decide) ?_
    refine W.widen (k := 1) (n := 6) (by decide) (by decide) ?_
    exact mu_i (v := 0) hx hb hrt hlocks ⟨hG, hN, hT, hV, hHs, hQ, hR, hP, hSb, hO, hOd⟩ hS dL_type_16
noncomputable def fL_run (z : KS) : Option (Int32 × KS) := (fX11_run z.G z.N z.T z.Hs z.Q z.P).bind fun z1 => sx z1.1 (fun e9 => (if e9 = 1 then some (1, (KS.mk z1.2.1 z1.2.2.1 z1.2.2.2.1 z.V z1.2.2.2.2.1 z1.2.2.2.2.2.1 z.R z1.2.2.2.2.2.2 z.Sb z.o z.od)) else (if e9 = 2 then some (2, (KS.mk z1.2.1 z1.2.2.1 z1.2.2.2.1 z.V z1.2.2.2.2.1 z1.2.2.2.2.2.1 z.R z1.2.2.2.2.2.2 z.Sb z.o z.od)) else none))) (fun v => some (0, (KS.mk z1.2.1 z1.2.2.1 z1.2.2.2.1 z.V z1.2.2.2.2.1 z1.2.2.2.2.2.1 z.R z1.2.2.2.2.2.2 z.Sb v.toInt64 z.od)))
set_option maxHeartbeats 4000000 in
set_option maxRecDepth 100000 in
theorem mL_run (l : Launch) (E : EP) (B0 : Nat) (htr : l.stackTraces = false) (B : Nat) (hb0 : B0 ≤ B) (z : KS) (r : Int32 × KS) (hf : fL_run z = some r) : MW l E B0 yL_run cL_run 3 (some .int) [(0, 8, 11, 13), (0, 8, 14, 15)] 9 1 6 [.ref (B + 0), .ref (B + 212)] (CW E B z) (some (.int r.1)) (CW E B r.2) (cA B) := by
  refine mw_of (by decide +kernel) (Nat.le_of_ble_eq_true rfl) ?_
  intro p e s m args below meth c hx hb hml hown hw hrt hlocks htb hE H hP9 hS ls hl
  obtain ⟨hG, hN, hT, hV, hHs, hQ, hR, hP, hSb, hO, hOd⟩ := hP9
  have hown : s.vm.findClass RL = some m.cls := hown
  have hl : lv_has ls 3 [(0, .ref (B + 0)), (1, .ref (B + 212))] := hl
  have hAB : ∀ q, cA B q → B0 ≤ q := cA_ge hb0
  unfold fL_run at hf
  obtain ⟨z1, hc, hf⟩ := br_some hf
  refine lv_aload_n hx hb dL_run_0 rfl (lv_at hl 1 rfl) ?_
  refine lv_iconst (v := 0) hx hb dL_run_1 (by decide) ?_
  refine lv_aload_n hx hb dL_run_2 rfl (lv_at hl 0 rfl) ?_
  refine mg_xV (As := []) (rest := [.int 0, .ref (B + 212)]) hx hb hml hown hw hE (mX11_run l E B0 htr B (B + 214) (by omega) (by omega) z.G z.N z.T z.Hs z.Q z.P z1 hc) cv_L_146 (w_recv (k := 0) (ci := 11) hE hG (by decide) rfl rfl) ⟨hG, hN, hT, hHs, hQ, hP⟩ hS hAB (fun q h => by simp only [orA, iv, nv, sbA] at h; show (B ≤ q ∧ q < B + 202) ∨ B + 212 ≤ q; omega) rfl hl.1 rfl (by decide) (by decide) (Nat.le_of_ble_eq_true rfl) ⟨by decide, by decide⟩ dL_run_3 (fun e9 ee H locs ce q hP9 hz hu hS hce hcv hcl => ?_) (fun v ev H locs hP9 hz hu hS => ?_)
  · have hf := sx_l ee hf
    obtain ⟨hG, hN, hT, hHs, hQ, hP⟩ := hP9
    have hV := Blk.off hV hu (or_dis (iv_dis (by omega)) (or_dis (iv_dis (by omega)) (or_dis (iv_dis (by omega)) (or_dis (iv_dis (by omega)) (or_dis (iv_dis (by omega)) (iv_dis (by omega)))))))
    have hR := Blk.off hR hu (or_dis (iv_dis (by omega)) (or_dis (iv_dis (by omega)) (or_dis (iv_dis (by omega)) (or_dis (iv_dis (by omega)) (or_dis (iv_dis (by omega)) (iv_dis (by omega)))))))
    have hSb := SBt.off hSb hz hu (or_dis_s (sb_iv_dis (by omega) (by omega)) (or_dis_s (sb_iv_dis (by omega) (by omega)) (or_dis_s (sb_iv_dis (by omega) (by omega)) (or_dis_s (sb_iv_dis (by omega) (by omega)) (or_dis_s (sb_iv_dis (by omega) (by omega)) (sb_iv_dis (by omega) (by omega)))))))
    have hO := LO.off hO hu (fun h => by simp only [orA, iv, nv, sbA] at h; omega)
    have hOd := LD.off hOd hu (fun h => by simp only [orA, iv, nv, sbA] at h; omega)
    by_cases c0 : e9 = 1
    · subst c0
      rw [if_pos rfl] at hf
      have hre := Option.some.inj hf
      subst hre
      refine vx_catch (E := "java/lang/IllegalArgumentException") (name := "java/lang/IllegalArgumentException") hown [] ⟨0, 8, 11, 13⟩ [⟨0, 8, 14, 15⟩] (htb.trans rfl) (fun _ h => absurd h List.not_mem_nil) (by decide) (by decide) (hw _ kl_L_13) (va_Nw.use rfl (hE.2.2.2.2.1 _ kx_1 rfl)) hce hcv hcl ?_
      refine lv_astore_n (lv' := [(2, .ref q), (0, .ref (B + 0)), (1, .ref (B + 212))]) hx hb dL_run_11 rfl hl (by decide) rfl (fun ls hl => ?_)
      refine lv_iconst (v := 1) hx hb dL_run_12 (by decide) ?_
      refine W.widen (k := 1) (n := 6) (by decide) (by decide) ?_
      exact mu_i (v := 1) hx hb hrt hlocks ⟨hG, hN, hT, hV, hHs, hQ, hR, hP, hSb, hO, hOd⟩ hS dL_run_13
    by_cases c1 : e9 = 2
    · subst c1
      rw [if_neg (by decide), if_pos rfl] at hf
      have hre := Option.some.inj hf
      subst hre
      refine vx_catch (E := "java/lang/UnsupportedOperationException") (name := "java/lang/UnsupportedOperationException") hown [⟨0, 8, 11, 13⟩] ⟨0, 8, 14, 15⟩ [] (htb.trans rfl) (List.forall_mem_cons.mpr ⟨Or.inr ⟨by decide, "java/lang/IllegalArgumentException", hw _ kl_L_13, hE.nc (by simp)⟩, (fun _ h => absurd h List.not_mem_nil)⟩) (by decide) (by decide) (hw _ kl_L_15) (va_Nw.use rfl (hE.2.2.2.2.1 _ kx_2 rfl)) hce hcv hcl ?_
      refine lv_astore_n (lv' := [(2, .ref q), (0, .ref (B + 0)), (1, .ref (B + 212))]) hx hb dL_run_14 rfl hl (by decide) rfl (fun ls hl => ?_)
      refine lv_iconst (v := 2) hx hb dL_run_15 (by decide) ?_
      refine W.widen (k := 1) (n := 6) (by decide) (by decide) ?_
      exact mu_i (v := 2) hx hb hrt hlocks ⟨hG, hN, hT, hV, hHs, hQ, hR, hP, hSb, hO, hOd⟩ hS dL_run_16
    rw [if_neg c0, if_neg c1] at hf
    exact nomatch hf
  · have hf := sx_r ev hf
    obtain ⟨hG, hN, hT, hHs, hQ, hP⟩ := hP9
    have hV := Blk.off hV hu (or_dis (iv_dis (by omega)) (or_dis (iv_dis (by omega)) (or_dis (iv_dis (by omega)) (or_dis (iv_dis (by omega)) (or_dis (iv_dis (by omega)) (iv_dis (by omega)))))))
    have hR := Blk.off hR hu (or_dis (iv_dis (by omega)) (or_dis (iv_dis (by omega)) (or_dis (iv_dis (by omega)) (or_dis (iv_dis (by omega)) (or_dis (iv_dis (by omega)) (iv_dis (by omega)))))))
    have hSb := SBt.off hSb hz hu (or_dis_s (sb_iv_dis (by omega) (by omega)) (or_dis_s (sb_iv_dis (by omega) (by omega)) (or_dis_s (sb_iv_dis (by omega) (by omega)) (or_dis_s (sb_iv_dis (by omega) (by omega)) (or_dis_s (sb_iv_dis (by omega) (by omega)) (sb_iv_dis (by omega) (by omega)))))))
    have hO := LO.off hO hu (fun h => by simp only [orA, iv, nv, sbA] at h; omega)
    have hOd := LD.off hOd hu (fun h => by simp only [orA, iv, nv, sbA] at h; omega)
    refine lv_i2l hx hb dL_run_6 rfl ?_
    refine w_last hx hb hE hO hS (Or.inr (by omega)) dL_run_7 (fun H locs hO z9 oq hS => ?_)
    have hG := Blk.offq hG oq (by omega)
    have hN := Blk.offq hN oq (by omega)
    have hT := Blk.offq hT oq (by omega)
    have hV := Blk.offq hV oq (by omega)
    have hHs := Blk.offq hHs oq (by omega)
    have hQ := Fam.offq hQ oq (by omega)
    have hR := Blk.offq hR oq (by omega)
    have hP := Blk.offq hP oq (by omega)
    have hSb := SBt.offq hSb z9 oq (by omega) (by omega)
    have hOd := LD.offq hOd oq (by omega)
    refine lv_goto (tgt := 17) hx hb dL_run_8 (by decide) ?_
    have hre := Option.some.inj hf
    subst hre
    refine lv_iconst (v := 0) hx hb dL_run_17 (by decide) ?_
    refine W.widen (k := 1) (n := 6) (by decide) (by decide) ?_
    exact mu_i (v := 0) hx hb hrt hlocks ⟨hG, hN, hT, hV, hHs, hQ, hR, hP, hSb, hO, hOd⟩ hS dL_run_18
noncomputable def fL_errorPosition (z : KS) : Option (Int32 × KS) := (fX11_errorPosition z.G).bind fun z1 => sx z1 (fun e9 => (if e9 = 5 then some (1, (KS.mk z.G z.N z.T z.V z.Hs z.Q z.R z.P z.Sb z.o z.od)) else none)) (fun v => some (0, (KS.mk z.G z.N z.T z.V z.Hs z.Q z.R z.P z.Sb v.toInt64 z.od)))
set_option maxHeartbeats 4000000 in
set_option maxRecDepth 100000 in
theorem mL_errorPosition (l : Launch) (E : EP) (B0 : Nat) (htr : l.stackTraces = false) (B : Nat) (hb0 : B0 ≤ B) (z : KS) (r : Int32 × KS) (hf : fL_errorPosition z = some r) : MW l E B0 yL_errorPosition cL_errorPosition 3 (some .int) [(0, 8, 11, 52)] 9 1 6 [.ref (B + 0), .ref (B + 212)] (CW E B z) (some (.int r.1)) (CW E B r.2) (cA B) := by
  refine mw_of (by decide +kernel) (Nat.le_of_ble_eq_true rfl) ?_
  intro p e s m args below meth c hx hb hml hown hw hrt hlocks htb hE H hP9 hS ls hl
  obtain ⟨hG, hN, hT, hV, hHs, hQ, hR, hP, hSb, hO, hOd⟩ := hP9
  have hown : s.vm.findClass RL = some m.cls := hown
  have hl : lv_has ls 3 [(0, .ref (B + 0)), (1, .ref (B + 212))] := hl
  have hAB : ∀ q, cA B q → B0 ≤ q := cA_ge hb0
  unfold fL_errorPosition at hf
  obtain ⟨z1, hc, hf⟩ := br_some hf
  refine lv_aload_n hx hb dL_errorPosition_0 rfl (lv_at hl 1 rfl) ?_
  refine lv_iconst (v := 0) hx hb dL_errorPosition_1 (by decide) ?_
  refine lv_aload_n hx hb dL_errorPosition_2 rfl (lv_at hl 0 rfl) ?_
  refine mg_xV (As := []) (rest := [.int 0, .ref (B + 212)]) hx hb hml hown hw hE (mX11_errorPosition l E B0 htr B (B + 214) (by omega) (by omega) z.G z1 hc) cv_L_150 (w_recv (k := 0) (ci := 11) hE hG (by decide) rfl rfl) hG hS hAB (fun _ h => h.elim) rfl hl.1 rfl (by decide) (by decide) (Nat.le_of_ble_eq_true rfl) ⟨by decide, by decide⟩ dL_errorPosition_3 (fun e9 ee H locs ce q hP9 hz hu hS hce hcv hcl => ?_) (fun v ev H locs hP9 hz hu hS => ?_)
  · have hf := sx_l ee hf
    have hG := hP9
    have hN := Blk.off hN hu (fun _ _ _ h => h)
    have hT := Blk.off hT hu (fun _ _ _ h => h)
    have hV := Blk.off hV hu (fun _ _ _ h => h)
    have hHs := Blk.off hHs hu (fun _ _ _ h => h)
    have hQ := Fam.off hQ hu (fun _ _ _ h => h)
    have hR := Blk.off hR hu (fun _ _ _ h => h)
    have hP := Blk.off hP hu (fun _ _ _ h => h)
    have hSb := SBt.off hSb hz hu (fun _ _ h => h)
    have hO := LO.off hO hu (fun h => h)
    have hOd := LD.off hOd hu (fun h => h)
    by_cases c0 : e9 = 5
    · subst c0
      rw [if_pos rfl] at hf
      have hre := Option.some.inj hf
      subst hre
      refine vx_catch (E := "java/util/NoSuchElementException") (name := "java/util/NoSuchElementException") hown [] ⟨0, 8, 11, 52⟩ [] (htb.trans rfl) (fun _ h => absurd h List.not_mem_nil) (by decide) (by decide) (hw _ kl_L_52) (va_Nw.use rfl (hE.2.2.2.2.1 _ kx_5 rfl)) hce hcv hcl ?_
      refine lv_astore_n (lv' := [(2, .ref q), (0, .ref (B + 0)), (1, .ref (B + 212))]) hx hb dL_errorPosition_11 rfl hl (by decide) rfl (fun ls hl => ?_)
      refine lv_iconst (v := 1) hx hb dL_errorPosition_12 (by decide) ?_
      refine W.widen (k := 1) (n := 6) (by decide) (by decide) ?_
      exact mu_i (v := 1) hx hb hrt hlocks ⟨hG, hN, hT, hV, hHs, hQ, hR, hP, hSb, hO, hOd⟩ hS dL_errorPosition_13
    rw [if_neg c0] at hf
    exact nomatch hf
  · have hf := sx_r ev hf
    have hG := hP9
    have hN := Blk.off hN hu (fun _ _ _ h => h)
    have hT := Blk.off hT hu (fun _ _ _ h => h)
    have hV := Blk.off hV hu (fun _ _ _ h => h)
    have hHs := Blk.off hHs hu (fun _ _ _ h => h)
    have hQ := Fam.off hQ hu (fun _ _ _ h => h)
    have hR := Blk.off hR hu (fun _ _ _ h => h)
    have hP := Blk.off hP hu (fun _ _ _ h => h)
    have hSb := SBt.off hSb hz hu (fun _ _ h => h)
    have hO := LO.off hO hu (fun h => h)
    have hOd := LD.off hOd hu (fun h => h)
    refine lv_i2l hx hb dL_errorPosition_6 rfl ?_
    refine w_last hx hb hE hO hS (Or.inr (by omega)) dL_errorPosition_7 (fun H locs hO z9 oq hS => ?_)
    have hG := Blk.offq hG oq (by omega)
    have hN := Blk.offq hN oq (by omega)
    have hT := Blk.offq hT oq (by omega)
    have hV := Blk.offq hV oq (by omega)
    have hHs := Blk.offq hHs oq (by omega)
    have hQ := Fam.offq hQ oq (by omega)
    have hR := Blk.offq hR oq (by omega)
    have hP := Blk.offq hP oq (by omega)
    have hSb := SBt.offq hSb z9 oq (by omega) (by omega)
    have hOd := LD.offq hOd oq (by omega)
    refine lv_goto (tgt := 14) hx hb dL_errorPosition_8 (by decide) ?_
    have hre := Option.some.inj hf
    subst hre
    refine lv_iconst (v := 0) hx hb dL_errorPosition_14 (by decide) ?_
    refine W.widen (k := 1) (n := 6) (by decide) (by decide) ?_
    exact mu_i (v := 0) hx hb hrt hlocks ⟨hG, hN, hT, hV, hHs, hQ, hR, hP, hSb, hO, hOd⟩ hS dL_errorPosition_15
noncomputable def fL_failedCommand (z : KS) : Option (Int32 × KS) := (fX11_failedCommand z.G).bind fun z1 => sx z1 (fun e9 => (if e9 = 5 then some (1, (KS.mk z.G z.N z.T z.V z.Hs z.Q z.R z.P z.Sb z.o z.od)) else none)) (fun v => some (0, (KS.mk z.G z.N z.T z.V z.Hs z.Q z.R z.P z.Sb v.toInt64 z.od)))
set_option maxHeartbeats 4000000 in
set_option maxRecDepth 100000 in
theorem mL_failedCommand (l : Launch) (E : EP) (B0 : Nat) (htr : l.stackTraces = false) (B : Nat) (hb0 : B0 ≤ B) (z : KS) (r : Int32 × KS) (hf : fL_failedCommand z = some r) : MW l E B0 yL_failedCommand cL_failedCommand 3 (some .int) [(0, 8, 11, 52)] 9 1 6 [.ref (B + 0), .ref (B + 212)] (CW E B z) (some (.int r.1)) (CW E B r.2) (cA B) := by
  refine mw_of (by decide +kernel) (Nat.le_of_ble_eq_true rfl) ?_
  intro p e s m args below meth c hx hb hml hown hw hrt hlocks htb hE H hP9 hS ls hl
  obtain ⟨hG, hN, hT, hV, hHs, hQ, hR, hP, hSb, hO, hOd⟩ := hP9
  have hown : s.vm.findClass RL = some m.cls := hown
  have hl : lv_has ls 3 [(0, .ref (B + 0)), (1, .ref (B + 212))] := hl
  have hAB : ∀ q, cA B q → B0 ≤ q := cA_ge hb0
  unfold fL_failedCommand at hf
  obtain ⟨z1, hc, hf⟩ := br_some hf
  refine lv_aload_n hx hb dL_failedCommand_0 rfl (lv_at hl 1 rfl) ?_
  refine lv_iconst (v := 0) hx hb dL_failedCommand_1 (by decide) ?_
  refine lv_aload_n hx hb dL_failedCommand_2 rfl (lv_at hl 0 rfl) ?_
  refine mg_xV (As := []) (rest := [.int 0, .ref (B + 212)]) hx hb hml hown hw hE (mX11_failedCommand l E B0 htr B (B + 214) (by omega) (by omega) z.G z1 hc) cv_L_153 (w_recv (k := 0) (ci := 11) hE hG (by decide) rfl rfl) hG hS hAB (fun _ h => h.elim) rfl hl.1 rfl (by decide) (by decide) (Nat.le_of_ble_eq_true rfl) ⟨by decide, by decide⟩ dL_failedCommand_3 (fun e9 ee H locs ce q hP9 hz hu hS hce hcv hcl => ?_) (fun v ev H locs hP9 hz hu hS => ?_)
  · have hf := sx_l ee hf
    have hG := hP9
    have hN := Blk.off hN hu (fun _ _ _ h => h)
    have hT := Blk.off hT hu (fun _ _ _ h => h)
    have hV := Blk.off hV hu (fun _ _ _ h => h)
    have hHs := Blk.off hHs hu (fun _ _ _ h => h)
    have hQ := Fam.off hQ hu (fun _ _ _ h => h)
    have hR := Blk.off hR hu (fun _ _ _ h => h)
    have hP := Blk.off hP hu (fun _ _ _ h => h)
    have hSb := SBt.off hSb hz hu (fun _ _ h => h)
    have hO := LO.off hO hu (fun h => h)
    have hOd := LD.off hOd hu (fun h => h)
    by_cases c0 : e9 = 5
    · subst c0
      rw [if_pos rfl] at hf
      have hre := Option.some.inj hf
      subst hre
      refine vx_catch (E := "java/util/NoSuchElementException") (name := "java/util/NoSuchElementException") hown [] ⟨0, 8, 11, 52⟩ [] (htb.trans rfl) (fun _ h => absurd h List.not_mem_nil) (by decide) (by decide) (hw _ kl_L_52) (va_Nw.use rfl (hE.2.2.2.2.1 _ kx_5 rfl)) hce hcv hcl ?_
      refine lv_astore_n (lv' := [(2, .ref q), (0, .ref (B + 0)), (1, .ref (B + 212))]) hx hb dL_failedCommand_11 rfl hl (by decide) rfl (fun ls hl => ?_)
      refine lv_iconst (v := 1) hx hb dL_failedCommand_12 (by decide) ?_
      refine W.widen (k := 1) (n := 6) (by decide) (by decide) ?_
      exact mu_i (v := 1) hx hb hrt hlocks ⟨hG, hN, hT, hV, hHs, hQ, hR, hP, hSb, hO, hOd⟩ hS dL_failedCommand_13
    rw [if_neg c0] at hf
    exact nomatch hf
  · have hf := sx_r ev hf
    have hG := hP9
    have hN := Blk.off hN hu (fun _ _ _ h => h)
    have hT := Blk.off hT hu (fun _ _ _ h => h)
    have hV := Blk.off hV hu (fun _ _ _ h => h)
    have hHs := Blk.off hHs hu (fun _ _ _ h => h)
    have hQ := Fam.off hQ hu (fun _ _ _ h => h)
    have hR := Blk.off hR hu (fun _ _ _ h => h)
    have hP := Blk.off hP hu (fun _ _ _ h => h)
    have hSb := SBt.off hSb hz hu (fun _ _ h => h)
    have hO := LO.off hO hu (fun h => h)
    have hOd := LD.off hOd hu (fun h => h)
    refine lv_i2l hx hb dL_failedCommand_6 rfl ?_
    refine w_last hx hb hE hO hS (Or.inr (by omega)) dL_failedCommand_7 (fun H locs hO z9 oq hS => ?_)
    have hG := Blk.offq hG oq (by omega)
    have hN := Blk.offq hN oq (by omega)
    have hT := Blk.offq hT oq (by omega)
    have hV := Blk.offq hV oq (by omega)
    have hHs := Blk.offq hHs oq (by omega)
    have hQ := Fam.offq hQ oq (by omega)
    have hR := Blk.offq hR oq (by omega)
    have hP := Blk.offq hP oq (by omega)
    have hSb := SBt.offq hSb z9 oq (by omega) (by omega)
    have hOd := LD.offq hOd oq (by omega)
    refine lv_goto (tgt := 14) hx hb dL_failedCommand_8 (by decide) ?_
    have hre := Option.some.inj hf
    subst hre
    refine lv_iconst (v := 0) hx hb dL_failedCommand_14 (by decide) ?_
    refine W.widen (k := 1) (n := 6) (by decide) (by decide) ?_
    exact mu_i (v := 0) hx hb hrt hlocks ⟨hG, hN, hT, hV, hHs, hQ, hR, hP, hSb, hO, hOd⟩ hS dL_failedCommand_15
noncomputable def fL_undo (z : KS) : Option (Int32 × KS) := (fX11_undo z.G z.N z.Hs z.Q).bind fun z1 => sx z1.1 (fun e9 => (if e9 = 3 then some (1, (KS.mk z.G z1.2.1 z.T z.V z1.2.2 z.Q z.R z.P z.Sb z.o z.od)) else none)) (fun v => some (0, (KS.mk z.G z1.2.1 z.T z.V z1.2.2 z.Q z.R z.P z.Sb v.toInt64 z.od)))
set_option maxHeartbeats 4000000 in
set_option maxRecDepth 100000 in
theorem mL_undo (l : Launch) (E : EP) (B0 : Nat) (htr : l.stackTraces = false) (B : Nat) (hb0 : B0 ≤ B) (z : KS) (r : Int32 × KS) (hf : fL_undo z = some r) : MW l E B0 yL_undo cL_undo 3 (some .int) [(0, 8, 11, 17)] 9 1 6 [.ref (B + 0), .ref (B + 212)] (CW E B z) (some (.int r.1)) (CW E B r.2) (cA B) := by
  refine mw_of (by decide +kernel) (Nat.le_of_ble_eq_true rfl) ?_
  intro p e s m args below meth c hx hb hml hown hw hrt hlocks htb hE H hP9 hS ls hl
  obtain ⟨hG, hN, hT, hV, hHs, hQ, hR, hP, hSb, hO, hOd⟩ := hP9
  have hown : s.vm.findClass RL = some m.cls := hown
  have hl : lv_has ls 3 [(0, .ref (B + 0)), (1, .ref (B + 212))] := hl
  have hAB : ∀ q, cA B q → B0 ≤ q := cA_ge hb0
  unfold fL_undo at hf
  obtain ⟨z1, hc, hf⟩ := br_some hf
  refine lv_aload_n hx hb dL_undo_0 rfl (lv_at hl 1 rfl) ?_
  refine lv_iconst (v := 0) hx hb dL_undo_1 (by decide) ?_
  refine lv_aload_n hx hb dL_undo_2 rfl (lv_at hl 0 rfl) ?_
  refine mg_xV (As := []) (rest := [.int 0, .ref (B + 212)]) hx hb hml hown hw hE (mX11_undo l E B0 htr B (B + 214) (by omega) (by omega) z.G z.N z.Hs z.Q z1 hc) cv_L_156 (w_recv (k := 0) (ci := 11) hE hG (by decide) rfl rfl) ⟨hG, hN, hHs, hQ⟩ hS hAB (fun q h => by simp only [orA, iv, nv, sbA] at h; show (B ≤ q ∧ q < B + 202) ∨ B + 212 ≤ q; omega) rfl hl.1 rfl (by decide) (by decide) (Nat.le_of_ble_eq_true rfl) ⟨by decide, by decide⟩ dL_undo_3 (fun e9 ee H locs ce q hP9 hz hu hS hce hcv hcl => ?_) (fun v ev H locs hP9 hz hu hS => ?_)
  · have hf := sx_l ee hf
    obtain ⟨hG, hN, hHs, hQ⟩ := hP9
    have hT := Blk.off hT hu (or_dis (iv_dis (by omega)) (iv_dis (by omega)))
    have hV := Blk.off hV hu (or_dis (iv_dis (by omega)) (iv_dis (by omega)))
    have hR := Blk.off hR hu (or_dis (iv_dis (by omega)) (iv_dis (by omega)))
    have hP := Blk.off hP hu (or_dis (iv_dis (by omega)) (iv_dis (by omega)))
    have hSb := SBt.off hSb hz hu (or_dis_s (sb_iv_dis (by omega) (by omega)) (sb_iv_dis (by omega) (by omega)))
    have hO := LO.off hO hu (fun h => by simp only [orA, iv, nv, sbA] at h; omega)
    have hOd := LD.off hOd hu (fun h => by simp only [orA, iv, nv, sbA] at h; omega)
    by_cases c0 : e9 = 3
    · subst c0
      rw [if_pos rfl] at hf
      have hre := Option.some.inj hf
      subst hre
      refine vx_catch (E := "java/lang/IllegalStateException") (name := "java/lang/IllegalStateException") hown [] ⟨0, 8, 11, 17⟩ [] (htb.trans rfl) (fun _ h => absurd h List.not_mem_nil) (by decide) (by decide) (hw _ kl_L_17) (va_Nw.use rfl (hE.2.2.2.2.1 _ kx_3 rfl)) hce hcv hcl ?_
      refine lv_astore_n (lv' := [(2, .ref q), (0, .ref (B + 0)), (1, .ref (B + 212))]) hx hb dL_undo_11 rfl hl (by decide) rfl (fun ls hl => ?_)
      refine lv_iconst (v := 1) hx hb dL_undo_12 (by decide) ?_
      refine W.widen (k := 1) (n := 6) (by decide) (by decide) ?_
      exact mu_i (v := 1) hx hb hrt hlocks ⟨hG, hN, hT, hV, hHs, hQ, hR, hP, hSb, hO, hOd⟩ hS dL_undo_13
    rw [if_neg c0] at hf
    exact nomatch hf
  · have hf := sx_r ev hf
    obtain ⟨hG, hN, hHs, hQ⟩ := hP9
    have hT := Blk.off hT hu (or_dis (iv_dis (by omega)) (iv_dis (by omega)))
    have hV := Blk.off hV hu (or_dis (iv_dis (by omega)) (iv_dis (by omega)))
    have hR := Blk.off hR hu (or_dis (iv_dis (by omega)) (iv_dis (by omega)))
    have hP := Blk.off hP hu (or_dis (iv_dis (by omega)) (iv_dis (by omega)))
    have hSb := SBt.off hSb hz hu (or_dis_s (sb_iv_dis (by omega) (by omega)) (sb_iv_dis (by omega) (by omega)))
    have hO := LO.off hO hu (fun h => by simp only [orA, iv, nv, sbA] at h; omega)
    have hOd := LD.off hOd hu (fun h => by simp only [orA, iv, nv, sbA] at h; omega)
    refine lv_i2l hx hb dL_undo_6 rfl ?_
    refine w_last hx hb hE hO hS (Or.inr (by omega)) dL_undo_7 (fun H locs hO z9 oq hS => ?_)
    have hG := Blk.offq hG oq (by omega)
    have hN := Blk.offq hN oq (by omega)
    have hT := Blk.offq hT oq (by omega)
    have hV := Blk.offq hV oq (by omega)
    have hHs := Blk.offq hHs oq (by omega)
    have hQ := Fam.offq hQ oq (by omega)
    have hR := Blk.offq hR oq (by omega)
    have hP := Blk.offq hP oq (by omega)
    have hSb := SBt.offq hSb z9 oq (by omega) (by omega)
    have hOd := LD.offq hOd oq (by omega)
    refine lv_goto (tgt := 14) hx hb dL_undo_8 (by decide) ?_
    have hre := Option.some.inj hf
    subst hre
    refine lv_iconst (v := 0) hx hb dL_undo_14 (by decide) ?_
    refine W.widen (k := 1) (n := 6) (by decide) (by decide) ?_
    exact mu_i (v := 0) hx hb hrt hlocks ⟨hG, hN, hT, hV, hHs, hQ, hR, hP, hSb, hO, hOd⟩ hS dL_undo_15
noncomputable def fL_restore (z : KS) : Option (Int32 × KS) := (fX11_restore z.G z.N z.V z.Hs).bind fun z1 => sx z1.1 (fun e9 => (if e9 = 3 then some (1, (KS.mk z.G z1.2.1 z.T z.V z1.2.2 z.Q z.R z.P z.Sb z.o z.od)) else none)) (fun v => some (0, (KS.mk z.G z1.2.1 z.T z.V z1.2.2 z.Q z.R z.P z.Sb v.toInt64 z.od)))
set_option maxHeartbeats 4000000 in
set_option maxRecDepth 100000 in
theorem mL_restore (l : Launch) (E : EP) (B0 : Nat) (htr : l.stackTraces = false) (B : Nat) (hb0 : B0 ≤ B) (z : KS) (r : Int32 × KS) (hf : fL_restore z = some r) : MW l E B0 yL_restore cL_restore 3 (some .int) [(0, 8, 11, 17)] 9 1 6 [.ref (B + 0), .ref (B + 212)] (CW E B z) (some (.int r.1)) (CW E B r.2) (cA B) := by
  refine mw_of (by decide +kernel) (Nat.le_of_ble_eq_true rfl) ?_
  intro p e s m args below meth c hx hb hml hown hw hrt hlocks htb hE H hP9 hS ls hl
  obtain ⟨hG, hN, hT, hV, hHs, hQ, hR, hP, hSb, hO, hOd⟩ := hP9
  have hown : s.vm.findClass RL = some m.cls := hown
  have hl : lv_has ls 3 [(0, .ref (B + 0)), (1, .ref (B + 212))] := hl
  have hAB : ∀ q, cA B q → B0 ≤ q := cA_ge hb0
  unfold fL_restore at hf
  obtain ⟨z1, hc, hf⟩ := br_some hf
  refine lv_aload_n hx hb dL_restore_0 rfl (lv_at hl 1 rfl) ?_
  refine lv_iconst (v := 0) hx hb dL_restore_1 (by decide) ?_
  refine lv_aload_n hx hb dL_restore_2 rfl (lv_at hl 0 rfl) ?_
  refine mg_xV (As := []) (rest := [.int 0, .ref (B + 212)]) hx hb hml hown hw hE (mX11_restore l E B0 htr B (B + 214) (by omega) (by omega) z.G z.N z.V z.Hs z1 hc) cv_L_159 (w_recv (k := 0) (ci := 11) hE hG (by decide) rfl rfl) ⟨hG, hN, hV, hHs⟩ hS hAB (fun q h => by simp only [orA, iv, nv, sbA] at h; show (B ≤ q ∧ q < B + 202) ∨ B + 212 ≤ q; omega) rfl hl.1 rfl (by decide) (by decide) (Nat.le_of_ble_eq_true rfl) ⟨by decide, by decide⟩ dL_restore_3 (fun e9 ee H locs ce q hP9 hz hu hS hce hcv hcl => ?_) (fun v ev H locs hP9 hz hu hS => ?_)
  · have hf := sx_l ee hf
    obtain ⟨hG, hN, hV, hHs⟩ := hP9
    have hT := Blk.off hT hu (or_dis (iv_dis (by omega)) (iv_dis (by omega)))
    have hQ := Fam.off hQ hu (or_dis (iv_dis (by omega)) (iv_dis (by omega)))
    have hR := Blk.off hR hu (or_dis (iv_dis (by omega)) (iv_dis (by omega)))
    have hP := Blk.off hP hu (or_dis (iv_dis (by omega)) (iv_dis (by omega)))
    have hSb := SBt.off hSb hz hu (or_dis_s (sb_iv_dis (by omega) (by omega)) (sb_iv_dis (by omega) (by omega)))
    have hO := LO.off hO hu (fun h => by simp only [orA, iv, nv, sbA] at h; omega)
    have hOd := LD.off hOd hu (fun h => by simp only [orA, iv, nv, sbA] at h; omega)
    by_cases c0 : e9 = 3
    · subst c0
      rw [if_pos rfl] at hf
      have hre := Option.some.inj hf
      subst hre
      refine vx_catch (E := "java/lang/IllegalStateException") (name := "java/lang/IllegalStateException") hown [] ⟨0, 8, 11, 17⟩ [] (htb.trans rfl) (fun _ h => absurd h List.not_mem_nil) (by decide) (by decide) (hw _ kl_L_17) (va_Nw.use rfl (hE.2.2.2.2.1 _ kx_3 rfl)) hce hcv hcl ?_
      refine lv_astore_n (lv' := [(2, .ref q), (0, .ref (B + 0)), (1, .ref (B + 212))]) hx hb dL_restore_11 rfl hl (by decide) rfl (fun ls hl => ?_)
      refine lv_iconst (v := 1) hx hb dL_restore_12 (by decide) ?_
      refine W.widen (k := 1) (n := 6) (by decide) (by decide) ?_
      exact mu_i (v := 1) hx hb hrt hlocks ⟨hG, hN, hT, hV, hHs, hQ, hR, hP, hSb, hO, hOd⟩ hS dL_restore_13
    rw [if_neg c0] at hf
    exact nomatch hf
  · have hf := sx_r ev hf
    obtain ⟨hG, hN, hV, hHs⟩ := hP9
    have hT := Blk.off hT hu (or_dis (iv_dis (by omega)) (iv_dis (by omega)))
    have hQ := Fam.off hQ hu (or_dis (iv_dis (by omega)) (iv_dis (by omega)))
    have hR := Blk.off hR hu (or_dis (iv_dis (by omega)) (iv_dis (by omega)))
    have hP := Blk.off hP hu (or_dis (iv_dis (by omega)) (iv_dis (by omega)))
    have hSb := SBt.off hSb hz hu (or_dis_s (sb_iv_dis (by omega) (by omega)) (sb_iv_dis (by omega) (by omega)))
    have hO := LO.off hO hu (fun h => by simp only [orA, iv, nv, sbA] at h; omega)
    have hOd := LD.off hOd hu (fun h => by simp only [orA, iv, nv, sbA] at h; omega)
    refine lv_i2l hx hb dL_restore_6 rfl ?_
    refine w_last hx hb hE hO hS (Or.inr (by omega)) dL_restore_7 (fun H locs hO z9 oq hS => ?_)
    have hG := Blk.offq hG oq (by omega)
    have hN := Blk.offq hN oq (by omega)
    have hT := Blk.offq hT oq (by omega)
    have hV := Blk.offq hV oq (by omega)
    have hHs := Blk.offq hHs oq (by omega)
    have hQ := Fam.offq hQ oq (by omega)
    have hR := Blk.offq hR oq (by omega)
    have hP := Blk.offq hP oq (by omega)
    have hSb := SBt.offq hSb z9 oq (by omega) (by omega)
    have hOd := LD.offq hOd oq (by omega)
    refine lv_goto (tgt := 14) hx hb dL_restore_8 (by decide) ?_
    have hre := Option.some.inj hf
    subst hre
    refine lv_iconst (v := 0) hx hb dL_restore_14 (by decide) ?_
    refine W.widen (k := 1) (n := 6) (by decide) (by decide) ?_
    exact mu_i (v := 0) hx hb hrt hlocks ⟨hG, hN, hT, hV, hHs, hQ, hR, hP, hSb, hO, hOd⟩ hS dL_restore_15
