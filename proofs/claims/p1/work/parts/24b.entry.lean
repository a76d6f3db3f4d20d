/-! ===== the law's entry ===== -/
/-- the class's side at its start -/
def z00 : KS := KS.mk G0 N0 N0 N0 (fun _ _ => 0) (fun _ => N0) (fun _ _ => 0) P0 (fun _ _ => 0, 16) 0 0
theorem ltc20 {j : Nat} (h : j < 20) : j = 0 ∨ j = 1 ∨ j = 2 ∨ j = 3 ∨ j = 4 ∨ j = 5 ∨ j = 6 ∨ j = 7 ∨ j = 8 ∨ j = 9 ∨ j = 10 ∨ j = 11 ∨ j = 12 ∨ j = 13 ∨ j = 14 ∨ j = 15 ∨ j = 16 ∨ j = 17 ∨ j = 18 ∨ j = 19 := by omega
section ENTRY
variable {p : Program} {l : Launch} {e : Env} {R : Room} {s : State} {m : MethodId} {args : Array Value} {below : List Frame} {meth : Method} {c : Code} {H : Heap} {locs : List Loc} {cells slots : Nat} {Q : State → Prop}
variable {cc : ByteArray} {pc nL d mc ms : Nat} {ls : Array Slot} {rest st As : List Value} {A A1 : Nat → Prop} {E : EP} {B0 : Nat} {P P' : Heap → Prop} {own : String} {idx n maxL a : Nat} {y : MethodName} {cY : ByteArray}
theorem mg_cI (hx : p.tables.exec = Jvm.exec) (hb : c.code = cc) (hml : c.maxLocals = nL) (hown : s.vm.findClass own = some m.cls) (hw : ∀ w ∈ WA, w.before args s = true) (hE : EV E B0 s s.heap)
    (hM : MU l E B0 y cY maxL none d mc ms (.ref a :: As) P none P' A1) (hC : CI own idx y cY maxL n) (hP : P H) (hS : va_S A s.heap H locs) (hAB : ∀ q, A q → B0 ≤ q) (hA1 : ∀ q, A1 q → A q)
    (hn : As.length = n) (hl : ls.size = nL) (hst : st = As.reverse ++ .ref a :: rest) (hfr : d + 1 ≤ R.frames) (hlo : 64 + 64 * d ≤ R.locals) (hrest : (rest.map fun v => v.category).sum ≤ 8) (hf : cells + mc ≤ R.cells ∧ slots + ms ≤ R.slots) (hdg : decode cc pc = .ok (.invokespecial idx, 3))
    (kk : ∀ (H1 : Heap) (locs1 : List Loc), P' H1 → H.size ≤ H1.size → (∀ q : Nat, q < H.size → ¬ A1 q → H1[q]? = H[q]?) → va_S A s.heap H1 locs1 → W p l e R s m args below meth c H1 locs1 (cells + mc) (slots + ms) Q (F0 m (pc + 3) ls rest)) : W p l e R s m args below meth c H locs cells slots Q (F0 m pc ls st) := by
  obtain ⟨c1, c6, c7, c8⟩ := hC
  have c5 : Cond.code y cY maxL none ∈ WA := c1 _ (by simp)
  refine mg_go (rv := none) (As := .ref a :: As) (va_runI (As := As) (rest := rest) (Ts := WA) ⟨hx, hb, hml, hown, hw⟩ hM (cwI n hw (wa_good c5) rfl rfl rfl (hw _ (c1 _ (by simp))) (hw _ (c1 _ (by simp))) (hw _ (c1 _ (by simp))) c8 c6 ⟨hfr, ?_⟩) ⟨mu_blind, fun U hU hW => ⟨rfl, ev_at hE hS hAB hU hW, by rw [hU]; exact hP⟩⟩ rfl hn hl hst (by simpa using hrest) hdg hf) hS hA1 kk
  show 8 + (maxL + 11) + 64 * d ≤ R.locals
  omega
theorem w_newl (hx : p.tables.exec = Jvm.exec) (hb : c.code = cc) {atype : ArrayType} (hty : newarray.typeOf atype = .long) (hw : ∀ w ∈ WA, w.before args s = true) (hE : EV E B0 s s.heap) (hS : va_S A s.heap H locs) (hcells : cells + 1 ≤ R.cells) (hslots : slots + 1 ≤ R.slots) (hdg : decode cc pc = .ok (.newarray atype, 2))
    (kk : ∀ H1 : Heap, LO E H.size 0 H1 → H1.size = H.size + 1 → (∀ q : Nat, q < H.size → H1[q]? = H[q]?) → va_S A s.heap H1 locs → W p l e R s m args below meth c H1 locs (cells + 1) (slots + 1) Q (F0 m (pc + 2) ls (.ref H.size :: rest))) : W p l e R s m args below meth c H locs cells slots Q (F0 m pc ls (.int 1 :: rest)) := by
  refine va_newaK (N := 1) hx hb (by rw [hty]; exact hw _ wa_al) rfl hdg rfl (by decide) rfl (by rw [hty]; decide) hcells hslots rfl fun H1 cA e1 z1 o1 hAr hNm => ?_
  rw [hty] at e1 hNm
  have hc : cA = E.2.1 6 := Option.some.inj (hNm.symm.trans (hE.1.2 6 _ rfl).2)
  subst hc
  exact kk H1 ⟨fun _ => 0, rfl, e1⟩ z1 o1 (hS.grow z1 o1)
theorem w_newd (hx : p.tables.exec = Jvm.exec) (hb : c.code = cc) {atype : ArrayType} (hty : newarray.typeOf atype = .double) (hw : ∀ w ∈ WA, w.before args s = true) (hE : EV E B0 s s.heap) (hS : va_S A s.heap H locs) (hcells : cells + 1 ≤ R.cells) (hslots : slots + 1 ≤ R.slots) (hdg : decode cc pc = .ok (.newarray atype, 2))
    (kk : ∀ H1 : Heap, LD E H.size 0 H1 → H1.size = H.size + 1 → (∀ q : Nat, q < H.size → H1[q]? = H[q]?) → va_S A s.heap H1 locs → W p l e R s m args below meth c H1 locs (cells + 1) (slots + 1) Q (F0 m (pc + 2) ls (.ref H.size :: rest))) : W p l e R s m args below meth c H locs cells slots Q (F0 m pc ls (.int 1 :: rest)) := by
  refine va_newaK (N := 1) hx hb (by rw [hty]; exact hw _ wa_ad) rfl hdg rfl (by decide) rfl (by rw [hty]; decide) hcells hslots rfl fun H1 cA e1 z1 o1 hAr hNm => ?_
  rw [hty] at e1 hNm
  have hc : cA = E.2.1 7 := Option.some.inj (hNm.symm.trans (hE.1.2 7 _ rfl).2)
  subst hc
  exact kk H1 ⟨fun _ => 0, rfl, e1⟩ z1 o1 (hS.grow z1 o1)
end ENTRY
set_option maxHeartbeats 4000000 in
set_option maxRecDepth 100000 in
/-- the law, from its entry, on a script over which the two sides agree -/
theorem whole_at {p : Program} {e : Env} {s : State} {m : MethodId} {below : List Frame} {meth : Method} {c : Code} (l : Launch) {b L B : Nat} {xs : Nat → Int32} {E : EP} {Q : State → Prop} (hB : s.heap.size = B) (X : LC p l e s m meth c E b L B xs) {r : KS × Mem} (hrun : fl_run xs (L / 7) 0 z00 M0 = some r)
    (fin : ∀ (H : Heap) (locs : List Loc) (ls : Array Slot), va_S (fun q => B ≤ q) s.heap H locs → W p l e room_1 s m #[Value.ref b] below meth c H locs 400 6500 Q (F0 m 2946 ls [.int 1])) {ls : Array Slot} (hl : lv_has ls 9 [(0, .ref b)]) : W p l e room_1 s m #[Value.ref b] below meth c s.heap [] 0 0 Q (F0 m 0 ls []) := by
  have X0 := X
  obtain ⟨hx, hb, hml, hown, hw, hE, htr, hX, hbl, hbB, hL3⟩ := X
  have hAB : ∀ q, (fun q => B ≤ q) q → B ≤ q := fun _ h => h
  generalize hH0 : s.heap = H0
  have hz : H0.size = B := by rw [← hH0]; exact hB
  have hS : va_S (fun q => B ≤ q) s.heap H0 [] := by rw [← hH0]; exact va_S.rf
  refine w_newo (ci := 11) (fs := [.null, .null, .null, .int 0, .null, .null, .null, .null, .int 0, .int 0]) hx hb hw uw_X11 tyX11 tyX11_ok hown wd_L_8 hE hS rfl (fun j hj => by rcases (ltc10 hj) with rfl | rfl | rfl | rfl | rfl | rfl | rfl | rfl | rfl | rfl <;> rfl) (by decide) (by decide) dL_law_0 (fun H hn z1 o1 hS => ?_)
  rw [hz] at hn z1 ⊢
  refine lv_dup hx hb dL_law_3 rfl ?_
  refine mg_cI (As := []) (rest := [.ref (B + 0)]) hx hb hml hown hw hE (mX11_init l E B B (Nat.le_refl B)) cI_L_162 ⟨z1, hn⟩ hS hAB (fun q h => h) rfl hl.1 rfl (by decide) (by decide) (Nat.le_of_ble_eq_true rfl) ⟨by decide, by decide⟩ dL_law_4 (fun H locs hP9 z9 hu hS => ?_)
  obtain ⟨hz, hG, hN, hT, hV, hHs, hQ, hR, hP, hO1, hO2⟩ := hP9
  have hz : H.size = B + 202 := hz
  refine lv_astore_n (lv' := [(1, .ref (B + 0)), (0, .ref b)]) hx hb dL_law_7 rfl hl (by decide) rfl (fun ls hl => ?_)
  refine w_newo (ci := 12) (fs := [.null, .null, .null, .null, .int 0, .int 0, .int 0, .int 0, .int 0, .null, .int 0, .null, .null, .null, .null, .int 0, .int 0, .int 0, .int 0, .int 0]) hx hb hw uw_X12 tyX12 tyX12_ok hown wd_L_163 hE hS rfl (fun j hj => by rcases (ltc20 hj) with rfl | rfl | rfl | rfl | rfl | rfl | rfl | rfl | rfl | rfl | rfl | rfl | rfl | rfl | rfl | rfl | rfl | rfl | rfl | rfl <;> rfl) (by decide) (by decide) dL_law_8 (fun H hn z1 o1 hS => ?_)
  rw [hz] at hn z1 ⊢
  have hG := Blk.ext hG o1
  have hN := Blk.ext hN o1
  have hT := Blk.ext hT o1
  have hV := Blk.ext hV o1
  have hHs := Blk.ext hHs o1
  have hQ := Fam.ext hQ o1
  have hR := Blk.ext hR o1
  have hP := Blk.ext hP o1
  have hO1 := Blk.ext hO1 o1
  have hO2 := Blk.ext hO2 o1
  refine lv_dup hx hb dL_law_11 rfl ?_
  refine mg_cI (As := []) (rest := [.ref (B + 202 + 0)]) hx hb hml hown hw hE (mX12_init l E B (B + 202) (Nat.le_add_right B 202)) cI_L_165 ⟨z1, hn⟩ hS hAB (fun q h => Nat.le_trans (Nat.le_add_right B 202) h) rfl hl.1 rfl (by decide) (by decide) (Nat.le_of_ble_eq_true rfl) ⟨by decide, by decide⟩ dL_law_12 (fun H locs hP9 z9 hu hS => ?_)
  obtain ⟨hz, hM⟩ := hP9
  have hz : H.size = B + 212 := hz
  have hG := Blk.off hG hu (fun q h1 h2 h3 => by have h3 : B + 202 ≤ q := h3; omega)
  have hN := Blk.off hN hu (fun q h1 h2 h3 => by have h3 : B + 202 ≤ q := h3; omega)
  have hT := Blk.off hT hu (fun q h1 h2 h3 => by have h3 : B + 202 ≤ q := h3; omega)
  have hV := Blk.off hV hu (fun q h1 h2 h3 => by have h3 : B + 202 ≤ q := h3; omega)
  have hHs := Blk.off hHs hu (fun q h1 h2 h3 => by have h3 : B + 202 ≤ q := h3; omega)
  have hQ := Fam.off hQ hu (fun q h1 h2 h3 => by have h3 : B + 202 ≤ q := h3; omega)
  have hR := Blk.off hR hu (fun q h1 h2 h3 => by have h3 : B + 202 ≤ q := h3; omega)
  have hP := Blk.off hP hu (fun q h1 h2 h3 => by have h3 : B + 202 ≤ q := h3; omega)
  have hO1 := Blk.off hO1 hu (fun q h1 h2 h3 => by have h3 : B + 202 ≤ q := h3; omega)
  have hO2 := Blk.off hO2 hu (fun q h1 h2 h3 => by have h3 : B + 202 ≤ q := h3; omega)
  refine lv_astore_n (lv' := [(2, .ref (B + 202 + 0)), (1, .ref (B + 0)), (0, .ref b)]) hx hb dL_law_15 rfl hl (by decide) rfl (fun ls hl => ?_)
  refine lv_iconst (v := 1) hx hb dL_law_16 (by decide) ?_
  refine w_newl hx hb rfl hw hE hS (by decide) (by decide) dL_law_17 (fun H hLo z1 o1 hS => ?_)
  rw [hz] at hLo z1 ⊢
  have hG := Blk.ext hG o1
  have hN := Blk.ext hN o1
  have hT := Blk.ext hT o1
  have hV := Blk.ext hV o1
  have hHs := Blk.ext hHs o1
  have hQ := Fam.ext hQ o1
  have hR := Blk.ext hR o1
  have hP := Blk.ext hP o1
  have hO1 := Blk.ext hO1 o1
  have hO2 := Blk.ext hO2 o1
  have hM := Blk.ext hM o1
  refine lv_astore_n (lv' := [(3, .ref (B + 212)), (2, .ref (B + 202 + 0)), (1, .ref (B + 0)), (0, .ref b)]) hx hb dL_law_19 rfl hl (by decide) rfl (fun ls hl => ?_)
  refine lv_iconst (v := 1) hx hb dL_law_20 (by decide) ?_
  have hz : H.size = B + 213 := z1
  refine w_newd hx hb rfl hw hE hS (by decide) (by decide) dL_law_21 (fun H hLd z1 o1 hS => ?_)
  rw [hz] at hLd z1 ⊢
  have hG := Blk.ext hG o1
  have hN := Blk.ext hN o1
  have hT := Blk.ext hT o1
  have hV := Blk.ext hV o1
  have hHs := Blk.ext hHs o1
  have hQ := Fam.ext hQ o1
  have hR := Blk.ext hR o1
  have hP := Blk.ext hP o1
  have hO1 := Blk.ext hO1 o1
  have hO2 := Blk.ext hO2 o1
  have hM := Blk.ext hM o1
  have hLo : LO E (B + 212) 0 H := by
    obtain ⟨f, f1, f2⟩ := hLo
    exact ⟨f, f1, at_ext f2 o1⟩
  have hz : H.size = B + 214 := z1
  refine lv_astore (lv' := [(4, .ref (B + 213)), (3, .ref (B + 212)), (2, .ref (B + 202 + 0)), (1, .ref (B + 0)), (0, .ref b)]) hx hb dL_law_23 hl (by decide) rfl (fun ls hl => ?_)
  refine lv_iconst (v := 0) hx hb dL_law_25 (by decide) ?_
  refine lv_istore (lv' := [(5, .int 0), (4, .ref (B + 213)), (3, .ref (B + 212)), (2, .ref (B + 202 + 0)), (1, .ref (B + 0)), (0, .ref b)]) hx hb dL_law_26 hl (by decide) rfl (fun ls hl => ?_)
  have hC : CW E B z00 H := ⟨hG, hN, hT, hV, hHs, hQ, hR, hP, ⟨Nat.le_of_eq hz.symm, 1, Nat.le_refl 1, Or.inl rfl, hO1, hO2⟩, hLo, hLd⟩
  refine W.widen (k := 300 + 40 * 0) (n := 5000 + 1000 * 0) (by decide) (by decide) ?_
  exact law_loop X0 fin (L / 7) 0 z00 M0 r (by omega) (by omega) hrun H _ ls hC hM hS (lv_sub hl [0, 5, 4, 3, 2, 1] rfl)
