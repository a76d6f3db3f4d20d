/-! ===== the builder's bytes grow: Arrays.copyOf, ensureCapacityInternal ===== -/
def QE (post : Nat → Heap → Prop) (A : Nat → Prop) : Array Value → State → Outcome → State → Prop := fun _ st oc t => ∃ q : Nat, oc = .returned (some (.ref q)) ∧ st.heap.size ≤ q ∧ post q t.heap ∧ va_F nv st t
abbrev ME (l : Launch) (E : EP) (B0 : Nat) (y : MethodName) (cY : ByteArray) (maxL : Nat) (ret : Option FieldType) (d mc ms : Nat) (As : List Value) (P : Heap → Prop) (post : Nat → Heap → Prop) (A : Nat → Prop) : Prop :=
  Met l y (wsm y cY maxL ret) (rmD d mc ms) (va_Pc As (fun U => EV E B0 U U.heap ∧ P U.heap)) (QE post A) mc ms A
section QEROWS
variable {p : Program} {l : Launch} {e : Env} {s : State} {m : MethodId} {args : Array Value} {below : List Frame} {meth : Method} {c : Code} {H : Heap} {locs : List Loc} {cells slots : Nat} {Q : State → Prop}
variable {cc : ByteArray} {pc nL D d mcR msR mc ms : Nat} {ls : Array Slot} {rest st As : List Value} {A A1 : Nat → Prop} {E : EP} {B0 : Nat} {post : Nat → Heap → Prop} {P : Heap → Prop} {own : String} {idx n maxL a : Nat} {y : MethodName} {cY : ByteArray} {ret : Option FieldType}
theorem me_go (hr : va_Run p l e (rmD D mcR msR) s m args below meth c H locs cells slots mc ms (F0 m pc ls st) rest (QE post A1 As.toArray) A1) (hS : va_S A s.heap H locs) (hA1 : ∀ q, A1 q → A q)
    (kk : ∀ (q9 : Nat) (H1 : Heap) (locs1 : List Loc), H.size ≤ q9 → post q9 H1 → H.size ≤ H1.size → (∀ q : Nat, q < H.size → ¬ nv q → H1[q]? = H[q]?) → va_S A s.heap H1 locs1 → W p l e (rmD D mcR msR) s m args below meth c H1 locs1 (cells + mc) (slots + ms) Q (F0 m (pc + 3) ls (.ref q9 :: rest))) : W p l e (rmD D mcR msR) s m args below meth c H locs cells slots Q (F0 m pc ls st) := by
  intro T hT X
  obtain ⟨v, st₀, t, T', L, h0, X', hL, e1, e2, ⟨q9, hv, hq9, hp, hz, hk⟩, go⟩ := hr T hT X
  have hv : v = some (.ref q9) := by injection hv
  subst hv
  rw [h0] at hz hk hq9
  obtain ⟨t2, a1, b1⟩ := kk q9 T'.heap (locs ++ L) hq9 (by rw [e1]; exact hp) (by rw [e1]; exact hz) (fun q h1 h2 => by rw [e1]; exact hk q h1 h2)
    ⟨Nat.le_trans hS.1 (by rw [e1]; exact hz), fun q h1 h2 => by rw [e1, hk q (Nat.lt_of_lt_of_le h1 hS.1) (fun z => z)]; exact hS.2.1 q h1 h2, fun q hq => by
      rcases List.mem_append.mp hq with h | h
      · exact hS.2.2 q h
      · exact hA1 _ (hL q h)⟩ T' rfl X'
  exact ⟨t2, go t2 a1, b1⟩
theorem me_cS {yM : MethodName} {retM : Option FieldType} (hx : p.tables.exec = Jvm.exec) (hb : c.code = cc) (hml : c.maxLocals = nL) (hown : s.vm.findClass own = some m.cls) (hts : ∀ w ∈ wsm yM cc nL retM, w.before args s = true) (hE : EV E B0 s s.heap)
    (hM : ME l E B0 y cY maxL ret d mc ms As P post A1) (hC : CS own idx y cY maxL ret n) (hP : P H) (hS : va_S A s.heap H locs) (hAB : ∀ q, A q → B0 ≤ q) (hA1 : ∀ q, A1 q → A q)
    (hn : As.length = n) (hl : ls.size = nL) (hst : st = As.reverse ++ rest) (hd : d + 1 ≤ D) (hrest : (rest.map fun v => v.category).sum ≤ 8) (hf : cells + mc ≤ mcR ∧ slots + ms ≤ msR) (hdg : decode cc pc = .ok (.invokestatic idx, 3))
    (kk : ∀ (q9 : Nat) (H1 : Heap) (locs1 : List Loc), H.size ≤ q9 → post q9 H1 → H.size ≤ H1.size → (∀ q : Nat, q < H.size → ¬ nv q → H1[q]? = H[q]?) → va_S A s.heap H1 locs1 → W p l e (rmD D mcR msR) s m args below meth c H1 locs1 (cells + mc) (slots + ms) Q (F0 m (pc + 3) ls (.ref q9 :: rest))) : W p l e (rmD D mcR msR) s m args below meth c H locs cells slots Q (F0 m pc ls st) := by
  obtain ⟨c1, c2, c3, c4, c5, c6⟩ := hC
  have hT : ∀ w ∈ WA, w ∈ wsm yM cc nL retM := fun w h => List.mem_cons_of_mem _ h
  refine me_go (As := As) (va_runS (As := As) (rest := rest) ⟨hx, hb, hml, hown, hts⟩ hM (va_cwS n hts ?_ rfl rfl rfl c5 ⟨hd, ?_⟩) ⟨mu_blind, fun U hU hW => ⟨rfl, ev_at hE hS hAB hU hW, by rw [hU]; exact hP⟩⟩ rfl hn hl hst (by simpa using hrest) hdg hf) hS hA1 kk
  · intro w hw
    rcases List.mem_append.mp hw with h | h
    · simp only [List.mem_cons, List.not_mem_nil, or_false] at h
      rcases h with h | h | h <;> subst h
      · exact ⟨hT _ c1, WA_good c1⟩
      · exact ⟨hT _ c2, WA_good c2⟩
      · exact ⟨hT _ c3, WA_good c3⟩
    · exact wsm_good hT c4 w h
  · show 8 + (maxL + 11) + 64 * d ≤ 64 * D
    omega
end QEROWS
theorem me_of {l : Launch} {E : EP} {B0 : Nat} {y : MethodName} {cY : ByteArray} {maxL : Nat} {ret : Option FieldType} {d mc ms : Nat} {As : List Value} {P : Heap → Prop} {post : Nat → Heap → Prop} {A : Nat → Prop} (hy : plainName y.cls = true) (hlen : (lg_sl As).length ≤ maxL)
    (body : ∀ (p : Program) (e : Env) (s : State) (m : MethodId) (args : Array Value) (below : List Frame) (meth : Method) (c : Code), p.tables.exec = Jvm.exec → c.code = cY → c.maxLocals = maxL → s.vm.findClass y.cls = some m.cls → (∀ w ∈ wsm y cY maxL ret, w.before args s = true) → meth.sig.returnType = ret → meth.locks = false → EV E B0 s s.heap → P s.heap → ∀ ls : Array Slot, lv_has ls maxL (lv_args 0 As) →
      W p l e (rmD d mc ms) s m args below meth c s.heap [] 0 0 (MQ below (QE post A) args s mc ms A) (F0 m 0 ls [])) : ME l E B0 y cY maxL ret d mc ms As P post A := by
  refine Met.ofW (cc := cY) (maxL := maxL) (ret := ret) hy rfl ?_
  intro p e s m args below meth c s₁ B hml hv
  obtain ⟨rfl, hE, hP⟩ := hv
  have hts := atoms_spec (ws := wsm y cY maxL ret) B.pre
  have hown : s.vm.findClass y.cls = some m.cls := findClass_of_methodNamed B.named
  have hl := lv_entry As (n := maxL) hlen
  rw [lg_entry_eq]
  exact body p e s m _ below meth c B.exec B.bytes hml hown hts B.returns B.notSynchronized hE hP _ hl
theorem wa_bytes : Cond.arrayClass .byte ∈ WA := WA_of 342 (by decide +kernel) (by decide +kernel)
def fitB (f : Nat → Int32) (n : Nat) : Bool := decide (∀ i, i < n → fits .byte (.int (f i)) = true)
theorem fitB_at {f : Nat → Int32} {n : Nat} (h : fitB f n = true) : ∀ i, i < n → fits .byte (.int (f i)) = true := @of_decide_eq_true (∀ i, i < n → fits .byte (.int (f i)) = true) _ h
set_option maxHeartbeats 4000000 in
set_option maxRecDepth 100000 in
/-- Arrays.copyOf of bytes, to a longer row -/
theorem mJ7_copyOf (l : Launch) (E : EP) (B0 : Nat) (bs w L0 cp : Nat) (hb0 : B0 ≤ bs) (hb1 : bs + 2 ≤ L0) (hw9 : w = 1 ∨ L0 ≤ bs + w) (Sy : Mem) (a1 : Int32) (N : Nat) (hN : a1.toNatClampNeg = N) (hn : ¬ a1 < 0) (hN2 : N ≤ 34) (hcp : cp < N) (hfit : fitB (Sy 0) cp = true) :
    ME l E B0 yJ7_copyOf_9075b cJ7_copyOf_9075b 3 (some (.array .byte)) 1 1 34 [.ref ((bs + w) + 0), .int a1] (fun H => L0 ≤ H.size ∧ Blk E (bs + w) (sbB cp) 1 Sy H) (fun q H => Blk E q (sbB N) 1 (fun _ i => if i < cp then Sy 0 i else 0) H) (sbA bs L0) := by
  refine me_of (by decide +kernel) (Nat.le_of_ble_eq_true rfl) ?_
  intro p e s m args below meth c hx hb hml hown hts hrt hlocks hE hP ls hl
  obtain ⟨hL0, hSy⟩ := hP
  have hown : s.vm.findClass RJ7 = some m.cls := hown
  have hw : ∀ w ∈ WA, w.before args s = true := fun w h => hts w (List.mem_cons_of_mem _ h)
  have hS : va_S (fun q => q = bs + w ∨ s.heap.size ≤ q) s.heap s.heap [] := va_S.rf
  have hSy0 := hSy
  have hlt : bs + w + 0 < s.heap.size := hSy.lt (by decide)
  have hl : lv_has ls 3 [(0, .ref ((bs + w) + 0)), (1, .int a1)] := hl
  obtain ⟨j, hj, rfl⟩ := nI_of hn
  rw [nI_clamp hj] at hN
  subst hN
  refine lv_iload_n hx hb dJ7_copyOf_9075b_0 rfl (lv_at hl 1 rfl) ?_
  refine lv_aload_n hx hb dJ7_copyOf_9075b_1 rfl (lv_at hl 0 rfl) ?_
  refine w_blen (k := 0) hx hb hE hSy (by decide) rfl dJ7_copyOf_9075b_2 ?_
  refine lv_icmp_ne (tgt := 14) hx hb dJ7_copyOf_9075b_3 (by decide) (fun c1 => ?_) (fun c1 => absurd ((nI_eq (by omega) (by omega)).mp c1) (by omega))
  refine lv_iload_n hx hb dJ7_copyOf_9075b_14 rfl (lv_at hl 1 rfl) ?_
  refine w_newa (ty := .byte) (t := 5) (N := j) (sh := sbB j) hx hb rfl rfl (fun _ _ => rfl) rfl (fun _ _ => rfl) (hw _ wa_bytes) hE hS hn (nI_clamp hj) (by show j * 1 ≤ _; omega) (by decide) (by show 0 + j ≤ 34; omega) dJ7_copyOf_9075b_15 (fun H1 hN z1 o1 hS => ?_)
  have hSy := hSy.ext o1
  refine lv_astore_n (lv' := [(2, .ref (s.heap.size + 0)), (0, .ref ((bs + w) + 0)), (1, .int (nI j))]) hx hb dJ7_copyOf_9075b_17 rfl hl (by decide) rfl (fun ls hl => ?_)
  refine lv_aload_n hx hb dJ7_copyOf_9075b_18 rfl (lv_at hl 1 rfl) ?_
  refine lv_iconst (v := 0) hx hb dJ7_copyOf_9075b_19 (by decide) ?_
  refine lv_aload_n hx hb dJ7_copyOf_9075b_20 rfl (lv_at hl 0 rfl) ?_
  refine lv_iconst (v := 0) hx hb dJ7_copyOf_9075b_21 (by decide) ?_
  refine lv_aload_n hx hb dJ7_copyOf_9075b_22 rfl (lv_at hl 1 rfl) ?_
  refine w_blen (k := 0) hx hb hE hSy (by decide) rfl dJ7_copyOf_9075b_23 ?_
  refine lv_iload_n hx hb dJ7_copyOf_9075b_24 rfl (lv_at hl 2 rfl) ?_
  refine va_mmin hx hb (hml.trans hl.1.symm) hown (hw _ (pm_J7_304 _ (by simp))) (hw _ (pm_J7_304 _ (by simp))) (hw _ (pm_J7_304 _ (by simp))) (hw _ (pm_J7_304 _ (by simp))) (by decide) (Nat.le_of_ble_eq_true rfl) (by decide) (by show 0 + j ≤ 34; omega) dJ7_copyOf_9075b_25 ?_
  rw [if_neg (show ¬ nI j < nI cp from nI_nlt (by omega) (by omega))]
  have h0 : va_at E.1 vwCl (bs + w + 0, .inl (E.2.1 5, cp, .inl (Sy 0))) H1 := hSy 0 (by decide)
  have h1 : va_at E.1 vwCl (s.heap.size + 0, .inl (E.2.1 5, j, .inl (fun _ => 0))) H1 := hN 0 (by decide)
  have hP : va_P E.1 vwCl [(bs + w + 0, .inl (E.2.1 5, cp, .inl (Sy 0))), (s.heap.size + 0, .inl (E.2.1 5, j, .inl (fun _ => 0)))] H1 := by
    intro k q hk
    match k with
    | 0 => cases hk; exact h0
    | 1 => cases hk; exact h1
    | k + 2 => simp at hk
  have hD : va_D (fun q => q = bs + w ∨ s.heap.size ≤ q) [(bs + w + 0, .inl (E.2.1 5, cp, .inl (Sy 0))), (s.heap.size + 0, .inl (E.2.1 5, j, .inl (fun _ => 0)))] := by
    refine ⟨?_, ?_⟩
    · intro i k q1 q2 hi hk he
      match i, k with
      | 0, 0 => rfl
      | 1, 1 => rfl
      | 0, 1 => cases hi; cases hk; exact absurd he (Nat.ne_of_lt hlt)
      | 1, 0 => cases hi; cases hk; exact absurd he.symm (Nat.ne_of_lt hlt)
      | i + 2, _ => simp at hi
      | _, k + 2 => simp at hk
    · intro k q hk
      match k with
      | 0 => cases hk; exact Or.inl rfl
      | 1 => cases hk; exact Or.inr (Nat.le_refl _)
      | k + 2 => simp at hk
  refine va_copyi hx hb (hml.trans hl.1.symm) hown (hw _ (ac_J7_150 _ (by simp))) (hw _ (ac_J7_150 _ (by simp))) (hw _ (ac_J7_150 _ (by simp))) (hw _ (ac_J7_150 _ (by simp))) hE.1 hP hD hS 0 1 5 5 rfl rfl rfl rfl rfl (by decide) (by decide) (nI_pos (by omega)) (by rw [nI_clamp (by omega)]; show 0 + cp ≤ cp; omega) (by rw [nI_clamp (by omega)]; show 0 + cp ≤ j; omega) (fun i hi => ?_) (by decide) (by decide +kernel) dJ7_copyOf_9075b_28 (fun H2 locs2 hP2 hD2 hS2 => ?_)
  · rw [nI_clamp (by omega)] at hi
    show fits .byte (.int (Sy 0 (0 + i))) = true
    rw [Nat.zero_add]
    exact fitB_at hfit i hi
  refine lv_aload_n hx hb dJ7_copyOf_9075b_31 rfl (lv_at hl 0 rfl) ?_
  refine W.widen (k := 1) (n := 34) (by decide) (by show 0 + j ≤ 34; omega) ?_
  have hfr : ∀ q : Nat, q < s.heap.size → H2[q]? = s.heap[q]? := by
    intro q h1
    by_cases hq : q = bs + w
    · subst hq
      have h8 : H2[bs + w + 0]? = some (vp_cell (E.2.1 5) (cp, .inl (Sy 0))) := hP2 0 _ rfl
      have h7 : s.heap[bs + w + 0]? = some (vp_cell (E.2.1 5) (cp, .inl (Sy 0))) := hSy0 0 (by decide)
      exact h8.trans h7.symm
    · exact hS2.2.1 q h1 (fun z => z.elim hq (fun z => Nat.not_le.mpr h1 z))
  have hlo : ∀ q ∈ locs2, sbA bs L0 q.base := by
    intro q hq
    rcases hS2.2.2 q hq with h | h
    · rw [h]; exact sbA_w hw9
    · exact Or.inr (Or.inr (Nat.le_trans hL0 h))
  have hNb : Blk E (s.heap.size + 0) (sbB j) 1 (fun _ i => if i < cp then Sy 0 i else 0) H2 := by
    intro k hk
    obtain rfl : k = 0 := by omega
    have h9 : H2[s.heap.size + 0]? = some (vp_cell (E.2.1 5) (j, .inl (va_cpy (Sy 0) (fun _ => 0) (0 : Int32).toNatClampNeg (0 : Int32).toNatClampNeg (nI cp).toNatClampNeg))) := hP2 1 _ rfl
    have e9 : va_cpy (Sy 0) (fun _ => 0) (0 : Int32).toNatClampNeg (0 : Int32).toNatClampNeg (nI cp).toNatClampNeg = fun i => if i < cp then Sy 0 i else 0 := by
      rw [nI_clamp (by omega)]
      funext i
      show (if 0 ≤ i ∧ i < 0 + cp then Sy 0 (0 + (i - 0)) else 0) = _
      by_cases h : i < cp
      · rw [if_pos ⟨Nat.zero_le _, by omega⟩, if_pos h, Nat.zero_add, Nat.sub_zero]
      · rw [if_neg (by omega), if_neg h]
    rw [e9] at h9
    exact h9
  exact W.aret hx hb hrt (Or.inr ⟨_, rfl⟩) (Or.inr ⟨_, rfl⟩) (fun t ht _ => ⟨_, rfl, Nat.le_refl _, by rw [ht]; exact hNb, by rw [ht]; exact hS2.1, fun q h1 _ => by rw [ht]; exact hfr q h1⟩) hlo dJ7_copyOf_9075b_32 hlocks
def sbU (So Sy : Mem) (cp : Nat) : TX := (fun k => if k = 0 then So 0 else Sy 0, cp)
theorem sbT_mk {E : EP} {bs L0 w cp : Nat} {So Sy : Mem} {H : Heap} (h : L0 ≤ H.size) (hw : 1 ≤ w) (hw9 : w = 1 ∨ L0 ≤ bs + w) (hSo : Blk E bs (sbO w) 1 So H) (hSy : Blk E (bs + w) (sbB cp) 1 Sy H) : SBt E bs L0 (sbU So Sy cp) H :=
  ⟨h, w, hw, hw9, hSo.one rfl, hSy.one rfl⟩
/-- room for a1 bytes -/
def sbEns (Sb : TX) (a1 : Int32) : Option TX := if (a1 - ((nI Sb.2) >>> ((Sb.1 0 1) &&& 31))) ≤ 0 then some Sb else (fJ5_newCapacity_0f7a4 (fun _ => Sb.1 0) (fun _ => Sb.1 1) Sb.2 a1).bind fun z => gd (decide (¬ (z <<< ((Sb.1 0 1) &&& 31)) < 0 ∧ (z <<< ((Sb.1 0 1) &&& 31)).toNatClampNeg ≤ 34 ∧ Sb.2 < (z <<< ((Sb.1 0 1) &&& 31)).toNatClampNeg)) (gd (fitB (Sb.1 1) Sb.2) (some (fun k => if k = 1 then fun i => if i < Sb.2 then Sb.1 1 i else 0 else Sb.1 k, (z <<< ((Sb.1 0 1) &&& 31)).toNatClampNeg)))
set_option maxHeartbeats 4000000 in
set_option maxRecDepth 100000 in
theorem mJ5_ens (l : Launch) (E : EP) (B0 : Nat) (bs : Nat) (L0 : Nat) (hb0 : B0 ≤ bs) (hb1 : bs + 2 ≤ L0) (Sb : TX) (a1 : Int32) (r : TX) (hf : sbEns Sb a1 = some r) : MU l E B0 yJ5_ensureCapacityInternal_d00df cJ5_ensureCapacityInternal_d00df 3 none 3 1 34 [.ref (bs + 0), .int a1] (SBt E bs L0 Sb) none (SBt E bs L0 r) (sbA bs L0) := by
  refine mu_of (by decide +kernel) (Nat.le_of_ble_eq_true rfl) ?_
  intro p e s m args below meth c hx hb hml hown hts hrt hlocks hE H hSb hS ls hl
  have hown : s.vm.findClass RJ5 = some m.cls := hown
  have hl : lv_has ls 3 [(0, .ref (bs + 0)), (1, .int a1)] := hl
  have hw : ∀ w ∈ WA, w.before args s = true := fun w h => hts w (List.mem_cons_of_mem _ h)
  have hAB : ∀ q, sbA bs L0 q → B0 ≤ q := sb_ge (by omega) (by omega)
  have hSb0 := hSb
  obtain ⟨hz0, w, hb2, hw9, hSo, hSy⟩ := hSb
  unfold sbEns at hf
  refine lv_aload_n hx hb dJ5_ensureCapacityInternal_d00df_0 rfl (lv_at hl 0 rfl) ?_
  refine w_get (k := 0) (v := .ref ((bs + w) + 0)) hx hb hw hown hE fl_J5_15 hSo (by decide) rfl rfl rfl dJ5_ensureCapacityInternal_d00df_1 ?_
  refine w_blen (k := 0) hx hb hE hSy (by decide) rfl dJ5_ensureCapacityInternal_d00df_4 ?_
  refine lv_aload_n hx hb dJ5_ensureCapacityInternal_d00df_5 rfl (lv_at hl 0 rfl) ?_
  refine w_get (k := 0) (v := .int (Sb.1 0 1)) hx hb hw hown hE fl_J5_22 hSo (by decide) rfl rfl rfl dJ5_ensureCapacityInternal_d00df_6 ?_
  refine lv_ishr hx hb dJ5_ensureCapacityInternal_d00df_9 ?_
  refine lv_istore_n (lv' := [(2, .int ((nI Sb.2) >>> ((Sb.1 0 1) &&& 31))), (0, .ref (bs + 0)), (1, .int a1)]) hx hb dJ5_ensureCapacityInternal_d00df_10 rfl hl (by decide) rfl (fun ls hl => ?_)
  refine lv_iload_n hx hb dJ5_ensureCapacityInternal_d00df_11 rfl (lv_at hl 2 rfl) ?_
  refine lv_iload_n hx hb dJ5_ensureCapacityInternal_d00df_12 rfl (lv_at hl 0 rfl) ?_
  refine lv_isub hx hb dJ5_ensureCapacityInternal_d00df_13 ?_
  refine lv_if_le (tgt := 38) hx hb dJ5_ensureCapacityInternal_d00df_14 (by decide) (fun c1 => ?_) (fun c1 => ?_)
  · rw [if_pos c1] at hf
    have hre := Option.some.inj hf
    subst hre
    refine W.widen (k := 1) (n := 34) (by decide) (by decide) ?_
    exact mu_v hx hb hrt hlocks hSb0 hS dJ5_ensureCapacityInternal_d00df_38
  · rw [if_neg c1] at hf
    obtain ⟨z, hc, hf⟩ := br_some hf
    obtain ⟨g1, hf⟩ := gd_some hf
    obtain ⟨g2, hf⟩ := gd_some hf
    have g1 := of_decide_eq_true g1
    obtain ⟨g3, g4, g5⟩ := g1
    have hre := Option.some.inj hf
    subst hre
    refine lv_aload_n hx hb dJ5_ensureCapacityInternal_d00df_17 rfl (lv_at hl 1 rfl) ?_
    refine lv_aload_n hx hb dJ5_ensureCapacityInternal_d00df_18 rfl (lv_at hl 1 rfl) ?_
    refine w_get (k := 0) (v := .ref ((bs + w) + 0)) hx hb hw hown hE fl_J5_15 hSo (by decide) rfl rfl rfl dJ5_ensureCapacityInternal_d00df_19 ?_
    refine lv_aload_n hx hb dJ5_ensureCapacityInternal_d00df_22 rfl (lv_at hl 1 rfl) ?_
    refine lv_iload_n hx hb dJ5_ensureCapacityInternal_d00df_23 rfl (lv_at hl 2 rfl) ?_
    refine mu_cVU (As := [.int a1]) (rest := [.ref ((bs + w) + 0), .ref (bs + 0)]) hx hb hml hown hts hE (mJ5_newCapacity_0f7a4 l E B0 bs w (by omega) hb2 (fun _ => Sb.1 0) (fun _ => Sb.1 1) Sb.2 a1 z hc) ci_J5_104 (w_recv (k := 0) (ci := 1) hE hSo (by decide) rfl rfl) ⟨hSo, hSy⟩ hS hAB (fun _ h => h.elim) rfl hl.1 rfl (by decide) (Nat.le_of_ble_eq_true rfl) ⟨by decide, by decide⟩ dJ5_ensureCapacityInternal_d00df_24 (fun H locs hP9 hz hu hS => ?_)
    obtain ⟨hSo, hSy⟩ := hP9
    have hz0 : L0 ≤ H.size := by omega
    refine lv_aload_n hx hb dJ5_ensureCapacityInternal_d00df_27 rfl (lv_at hl 1 rfl) ?_
    refine w_get (k := 0) (v := .int (Sb.1 0 1)) hx hb hw hown hE fl_J5_22 hSo (by decide) rfl rfl rfl dJ5_ensureCapacityInternal_d00df_28 ?_
    refine lv_ishl hx hb dJ5_ensureCapacityInternal_d00df_31 ?_
    generalize hn9 : z <<< ((Sb.1 0 1) &&& 31) = n9 at g3 g4 g5 ⊢
    generalize hj9 : n9.toNatClampNeg = j9 at g4 g5 ⊢
    refine me_cS (As := [.ref ((bs + w) + 0), .int n9]) (rest := [.ref (bs + 0)]) hx hb hml hown hts hE (mJ7_copyOf l E B0 bs w L0 Sb.2 hb0 hb1 hw9 (fun _ => Sb.1 1) n9 j9 hj9 g3 g4 g5 g2) cs_J5_108 ⟨hz0, hSy⟩ hS hAB (fun _ h => h) rfl hl.1 rfl (by decide) (Nat.le_of_ble_eq_true rfl) ⟨by decide, by decide⟩ dJ5_ensureCapacityInternal_d00df_32 (fun q9 H1 locs1 hq9 hN hz hu hS => ?_)
    have hbs : bs + 0 < H.size := hSo.lt (by decide)
    have hSo := Blk.off hSo hu (fun _ _ _ h => h)
    have h0 : va_at E.1 vwCl (bs + 0, .inr (1, slv E bs (Sb.1 0) 0 [(1, w), (0, 0), (0, 0), (0, 0)])) H1 := hSo 0 (by decide)
    have h1 : va_at E.1 vwCl (q9 + 0, .inl (E.2.1 5, j9, .inl (fun i => if i < Sb.2 then Sb.1 1 i else 0))) H1 := hN 0 (by decide)
    have hP : va_P E.1 vwCl [(bs + 0, .inr (1, slv E bs (Sb.1 0) 0 [(1, w), (0, 0), (0, 0), (0, 0)])), (q9 + 0, .inl (E.2.1 5, j9, .inl (fun i => if i < Sb.2 then Sb.1 1 i else 0)))] H1 := by
      intro k q hk
      match k with
      | 0 => cases hk; exact h0
      | 1 => cases hk; exact h1
      | k + 2 => simp at hk
    have hD : va_D (sbA bs L0) [(bs + 0, .inr (1, slv E bs (Sb.1 0) 0 [(1, w), (0, 0), (0, 0), (0, 0)])), (q9 + 0, .inl (E.2.1 5, j9, .inl (fun i => if i < Sb.2 then Sb.1 1 i else 0)))] := by
      refine ⟨?_, ?_⟩
      · intro i k q1 q2 hi hk he
        match i, k with
        | 0, 0 => rfl
        | 1, 1 => rfl
        | 0, 1 => cases hi; cases hk; exact absurd he (by show ¬ bs + 0 = q9 + 0; omega)
        | 1, 0 => cases hi; cases hk; exact absurd he (by show ¬ q9 + 0 = bs + 0; omega)
        | i + 2, _ => simp at hi
        | _, k + 2 => simp at hk
      · intro k q hk
        match k with
        | 0 => cases hk; exact Or.inl rfl
        | 1 => cases hk; exact Or.inr (Or.inr (by show L0 ≤ q9 + 0; omega))
        | k + 2 => simp at hk
    refine va_put (D := E.1) (ci := 1) (C := RJ4) (T := TJ4) (N := 4) (v := .ref q9) (ty := .array .byte) hx hb hw uw_J4 tyJ4 tyJ4_ok nmJ4 hown hE.1 hP hD hS 0 rfl rfl 0 (by decide) (hw _ fl_J5_15.2.2.1) (fun _ h => h) rfl (by decide +kernel) rfl (by simp [fits]) (by rw [slv_len]; exact Nat.zero_lt_succ _) dJ5_ensureCapacityInternal_d00df_35 (fun H2 locs2 hP2 hD2 hS2 => ?_)
    have hq2 : q9 + 0 < H2.size := vx_lt hP2 (k := 1) rfl
    refine W.widen (k := 1) (n := 34) (by decide) (by decide) ?_
    have e9 : bs + (q9 - bs) = q9 := by omega
    refine mu_v hx hb hrt hlocks ⟨by omega, q9 - bs, by omega, Or.inr (by omega), ?_, ?_⟩ hS2 dJ5_ensureCapacityInternal_d00df_38
    · intro k hk
      obtain rfl : k = 0 := by omega
      show va_at E.1 vwCl (bs + 0, .inr (1, [.ref (bs + (q9 - bs)), .int (Sb.1 0 1), .int (Sb.1 0 2), .int (Sb.1 0 3)])) H2
      rw [e9]
      exact hP2 0 _ rfl
    · rw [e9]
      intro k hk
      obtain rfl : k = 0 := by omega
      exact hP2 1 _ rfl
noncomputable def fJ5_append_3fe6f_g (So : Mem) (Sy : Mem) (cp : Nat) (a1 : Int32) : Option (Mem × Mem) := (fJ5_isLatin1_aae02 So cp).bind fun z3 => (if z3 = 0 then (fJ5_isLatin1_aae02 So cp).bind fun z6 => (if z6 = 0 then none else none) else (fJ1_canEncode_fc78d a1).bind fun z9 => (if z9 = 0 then (fJ5_isLatin1_aae02 So cp).bind fun z12 => (if z12 = 0 then none else none) else gd (inb (So 0 3) cp) (some ((up2 So 0 3 ((So 0 3) + 1)), (up2 Sy 0 ((So 0 3).toNatClampNeg) (vp_nar .byte (a1.toInt8.toInt32)))))))
noncomputable def fJ5_append_3fe6f (Sb : TX) (a1 : Int32) : Option TX := (sbEns Sb ((Sb.1 0 3) + 1)).bind fun t => (fJ5_append_3fe6f_g (fun _ => t.1 0) (fun _ => t.1 1) t.2 a1).bind fun z => some (sbU z.1 z.2 t.2)
set_option maxHeartbeats 4000000 in
set_option maxRecDepth 100000 in
theorem mJ5_append_3fe6f (l : Launch) (E : EP) (B0 : Nat) (bs : Nat) (L0 : Nat) (hb0 : B0 ≤ bs) (hb1 : bs + 2 ≤ L0) (Sb : TX) (a1 : Int32) (r : TX) (hf : fJ5_append_3fe6f Sb a1 = some r) : MU l E B0 yJ5_append_3fe6f cJ5_append_3fe6f 2 (some (.object "java/lang/AbstractStringBuilder")) 5 1 34 [.ref (bs + 0), .int a1] (SBt E bs L0 Sb) (some (.ref (bs + 0))) (SBt E bs L0 r) (sbA bs L0) := by
  refine mu_of (by decide +kernel) (Nat.le_of_ble_eq_true rfl) ?_
  intro p e s m args below meth c hx hb hml hown hts hrt hlocks hE H hSb hS ls hl
  have hSb0 := hSb
  obtain ⟨hz0, w, hb11, hb12, hSo, hSy⟩ := hSb
  have hb2 : 1 ≤ w := hb11
  obtain ⟨So, hSoE⟩ : ∃ So : Mem, So = fun _ => Sb.1 0 := ⟨_, rfl⟩
  obtain ⟨Sy, hSyE⟩ : ∃ Sy : Mem, Sy = fun _ => Sb.1 1 := ⟨_, rfl⟩
  have hS03 : Sb.1 0 3 = So 0 3 := by rw [hSoE]
  rw [← hSoE] at hSo
  rw [← hSyE] at hSy
  have hown : s.vm.findClass RJ5 = some m.cls := hown
  have hl : lv_has ls 2 [(0, .ref (bs + 0)), (1, .int a1)] := hl
  have hw : ∀ w ∈ WA, w.before args s = true := fun w h => hts w (List.mem_cons_of_mem _ h)
  have hAB : ∀ q, sbA bs L0 q → B0 ≤ q := sb_ge (by omega) (by omega)
  unfold fJ5_append_3fe6f at hf
  rw [hS03] at hf
  refine lv_aload_n hx hb dJ5_append_3fe6f_0 rfl (lv_at hl 0 rfl) ?_
  refine lv_aload_n hx hb dJ5_append_3fe6f_1 rfl (lv_at hl 0 rfl) ?_
  refine w_get (k := 0) (v := .int (So 0 3)) hx hb hw hown hE fl_J5_79 hSo (by decide) rfl rfl rfl dJ5_append_3fe6f_2 ?_
  refine lv_iconst (v := 1) hx hb dJ5_append_3fe6f_5 (by decide) ?_
  refine lv_iadd hx hb dJ5_append_3fe6f_6 ?_
  obtain ⟨t, hc2, hf⟩ := br_some hf
  refine mu_cVU (As := [.int ((So 0 3) + 1)]) (rest := []) hx hb hml hown hts hE (mJ5_ens l E B0 bs L0 (by omega) (by omega) Sb ((So 0 3) + 1) t hc2) ci_J5_100 (w_recv (k := 0) (ci := 1) hE hSo (by decide) rfl rfl) hSb0 hS hAB (fun _ h => h) rfl hl.1 rfl (by decide) (Nat.le_of_ble_eq_true rfl) ⟨by decide, by decide⟩ dJ5_append_3fe6f_7 (fun H locs hSb hz hu hS => ?_)
  obtain ⟨z, hfg, hf⟩ := br_some hf
  clear hSo hSy hSoE hSyE hS03 hb11 hb12 hb2
  obtain ⟨hz0, w, hb2, hw9, hSo, hSy⟩ := hSb
  obtain ⟨cp, hcpE⟩ : ∃ cp : Nat, cp = t.2 := ⟨_, rfl⟩
  obtain ⟨So, hSoE⟩ : ∃ So : Mem, So = fun _ => t.1 0 := ⟨_, rfl⟩
  obtain ⟨Sy, hSyE⟩ : ∃ Sy : Mem, Sy = fun _ => t.1 1 := ⟨_, rfl⟩
  rw [← hSoE, ← hSyE, ← hcpE] at hfg
  rw [← hcpE] at hf
  rw [← hSoE] at hSo
  rw [← hSyE, ← hcpE] at hSy
  have hre9 := Option.some.inj hf
  clear hf
  have hf := hfg
  unfold fJ5_append_3fe6f_g at hf
  refine lv_aload_n hx hb dJ5_append_3fe6f_10 rfl (lv_at hl 0 rfl) ?_
  obtain ⟨z3, hc4, hf⟩ := br_some hf
  refine mu_cVU (As := []) (rest := []) hx hb hml hown hts hE (mJ5_isLatin1_aae02 l E B0 bs w (by omega) (by omega) So cp z3 hc4) ci_J5_83 (w_recv (k := 0) (ci := 1) hE hSo (by decide) rfl rfl) hSo hS hAB (fun _ h => h.elim) rfl hl.1 rfl (by decide) (Nat.le_of_ble_eq_true rfl) ⟨by decide, by decide⟩ dJ5_append_3fe6f_11 (fun H locs hSo hz hu hS => ?_)
  have hz0 : L0 ≤ H.size := by omega
  have hSy := Blk.off hSy hu (fun _ _ _ h => h)
  refine lv_if_eq (tgt := 45) hx hb dJ5_append_3fe6f_14 (by decide) (fun c5 => ?_) (fun c5 => ?_)
  · rw [if_pos c5] at hf
    refine lv_aload_n hx hb dJ5_append_3fe6f_45 rfl (lv_at hl 0 rfl) ?_
    obtain ⟨z6, hc7, hf⟩ := br_some hf
    refine mu_cVU (As := []) (rest := []) hx hb hml hown hts hE (mJ5_isLatin1_aae02 l E B0 bs w (by omega) (by omega) So cp z6 hc7) ci_J5_83 (w_recv (k := 0) (ci := 1) hE hSo (by decide) rfl rfl) hSo hS hAB (fun _ h => h.elim) rfl hl.1 rfl (by decide) (Nat.le_of_ble_eq_true rfl) ⟨by decide, by decide⟩ dJ5_append_3fe6f_46 (fun H locs hSo hz hu hS => ?_)
    have hz0 : L0 ≤ H.size := by omega
    have hSy := Blk.off hSy hu (fun _ _ _ h => h)
    refine lv_if_eq (tgt := 56) hx hb dJ5_append_3fe6f_49 (by decide) (fun c8 => ?_) (fun c8 => ?_)
    · rw [if_pos c8] at hf
      refine lv_aload_n hx hb dJ5_append_3fe6f_56 rfl (lv_at hl 0 rfl) ?_
      refine w_get (k := 0) (v := .ref ((bs + w) + 0)) hx hb hw hown hE fl_J5_15 hSo (by decide) rfl rfl rfl dJ5_append_3fe6f_57 ?_
      refine lv_aload_n hx hb dJ5_append_3fe6f_60 rfl (lv_at hl 0 rfl) ?_
      refine lv_dup hx hb dJ5_append_3fe6f_61 rfl ?_
      refine w_get (k := 0) (v := .int (So 0 3)) hx hb hw hown hE fl_J5_79 hSo (by decide) rfl rfl rfl dJ5_append_3fe6f_62 ?_
      refine lv_dup_x1 hx hb dJ5_append_3fe6f_65 rfl rfl ?_
      refine lv_iconst (v := 1) hx hb dJ5_append_3fe6f_66 (by decide) ?_
      refine lv_iadd hx hb dJ5_append_3fe6f_67 ?_
      refine w_put (k := 0) (v := .int ((So 0 3) + 1)) hx hb hw hown hE fl_J5_79 fw_J4_3 hSo (by decide) rfl rfl ((So 0 3) + 1) rfl rfl rfl hS (Or.inl rfl) dJ5_append_3fe6f_68 (fun H locs hSo hz hu hS => ?_)
      have hz0 : L0 ≤ H.size := by omega
      have hu := hu_iv (n := 1) (by decide) hu
      have hSy := Blk.off hSy hu (iv_dis (by omega))
      refine lv_iload_n hx hb dJ5_append_3fe6f_71 rfl (lv_at hl 1 rfl) ?_
      exact nomatch hf
    · rw [if_neg c8] at hf
      refine lv_aload_n hx hb dJ5_append_3fe6f_52 rfl (lv_at hl 0 rfl) ?_
      exact nomatch hf
  · rw [if_neg c5] at hf
    refine lv_iload_n hx hb dJ5_append_3fe6f_17 rfl (lv_at hl 1 rfl) ?_
    obtain ⟨z9, hc10, hf⟩ := br_some hf
    refine mu_cS (As := [.int a1]) (rest := []) hx hb hml hown hts hE (mJ1_canEncode_fc78d l E B0 a1 z9 hc10) cs_J5_191 trivial hS hAB (fun _ h => h.elim) rfl hl.1 rfl (by decide) (Nat.le_of_ble_eq_true rfl) ⟨by decide, by decide⟩ dJ5_append_3fe6f_18 (fun H locs _ hz hu hS => ?_)
    have hz0 : L0 ≤ H.size := by omega
    have hSo := Blk.off hSo hu (fun _ _ _ h => h)
    have hSy := Blk.off hSy hu (fun _ _ _ h => h)
    refine lv_if_eq (tgt := 45) hx hb dJ5_append_3fe6f_21 (by decide) (fun c11 => ?_) (fun c11 => ?_)
    · rw [if_pos c11] at hf
      refine lv_aload_n hx hb dJ5_append_3fe6f_45 rfl (lv_at hl 0 rfl) ?_
      obtain ⟨z12, hc13, hf⟩ := br_some hf
      refine mu_cVU (As := []) (rest := []) hx hb hml hown hts hE (mJ5_isLatin1_aae02 l E B0 bs w (by omega) (by omega) So cp z12 hc13) ci_J5_83 (w_recv (k := 0) (ci := 1) hE hSo (by decide) rfl rfl) hSo hS hAB (fun _ h => h.elim) rfl hl.1 rfl (by decide) (Nat.le_of_ble_eq_true rfl) ⟨by decide, by decide⟩ dJ5_append_3fe6f_46 (fun H locs hSo hz hu hS => ?_)
      have hz0 : L0 ≤ H.size := by omega
      have hSy := Blk.off hSy hu (fun _ _ _ h => h)
      refine lv_if_eq (tgt := 56) hx hb dJ5_append_3fe6f_49 (by decide) (fun c14 => ?_) (fun c14 => ?_)
      · rw [if_pos c14] at hf
        refine lv_aload_n hx hb dJ5_append_3fe6f_56 rfl (lv_at hl 0 rfl) ?_
        refine w_get (k := 0) (v := .ref ((bs + w) + 0)) hx hb hw hown hE fl_J5_15 hSo (by decide) rfl rfl rfl dJ5_append_3fe6f_57 ?_
        refine lv_aload_n hx hb dJ5_append_3fe6f_60 rfl (lv_at hl 0 rfl) ?_
        refine lv_dup hx hb dJ5_append_3fe6f_61 rfl ?_
        refine w_get (k := 0) (v := .int (So 0 3)) hx hb hw hown hE fl_J5_79 hSo (by decide) rfl rfl rfl dJ5_append_3fe6f_62 ?_
        refine lv_dup_x1 hx hb dJ5_append_3fe6f_65 rfl rfl ?_
        refine lv_iconst (v := 1) hx hb dJ5_append_3fe6f_66 (by decide) ?_
        refine lv_iadd hx hb dJ5_append_3fe6f_67 ?_
        refine w_put (k := 0) (v := .int ((So 0 3) + 1)) hx hb hw hown hE fl_J5_79 fw_J4_3 hSo (by decide) rfl rfl ((So 0 3) + 1) rfl rfl rfl hS (Or.inl rfl) dJ5_append_3fe6f_68 (fun H locs hSo hz hu hS => ?_)
        have hz0 : L0 ≤ H.size := by omega
        have hu := hu_iv (n := 1) (by decide) hu
        have hSy := Blk.off hSy hu (iv_dis (by omega))
        refine lv_iload_n hx hb dJ5_append_3fe6f_71 rfl (lv_at hl 1 rfl) ?_
        exact nomatch hf
      · rw [if_neg c14] at hf
        refine lv_aload_n hx hb dJ5_append_3fe6f_52 rfl (lv_at hl 0 rfl) ?_
        exact nomatch hf
    · rw [if_neg c11] at hf
      refine lv_aload_n hx hb dJ5_append_3fe6f_24 rfl (lv_at hl 0 rfl) ?_
      refine w_get (k := 0) (v := .ref ((bs + w) + 0)) hx hb hw hown hE fl_J5_15 hSo (by decide) rfl rfl rfl dJ5_append_3fe6f_25 ?_
      refine lv_aload_n hx hb dJ5_append_3fe6f_28 rfl (lv_at hl 0 rfl) ?_
      refine lv_dup hx hb dJ5_append_3fe6f_29 rfl ?_
      refine w_get (k := 0) (v := .int (So 0 3)) hx hb hw hown hE fl_J5_79 hSo (by decide) rfl rfl rfl dJ5_append_3fe6f_30 ?_
      refine lv_dup_x1 hx hb dJ5_append_3fe6f_33 rfl rfl ?_
      refine lv_iconst (v := 1) hx hb dJ5_append_3fe6f_34 (by decide) ?_
      refine lv_iadd hx hb dJ5_append_3fe6f_35 ?_
      refine w_put (k := 0) (v := .int ((So 0 3) + 1)) hx hb hw hown hE fl_J5_79 fw_J4_3 hSo (by decide) rfl rfl ((So 0 3) + 1) rfl rfl rfl hS (Or.inl rfl) dJ5_append_3fe6f_36 (fun H locs hSo hz hu hS => ?_)
      have hz0 : L0 ≤ H.size := by omega
      have hu := hu_iv (n := 1) (by decide) hu
      have hSy := Blk.off hSy hu (iv_dis (by omega))
      refine lv_iload_n hx hb dJ5_append_3fe6f_39 rfl (lv_at hl 1 rfl) ?_
      refine lv_i2b (v := (a1.toInt8.toInt32)) hx hb dJ5_append_3fe6f_40 rfl ?_
      obtain ⟨h15, hf⟩ := gd_some hf
      refine w_bast (k := 0) (x9 := (So 0 3).toNatClampNeg) (x := (a1.toInt8.toInt32)) hx hb hE hSy (by decide) rfl rfl h15 hS (sbA_w hw9) dJ5_append_3fe6f_41 (fun H locs hSy hz hu hS => ?_)
      have hz0 : L0 ≤ H.size := by omega
      have hu := hu_iv (n := 1) (by decide) hu
      have hSo := Blk.off hSo hu (iv_dis (by omega))
      refine lv_goto (tgt := 75) hx hb dJ5_append_3fe6f_42 (by decide) ?_
      refine lv_aload_n hx hb dJ5_append_3fe6f_75 rfl (lv_at hl 0 rfl) ?_
      have hre := Option.some.inj hf
      subst hre9
      subst hre
      exact mu_a hx hb hrt hlocks (sbT_mk hz0 hb2 hw9 hSo hSy) hS dJ5_append_3fe6f_76
noncomputable def fJ5_append_c97b9_g (So : Mem) (Sy : Mem) (cp : Nat) (a1 : Int32) (n9 : Int32) : Option (Mem × Mem) := (fJ5_isLatin1_aae02 So cp).bind fun z5 => (if z5 = 0 then none else (fJ6_getChars_ba4f3 Sy cp a1 n9).bind fun z8 => some ((up2 So 0 3 n9), z8.2))
noncomputable def fJ5_append_c97b9 (Sb : TX) (a1 : Int32) : Option TX := (fJ6_stringSize_0f7a4 a1).bind fun z1 => (sbEns Sb ((Sb.1 0 3) + z1)).bind fun t => (fJ5_append_c97b9_g (fun _ => t.1 0) (fun _ => t.1 1) t.2 a1 ((Sb.1 0 3) + z1)).bind fun z => some (sbU z.1 z.2 t.2)
set_option maxHeartbeats 4000000 in
set_option maxRecDepth 100000 in
theorem mJ5_append_c97b9 (l : Launch) (E : EP) (B0 : Nat) (bs : Nat) (L0 : Nat) (hb0 : B0 ≤ bs) (hb1 : bs + 2 ≤ L0) (Sb : TX) (a1 : Int32) (r : TX) (hf : fJ5_append_c97b9 Sb a1 = some r) : MU l E B0 yJ5_append_c97b9 cJ5_append_c97b9 4 (some (.object "java/lang/AbstractStringBuilder")) 5 1 34 [.ref (bs + 0), .int a1] (SBt E bs L0 Sb) (some (.ref (bs + 0))) (SBt E bs L0 r) (sbA bs L0) := by
  refine mu_of (by decide +kernel) (Nat.le_of_ble_eq_true rfl) ?_
  intro p e s m args below meth c hx hb hml hown hts hrt hlocks hE H hSb hS ls hl
  have hSb0 := hSb
  obtain ⟨hz0, w, hb11, hb12, hSo, hSy⟩ := hSb
  have hb2 : 1 ≤ w := hb11
  obtain ⟨So, hSoE⟩ : ∃ So : Mem, So = fun _ => Sb.1 0 := ⟨_, rfl⟩
  obtain ⟨Sy, hSyE⟩ : ∃ Sy : Mem, Sy = fun _ => Sb.1 1 := ⟨_, rfl⟩
  have hS03 : Sb.1 0 3 = So 0 3 := by rw [hSoE]
  rw [← hSoE] at hSo
  rw [← hSyE] at hSy
  have hown : s.vm.findClass RJ5 = some m.cls := hown
  have hl : lv_has ls 4 [(0, .ref (bs + 0)), (1, .int a1)] := hl
  have hw : ∀ w ∈ WA, w.before args s = true := fun w h => hts w (List.mem_cons_of_mem _ h)
  have hAB : ∀ q, sbA bs L0 q → B0 ≤ q := sb_ge (by omega) (by omega)
  unfold fJ5_append_c97b9 at hf
  rw [hS03] at hf
  refine lv_aload_n hx hb dJ5_append_c97b9_0 rfl (lv_at hl 0 rfl) ?_
  refine w_get (k := 0) (v := .int (So 0 3)) hx hb hw hown hE fl_J5_79 hSo (by decide) rfl rfl rfl dJ5_append_c97b9_1 ?_
  refine lv_istore_n (lv' := [(2, .int (So 0 3)), (0, .ref (bs + 0)), (1, .int a1)]) hx hb dJ5_append_c97b9_4 rfl hl (by decide) rfl (fun ls hl => ?_)
  refine lv_iload_n hx hb dJ5_append_c97b9_5 rfl (lv_at hl 0 rfl) ?_
  refine lv_iload_n hx hb dJ5_append_c97b9_6 rfl (lv_at hl 2 rfl) ?_
  obtain ⟨z1, hc2, hf⟩ := br_some hf
  refine mu_cS (As := [.int a1]) (rest := [.int (So 0 3)]) hx hb hml hown hts hE (mJ6_stringSize_0f7a4 l E B0 a1 z1 hc2) cs_J5_245 trivial hS hAB (fun _ h => h.elim) rfl hl.1 rfl (by decide) (Nat.le_of_ble_eq_true rfl) ⟨by decide, by decide⟩ dJ5_append_c97b9_7 (fun H locs _ hz hu hS => ?_)
  have hSb0 := SBt.off hSb0 hz hu (fun _ _ h => h)
  have hSo := Blk.off hSo hu (fun _ _ _ h => h)
  have hSy := Blk.off hSy hu (fun _ _ _ h => h)
  refine lv_iadd hx hb dJ5_append_c97b9_10 ?_
  generalize hn9 : (So 0 3) + z1 = n9 at hf ⊢
  refine lv_istore_n (lv' := [(3, .int n9), (2, .int (So 0 3)), (0, .ref (bs + 0)), (1, .int a1)]) hx hb dJ5_append_c97b9_11 rfl hl (by decide) rfl (fun ls hl => ?_)
  refine lv_aload_n hx hb dJ5_append_c97b9_12 rfl (lv_at hl 2 rfl) ?_
  refine lv_iload_n hx hb dJ5_append_c97b9_13 rfl (lv_at hl 0 rfl) ?_
  obtain ⟨t, hc4, hf⟩ := br_some hf
  refine mu_cVU (As := [.int n9]) (rest := []) hx hb hml hown hts hE (mJ5_ens l E B0 bs L0 (by omega) (by omega) Sb n9 t hc4) ci_J5_100 (w_recv (k := 0) (ci := 1) hE hSo (by decide) rfl rfl) hSb0 hS hAB (fun _ h => h) rfl hl.1 rfl (by decide) (Nat.le_of_ble_eq_true rfl) ⟨by decide, by decide⟩ dJ5_append_c97b9_14 (fun H locs hSb hz hu hS => ?_)
  obtain ⟨z, hfg, hf⟩ := br_some hf
  clear hSo hSy hSoE hSyE hS03 hb11 hb12 hb2
  obtain ⟨hz0, w, hb2, hw9, hSo, hSy⟩ := hSb
  obtain ⟨cp, hcpE⟩ : ∃ cp : Nat, cp = t.2 := ⟨_, rfl⟩
  obtain ⟨So, hSoE⟩ : ∃ So : Mem, So = fun _ => t.1 0 := ⟨_, rfl⟩
  obtain ⟨Sy, hSyE⟩ : ∃ Sy : Mem, Sy = fun _ => t.1 1 := ⟨_, rfl⟩
  rw [← hSoE, ← hSyE, ← hcpE] at hfg
  rw [← hcpE] at hf
  rw [← hSoE] at hSo
  rw [← hSyE, ← hcpE] at hSy
  have hre9 := Option.some.inj hf
  clear hf
  have hf := hfg
  unfold fJ5_append_c97b9_g at hf
  refine lv_aload_n hx hb dJ5_append_c97b9_17 rfl (lv_at hl 2 rfl) ?_
  obtain ⟨z5, hc6, hf⟩ := br_some hf
  refine mu_cVU (As := []) (rest := []) hx hb hml hown hts hE (mJ5_isLatin1_aae02 l E B0 bs w (by omega) (by omega) So cp z5 hc6) ci_J5_83 (w_recv (k := 0) (ci := 1) hE hSo (by decide) rfl rfl) hSo hS hAB (fun _ h => h.elim) rfl hl.1 rfl (by decide) (Nat.le_of_ble_eq_true rfl) ⟨by decide, by decide⟩ dJ5_append_c97b9_18 (fun H locs hSo hz hu hS => ?_)
  have hz0 : L0 ≤ H.size := by omega
  have hSy := Blk.off hSy hu (fun _ _ _ h => h)
  refine lv_if_eq (tgt := 37) hx hb dJ5_append_c97b9_21 (by decide) (fun c7 => ?_) (fun c7 => ?_)
  · rw [if_pos c7] at hf
    refine lv_iload_n hx hb dJ5_append_c97b9_37 rfl (lv_at hl 3 rfl) ?_
    refine lv_iload_n hx hb dJ5_append_c97b9_38 rfl (lv_at hl 1 rfl) ?_
    refine lv_iload_n hx hb dJ5_append_c97b9_39 rfl (lv_at hl 0 rfl) ?_
    refine lv_aload_n hx hb dJ5_append_c97b9_40 rfl (lv_at hl 2 rfl) ?_
    refine w_get (k := 0) (v := .ref ((bs + w) + 0)) hx hb hw hown hE fl_J5_15 hSo (by decide) rfl rfl rfl dJ5_append_c97b9_41 ?_
    exact nomatch hf
  · rw [if_neg c7] at hf
    refine lv_iload_n hx hb dJ5_append_c97b9_24 rfl (lv_at hl 3 rfl) ?_
    refine lv_iload_n hx hb dJ5_append_c97b9_25 rfl (lv_at hl 0 rfl) ?_
    refine lv_aload_n hx hb dJ5_append_c97b9_26 rfl (lv_at hl 2 rfl) ?_
    refine w_get (k := 0) (v := .ref ((bs + w) + 0)) hx hb hw hown hE fl_J5_15 hSo (by decide) rfl rfl rfl dJ5_append_c97b9_27 ?_
    obtain ⟨z8, hc9, hf⟩ := br_some hf
    refine mu_cS (As := [.int a1, .int n9, .ref ((bs + w) + 0)]) (rest := []) hx hb hml hown hts hE (mJ6_getChars_ba4f3 l E B0 bs w (by omega) (by omega) Sy cp a1 n9 z8 hc9) cs_J5_248 hSy hS hAB (fun q h => (show q = bs + w by obtain ⟨h1, h2⟩ := h; omega) ▸ sbA_w hw9) rfl hl.1 rfl (by decide) (Nat.le_of_ble_eq_true rfl) ⟨by decide, by decide⟩ dJ5_append_c97b9_30 (fun H locs hSy hz hu hS => ?_)
    have hz0 : L0 ≤ H.size := by omega
    have hSo := Blk.off hSo hu (iv_dis (by omega))
    refine lv_pop hx hb dJ5_append_c97b9_33 rfl ?_
    refine lv_goto (tgt := 48) hx hb dJ5_append_c97b9_34 (by decide) ?_
    refine lv_aload_n hx hb dJ5_append_c97b9_48 rfl (lv_at hl 2 rfl) ?_
    refine lv_iload_n hx hb dJ5_append_c97b9_49 rfl (lv_at hl 0 rfl) ?_
    refine w_put (k := 0) (v := .int n9) hx hb hw hown hE fl_J5_79 fw_J4_3 hSo (by decide) rfl rfl n9 rfl rfl rfl hS (Or.inl rfl) dJ5_append_c97b9_50 (fun H locs hSo hz hu hS => ?_)
    have hz0 : L0 ≤ H.size := by omega
    have hu := hu_iv (n := 1) (by decide) hu
    have hSy := Blk.off hSy hu (iv_dis (by omega))
    refine lv_aload_n hx hb dJ5_append_c97b9_53 rfl (lv_at hl 2 rfl) ?_
    have hre := Option.some.inj hf
    subst hre9
    subst hre
    exact mu_a hx hb hrt hlocks (sbT_mk hz0 hb2 hw9 hSo hSy) hS dJ5_append_c97b9_54
/-! the builder's own methods -/
noncomputable def fJ4_append_cf468 (Sb : TX) (a1 : Int32) : Option TX := fJ5_append_3fe6f Sb a1
noncomputable def fJ4_append_bf812 (Sb : TX) (a1 : Int32) : Option TX := fJ5_append_c97b9 Sb a1
def fJ4_length_8abf5 (Sb : TX) : Option Int32 := fJ5_length_8abf5 (fun _ => Sb.1 0) Sb.2
def fJ4_charAt_5068e (Sb : TX) (a1 : Int32) : Option Int32 := (fJ5_charAt_5068e (fun _ => Sb.1 0) (fun _ => Sb.1 1) Sb.2 a1).bind fun z => gd (isC z) (some z)
def fJ4_setLength_d00df (Sb : TX) (a1 : Int32) : Option TX := (fJ5_setLength_d00df (fun _ => Sb.1 0) (fun _ => Sb.1 1) Sb.2 a1).bind fun z => some (sbU z (fun _ => Sb.1 1) Sb.2)
set_option maxHeartbeats 4000000 in
theorem mJ4_append_cf468 (l : Launch) (E : EP) (B0 : Nat) (bs : Nat) (L0 : Nat) (hb0 : B0 ≤ bs) (hb1 : bs + 2 ≤ L0) (Sb : TX) (a1 : Int32) (r : TX) (hf : fJ4_append_cf468 Sb a1 = some r) : MU l E B0 yJ4_append_cf468 cJ4_append_cf468 2 (some (.object "java/lang/StringBuilder")) 6 1 34 [.ref (bs + 0), .int a1] (SBt E bs L0 Sb) (some (.ref (bs + 0))) (SBt E bs L0 r) (sbA bs L0) := by
  refine mu_of (by decide +kernel) (Nat.le_of_ble_eq_true rfl) ?_
  intro p e s m args below meth c hx hb hml hown hts hrt hlocks hE H hSb hS ls hl
  have hown : s.vm.findClass RJ4 = some m.cls := hown
  have hl : lv_has ls 2 [(0, .ref (bs + 0)), (1, .int a1)] := hl
  have hAB : ∀ q, sbA bs L0 q → B0 ≤ q := sb_ge (by omega) (by omega)
  refine lv_aload_n hx hb dJ4_append_cf468_0 rfl (lv_at hl 0 rfl) ?_
  refine lv_iload_n hx hb dJ4_append_cf468_1 rfl (lv_at hl 1 rfl) ?_
  refine mu_cSU (As := [.int a1]) (rest := []) hx hb hml hown hts hE (mJ5_append_3fe6f l E B0 bs L0 hb0 hb1 Sb a1 r hf) cu_J4_50 (SBt.recv hE hSb) hSb hS hAB (fun _ h => h) rfl hl.1 rfl (by decide) (Nat.le_of_ble_eq_true rfl) ⟨by decide, by decide⟩ dJ4_append_cf468_2 (fun H locs hSb hz hu hS => ?_)
  refine lv_pop hx hb dJ4_append_cf468_5 rfl ?_
  refine lv_aload_n hx hb dJ4_append_cf468_6 rfl (lv_at hl 0 rfl) ?_
  exact mu_a hx hb hrt hlocks hSb hS dJ4_append_cf468_7
set_option maxHeartbeats 4000000 in
theorem mJ4_append_bf812 (l : Launch) (E : EP) (B0 : Nat) (bs : Nat) (L0 : Nat) (hb0 : B0 ≤ bs) (hb1 : bs + 2 ≤ L0) (Sb : TX) (a1 : Int32) (r : TX) (hf : fJ4_append_bf812 Sb a1 = some r) : MU l E B0 yJ4_append_bf812 cJ4_append_bf812 2 (some (.object "java/lang/StringBuilder")) 6 1 34 [.ref (bs + 0), .int a1] (SBt E bs L0 Sb) (some (.ref (bs + 0))) (SBt E bs L0 r) (sbA bs L0) := by
  refine mu_of (by decide +kernel) (Nat.le_of_ble_eq_true rfl) ?_
  intro p e s m args below meth c hx hb hml hown hts hrt hlocks hE H hSb hS ls hl
  have hown : s.vm.findClass RJ4 = some m.cls := hown
  have hl : lv_has ls 2 [(0, .ref (bs + 0)), (1, .int a1)] := hl
  have hAB : ∀ q, sbA bs L0 q → B0 ≤ q := sb_ge (by omega) (by omega)
  refine lv_aload_n hx hb dJ4_append_bf812_0 rfl (lv_at hl 0 rfl) ?_
  refine lv_iload_n hx hb dJ4_append_bf812_1 rfl (lv_at hl 1 rfl) ?_
  refine mu_cSU (As := [.int a1]) (rest := []) hx hb hml hown hts hE (mJ5_append_c97b9 l E B0 bs L0 hb0 hb1 Sb a1 r hf) cu_J4_53 (SBt.recv hE hSb) hSb hS hAB (fun _ h => h) rfl hl.1 rfl (by decide) (Nat.le_of_ble_eq_true rfl) ⟨by decide, by decide⟩ dJ4_append_bf812_2 (fun H locs hSb hz hu hS => ?_)
  refine lv_pop hx hb dJ4_append_bf812_5 rfl ?_
  refine lv_aload_n hx hb dJ4_append_bf812_6 rfl (lv_at hl 0 rfl) ?_
  exact mu_a hx hb hrt hlocks hSb hS dJ4_append_bf812_7
set_option maxHeartbeats 4000000 in
theorem mJ4_length_8abf5 (l : Launch) (E : EP) (B0 : Nat) (bs : Nat) (L0 : Nat) (hb0 : B0 ≤ bs) (hb1 : bs + 2 ≤ L0) (Sb : TX) (r : Int32) (hf : fJ4_length_8abf5 Sb = some r) : MU l E B0 yJ4_length_8abf5 cJ4_length_8abf5 1 (some .int) 2 0 0 [.ref (bs + 0)] (SBt E bs L0 Sb) (some (.int r)) (SBt E bs L0 Sb) nv := by
  refine mu_of (by decide +kernel) (Nat.le_of_ble_eq_true rfl) ?_
  intro p e s m args below meth c hx hb hml hown hts hrt hlocks hE H hSb hS ls hl
  have hown : s.vm.findClass RJ4 = some m.cls := hown
  have hl : lv_has ls 1 [(0, .ref (bs + 0))] := hl
  have hAB : ∀ q, nv q → B0 ≤ q := fun _ h => h.elim
  obtain ⟨hz0, w, hb2, hw9, hSo, hSy⟩ := hSb
  refine lv_aload_n hx hb dJ4_length_8abf5_0 rfl (lv_at hl 0 rfl) ?_
  refine mu_cSU (As := []) (rest := []) hx hb hml hown hts hE (mJ5_length_8abf5 l E B0 bs w (by omega) hb2 (fun _ => Sb.1 0) Sb.2 r hf) cu_J4_343 (w_recv (k := 0) (ci := 1) hE hSo (by decide) rfl rfl) hSo hS hAB (fun _ h => h.elim) rfl hl.1 rfl (by decide) (Nat.le_of_ble_eq_true rfl) ⟨by decide, by decide⟩ dJ4_length_8abf5_1 (fun H locs hSo hz hu hS => ?_)
  exact mu_i (v := r) hx hb hrt hlocks ⟨by omega, w, hb2, hw9, hSo, hSy.off hu (fun _ _ _ h => h)⟩ hS dJ4_length_8abf5_4
set_option maxHeartbeats 4000000 in
theorem mJ4_charAt_5068e (l : Launch) (E : EP) (B0 : Nat) (bs : Nat) (L0 : Nat) (hb0 : B0 ≤ bs) (hb1 : bs + 2 ≤ L0) (Sb : TX) (a1 : Int32) (r : Int32) (hf : fJ4_charAt_5068e Sb a1 = some r) : MU l E B0 yJ4_charAt_5068e cJ4_charAt_5068e 2 (some .char) 4 0 0 [.ref (bs + 0), .int a1] (SBt E bs L0 Sb) (some (.int r)) (SBt E bs L0 Sb) nv := by
  refine mu_of (by decide +kernel) (Nat.le_of_ble_eq_true rfl) ?_
  intro p e s m args below meth c hx hb hml hown hts hrt hlocks hE H hSb hS ls hl
  have hown : s.vm.findClass RJ4 = some m.cls := hown
  have hl : lv_has ls 2 [(0, .ref (bs + 0)), (1, .int a1)] := hl
  have hAB : ∀ q, nv q → B0 ≤ q := fun _ h => h.elim
  unfold fJ4_charAt_5068e at hf
  obtain ⟨z9, hf1, hf⟩ := br_some hf
  obtain ⟨hr, hf⟩ := gd_some hf
  have hre := Option.some.inj hf
  subst hre
  obtain ⟨hz0, w, hb2, hw9, hSo, hSy⟩ := hSb
  refine lv_aload_n hx hb dJ4_charAt_5068e_0 rfl (lv_at hl 0 rfl) ?_
  refine lv_iload_n hx hb dJ4_charAt_5068e_1 rfl (lv_at hl 1 rfl) ?_
  refine mu_cSU (As := [.int a1]) (rest := []) hx hb hml hown hts hE (mJ5_charAt_5068e l E B0 bs w (by omega) hb2 (fun _ => Sb.1 0) (fun _ => Sb.1 1) Sb.2 a1 z9 hf1) cu_J4_329 (w_recv (k := 0) (ci := 1) hE hSo (by decide) rfl rfl) ⟨hSo, hSy⟩ hS hAB (fun _ h => h.elim) rfl hl.1 rfl (by decide) (Nat.le_of_ble_eq_true rfl) ⟨by decide, by decide⟩ dJ4_charAt_5068e_2 (fun H locs hP9 hz hu hS => ?_)
  exact mu_z (v := z9) hx hb hrt (isC_n hr) hlocks ⟨by omega, w, hb2, hw9, hP9.1, hP9.2⟩ hS dJ4_charAt_5068e_5
set_option maxHeartbeats 4000000 in
theorem mJ4_setLength_d00df (l : Launch) (E : EP) (B0 : Nat) (bs : Nat) (L0 : Nat) (hb0 : B0 ≤ bs) (hb1 : bs + 2 ≤ L0) (Sb : TX) (a1 : Int32) (r : TX) (hf : fJ4_setLength_d00df Sb a1 = some r) : MU l E B0 yJ4_setLength_d00df cJ4_setLength_d00df 2 none 5 0 0 [.ref (bs + 0), .int a1] (SBt E bs L0 Sb) none (SBt E bs L0 r) (sbA bs L0) := by
  refine mu_of (by decide +kernel) (Nat.le_of_ble_eq_true rfl) ?_
  intro p e s m args below meth c hx hb hml hown hts hrt hlocks hE H hSb hS ls hl
  have hown : s.vm.findClass RJ4 = some m.cls := hown
  have hl : lv_has ls 2 [(0, .ref (bs + 0)), (1, .int a1)] := hl
  have hAB : ∀ q, sbA bs L0 q → B0 ≤ q := sb_ge (by omega) (by omega)
  unfold fJ4_setLength_d00df at hf
  obtain ⟨z, hc, hf⟩ := br_some hf
  have hre := Option.some.inj hf
  subst hre
  obtain ⟨hz0, w, hb2, hw9, hSo, hSy⟩ := hSb
  refine lv_aload_n hx hb dJ4_setLength_d00df_0 rfl (lv_at hl 0 rfl) ?_
  refine lv_iload_n hx hb dJ4_setLength_d00df_1 rfl (lv_at hl 1 rfl) ?_
  refine mu_cSU (As := [.int a1]) (rest := []) hx hb hml hown hts hE (mJ5_setLength_d00df l E B0 bs w (by omega) hb2 (fun _ => Sb.1 0) (fun _ => Sb.1 1) Sb.2 a1 z hc) cu_J4_333 (w_recv (k := 0) (ci := 1) hE hSo (by decide) rfl rfl) ⟨hSo, hSy⟩ hS hAB (fun q h => Or.inl (by obtain ⟨h1, h2⟩ := h; omega)) rfl hl.1 rfl (by decide) (Nat.le_of_ble_eq_true rfl) ⟨by decide, by decide⟩ dJ4_setLength_d00df_2 (fun H locs hP9 hz hu hS => ?_)
  exact mu_v hx hb hrt hlocks (sbT_mk (by omega) hb2 hw9 hP9.1 hP9.2) hS dJ4_setLength_d00df_5
/-! the history -/
noncomputable def fX3_push (Hs : Mem) (Q : Nat → Mem) (N : Mem) : Option (Mem × (Nat → Mem)) := gd (inb (Hs 0 1) 8) ((fX6_copyFrom (Q (Hs 0 1).toNatClampNeg) N).bind fun z => some ((up2 (up2 Hs 0 1 (if (8 : Int32) ≤ (Hs 0 1) + 1 then 0 else (Hs 0 1) + 1)) 0 2 (if (8 : Int32) < (Hs 0 2) + 1 then (8 : Int32) else (Hs 0 2) + 1)), fun j => if j = (Hs 0 1).toNatClampNeg then z else Q j))
set_option maxHeartbeats 4000000 in
theorem mX3_push (l : Launch) (E : EP) (B0 : Nat) (bh : Nat) (b : Nat) (hb0 : B0 ≤ bh) (hb1 : B0 ≤ b) (hb2 : bh + 122 ≤ b ∨ b + 15 ≤ bh) (Hs : Mem) (Q : Nat → Mem) (N : Mem) (r : Mem × (Nat → Mem)) (hf : fX3_push Hs Q N = some r) : MU l E B0 yX3_push cX3_push 2 none 4 0 0 [.ref (bh + 0), .ref (b + 0)] (fun H => Blk E bh histSh 2 Hs H ∧ Fam E (bh + 2) Q H ∧ Blk E b netSh 15 N H) none (fun H => Blk E bh histSh 2 r.1 H ∧ Fam E (bh + 2) r.2 H ∧ Blk E b netSh 15 N H) (orA (iv bh 2) (iv (bh + 2) 120)) := by
  refine mu_of (by decide +kernel) (Nat.le_of_ble_eq_true rfl) ?_
  intro p e s m args below meth c hx hb hml hown hts hrt hlocks hE H hP9 hS ls hl
  obtain ⟨hHs, hQ, hN⟩ := hP9
  have hown : s.vm.findClass RX3 = some m.cls := hown
  have hl : lv_has ls 2 [(0, .ref (bh + 0)), (1, .ref (b + 0))] := hl
  have hw : ∀ w ∈ WA, w.before args s = true := fun w h => hts w (List.mem_cons_of_mem _ h)
  have hAB : ∀ q, (orA (iv bh 2) (iv (bh + 2) 120)) q → B0 ≤ q := or_ge (iv_ge (by omega)) (iv_ge (by omega))
  unfold fX3_push at hf
  obtain ⟨h1, hf⟩ := gd_some hf
  obtain ⟨z, hc, hf⟩ := br_some hf
  have hre := Option.some.inj hf
  subst hre
  generalize hx9 : (Hs 0 1).toNatClampNeg = x9 at hc ⊢
  have hx8 : x9 < 8 := by rw [← hx9]; exact inb_lt h1
  have hQi : Blk E (bh + (2 + 15 * x9)) netSh 15 (Q x9) H := by
    have h9 := hQ x9 hx8
    rwa [Nat.add_assoc] at h9
  refine lv_aload_n hx hb dX3_push_0 rfl (lv_at hl 0 rfl) ?_
  refine w_get (k := 0) (v := .ref (bh + 1)) hx hb hw hown hE fl_X3_11 hHs (by decide) rfl rfl rfl dX3_push_1 ?_
  refine lv_aload_n hx hb dX3_push_4 rfl (lv_at hl 0 rfl) ?_
  refine w_get (k := 0) (v := .int (Hs 0 1)) hx hb hw hown hE fl_X3_18 hHs (by decide) rfl rfl rfl dX3_push_5 ?_
  refine w_aald (k := 1) (j := 1) (x9 := x9) hx hb hE hHs (by decide) rfl rfl hx9 h1 dX3_push_8 ?_
  refine lv_aload_n hx hb dX3_push_9 rfl (lv_at hl 1 rfl) ?_
  refine mu_cV (As := [.ref (b + 0)]) (rest := []) hx hb hml hown hts hE (mX6_copyFrom l E B0 (bh + (2 + 15 * x9)) b (by omega) (by omega) (by omega) (Q x9) N z hc) cv_X3_25 (w_recv (k := 0) (ci := 6) hE hQi (by decide) rfl rfl) ⟨hQi, hN⟩ hS hAB (fun q h => Or.inr (by obtain ⟨h1, h2⟩ := h; exact ⟨by omega, by omega⟩)) rfl hl.1 rfl (by decide) (Nat.le_of_ble_eq_true rfl) ⟨by decide, by decide⟩ dX3_push_10 (fun H1 locs hP9 hz hu hS => ?_)
  obtain ⟨hQi2, hN⟩ := hP9
  have hHs := Blk.off hHs hu (iv_dis (by omega))
  have hQ : Fam E (bh + 2) (fun j => if j = x9 then z else Q j) H1 := by
    intro j hj
    by_cases ej : j = x9
    · subst ej
      show Blk E _ netSh 15 (if j = j then z else Q j) H1
      rw [if_pos rfl, Nat.add_assoc]
      exact hQi2
    · show Blk E _ netSh 15 (if j = x9 then z else Q j) H1
      rw [if_neg ej]
      exact (hQ j hj).off hu (iv_dis (by omega))
  generalize (fun j => if j = x9 then z else Q j) = Q2 at hQ ⊢
  refine lv_aload_n hx hb dX3_push_13 rfl (lv_at hl 0 rfl) ?_
  have tail : ∀ v : Int32, v = (if (8 : Int32) ≤ (Hs 0 1) + 1 then 0 else (Hs 0 1) + 1) → W p l e (rmD 4 0 0) s m args below meth c H1 locs 0 0 (MQ below (QU none (fun H => Blk E bh histSh 2 (up2 (up2 Hs 0 1 (if (8 : Int32) ≤ (Hs 0 1) + 1 then 0 else (Hs 0 1) + 1)) 0 2 (if (8 : Int32) < (Hs 0 2) + 1 then (8 : Int32) else (Hs 0 2) + 1)) H ∧ Fam E (bh + 2) Q2 H ∧ Blk E b netSh 15 N H) (orA (iv bh 2) (iv (bh + 2) 120))) args s 0 0 (orA (iv bh 2) (iv (bh + 2) 120))) (F0 m 35 ls [.int v, .ref (bh + 0)]) := by
    intro v hv
    rw [← hv]
    refine w_put (k := 0) (v := .int v) hx hb hw hown hE fl_X3_18 fw_X3_1 hHs (by decide) rfl rfl v rfl rfl rfl hS (Or.inl (iv_mem (by decide))) dX3_push_35 (fun H locs hHs _ hu hS => ?_)
    have hu := hu_iv (n := 2) (by decide) hu
    have hQ := Fam.off hQ hu (iv_dis (by omega))
    have hN := Blk.off hN hu (iv_dis (by omega))
    refine lv_aload_n hx hb dX3_push_38 rfl (lv_at hl 0 rfl) ?_
    refine lv_aload_n hx hb dX3_push_39 rfl (lv_at hl 0 rfl) ?_
    refine w_get (k := 0) (v := .int (Hs 0 2)) hx hb hw hown hE fl_X3_22 hHs (by decide) rfl rfl rfl dX3_push_40 ?_
    refine lv_iconst (v := 1) hx hb dX3_push_43 (by decide) ?_
    refine lv_iadd hx hb dX3_push_44 ?_
    refine lv_bipush (v := 8) hx hb dX3_push_45 (by decide) ?_
    refine va_mmin hx hb (hml.trans hl.1.symm) hown (hw _ (pm_X3_29 _ (by simp))) (hw _ (pm_X3_29 _ (by simp))) (hw _ (pm_X3_29 _ (by simp))) (hw _ (pm_X3_29 _ (by simp))) (by decide) (Nat.le_of_ble_eq_true rfl) (Nat.zero_le _) (Nat.zero_le _) dX3_push_47 ?_
    refine w_put (k := 0) (v := .int (if (8 : Int32) < (Hs 0 2) + 1 then (8 : Int32) else (Hs 0 2) + 1)) hx hb hw hown hE fl_X3_22 fw_X3_2 hHs (by decide) rfl rfl (if (8 : Int32) < (Hs 0 2) + 1 then (8 : Int32) else (Hs 0 2) + 1) rfl rfl rfl hS (Or.inl (iv_mem (by decide))) dX3_push_50 (fun H locs hHs _ hu hS => ?_)
    have hu := hu_iv (n := 2) (by decide) hu
    have hQ := Fam.off hQ hu (iv_dis (by omega))
    have hN := Blk.off hN hu (iv_dis (by omega))
    exact mu_v hx hb hrt hlocks ⟨hHs, hQ, hN⟩ hS dX3_push_53
  refine lv_aload_n hx hb dX3_push_14 rfl (lv_at hl 0 rfl) ?_
  refine w_get (k := 0) (v := .int (Hs 0 1)) hx hb hw hown hE fl_X3_18 hHs (by decide) rfl rfl rfl dX3_push_15 ?_
  refine lv_iconst (v := 1) hx hb dX3_push_18 (by decide) ?_
  refine lv_iadd hx hb dX3_push_19 ?_
  refine lv_bipush (v := 8) hx hb dX3_push_20 (by decide) ?_
  refine lv_icmp_ge (tgt := 34) hx hb dX3_push_22 (by decide) (fun c1 => ?_) (fun c1 => ?_)
  · refine lv_iconst (v := 0) hx hb dX3_push_34 (by decide) ?_
    exact tail 0 (if_pos c1).symm
  · refine lv_aload_n hx hb dX3_push_25 rfl (lv_at hl 0 rfl) ?_
    refine w_get (k := 0) (v := .int (Hs 0 1)) hx hb hw hown hE fl_X3_18 hHs (by decide) rfl rfl rfl dX3_push_26 ?_
    refine lv_iconst (v := 1) hx hb dX3_push_29 (by decide) ?_
    refine lv_iadd hx hb dX3_push_30 ?_
    refine lv_goto (tgt := 35) hx hb dX3_push_31 (by decide) ?_
    exact tail _ (if_neg c1).symm
noncomputable def fX3_popInto (Hs : Mem) (Q : Nat → Mem) (N : Mem) : Option (Mem × Mem) := gd (inb (if (Hs 0 1) ≤ 0 then 7 else (Hs 0 1) - 1) 8) ((fX6_copyFrom N (Q (if (Hs 0 1) ≤ 0 then 7 else (Hs 0 1) - 1).toNatClampNeg)).bind fun z => some ((up2 (up2 Hs 0 1 (if (Hs 0 1) ≤ 0 then 7 else (Hs 0 1) - 1)) 0 2 ((Hs 0 2) - 1)), z))
set_option maxHeartbeats 4000000 in
theorem mX3_popInto (l : Launch) (E : EP) (B0 : Nat) (bh : Nat) (b : Nat) (hb0 : B0 ≤ bh) (hb1 : B0 ≤ b) (hb2 : bh + 122 ≤ b ∨ b + 15 ≤ bh) (Hs : Mem) (Q : Nat → Mem) (N : Mem) (r : Mem × Mem) (hf : fX3_popInto Hs Q N = some r) : MU l E B0 yX3_popInto cX3_popInto 2 none 4 0 0 [.ref (bh + 0), .ref (b + 0)] (fun H => Blk E bh histSh 2 Hs H ∧ Fam E (bh + 2) Q H ∧ Blk E b netSh 15 N H) none (fun H => Blk E bh histSh 2 r.1 H ∧ Fam E (bh + 2) Q H ∧ Blk E b netSh 15 r.2 H) (orA (iv bh 2) (iv b 15)) := by
  refine mu_of (by decide +kernel) (Nat.le_of_ble_eq_true rfl) ?_
  intro p e s m args below meth c hx hb hml hown hts hrt hlocks hE H hP9 hS ls hl
  obtain ⟨hHs, hQ, hN⟩ := hP9
  have hown : s.vm.findClass RX3 = some m.cls := hown
  have hl : lv_has ls 2 [(0, .ref (bh + 0)), (1, .ref (b + 0))] := hl
  have hw : ∀ w ∈ WA, w.before args s = true := fun w h => hts w (List.mem_cons_of_mem _ h)
  have hAB : ∀ q, (orA (iv bh 2) (iv b 15)) q → B0 ≤ q := or_ge (iv_ge (by omega)) (iv_ge (by omega))
  unfold fX3_popInto at hf
  have tail : ∀ v : Int32, v = (if (Hs 0 1) ≤ 0 then 7 else (Hs 0 1) - 1) → W p l e (rmD 4 0 0) s m args below meth c H [] 0 0 (MQ below (QU none (fun H => Blk E bh histSh 2 r.1 H ∧ Fam E (bh + 2) Q H ∧ Blk E b netSh 15 r.2 H) (orA (iv bh 2) (iv b 15))) args s 0 0 (orA (iv bh 2) (iv b 15))) (F0 m 19 ls [.int v, .ref (bh + 0)]) := by
    intro v hv
    rw [← hv] at hf
    obtain ⟨h1, hf⟩ := gd_some hf
    obtain ⟨z, hc, hf⟩ := br_some hf
    have hre := Option.some.inj hf
    subst hre
    generalize hx9 : v.toNatClampNeg = x9 at hc
    have hx8 : x9 < 8 := by rw [← hx9]; exact inb_lt h1
    refine w_put (k := 0) (v := .int v) hx hb hw hown hE fl_X3_18 fw_X3_1 hHs (by decide) rfl rfl v rfl rfl rfl hS (Or.inl (iv_mem (by decide))) dX3_popInto_19 (fun H locs hHs _ hu hS => ?_)
    have hu := hu_iv (n := 2) (by decide) hu
    have hQ := Fam.off hQ hu (iv_dis (by omega))
    have hN := Blk.off hN hu (iv_dis (by omega))
    have hQi : Blk E (bh + (2 + 15 * x9)) netSh 15 (Q x9) H := by
      have h9 := hQ x9 hx8
      rwa [Nat.add_assoc] at h9
    refine lv_aload_n hx hb dX3_popInto_22 rfl (lv_at hl 1 rfl) ?_
    refine lv_aload_n hx hb dX3_popInto_23 rfl (lv_at hl 0 rfl) ?_
    refine w_get (k := 0) (v := .ref (bh + 1)) hx hb hw hown hE fl_X3_11 hHs (by decide) rfl rfl rfl dX3_popInto_24 ?_
    refine lv_aload_n hx hb dX3_popInto_27 rfl (lv_at hl 0 rfl) ?_
    refine w_get (k := 0) (v := .int v) hx hb hw hown hE fl_X3_18 hHs (by decide) rfl rfl rfl dX3_popInto_28 ?_
    refine w_aald (k := 1) (j := 1) (x9 := x9) hx hb hE hHs (by decide) rfl rfl hx9 h1 dX3_popInto_31 ?_
    refine mu_cV (As := [.ref ((bh + (2 + 15 * x9)) + 0)]) (rest := []) hx hb hml hown hts hE (mX6_copyFrom l E B0 b (bh + (2 + 15 * x9)) (by omega) (by omega) (by omega) N (Q x9) z hc) cv_X3_25 (w_recv (k := 0) (ci := 6) hE hN (by decide) rfl rfl) ⟨hN, hQi⟩ hS hAB (fun q h => Or.inr h) rfl hl.1 rfl (by decide) (Nat.le_of_ble_eq_true rfl) ⟨by decide, by decide⟩ dX3_popInto_32 (fun H1 locs hP9 hz hu hS => ?_)
    have hN := hP9.1
    have hHs := Blk.off hHs hu (iv_dis (by omega))
    have hQ := Fam.off hQ hu (iv_dis (by omega))
    refine lv_aload_n hx hb dX3_popInto_35 rfl (lv_at hl 0 rfl) ?_
    refine lv_dup hx hb dX3_popInto_36 rfl ?_
    refine w_get (k := 0) (v := .int (Hs 0 2)) hx hb hw hown hE fl_X3_22 hHs (by decide) rfl rfl rfl dX3_popInto_37 ?_
    refine lv_iconst (v := 1) hx hb dX3_popInto_40 (by decide) ?_
    refine lv_isub hx hb dX3_popInto_41 ?_
    refine w_put (k := 0) (v := .int ((Hs 0 2) - 1)) hx hb hw hown hE fl_X3_22 fw_X3_2 hHs (by decide) rfl rfl ((Hs 0 2) - 1) rfl rfl rfl hS (Or.inl (iv_mem (by decide))) dX3_popInto_42 (fun H locs hHs _ hu hS => ?_)
    have hu := hu_iv (n := 2) (by decide) hu
    have hQ := Fam.off hQ hu (iv_dis (by omega))
    have hN := Blk.off hN hu (iv_dis (by omega))
    exact mu_v hx hb hrt hlocks ⟨hHs, hQ, hN⟩ hS dX3_popInto_45
  refine lv_aload_n hx hb dX3_popInto_0 rfl (lv_at hl 0 rfl) ?_
  refine lv_aload_n hx hb dX3_popInto_1 rfl (lv_at hl 0 rfl) ?_
  refine w_get (k := 0) (v := .int (Hs 0 1)) hx hb hw hown hE fl_X3_18 hHs (by decide) rfl rfl rfl dX3_popInto_2 ?_
  refine lv_if_le (tgt := 17) hx hb dX3_popInto_5 (by decide) (fun c1 => ?_) (fun c1 => ?_)
  · refine lv_bipush (v := 7) hx hb dX3_popInto_17 (by decide) ?_
    exact tail 7 (if_pos c1).symm
  · refine lv_aload_n hx hb dX3_popInto_8 rfl (lv_at hl 0 rfl) ?_
    refine w_get (k := 0) (v := .int (Hs 0 1)) hx hb hw hown hE fl_X3_18 hHs (by decide) rfl rfl rfl dX3_popInto_9 ?_
    refine lv_iconst (v := 1) hx hb dX3_popInto_12 (by decide) ?_
    refine lv_isub hx hb dX3_popInto_13 ?_
    refine lv_goto (tgt := 19) hx hb dX3_popInto_14 (by decide) ?_
    exact tail _ (if_neg c1).symm
