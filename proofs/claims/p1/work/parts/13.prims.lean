/-! ===== what the start has for good: kinds, patterns, tables of the switches ===== -/
theorem dJx29ce0_ordinal_8abf5_0 : decode cJx29ce0_ordinal_8abf5 0 = .ok (.aload_n 0, 1) := by decide +kernel
theorem dJx29ce0_ordinal_8abf5_1 : decode cJx29ce0_ordinal_8abf5 1 = .ok (.getfield 7, 3) := by decide +kernel
theorem dJx29ce0_ordinal_8abf5_4 : decode cJx29ce0_ordinal_8abf5 4 = .ok (.ireturn, 1) := by decide +kernel
theorem fo_ord : Cond.fieldLink RJx29ce0 7 "java/lang/Enum" "ordinal" "I" ∈ WA := WA_of 2150 (by decide +kernel) (by decide +kernel)
set_option maxHeartbeats 4000000 in
/-- Enum.ordinal, of a constant of the enum j -/
theorem m_ord (l : Launch) (E : EP) (B0 j : Nat) {EC d : String} {nm : List String} {lst : List Int32} (x : Int32) (hin : inb x nm.length = true) (hen : ∀ (U : State) (H : Heap), EV E B0 U H → va_En EC d nm (ordF lst) (E.2.2 j) (fun q => B0 ≤ q) U H) (hlst : lst.getD x.toNatClampNeg 0 = x) :
    MU l E B0 yJx29ce0_ordinal_8abf5 cJx29ce0_ordinal_8abf5 1 (some .int) 0 0 0 [.ref (E.2.2 j x.toNatClampNeg)] (fun _ => True) (some (.int x)) (fun _ => True) nv := by
  refine mu_of (by decide +kernel) (Nat.le_of_ble_eq_true rfl) ?_
  intro p e s m args below meth c hx hb hml hown hts hrt hlocks hE H _ hS ls hl
  have hown : s.vm.findClass RJx29ce0 = some m.cls := hown
  have hl : lv_has ls 1 [(0, .ref (E.2.2 j x.toNatClampNeg))] := hl
  have hw : ∀ w ∈ WA, w.before args s = true := fun w h => hts w (List.mem_cons_of_mem _ h)
  refine lv_aload_n hx hb dJx29ce0_ordinal_8abf5_0 rfl (lv_at hl 0 rfl) ?_
  refine va_getE (q := ("java/lang/Enum", "ordinal", "I", lst)) hx hb (hen s s.heap hE) (inb_lt hin) (hS.wide (fun _ h => h.elim)) hown List.mem_cons_self (hw _ fo_ord) (fun _ h9 => h9) dJx29ce0_ordinal_8abf5_1 ?_
  show W p l e _ s m args below meth c H [] 0 0 _ (F0 m (0 + 1 + 3) ls [.int (lst.getD x.toNatClampNeg 0)])
  rw [hlst]
  exact mu_i (v := x) hx hb hrt hlocks trivial hS dJx29ce0_ordinal_8abf5_4
def ORD (own : String) (idx : Nat) (EC : String) : Prop :=
  ∀ w ∈ va_wsU own idx EC "java/lang/Enum" ⟨EC, "ordinal", "()I"⟩ yJx29ce0_ordinal_8abf5 [.code yJx29ce0_ordinal_8abf5 cJx29ce0_ordinal_8abf5 1 (some .int)], w ∈ WA
section PRIMS
variable {p : Program} {l : Launch} {e : Env} {s : State} {m : MethodId} {args : Array Value} {below : List Frame} {meth : Method} {c : Code} {H : Heap} {locs : List Loc} {cells slots : Nat} {Q : State → Prop}
variable {cc : ByteArray} {pc nL D mcR msR : Nat} {ls : Array Slot} {rest : List Value} {A : Nat → Prop} {E : EP} {B0 : Nat} {own : String} {idx : Nat}
theorem w_ord {yM : MethodName} {retM : Option FieldType} {j : Nat} {EC d : String} {nm : List String} {lst : List Int32} {x : Int32} (hx : p.tables.exec = Jvm.exec) (hb : c.code = cc) (hml : c.maxLocals = nL) (hown : s.vm.findClass own = some m.cls) (hts : ∀ w ∈ wsm yM cc nL retM, w.before args s = true) (hE : EV E B0 s s.heap)
    (hen : ∀ (U : State) (H : Heap), EV E B0 U H → va_En EC d nm (ordF lst) (E.2.2 j) (fun q => B0 ≤ q) U H) (hlst : lst.getD x.toNatClampNeg 0 = x) (hin : inb x nm.length = true) (hS : va_S A s.heap H locs) (hAB : ∀ q, A q → B0 ≤ q) (hO : ORD own idx EC) (hl : ls.size = nL) (hd : 1 ≤ D) (hrest : (rest.map fun v => v.category).sum ≤ 8) (hcs : cells ≤ mcR) (hss : slots ≤ msR) (hdg : decode cc pc = .ok (.invokevirtual idx, 3))
    (kk : ∀ (H1 : Heap) (locs1 : List Loc), H.size ≤ H1.size → (∀ q : Nat, q < H.size → ¬ nv q → H1[q]? = H[q]?) → va_S A s.heap H1 locs1 → W p l e (rmD D mcR msR) s m args below meth c H1 locs1 cells slots Q (F0 m (pc + 3) ls (.int x :: rest))) : W p l e (rmD D mcR msR) s m args below meth c H locs cells slots Q (F0 m pc ls (.ref (E.2.2 j x.toNatClampNeg) :: rest)) := by
  have hT : ∀ w ∈ WA, w ∈ wsm yM cc nL retM := fun w h => List.mem_cons_of_mem _ h
  have hrc : ∃ cellB : Cell, H[E.2.2 j x.toNatClampNeg]? = some cellB ∧ cellB.vm.isStatics = false ∧ s.vm.findClass EC = some cellB.cls := va_recvE (hen s s.heap hE) (inb_lt hin) (hS.wide hAB)
  refine mu_go (mc := 0) (ms := 0) (rv := some (.int x)) (P' := fun _ => True) (A1 := nv) (As := [.ref (E.2.2 j x.toNatClampNeg)]) (rest := rest) (va_runU (As := []) (rest := rest) (C := EC) (owner := "java/lang/Enum") (x := ⟨EC, "ordinal", "()I"⟩) ⟨hx, hb, hml, hown, hts⟩ (m_ord l E B0 j x hin hen hlst)
    (va_cwU (ws' := WA) (n := 0) hts (fun w hw => ?_) rfl rfl rfl rfl (by refine ⟨by decide, by decide, ?_⟩; show (parseMethodDescriptor "()I").map _ = some 0; decide +kernel) ⟨hd, by show 8 + (1 + 11) + 64 * 0 ≤ 64 * D; omega⟩) ⟨mu_blind (P := fun _ => True), hrc, fun U hU hW => ⟨rfl, ev_at hE hS hAB hU hW, trivial⟩⟩ rfl rfl hl rfl (by simpa using hrest) hdg ⟨hcs, hss⟩) hS (fun _ h => h.elim) (fun H1 locs1 _ hz hu hS => kk H1 locs1 hz hu hS)
  rcases List.mem_append.mp hw with h | h
  · have h1 := hO w (List.mem_append_left _ h)
    exact ⟨hT _ h1, WA_good h1⟩
  · rcases List.mem_cons.mp h with h | h
    · subst h
      have h1 := hO (.code yJx29ce0_ordinal_8abf5 cJx29ce0_ordinal_8abf5 1 (some .int)) (by simp [va_wsU])
      exact ⟨hT _ h1, WA_good h1⟩
    · exact ⟨hT _ h, WA_good h⟩
theorem ordL {n : Nat} {lst : List Int32} (hl : ∀ k, k < n → lst.getD k 0 = nI k) (hn : n < 2 ^ 31) {x : Int32} (h : inb x n = true) : lst.getD x.toNatClampNeg 0 = x := by
  obtain ⟨j, hj, rfl⟩ := vp_in_of (inb_in h) hn
  rw [nI_clamp (by omega)]
  exact hl j hj
theorem ordL1 {x : Int32} (h : inb x 5 = true) : ([0, 1, 2, 3, 4] : List Int32).getD x.toNatClampNeg 0 = x := ordL (n := 5) (by decide) (by decide) h
theorem ordL2 {x : Int32} (h : inb x 10 = true) : ([0, 1, 2, 3, 4, 5, 6, 7, 8, 9] : List Int32).getD x.toNatClampNeg 0 = x := ordL (n := 10) (by decide) (by decide) h
theorem EV.x {U : State} {H : Heap} (h : EV E B0 U H) : EVx E B0 U H := h.2.2.2.2.2
theorem w_pat (hx : p.tables.exec = Jvm.exec) (hb : c.code = cc) {R : Room} {x : Int32} (hw : ∀ w ∈ WA, w.before args s = true) (hown : s.vm.findClass own = some m.cls) (hE : EV E B0 s s.heap) (hin : inb x 10 = true) (hlink : Cond.fieldLink own idx "RadioNet$Kind" "pattern" "Ljava/lang/String;" ∈ WA) (hS : va_S A s.heap H locs) (hAB : ∀ q, A q → B0 ≤ q) (hdg : decode cc pc = .ok (.getfield idx, 3))
    (kk : W p l e R s m args below meth c H locs cells slots Q (F0 m (pc + 3) ls (.ref (E.2.2 4 x.toNatClampNeg) :: rest))) : W p l e R s m args below meth c H locs cells slots Q (F0 m pc ls (.ref (E.2.2 2 x.toNatClampNeg) :: rest)) := by
  obtain ⟨h1, h2, h3, h4, h5, h6, h7, h8, h9, h10, h11, -⟩ := hE.x
  exact vk_getf hx hb (h10 _ (inb_lt hin)) (hS.wide hAB) hown (hw _ hlink) (fun _ h => h) hdg kk
theorem w_sfv (hx : p.tables.exec = Jvm.exec) (hb : c.code = cc) {R : Room} {x : Int32} (hw : ∀ w ∈ WA, w.before args s = true) (hown : s.vm.findClass own = some m.cls) (hE : EV E B0 s s.heap) (hin : inb x 10 = true) (hlink : Cond.fieldLink own idx "java/lang/String" "value" "[B" ∈ WA) (hS : va_S A s.heap H locs) (hAB : ∀ q, A q → B0 ≤ q) (hdg : decode cc pc = .ok (.getfield idx, 3))
    (kk : W p l e R s m args below meth c H locs cells slots Q (F0 m (pc + 3) ls (.ref (E.2.2 5 x.toNatClampNeg) :: rest))) : W p l e R s m args below meth c H locs cells slots Q (F0 m pc ls (.ref (E.2.2 4 x.toNatClampNeg) :: rest)) := by
  obtain ⟨h1, h2, h3, h4, h5, h6, h7, h8, h9, h10, h11, -⟩ := hE.x
  exact vk_getf hx hb (h11.1 _ (inb_lt hin)).2.2.1 (hS.wide hAB) hown (hw _ hlink) (fun _ h => h) hdg kk
theorem w_sfc (hx : p.tables.exec = Jvm.exec) (hb : c.code = cc) {R : Room} {x : Int32} (hw : ∀ w ∈ WA, w.before args s = true) (hown : s.vm.findClass own = some m.cls) (hE : EV E B0 s s.heap) (hin : inb x 10 = true) (hlink : Cond.fieldLink own idx "java/lang/String" "coder" "B" ∈ WA) (hS : va_S A s.heap H locs) (hAB : ∀ q, A q → B0 ≤ q) (hdg : decode cc pc = .ok (.getfield idx, 3))
    (kk : W p l e R s m args below meth c H locs cells slots Q (F0 m (pc + 3) ls (.int 0 :: rest))) : W p l e R s m args below meth c H locs cells slots Q (F0 m pc ls (.ref (E.2.2 4 x.toNatClampNeg) :: rest)) := by
  obtain ⟨h1, h2, h3, h4, h5, h6, h7, h8, h9, h10, h11, -⟩ := hE.x
  exact vk_getf hx hb (h11.1 _ (inb_lt hin)).2.1 (hS.wide hAB) hown (hw _ hlink) (fun _ h => h) hdg kk
theorem w_svlen (hx : p.tables.exec = Jvm.exec) (hb : c.code = cc) {R : Room} {x : Int32} (hE : EV E B0 s s.heap) (hin : inb x 10 = true) (hS : va_S A s.heap H locs) (hAB : ∀ q, A q → B0 ≤ q) (hdg : decode cc pc = .ok (.arraylength, 1))
    (kk : W p l e R s m args below meth c H locs cells slots Q (F0 m (pc + 1) ls (.int (nI (paLen.getD x.toNatClampNeg 0)) :: rest))) : W p l e R s m args below meth c H locs cells slots Q (F0 m pc ls (.ref (E.2.2 5 x.toNatClampNeg) :: rest)) := by
  obtain ⟨h1, h2, h3, h4, h5, h6, h7, h8, h9, h10, h11, -⟩ := hE.x
  exact va_tlen hx hb (h11.1 _ (inb_lt hin)).2.2.2 (hS.wide hAB) rfl hdg kk
theorem w_svld (hx : p.tables.exec = Jvm.exec) (hb : c.code = cc) {R : Room} {x i : Int32} (hE : EV E B0 s s.heap) (hin : inb x 10 = true) (hi : inb i (paLen.getD x.toNatClampNeg 0) = true) (hS : va_S A s.heap H locs) (hAB : ∀ q, A q → B0 ≤ q) (hdg : decode cc pc = .ok (.baload, 1))
    (kk : W p l e R s m args below meth c H locs cells slots Q (F0 m (pc + 1) ls (.int ((paByt.getD x.toNatClampNeg []).getD i.toNatClampNeg 0) :: rest))) : W p l e R s m args below meth c H locs cells slots Q (F0 m pc ls (.int i :: .ref (E.2.2 5 x.toNatClampNeg) :: rest)) := by
  obtain ⟨h1, h2, h3, h4, h5, h6, h7, h8, h9, h10, h11, -⟩ := hE.x
  exact va_tb hx hb (h11.1 _ (inb_lt hin)).2.2.2 (hS.wide hAB) (inb_in hi) rfl hdg kk
theorem w_compact (hx : p.tables.exec = Jvm.exec) (hb : c.code = cc) {R : Room} (hw : ∀ w ∈ WA, w.before args s = true) (hown : s.vm.findClass own = some m.cls) (hE : EV E B0 s s.heap) (hlink : Cond.fieldLink own idx "java/lang/String" "COMPACT_STRINGS" "Z" ∈ WA) (hS : va_S A s.heap H locs) (hAB : ∀ q, A q → B0 ≤ q) (hdg : decode cc pc = .ok (.getstatic idx, 3))
    (kk : W p l e R s m args below meth c H locs cells slots Q (F0 m (pc + 3) ls (.int 1 :: rest))) : W p l e R s m args below meth c H locs cells slots Q (F0 m pc ls rest) := by
  obtain ⟨h1, h2, h3, h4, h5, h6, h7, h8, h9, h10, h11, h12, -⟩ := hE.x
  exact va_gets hx hb h12 (hS.wide hAB) hown (hw _ hlink) (fun _ h => h) hdg kk
theorem str_recv {x : Int32} (hE : EV E B0 s s.heap) (hin : inb x 10 = true) (hS : va_S A s.heap H locs) (hAB : ∀ q, A q → B0 ≤ q) : ∃ cellB : Cell, H[E.2.2 4 x.toNatClampNeg]? = some cellB ∧ cellB.vm.isStatics = false ∧ s.vm.findClass "java/lang/String" = some cellB.cls := by
  obtain ⟨h1, h2, h3, h4, h5, h6, h7, h8, h9, h10, h11, -⟩ := hE.x
  exact va_Orecv (h11.1 _ (inb_lt hin)).1 (hS.wide hAB)
theorem w_kinds (hx : p.tables.exec = Jvm.exec) (hb : c.code = cc) {R : Room} (hown : s.vm.findClass own = some m.cls) (hE : EV E B0 s s.heap) (hlink : Cond.fieldLinkNest own idx "RadioNet" "KINDS" "[LRadioNet$Kind;" "RadioNet" ∈ lw_tbl) (hS : va_S A s.heap H locs) (hAB : ∀ q, A q → B0 ≤ q) (hdg : decode cc pc = .ok (.getstatic idx, 3))
    (kk : W p l e R s m args below meth c H locs cells slots Q (F0 m (pc + 3) ls (.ref (E.2.2 3 0) :: rest))) : W p l e R s m args below meth c H locs cells slots Q (F0 m pc ls rest) := by
  obtain ⟨h1, h2, h3, h4, -⟩ := hE.x
  exact va_getsN (host := "RadioNet") hx hb h4 (hS.wide hAB) hown (va_Nw.use rfl (hE.2.2.2.2.1 _ hlink rfl)) (fun _ h => h) hdg kk
theorem w_klen (hx : p.tables.exec = Jvm.exec) (hb : c.code = cc) {R : Room} (hE : EV E B0 s s.heap) (hS : va_S A s.heap H locs) (hAB : ∀ q, A q → B0 ≤ q) (hdg : decode cc pc = .ok (.arraylength, 1))
    (kk : W p l e R s m args below meth c H locs cells slots Q (F0 m (pc + 1) ls (.int 10 :: rest))) : W p l e R s m args below meth c H locs cells slots Q (F0 m pc ls (.ref (E.2.2 3 0) :: rest)) := by
  obtain ⟨h1, h2, h3, h4, h5, -⟩ := hE.x
  exact va_tlen hx hb h5 (hS.wide hAB) rfl hdg kk
theorem w_kald (hx : p.tables.exec = Jvm.exec) (hb : c.code = cc) {R : Room} {i : Int32} (hE : EV E B0 s s.heap) (hS : va_S A s.heap H locs) (hAB : ∀ q, A q → B0 ≤ q) (hi : inb i 10 = true) (hdg : decode cc pc = .ok (.aaload, 1))
    (kk : W p l e R s m args below meth c H locs cells slots Q (F0 m (pc + 1) ls (.ref (E.2.2 2 i.toNatClampNeg) :: rest))) : W p l e R s m args below meth c H locs cells slots Q (F0 m pc ls (.int i :: .ref (E.2.2 3 0) :: rest)) := by
  obtain ⟨h1, h2, h3, h4, h5, -⟩ := hE.x
  exact vb_tq hx hb h5 (hS.wide hAB) (inb_in hi) rfl hdg kk
theorem w_sw1 (hx : p.tables.exec = Jvm.exec) (hb : c.code = cc) {R : Room} (hw : ∀ w ∈ WA, w.before args s = true) (hown : s.vm.findClass own = some m.cls) (hE : EV E B0 s s.heap) (hlink : Cond.fieldLink own idx "RadioNet$1" "$SwitchMap$RadioNet$Kind" "[I" ∈ WA) (hS : va_S A s.heap H locs) (hAB : ∀ q, A q → B0 ≤ q) (hdg : decode cc pc = .ok (.getstatic idx, 3))
    (kk : W p l e R s m args below meth c H locs cells slots Q (F0 m (pc + 3) ls (.ref (E.2.2 3 1) :: rest))) : W p l e R s m args below meth c H locs cells slots Q (F0 m pc ls rest) := by
  obtain ⟨h1, h2, h3, h4, h5, h6, -⟩ := hE.x
  exact va_gets hx hb h6 (hS.wide hAB) hown (hw _ hlink) (fun _ h => h) hdg kk
theorem w_sald1 (hx : p.tables.exec = Jvm.exec) (hb : c.code = cc) {R : Room} {i : Int32} (hE : EV E B0 s s.heap) (hS : va_S A s.heap H locs) (hAB : ∀ q, A q → B0 ≤ q) (hi : inb i 10 = true) (hdg : decode cc pc = .ok (.iaload, 1))
    (kk : W p l e R s m args below meth c H locs cells slots Q (F0 m (pc + 1) ls (.int (swK.getD i.toNatClampNeg 0) :: rest))) : W p l e R s m args below meth c H locs cells slots Q (F0 m pc ls (.int i :: .ref (E.2.2 3 1) :: rest)) := by
  obtain ⟨h1, h2, h3, h4, h5, h6, h7, -⟩ := hE.x
  exact va_ti hx hb h7 (hS.wide hAB) (inb_in hi) rfl hdg kk
theorem w_sw2 (hx : p.tables.exec = Jvm.exec) (hb : c.code = cc) {R : Room} (hw : ∀ w ∈ WA, w.before args s = true) (hown : s.vm.findClass own = some m.cls) (hE : EV E B0 s s.heap) (hlink : Cond.fieldLink own idx "RadioNet$1" "$SwitchMap$RadioNet$Fault" "[I" ∈ WA) (hS : va_S A s.heap H locs) (hAB : ∀ q, A q → B0 ≤ q) (hdg : decode cc pc = .ok (.getstatic idx, 3))
    (kk : W p l e R s m args below meth c H locs cells slots Q (F0 m (pc + 3) ls (.ref (E.2.2 3 2) :: rest))) : W p l e R s m args below meth c H locs cells slots Q (F0 m pc ls rest) := by
  obtain ⟨h1, h2, h3, h4, h5, h6, h7, h8, -⟩ := hE.x
  exact va_gets hx hb h8 (hS.wide hAB) hown (hw _ hlink) (fun _ h => h) hdg kk
theorem w_sald2 (hx : p.tables.exec = Jvm.exec) (hb : c.code = cc) {R : Room} {i : Int32} (hE : EV E B0 s s.heap) (hS : va_S A s.heap H locs) (hAB : ∀ q, A q → B0 ≤ q) (hi : inb i 5 = true) (hdg : decode cc pc = .ok (.iaload, 1))
    (kk : W p l e R s m args below meth c H locs cells slots Q (F0 m (pc + 1) ls (.int (swF.getD i.toNatClampNeg 0) :: rest))) : W p l e R s m args below meth c H locs cells slots Q (F0 m pc ls (.int i :: .ref (E.2.2 3 2) :: rest)) := by
  obtain ⟨h1, h2, h3, h4, h5, h6, h7, h8, h9, -⟩ := hE.x
  exact va_ti hx hb h9 (hS.wide hAB) (inb_in hi) rfl hdg kk
end PRIMS
theorem dJ0_checkIndex_df160_0 : decode cJ0_checkIndex_df160 0 = .ok (.iload_n 0, 1) := by decide +kernel
theorem dJ0_checkIndex_df160_1 : decode cJ0_checkIndex_df160 1 = .ok (.iload_n 1, 1) := by decide +kernel
theorem dJ0_checkIndex_df160_2 : decode cJ0_checkIndex_df160 2 = .ok (.getstatic 1053, 3) := by decide +kernel
theorem dJ0_checkIndex_df160_5 : decode cJ0_checkIndex_df160 5 = .ok (.invokestatic 1059, 3) := by decide +kernel
theorem dJ0_checkIndex_df160_8 : decode cJ0_checkIndex_df160 8 = .ok (.pop, 1) := by decide +kernel
theorem dJ0_checkIndex_df160_9 : decode cJ0_checkIndex_df160 9 = .ok (.return_, 1) := by decide +kernel
theorem dJ3_checkIndex_8e157_0 : decode cJ3_checkIndex_8e157 0 = .ok (.iload_n 0, 1) := by decide +kernel
theorem dJ3_checkIndex_8e157_1 : decode cJ3_checkIndex_8e157 1 = .ok (.ifCond .lt 8, 3) := by decide +kernel
theorem dJ3_checkIndex_8e157_4 : decode cJ3_checkIndex_8e157 4 = .ok (.iload_n 0, 1) := by decide +kernel
theorem dJ3_checkIndex_8e157_5 : decode cJ3_checkIndex_8e157 5 = .ok (.iload_n 1, 1) := by decide +kernel
theorem dJ3_checkIndex_8e157_6 : decode cJ3_checkIndex_8e157 6 = .ok (.if_icmp .lt 10, 3) := by decide +kernel
theorem dJ3_checkIndex_8e157_9 : decode cJ3_checkIndex_8e157 9 = .ok (.aload_n 2, 1) := by decide +kernel
theorem dJ3_checkIndex_8e157_10 : decode cJ3_checkIndex_8e157 10 = .ok (.iload_n 0, 1) := by decide +kernel
theorem dJ3_checkIndex_8e157_11 : decode cJ3_checkIndex_8e157 11 = .ok (.iload_n 1, 1) := by decide +kernel
theorem dJ3_checkIndex_8e157_12 : decode cJ3_checkIndex_8e157 12 = .ok (.invokestatic 95, 3) := by decide +kernel
theorem dJ3_checkIndex_8e157_15 : decode cJ3_checkIndex_8e157 15 = .ok (.athrow, 1) := by decide +kernel
theorem dJ3_checkIndex_8e157_16 : decode cJ3_checkIndex_8e157 16 = .ok (.iload_n 0, 1) := by decide +kernel
theorem dJ3_checkIndex_8e157_17 : decode cJ3_checkIndex_8e157 17 = .ok (.ireturn, 1) := by decide +kernel
set_option maxHeartbeats 4000000 in
set_option maxRecDepth 100000 in
theorem m_J3ck (l : Launch) (E : EP) (B0 : Nat) (a1 a2 : Int32) (v : Value) (hv : v = .null ∨ ∃ t, v = .ref t) (h1 : ¬ a1 < 0) (h2 : a1 < a2) : MU l E B0 yJ3_checkIndex_8e157 cJ3_checkIndex_8e157 3 (some .int) 0 0 0 [.int a1, .int a2, v] (fun _ => True) (some (.int a1)) (fun _ => True) nv := by
  rcases hv with rfl | ⟨t, rfl⟩ <;>
  (refine mu_of (by decide +kernel) (Nat.le_of_ble_eq_true rfl) ?_
   intro p e s m args below meth c hx hb hml hown hts hrt hlocks hE H _ hS ls hl
   have hl0 : ls[0]? = some (.val (.int a1)) := lv_at hl 0 rfl
   have hl1 : ls[1]? = some (.val (.int a2)) := lv_at hl 1 rfl
   refine lv_iload_n hx hb dJ3_checkIndex_8e157_0 rfl hl0 ?_
   refine lv_if_lt (tgt := 9) hx hb dJ3_checkIndex_8e157_1 (by decide) (fun z => absurd z h1) (fun _ => ?_)
   refine lv_iload_n hx hb dJ3_checkIndex_8e157_4 rfl hl0 ?_
   refine lv_iload_n hx hb dJ3_checkIndex_8e157_5 rfl hl1 ?_
   refine lv_icmp_lt (tgt := 16) hx hb dJ3_checkIndex_8e157_6 (by decide) (fun _ => ?_) (fun z => absurd h2 z)
   refine lv_iload_n hx hb dJ3_checkIndex_8e157_16 rfl hl0 ?_
   exact mu_i (v := a1) hx hb hrt hlocks trivial hS dJ3_checkIndex_8e157_17)
theorem fk_sio : Cond.fieldLink RJ0 1053 "jdk/internal/util/Preconditions" "SIOOBE_FORMATTER" "Ljava/util/function/BiFunction;" ∈ WA := WA_of 1203 (by decide +kernel) (by decide +kernel)
theorem cs_J0_1059 : CS RJ0 1059 yJ3_checkIndex_8e157 cJ3_checkIndex_8e157 3 (some .int) 3 := cs_of (WA_list _ [1405, 1406, 102, 1407] (by decide +kernel) (by decide +kernel)) (by decide +kernel) (by decide)
def fJ0_checkIndex_df160 (a1 a2 : Int32) : Option Unit := if a1 < 0 then none else if a1 < a2 then some () else none
set_option maxHeartbeats 4000000 in
set_option maxRecDepth 100000 in
theorem mJ0_checkIndex_df160 (l : Launch) (E : EP) (B0 : Nat) (a1 a2 : Int32) (r : Unit) (hf : fJ0_checkIndex_df160 a1 a2 = some r) : MU l E B0 yJ0_checkIndex_df160 cJ0_checkIndex_df160 2 none 1 0 0 [.int a1, .int a2] (fun _ => True) none (fun _ => True) nv := by
  refine mu_of (by decide +kernel) (Nat.le_of_ble_eq_true rfl) ?_
  intro p e s m args below meth c hx hb hml hown hts hrt hlocks hE H _ hS ls hl
  have hown : s.vm.findClass RJ0 = some m.cls := hown
  have hl : lv_has ls 2 [(0, .int a1), (1, .int a2)] := hl
  have hw : ∀ w ∈ WA, w.before args s = true := fun w h => hts w (List.mem_cons_of_mem _ h)
  have hAB : ∀ q, nv q → B0 ≤ q := fun _ h => h.elim
  unfold fJ0_checkIndex_df160 at hf
  have h1 : ¬ a1 < 0 := fun z => by rw [if_pos z] at hf; cases hf
  rw [if_neg h1] at hf
  have h2 : a1 < a2 := by
    by_cases z : a1 < a2
    · exact z
    · rw [if_neg z] at hf; cases hf
  refine lv_iload_n hx hb dJ0_checkIndex_df160_0 rfl (lv_at hl 0 rfl) ?_
  refine lv_iload_n hx hb dJ0_checkIndex_df160_1 rfl (lv_at hl 1 rfl) ?_
  have hq := hE.x.2.2.2.2.2.2.2.2.2.2.2.2.2.2.2.2.1
  have go : ∀ v : Value, va_Z "jdk/internal/util/Preconditions" "SIOOBE_FORMATTER" "Ljava/util/function/BiFunction;" v (fun q => B0 ≤ q) s s.heap → v = .null ∨ (∃ t, v = .ref t) → v.category = 1 → W p l e (rmD 1 0 0) s m args below meth c H [] 0 0 (MQ below (QU none (fun _ => True) nv) args s 0 0 nv) (F0 m 2 ls [.int a2, .int a1]) := by
    intro v hZ hv hc
    refine va_gets hx hb hZ (hS.wide hAB) hown (hw _ fk_sio) (fun _ h => h) dJ0_checkIndex_df160_2 ?_
    refine mu_cS (As := [.int a1, .int a2, v]) (rest := []) hx hb hml hown hts hE (m_J3ck l E B0 a1 a2 v hv h1 h2) cs_J0_1059 trivial hS hAB (fun _ h => h.elim) rfl hl.1 rfl (by decide) (Nat.le_of_ble_eq_true rfl) ⟨Nat.le_refl _, Nat.le_refl _⟩ dJ0_checkIndex_df160_5 (fun H locs _ _ hu hS => ?_)
    refine lv_pop hx hb dJ0_checkIndex_df160_8 rfl ?_
    exact mu_v hx hb hrt hlocks trivial hS dJ0_checkIndex_df160_9
  rcases hq with h | ⟨t, h⟩
  · exact go _ h (Or.inl rfl) rfl
  · exact go _ h (Or.inr ⟨t, rfl⟩) rfl
