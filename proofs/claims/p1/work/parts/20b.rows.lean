/-! ===== the law's own rows: calls in any room, wrappers with handlers, the world of the class and of the reference ===== -/
def nz (b : Int32) : Bool := decide (b ≠ 0)
theorem nz_ne {b : Int32} (h : nz b = true) : b ≠ 0 := @of_decide_eq_true (b ≠ 0) _ h
def n32b (x : UInt32) : Bool := decide (x &&& 0x7fffffff ≤ 0x7f800000)
theorem n32b_n {x : UInt32} (h : n32b x = true) : vf_n32 x := @of_decide_eq_true (x &&& 0x7fffffff ≤ 0x7f800000) _ h
def LO (E : EP) (a : Nat) (o : Int64) (H : Heap) : Prop := ∃ f : Nat → Int64, f 0 = o ∧ va_at E.1 vwCl (a, .inl (E.2.1 6, 1, .inr (.inl f))) H
def LD (E : EP) (a : Nat) (o : UInt64) (H : Heap) : Prop := ∃ f : Nat → UInt64, f 0 = o ∧ va_at E.1 vwCl (a, .inl (E.2.1 7, 1, .inr (.inr (.inr (.inl f))))) H
theorem LO.off {E : EP} {a : Nat} {o : Int64} {H H1 : Heap} {A1 : Nat → Prop} (h : LO E a o H) (hu : ∀ q : Nat, q < H.size → ¬ A1 q → H1[q]? = H[q]?) (hd : ¬ A1 a) : LO E a o H1 := by
  obtain ⟨f, h1, h2⟩ := h
  exact ⟨f, h1, at_off h2 hu hd⟩
theorem LD.off {E : EP} {a : Nat} {o : UInt64} {H H1 : Heap} {A1 : Nat → Prop} (h : LD E a o H) (hu : ∀ q : Nat, q < H.size → ¬ A1 q → H1[q]? = H[q]?) (hd : ¬ A1 a) : LD E a o H1 := by
  obtain ⟨f, h1, h2⟩ := h
  exact ⟨f, h1, at_off h2 hu hd⟩
theorem LO.offq {E : EP} {a b : Nat} {o : Int64} {H H1 : Heap} (h : LO E a o H) (oq : ∀ q : Nat, q ≠ b → H1[q]? = H[q]?) (hd : a ≠ b) : LO E a o H1 := by
  obtain ⟨f, h1, h2⟩ := h
  exact ⟨f, h1, at_offp h2 oq hd⟩
theorem LD.offq {E : EP} {a b : Nat} {o : UInt64} {H H1 : Heap} (h : LD E a o H) (oq : ∀ q : Nat, q ≠ b → H1[q]? = H[q]?) (hd : a ≠ b) : LD E a o H1 := by
  obtain ⟨f, h1, h2⟩ := h
  exact ⟨f, h1, at_offp h2 oq hd⟩
theorem SBt.offq {E : EP} {bs L0 a : Nat} {t : TX} {H H1 : Heap} (h : SBt E bs L0 t H) (z9 : H1.size = H.size) (oq : ∀ q : Nat, q ≠ a → H1[q]? = H[q]?) (h1 : a < L0) (h2 : bs + 2 ≤ a ∨ a < bs) : SBt E bs L0 t H1 :=
  SBt.off (A1 := fun q => q = a) h (Nat.le_of_eq z9.symm) (fun q _ hq => oq q hq) (fun q hq e => by
    rcases hq with h | h | h <;> omega)
/-- the class's side: cells, nets, history, relays, program, output, the law's own two arrays -/
abbrev KS : Type := Mem × Mem × Mem × Mem × Mem × (Nat → Mem) × Mem × Mem × TX × Int64 × UInt64
abbrev KS.mk (G N T V Hs : Mem) (Q : Nat → Mem) (R P : Mem) (Sb : TX) (o : Int64) (od : UInt64) : KS := (G, N, T, V, Hs, Q, R, P, Sb, o, od)
abbrev KS.G (z : KS) : Mem := z.1
abbrev KS.N (z : KS) : Mem := z.2.1
abbrev KS.T (z : KS) : Mem := z.2.2.1
abbrev KS.V (z : KS) : Mem := z.2.2.2.1
abbrev KS.Hs (z : KS) : Mem := z.2.2.2.2.1
abbrev KS.Q (z : KS) : Nat → Mem := z.2.2.2.2.2.1
abbrev KS.R (z : KS) : Mem := z.2.2.2.2.2.2.1
abbrev KS.P (z : KS) : Mem := z.2.2.2.2.2.2.2.1
abbrev KS.Sb (z : KS) : TX := z.2.2.2.2.2.2.2.2.1
abbrev KS.o (z : KS) : Int64 := z.2.2.2.2.2.2.2.2.2.1
abbrev KS.od (z : KS) : UInt64 := z.2.2.2.2.2.2.2.2.2.2
def CW (E : EP) (B : Nat) (z : KS) (H : Heap) : Prop :=
  Blk E B rnSh 1 z.G H ∧ Blk E (B + 1) netSh 15 z.N H ∧ Blk E (B + 16) netSh 15 z.T H ∧ Blk E (B + 31) netSh 15 z.V H ∧ Blk E (B + 46) histSh 2 z.Hs H ∧ Fam E (B + 46 + 2) z.Q H ∧ Blk E (B + 168) relSh 3 z.R H ∧ Blk E (B + 171) progSh 29 z.P H ∧ SBt E (B + 200) (B + 214) z.Sb H ∧ LO E (B + 212) z.o H ∧ LD E (B + 213) z.od H
def cA (B : Nat) : Nat → Prop := fun q => (B ≤ q ∧ q < B + 202) ∨ B + 212 ≤ q
theorem cA_ge {B0 B : Nat} (hb : B0 ≤ B) : ∀ q, cA B q → B0 ≤ q := by
  intro q h
  rcases h with h | h <;> omega
theorem CW.off {E : EP} {B : Nat} {z : KS} {H H1 : Heap} {A1 : Nat → Prop} (h : CW E B z H) (hz : H.size ≤ H1.size) (hu : ∀ q : Nat, q < H.size → ¬ A1 q → H1[q]? = H[q]?) (hd : ∀ q, cA B q → ¬ A1 q) : CW E B z H1 := by
  obtain ⟨h1, h2, h3, h4, h5, h6, h7, h8, h9, h10, h11⟩ := h
  refine ⟨h1.off hu (fun q q1 q2 => hd q (Or.inl (by omega))), h2.off hu (fun q q1 q2 => hd q (Or.inl (by omega))), h3.off hu (fun q q1 q2 => hd q (Or.inl (by omega))), h4.off hu (fun q q1 q2 => hd q (Or.inl (by omega))), h5.off hu (fun q q1 q2 => hd q (Or.inl (by omega))), h6.off hu (fun q q1 q2 => hd q (Or.inl (by omega))), h7.off hu (fun q q1 q2 => hd q (Or.inl (by omega))), h8.off hu (fun q q1 q2 => hd q (Or.inl (by omega))), h9.off hz hu (fun q hq => hd q ?_), h10.off hu (hd _ (Or.inr (by omega))), h11.off hu (hd _ (Or.inr (by omega)))⟩
  rcases hq with h | h | h
  · exact Or.inl (by omega)
  · exact Or.inl (by omega)
  · exact Or.inr (by omega)
/-- a wrapper's words, its contract -/
abbrev wsh (y : MethodName) (c : ByteArray) (n : Nat) (r : Option FieldType) (hh : List (Nat × Nat × Nat × Nat)) : List Cond := .codeWith y c n r hh :: WA
abbrev MW (l : Launch) (E : EP) (B0 : Nat) (y : MethodName) (cY : ByteArray) (maxL : Nat) (ret : Option FieldType) (hh : List (Nat × Nat × Nat × Nat)) (d mc ms : Nat) (As : List Value) (P : Heap → Prop) (rv : Option Value) (P' : Heap → Prop) (A : Nat → Prop) : Prop :=
  Met l y (wsh y cY maxL ret hh) (rmD d mc ms) (va_Pc As (fun U => EV E B0 U U.heap ∧ P U.heap)) (QU rv P' A) mc ms A
theorem met_novx {l : Launch} {y : MethodName} {ws : List Cond} {rm : Room} {Pc : Array Value → State → Prop} {Qc : Array Value → State → Outcome → State → Prop} {mc ms : Nat} {free : Nat → Prop} (h : vx_Met l y ws rm Pc Qc (fun _ _ _ => False) mc ms free) : Met l y ws rm Pc Qc mc ms free := by
  intro p e ha hc hk s m args below hf happ hP ht
  obtain ⟨n, o, h1, h2, h3, h4⟩ := h p e ha hc hk s m args below hf happ hP ht
  refine ⟨n, o, h1, h2, h3, ?_⟩
  rcases h4 with h4 | ⟨q, -, E, ce, L, h5, -⟩
  · exact h4
  · exact h5.elim
theorem mw_of {l : Launch} {E : EP} {B0 : Nat} {y : MethodName} {cY : ByteArray} {maxL : Nat} {ret : Option FieldType} {hh : List (Nat × Nat × Nat × Nat)} {d mc ms : Nat} {As : List Value} {P : Heap → Prop} {rv : Option Value} {P' : Heap → Prop} {A : Nat → Prop} (hy : plainName y.cls = true) (hlen : (lg_sl As).length ≤ maxL)
    (body : ∀ (p : Program) (e : Env) (s : State) (m : MethodId) (args : Array Value) (below : List Frame) (meth : Method) (c : Code), p.tables.exec = Jvm.exec → c.code = cY → c.maxLocals = maxL → s.vm.findClass y.cls = some m.cls → (∀ w ∈ WA, w.before args s = true) → meth.sig.returnType = ret → meth.locks = false → c.exceptionTable.toList = tableOf hh → EV E B0 s s.heap → ∀ H : Heap, P H → va_S A s.heap H [] → ∀ ls : Array Slot, lv_has ls maxL (lv_args 0 As) →
      W p l e (rmD d mc ms) s m args below meth c H [] 0 0 (MQ below (QU rv P' A) args s mc ms A) (F0 m 0 ls [])) : MW l E B0 y cY maxL ret hh d mc ms As P rv P' A := by
  refine met_novx (vx_ofWH (cc := cY) (maxL := maxL) (ret := ret) (hh := hh) hy rfl ?_)
  intro p e s m args below meth c s₁ B hml hv
  obtain ⟨rfl, hE, hP⟩ := hv
  have hts := atoms_spec (ws := wsh y cY maxL ret hh) B.pre
  have hown : s.vm.findClass y.cls = some m.cls := findClass_of_methodNamed B.named
  have htb := vx_table (x := y) B (hts _ List.mem_cons_self)
  have hl := lv_entry As (n := maxL) hlen
  rw [lg_entry_eq]
  exact vx_ret (body p e s m _ below meth c B.exec B.bytes hml hown (fun w h => hts w (List.mem_cons_of_mem _ h)) B.returns B.notSynchronized htb hE s.heap hP va_S.rf _ hl)
def CSW (own : String) (idx : Nat) (y : MethodName) (cY : ByteArray) (maxL : Nat) (ret : Option FieldType) (hh : List (Nat × Nat × Nat × Nat)) (n : Nat) : Prop :=
  Cond.methodLink own idx y ∈ WA ∧ Cond.static y ∈ WA ∧ Cond.initialized y.cls ∈ WA ∧ Cond.codeWith y cY maxL ret hh ∈ WA ∧ (y.cls ≠ "java/lang/invoke/MethodHandle" ∧ y.cls ≠ "java/lang/invoke/VarHandle" ∧ (parseMethodDescriptor y.desc).map (fun d => d.parameters.length) = some n) ∧ maxL ≤ 45
theorem csw_of {own : String} {idx : Nat} {y : MethodName} {cY : ByteArray} {maxL : Nat} {ret : Option FieldType} {hh : List (Nat × Nat × Nat × Nat)} {n : Nat} (h : ∀ w ∈ [Cond.methodLink own idx y, .static y, .initialized y.cls, .codeWith y cY maxL ret hh], w ∈ WA) (hd : y.cls ≠ "java/lang/invoke/MethodHandle" ∧ y.cls ≠ "java/lang/invoke/VarHandle" ∧ (parseMethodDescriptor y.desc).map (fun d => d.parameters.length) = some n) (hm : maxL ≤ 45) : CSW own idx y cY maxL ret hh n :=
  ⟨h _ (by simp), h _ (by simp), h _ (by simp), h _ (by simp), hd, hm⟩
theorem wa_good {cs : Cond} (hc : cs ∈ WA) : GoodIn WA (cs :: WA) := by
  intro w hw
  rcases List.mem_cons.mp hw with h | h
  · subst h
    exact ⟨hc, WA_good hc⟩
  · exact ⟨h, WA_good h⟩
section LAWROWS
variable {p : Program} {l : Launch} {e : Env} {R : Room} {s : State} {m : MethodId} {args : Array Value} {below : List Frame} {meth : Method} {c : Code} {H : Heap} {locs : List Loc} {cells slots : Nat} {Q : State → Prop}
variable {cc : ByteArray} {pc nL d mc ms : Nat} {ls : Array Slot} {rest st As : List Value} {A A1 : Nat → Prop} {E : EP} {B0 : Nat} {rv : Option Value} {P P' PC' : Heap → Prop} {own : String} {idx n maxL a : Nat} {y : MethodName} {cY : ByteArray} {ret : Option FieldType} {VC : Type} {resC : Nat ⊕ VC} {rvC : VC → Option Value} {H0 : Heap}
theorem mu_d (hx : p.tables.exec = Jvm.exec) (hb : c.code = cc) {v : UInt64} (hr : meth.sig.returnType = some .double) (hlocks : meth.locks = false) (hP : P' H) (hS : va_S A s.heap H locs) (hdg : decode cc pc = .ok (.dreturn, 1)) : W p l e R s m args below meth c H locs cells slots (MQ below (QU (some (.double v)) P' A) args s cells slots A) (F0 m pc ls [.double v]) :=
  W.dret hx hb hr (fun t ht _ => ⟨rfl, by rw [ht]; exact hP, hS.F ht⟩) hS.2.2 hdg hlocks
theorem mu_f (hx : p.tables.exec = Jvm.exec) (hb : c.code = cc) {v : UInt32} (hr : meth.sig.returnType = some .float) (hlocks : meth.locks = false) (hP : P' H) (hS : va_S A s.heap H locs) (hdg : decode cc pc = .ok (.freturn, 1)) : W p l e R s m args below meth c H locs cells slots (MQ below (QU (some (.float v)) P' A) args s cells slots A) (F0 m pc ls [.float v]) :=
  W.fret hx hb hr (fun t ht _ => ⟨rfl, by rw [ht]; exact hP, hS.F ht⟩) hS.2.2 hdg hlocks
theorem w_last (hx : p.tables.exec = Jvm.exec) (hb : c.code = cc) {o x : Int64} (hE : EV E B0 s s.heap) (hO : LO E a o H) (hS : va_S A H0 H locs) (hA : A a) (hdg : decode cc pc = .ok (.lastore, 1))
    (kk : ∀ (H1 : Heap) (locs1 : List Loc), LO E a x H1 → H1.size = H.size → (∀ q : Nat, q ≠ a → H1[q]? = H[q]?) → va_S A H0 H1 locs1 → W p l e R s m args below meth c H1 locs1 cells slots Q (F0 m (pc + 1) ls rest)) : W p l e R s m args below meth c H locs cells slots Q (F0 m pc ls (.long x :: .int 0 :: .ref a :: rest)) := by
  obtain ⟨f, -, hc⟩ := hO
  refine W.last hx hb hc ((hE.1.2 6 _ rfl).1 1 (fun j => .long (f j))) (fun q => by cases q) (by show ¬ ((0 : Int32) < 0 ∨ (arrV _ _ _).slots.size ≤ _); rw [arrV_size]; show ¬ ((0 : Int32) < 0 ∨ 1 ≤ (0 : Int32).toNatClampNeg); decide) rfl rfl hdg fun H1 e z oq => ?_
  refine kk H1 _ ⟨vp_updL f (0 : Int32).toNatClampNeg x, if_pos rfl, ?_⟩ z oq (hS.put z oq hA)
  show H1[a]? = some (vp_cell _ _)
  rw [e, vp_cell_l, vp_cell_l, arrV_store]
  congr 2
  funext q
  by_cases hq : q = 0
  · subst hq
    simp [updV, vp_updL]
  · simp [updV, vp_updL, hq]
theorem w_dast (hx : p.tables.exec = Jvm.exec) (hb : c.code = cc) {o x : UInt64} (hE : EV E B0 s s.heap) (hO : LD E a o H) (hS : va_S A H0 H locs) (hA : A a) (hdg : decode cc pc = .ok (.dastore, 1))
    (kk : ∀ (H1 : Heap) (locs1 : List Loc), LD E a x H1 → H1.size = H.size → (∀ q : Nat, q ≠ a → H1[q]? = H[q]?) → va_S A H0 H1 locs1 → W p l e R s m args below meth c H1 locs1 cells slots Q (F0 m (pc + 1) ls rest)) : W p l e R s m args below meth c H locs cells slots Q (F0 m pc ls (.double x :: .int 0 :: .ref a :: rest)) := by
  obtain ⟨f, -, hc⟩ := hO
  refine W.dast hx hb hc ((hE.1.2 7 _ rfl).1 1 (fun j => .double (f j))) (fun q => by cases q) (by show ¬ ((0 : Int32) < 0 ∨ (arrV _ _ _).slots.size ≤ _); rw [arrV_size]; show ¬ ((0 : Int32) < 0 ∨ 1 ≤ (0 : Int32).toNatClampNeg); decide) rfl rfl hdg fun H1 e z oq => ?_
  refine kk H1 _ ⟨vf_upd f (0 : Int32).toNatClampNeg x, if_pos rfl, ?_⟩ z oq (hS.put z oq hA)
  show H1[a]? = some (vp_cell _ _)
  rw [e, vp_cell_d, vp_cell_d, arrV_store]
  congr 2
  funext q
  by_cases hq : q = 0
  · subst hq
    simp [updV, vf_upd]
  · simp [updV, vf_upd, hq]
theorem w_lald (hx : p.tables.exec = Jvm.exec) (hb : c.code = cc) {o : Int64} (hE : EV E B0 s s.heap) (hO : LO E a o H) (hdg : decode cc pc = .ok (.laload, 1))
    (kk : W p l e R s m args below meth c H locs cells slots Q (F0 m (pc + 1) ls (.long o :: rest))) : W p l e R s m args below meth c H locs cells slots Q (F0 m pc ls (.int 0 :: .ref a :: rest)) := by
  obtain ⟨f, rfl, hc⟩ := hO
  exact va_lald hx hb hE.1 (w_ld (tys := []) (k := 0) hc) 0 6 rfl rfl (by show ¬ ((0 : Int32) < 0 ∨ 1 ≤ (0 : Int32).toNatClampNeg); decide) hdg kk
theorem w_dald (hx : p.tables.exec = Jvm.exec) (hb : c.code = cc) {o : UInt64} (hE : EV E B0 s s.heap) (hO : LD E a o H) (hdg : decode cc pc = .ok (.daload, 1))
    (kk : W p l e R s m args below meth c H locs cells slots Q (F0 m (pc + 1) ls (.double o :: rest))) : W p l e R s m args below meth c H locs cells slots Q (F0 m pc ls (.int 0 :: .ref a :: rest)) := by
  obtain ⟨f, rfl, hc⟩ := hO
  exact va_dald hx hb hE.1 (w_ld (tys := []) (k := 0) hc) 0 7 rfl rfl (by show ¬ ((0 : Int32) < 0 ∨ 1 ≤ (0 : Int32).toNatClampNeg); decide) hdg kk
/-- behind a call, in any room -/
theorem mg_go (hr : va_Run p l e R s m args below meth c H locs cells slots mc ms (F0 m pc ls st) rest (QU rv P' A1 As.toArray) A1) (hS : va_S A s.heap H locs) (hA1 : ∀ q, A1 q → A q)
    (kk : ∀ (H1 : Heap) (locs1 : List Loc), P' H1 → H.size ≤ H1.size → (∀ q : Nat, q < H.size → ¬ A1 q → H1[q]? = H[q]?) → va_S A s.heap H1 locs1 → W p l e R s m args below meth c H1 locs1 (cells + mc) (slots + ms) Q (F0 m (pc + 3) ls (rv.toList ++ rest))) : W p l e R s m args below meth c H locs cells slots Q (F0 m pc ls st) := by
  intro T hT X
  obtain ⟨v, st₀, t, T', L, h0, X', hL, e1, e2, ⟨hv, hp, hz, hk⟩, go⟩ := hr T hT X
  have hv : v = rv := by injection hv
  subst hv
  rw [h0] at hz hk
  obtain ⟨t2, a1, b1⟩ := kk T'.heap (locs ++ L) (by rw [e1]; exact hp) (by rw [e1]; exact hz) (fun q h1 h2 => by rw [e1]; exact hk q h1 h2)
    ⟨Nat.le_trans hS.1 (by rw [e1]; exact hz), fun q h1 h2 => by rw [e1, hk q (Nat.lt_of_lt_of_le h1 hS.1) (fun z => h2 (hA1 q z))]; exact hS.2.1 q h1 h2, fun q hq => by
      rcases List.mem_append.mp hq with h | h
      · exact hS.2.2 q h
      · exact hA1 _ (hL q h)⟩ T' rfl X'
  exact ⟨t2, go t2 a1, b1⟩
theorem mg_cV (hx : p.tables.exec = Jvm.exec) (hb : c.code = cc) (hml : c.maxLocals = nL) (hown : s.vm.findClass own = some m.cls) (hw : ∀ w ∈ WA, w.before args s = true) (hE : EV E B0 s s.heap)
    (hM : MU l E B0 y cY maxL ret d mc ms (.ref a :: As) P rv P' A1) (hC : CV own idx y cY maxL ret n) (hrecv : ∃ cellB : Cell, H[a]? = some cellB ∧ cellB.vm.isStatics = false ∧ s.vm.findClass y.cls = some cellB.cls) (hP : P H) (hS : va_S A s.heap H locs) (hAB : ∀ q, A q → B0 ≤ q) (hA1 : ∀ q, A1 q → A q)
    (hn : As.length = n) (hl : ls.size = nL) (hst : st = As.reverse ++ .ref a :: rest) (hfr : d + 1 ≤ R.frames) (hlo : 64 + 64 * d ≤ R.locals) (hrest : (rest.map fun v => v.category).sum ≤ 8) (hf : cells + mc ≤ R.cells ∧ slots + ms ≤ R.slots) (hdg : decode cc pc = .ok (.invokevirtual idx, 3))
    (kk : ∀ (H1 : Heap) (locs1 : List Loc), P' H1 → H.size ≤ H1.size → (∀ q : Nat, q < H.size → ¬ A1 q → H1[q]? = H[q]?) → va_S A s.heap H1 locs1 → W p l e R s m args below meth c H1 locs1 (cells + mc) (slots + ms) Q (F0 m (pc + 3) ls (rv.toList ++ rest))) : W p l e R s m args below meth c H locs cells slots Q (F0 m pc ls st) := by
  obtain ⟨c1, c2, c3, c4, c5, c6, c7⟩ := hC
  refine mg_go (As := .ref a :: As) (va_runV (As := As) (rest := rest) (C := y.cls) ⟨hx, hb, hml, hown, hw⟩ hM (cwV n hw ?_ rfl rfl rfl ⟨rfl, c6⟩ ⟨hfr, ?_⟩) ⟨mu_blind, hrecv, fun U hU hW => ⟨rfl, ev_at hE hS hAB hU hW, by rw [hU]; exact hP⟩⟩ rfl hn hl hst (by simpa using hrest) hdg hf) hS hA1 kk
  · intro w hw
    rcases List.mem_append.mp hw with h | h
    · simp only [List.mem_cons, List.not_mem_nil, or_false] at h
      rcases h with h | h | h | h <;> subst h
      · exact ⟨c1, WA_good c1⟩
      · exact ⟨c2, WA_good c2⟩
      · exact ⟨c3, WA_good c3⟩
      · exact ⟨c4, WA_good c4⟩
    · exact wa_good c5 w h
  · show 8 + (maxL + 11) + 64 * d ≤ R.locals
    omega
theorem mg_cW {hh : List (Nat × Nat × Nat × Nat)} (hx : p.tables.exec = Jvm.exec) (hb : c.code = cc) (hml : c.maxLocals = nL) (hown : s.vm.findClass own = some m.cls) (hw : ∀ w ∈ WA, w.before args s = true) (hE : EV E B0 s s.heap)
    (hM : MW l E B0 y cY maxL ret hh d mc ms As P rv P' A1) (hC : CSW own idx y cY maxL ret hh n) (hP : P H) (hS : va_S A s.heap H locs) (hAB : ∀ q, A q → B0 ≤ q) (hA1 : ∀ q, A1 q → A q)
    (hn : As.length = n) (hl : ls.size = nL) (hst : st = As.reverse ++ rest) (hfr : d + 1 ≤ R.frames) (hlo : 64 + 64 * d ≤ R.locals) (hrest : (rest.map fun v => v.category).sum ≤ 8) (hf : cells + mc ≤ R.cells ∧ slots + ms ≤ R.slots) (hdg : decode cc pc = .ok (.invokestatic idx, 3))
    (kk : ∀ (H1 : Heap) (locs1 : List Loc), P' H1 → H.size ≤ H1.size → (∀ q : Nat, q < H.size → ¬ A1 q → H1[q]? = H[q]?) → va_S A s.heap H1 locs1 → W p l e R s m args below meth c H1 locs1 (cells + mc) (slots + ms) Q (F0 m (pc + 3) ls (rv.toList ++ rest))) : W p l e R s m args below meth c H locs cells slots Q (F0 m pc ls st) := by
  obtain ⟨c1, c2, c3, c4, c5, c6⟩ := hC
  refine mg_go (As := As) (vx_runSW (As := As) (rest := rest) ⟨hx, hb, hml, hown, hw⟩ hM (vx_cwSW (hh := hh) n hw ?_ rfl rfl rfl c5 ⟨hfr, ?_⟩) ⟨mu_blind, fun U hU hW => ⟨rfl, ev_at hE hS hAB hU hW, by rw [hU]; exact hP⟩⟩ rfl hn hl hst (by simpa using hrest) hdg hf) hS hA1 kk
  · intro w hw
    rcases List.mem_append.mp hw with h | h
    · simp only [List.mem_cons, List.not_mem_nil, or_false] at h
      rcases h with h | h | h <;> subst h
      · exact ⟨c1, WA_good c1⟩
      · exact ⟨c2, WA_good c2⟩
      · exact ⟨c3, WA_good c3⟩
    · exact wa_good c4 w h
  · show 8 + (maxL + 11) + 64 * d ≤ R.locals
    omega
/-- a callee that may throw, from a method with handlers -/
theorem mg_xV (hx : p.tables.exec = Jvm.exec) (hb : c.code = cc) (hml : c.maxLocals = nL) (hown : s.vm.findClass own = some m.cls) (hw : ∀ w ∈ WA, w.before args s = true) (hE : EV E B0 s s.heap)
    (hM : MX l E B0 y cY maxL ret d mc ms (.ref a :: As) P resC rvC PC' A1) (hC : CV own idx y cY maxL ret n) (hrecv : ∃ cellB : Cell, H[a]? = some cellB ∧ cellB.vm.isStatics = false ∧ s.vm.findClass y.cls = some cellB.cls) (hP : P H) (hS : va_S A s.heap H locs) (hAB : ∀ q, A q → B0 ≤ q) (hA1 : ∀ q, A1 q → A q)
    (hn : As.length = n) (hl : ls.size = nL) (hst : st = As.reverse ++ .ref a :: rest) (hfr : d + 1 ≤ R.frames) (hlo : 64 + 64 * d ≤ R.locals) (hrest : (rest.map fun v => v.category).sum ≤ 8) (hf : cells + mc ≤ R.cells ∧ slots + ms ≤ R.slots) (hdg : decode cc pc = .ok (.invokevirtual idx, 3))
    (kx : ∀ (e9 : Nat), resC = .inl e9 → ∀ (H1 : Heap) (locs1 : List Loc) (ce : Cell) (q : Addr), PC' H1 → H.size ≤ H1.size → (∀ q : Nat, q < H.size → ¬ A1 q → H1[q]? = H[q]?) → va_S A s.heap H1 locs1 → H1[q]? = some ce → ce.vm = .none → s.vm.findClass (exN e9) = some ce.cls → vx_W p l e R s m args below meth c H1 locs1 (cells + mc) (slots + ms) Q (F0 m pc ls rest) q)
    (kk : ∀ (v : VC), resC = .inr v → ∀ (H1 : Heap) (locs1 : List Loc), PC' H1 → H.size ≤ H1.size → (∀ q : Nat, q < H.size → ¬ A1 q → H1[q]? = H[q]?) → va_S A s.heap H1 locs1 → W p l e R s m args below meth c H1 locs1 (cells + mc) (slots + ms) Q (F0 m (pc + 3) ls ((rvC v).toList ++ rest))) :
    W p l e R s m args below meth c H locs cells slots Q (F0 m pc ls st) := by
  obtain ⟨c1, c2, c3, c4, c5, c6, c7⟩ := hC
  have hr := vx_runV (As := As) (rest := rest) (C := y.cls) (Ts := WA) (g := F0 m pc ls st) (locs := locs) (meth := meth) (below := below) (e := e) ⟨hx, hb, hml, hown, hw⟩ hM (cwV n hw (by
    intro w hw
    rcases List.mem_append.mp hw with h | h
    · simp only [List.mem_cons, List.not_mem_nil, or_false] at h
      rcases h with h | h | h | h <;> subst h
      · exact ⟨c1, WA_good c1⟩
      · exact ⟨c2, WA_good c2⟩
      · exact ⟨c3, WA_good c3⟩
      · exact ⟨c4, WA_good c4⟩
    · exact wa_good c5 w h) rfl rfl rfl ⟨rfl, c6⟩ ⟨hfr, by
    show 8 + (maxL + 11) + 64 * d ≤ R.locals
    omega⟩) ⟨mu_blind, hrecv, fun U hU hW => ⟨rfl, ev_at hE hS hAB hU hW, by rw [hU]; exact hP⟩⟩ rfl hn hl hst (by simpa using hrest) hdg hf
  intro T hT X
  rcases hr T hT X with ⟨v, st₀, t, T', L, h0, X', hL, e1, e2, ⟨v9, hv9, hv, hp, hF⟩, go⟩ | ⟨q, st₀, t, T', L, Ex, ce, h0, X', hL, e1, e2, ⟨e9, he9, hEx, hp, hF⟩, hce, hcv, hcl, go⟩
  · have hv : v = rvC v9 := by injection hv
    subst hv
    obtain ⟨k1, k2, k3⟩ := vx_keep h0 e1 hS (fun q _ h => hA1 q h) hA1 hL hF
    obtain ⟨t2, a1, b1⟩ := kk v9 hv9 T'.heap (locs ++ L) (by rw [e1]; exact hp) k1 k2 k3 T' rfl X'
    exact ⟨t2, go t2 a1, b1⟩
  · obtain ⟨k1, k2, k3⟩ := vx_keep h0 e1 hS (fun q _ h => hA1 q h) hA1 hL hF
    subst hEx
    obtain ⟨t2, a1, b1⟩ := kx e9 he9 T'.heap (locs ++ L) ce q (by rw [e1]; exact hp) k1 k2 k3 (by rw [e1]; exact hce) hcv hcl T' rfl X'
    exact ⟨t2, go.trans a1, b1⟩
end LAWROWS
