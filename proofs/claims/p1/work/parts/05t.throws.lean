/-! ===== contracts that return or throw, by one answer that says which ===== -/
def exN : Nat → String
  | 0 => "java/lang/IndexOutOfBoundsException"
  | 1 => "java/lang/IllegalArgumentException"
  | 2 => "java/lang/UnsupportedOperationException"
  | 3 => "java/lang/IllegalStateException"
  | 4 => "java/lang/ArithmeticException"
  | _ => "java/util/NoSuchElementException"
def sx {V X : Type} (o : Nat ⊕ V) (f : Nat → X) (g : V → X) : X := match o with
  | .inl e => f e
  | .inr v => g v
theorem sx_l {V X : Type} {o : Nat ⊕ V} {f : Nat → X} {g : V → X} {y : X} {e : Nat} (h : o = .inl e) (hf : sx o f g = y) : f e = y := by
  subst h
  exact hf
theorem sx_r {V X : Type} {o : Nat ⊕ V} {f : Nat → X} {g : V → X} {y : X} {v : V} (h : o = .inr v) (hf : sx o f g = y) : g v = y := by
  subst h
  exact hf
def QX {V : Type} (res : Nat ⊕ V) (rvf : V → Option Value) (P' : Heap → Prop) (A : Nat → Prop) : Array Value → State → Outcome → State → Prop := fun _ st oc t => ∃ v, res = .inr v ∧ oc = .returned (rvf v) ∧ P' t.heap ∧ va_F A st t
def XX {V : Type} (res : Nat ⊕ V) (P' : Heap → Prop) (A : Nat → Prop) : String → State → State → Prop := fun Ex st t => ∃ e, res = .inl e ∧ Ex = exN e ∧ P' t.heap ∧ va_F A st t
abbrev MX {V : Type} (l : Launch) (E : EP) (B0 : Nat) (y : MethodName) (cY : ByteArray) (maxL : Nat) (ret : Option FieldType) (d mc ms : Nat) (As : List Value) (P : Heap → Prop) (res : Nat ⊕ V) (rvf : V → Option Value) (P' : Heap → Prop) (A : Nat → Prop) : Prop :=
  vx_Met l y (wsm y cY maxL ret) (rmD d mc ms) (va_Pc As (fun U => EV E B0 U U.heap ∧ P U.heap)) (QX res rvf P' A) (XX res P' A) mc ms A
theorem mx_of {V : Type} {l : Launch} {E : EP} {B0 : Nat} {y : MethodName} {cY : ByteArray} {maxL : Nat} {ret : Option FieldType} {d mc ms : Nat} {As : List Value} {P : Heap → Prop} {res : Nat ⊕ V} {rvf : V → Option Value} {P' : Heap → Prop} {A : Nat → Prop} (hy : plainName y.cls = true) (hlen : (lg_sl As).length ≤ maxL)
    (body : ∀ (p : Program) (e : Env) (s : State) (m : MethodId) (args : Array Value) (below : List Frame) (meth : Method) (c : Code), p.tables.exec = Jvm.exec → c.code = cY → c.maxLocals = maxL → s.vm.findClass y.cls = some m.cls → (∀ w ∈ wsm y cY maxL ret, w.before args s = true) → meth.sig.returnType = ret → meth.locks = false → (∀ x ∈ c.exceptionTable.toList, False) → EV E B0 s s.heap → ∀ H : Heap, P H → va_S A s.heap H [] → ∀ ls : Array Slot, lv_has ls maxL (lv_args 0 As) →
      W p l e (rmD d mc ms) s m args below meth c H [] 0 0 (vx_MQ below (QX res rvf P' A) (XX res P' A) args s mc ms A) (F0 m 0 ls [])) : MX l E B0 y cY maxL ret d mc ms As P res rvf P' A := by
  refine vx_ofW (cc := cY) (maxL := maxL) (ret := ret) hy rfl ?_
  intro p e s m args below meth c s₁ B hml ht hv
  obtain ⟨rfl, hE, hP⟩ := hv
  have hts := atoms_spec (ws := wsm y cY maxL ret) B.pre
  have hown : s.vm.findClass y.cls = some m.cls := findClass_of_methodNamed B.named
  have hl := lv_entry As (n := maxL) hlen
  rw [lg_entry_eq]
  exact body p e s m _ below meth c B.exec B.bytes hml hown hts B.returns B.notSynchronized ht hE s.heap hP va_S.rf _ hl
theorem Blk.ext {E : EP} {b n : Nat} {sh : Nat → Sh} {N : Mem} {H H1 : Heap} (h : Blk E b sh n N H) (hq : ∀ q : Nat, q < H.size → H1[q]? = H[q]?) : Blk E b sh n N H1 :=
  fun k hk => (h k hk).kept (hq (b + k) (h k hk).lt)
theorem Blk.off {E : EP} {b n : Nat} {sh : Nat → Sh} {N : Mem} {H H1 : Heap} {A1 : Nat → Prop} (h : Blk E b sh n N H) (hu : ∀ q : Nat, q < H.size → ¬ A1 q → H1[q]? = H[q]?) (hd : ∀ q : Nat, b ≤ q → q < b + n → ¬ A1 q) : Blk E b sh n N H1 :=
  fun k hk => (h k hk).kept (hu (b + k) (h k hk).lt (hd (b + k) (by omega) (by omega)))
theorem Blk.offp {E : EP} {b n b' n' k : Nat} {sh : Nat → Sh} {N : Mem} {H H1 : Heap} (h : Blk E b sh n N H) (hu : ∀ q : Nat, q ≠ b' + k → H1[q]? = H[q]?) (hk : k < n') (hd : b + n ≤ b' ∨ b' + n' ≤ b) : Blk E b sh n N H1 :=
  h.kept (fun q h1 h2 => hu q (by omega))
def orA (A A' : Nat → Prop) : Nat → Prop := fun q => A q ∨ A' q
theorem iv_ge {b n B0 : Nat} (hb : B0 ≤ b) : ∀ q, iv b n q → B0 ≤ q := fun _ h => Nat.le_trans hb h.1
theorem or_ge {B0 : Nat} {A A' : Nat → Prop} (h1 : ∀ q, A q → B0 ≤ q) (h2 : ∀ q, A' q → B0 ≤ q) : ∀ q, orA A A' q → B0 ≤ q := fun q h => h.elim (h1 q) (h2 q)
theorem iv_dis {b n b' n' : Nat} (h : b + n ≤ b' ∨ b' + n' ≤ b) : ∀ q, b ≤ q → q < b + n → ¬ iv b' n' q := fun q h1 h2 h3 => by
  obtain ⟨h4, h5⟩ := h3
  omega
theorem or_dis {b n : Nat} {A A' : Nat → Prop} (h1 : ∀ q, b ≤ q → q < b + n → ¬ A q) (h2 : ∀ q, b ≤ q → q < b + n → ¬ A' q) : ∀ q, b ≤ q → q < b + n → ¬ orA A A' q := fun q x y h => h.elim (h1 q x y) (h2 q x y)
section MXR
variable {p : Program} {l : Launch} {e : Env} {R : Room} {s : State} {m : MethodId} {args : Array Value} {below : List Frame} {meth : Method} {c : Code} {H : Heap} {locs : List Loc} {cells slots : Nat} {Q : State → Prop}
variable {cc : ByteArray} {pc nL D d mcR msR mc ms : Nat} {ls : Array Slot} {rest st As : List Value} {A A1 : Nat → Prop} {E : EP} {B0 : Nat} {P P' PC' : Heap → Prop} {own : String} {idx n maxL a : Nat} {y : MethodName} {cY : ByteArray} {ret : Option FieldType} {V VC : Type} {res : Nat ⊕ V} {resC : Nat ⊕ VC} {rvf : V → Option Value} {rvC : VC → Option Value}
theorem mx_up {v : V} {g : JFrame} {k n : Nat} (hres : res = .inr v) (kk : W p l e R s m args below meth c H locs cells slots (MQ below (QU (rvf v) P' A) args s k n A) g) : W p l e R s m args below meth c H locs cells slots (vx_MQ below (QX res rvf P' A) (XX res P' A) args s k n A) g := by
  refine vx_ret ?_
  intro T hT X
  obtain ⟨t, a1, o, b1, b2, ⟨b3, b4, b5⟩, b6⟩ := kk T hT X
  exact ⟨t, a1, o, b1, b2, ⟨v, hres, b3, b4, b5⟩, b6⟩
theorem mx_go (htab : ∀ x ∈ c.exceptionTable.toList, False) (hlocks : meth.locks = false) {k n : Nat} (hr : vx_Run p l e (rmD D mcR msR) s m args below meth c H locs cells slots mc ms (F0 m pc ls st) rest (QX resC rvC PC' A1 As.toArray) (XX resC PC' A1) A1) (hS : va_S A s.heap H locs) (hA1 : ∀ q, A1 q → A q) (hk1 : cells + mc ≤ k) (hn1 : slots + ms ≤ n)
    (kx : ∀ (e9 : Nat), resC = .inl e9 → ∀ H1 : Heap, PC' H1 → H.size ≤ H1.size → (∀ q : Nat, q < H.size → ¬ A1 q → H1[q]? = H[q]?) → res = .inl e9 ∧ P' H1)
    (kk : ∀ (v : VC), resC = .inr v → ∀ (H1 : Heap) (locs1 : List Loc), PC' H1 → H.size ≤ H1.size → (∀ q : Nat, q < H.size → ¬ A1 q → H1[q]? = H[q]?) → va_S A s.heap H1 locs1 → W p l e (rmD D mcR msR) s m args below meth c H1 locs1 (cells + mc) (slots + ms) (vx_MQ below (QX res rvf P' A) (XX res P' A) args s k n A) (F0 m (pc + 3) ls ((rvC v).toList ++ rest))) :
    W p l e (rmD D mcR msR) s m args below meth c H locs cells slots (vx_MQ below (QX res rvf P' A) (XX res P' A) args s k n A) (F0 m pc ls st) := by
  intro T hT X
  rcases hr T hT X with ⟨v, st₀, t, T', L, h0, X', hL, e1, e2, ⟨v9, hv9, hv, hp, hF⟩, go⟩ | ⟨q, st₀, t, T', L, Ex, ce, h0, X', hL, e1, e2, ⟨e9, he9, hEx, hp, hF⟩, hce, hcv, hcl, go⟩
  · have hv : v = rvC v9 := by injection hv
    subst hv
    obtain ⟨k1, k2, k3⟩ := vx_keep h0 e1 hS (fun q _ h => hA1 q h) hA1 hL hF
    obtain ⟨t2, a1, b1⟩ := kk v9 hv9 T'.heap (locs ++ L) (by rw [e1]; exact hp) k1 k2 k3 T' rfl X'
    exact ⟨t2, go t2 a1, b1⟩
  · obtain ⟨k1, k2, k3⟩ := vx_keep h0 e1 hS (fun q _ h => hA1 q h) hA1 hL hF
    obtain ⟨r1, r2⟩ := kx e9 he9 T'.heap (by rw [e1]; exact hp) k1 k2
    have hw : vx_W p l e (rmD D mcR msR) s m args below meth c T'.heap (locs ++ L) (cells + mc) (slots + ms) (vx_MQ below (QX res rvf P' A) (XX res P' A) args s k n A) (F0 m pc ls rest) q :=
      vx_out (fun x hx => (htab x hx).elim) hlocks (by rw [e1]; exact hce) hcv hcl (fun u hu _ => ⟨e9, r1, hEx, by rw [hu]; exact r2, k3.F hu⟩) k3.2.2 hk1 hn1
    obtain ⟨t2, a1, b1⟩ := hw T' rfl X'
    exact ⟨t2, go.trans a1, b1⟩
theorem mx_cV {yM : MethodName} {retM : Option FieldType} {k n9 : Nat} (htab : ∀ x ∈ c.exceptionTable.toList, False) (hlocks : meth.locks = false) (hx : p.tables.exec = Jvm.exec) (hb : c.code = cc) (hml : c.maxLocals = nL) (hown : s.vm.findClass own = some m.cls) (hts : ∀ w ∈ wsm yM cc nL retM, w.before args s = true) (hE : EV E B0 s s.heap)
    (hM : MX l E B0 y cY maxL ret d mc ms (.ref a :: As) P resC rvC PC' A1) (hC : CV own idx y cY maxL ret n) (hrecv : ∃ cellB : Cell, H[a]? = some cellB ∧ cellB.vm.isStatics = false ∧ s.vm.findClass y.cls = some cellB.cls) (hP : P H) (hS : va_S A s.heap H locs) (hAB : ∀ q, A q → B0 ≤ q) (hA1 : ∀ q, A1 q → A q)
    (hn : As.length = n) (hl : ls.size = nL) (hst : st = As.reverse ++ .ref a :: rest) (hd : d + 1 ≤ D) (hrest : (rest.map fun v => v.category).sum ≤ 8) (hf : cells + mc ≤ mcR ∧ slots + ms ≤ msR) (hf2 : cells + mc ≤ k ∧ slots + ms ≤ n9) (hdg : decode cc pc = .ok (.invokevirtual idx, 3))
    (kx : ∀ (e9 : Nat), resC = .inl e9 → ∀ H1 : Heap, PC' H1 → H.size ≤ H1.size → (∀ q : Nat, q < H.size → ¬ A1 q → H1[q]? = H[q]?) → res = .inl e9 ∧ P' H1)
    (kk : ∀ (v : VC), resC = .inr v → ∀ (H1 : Heap) (locs1 : List Loc), PC' H1 → H.size ≤ H1.size → (∀ q : Nat, q < H.size → ¬ A1 q → H1[q]? = H[q]?) → va_S A s.heap H1 locs1 → W p l e (rmD D mcR msR) s m args below meth c H1 locs1 (cells + mc) (slots + ms) (vx_MQ below (QX res rvf P' A) (XX res P' A) args s k n9 A) (F0 m (pc + 3) ls ((rvC v).toList ++ rest))) :
    W p l e (rmD D mcR msR) s m args below meth c H locs cells slots (vx_MQ below (QX res rvf P' A) (XX res P' A) args s k n9 A) (F0 m pc ls st) := by
  obtain ⟨c1, c2, c3, c4, c5, c6, c7⟩ := hC
  have hT : ∀ w ∈ WA, w ∈ wsm yM cc nL retM := fun w h => List.mem_cons_of_mem _ h
  refine mx_go (As := .ref a :: As) htab hlocks (vx_runV (As := As) (rest := rest) (C := y.cls) ⟨hx, hb, hml, hown, hts⟩ hM (cwV n hts ?_ rfl rfl rfl ⟨rfl, c6⟩ ⟨hd, ?_⟩) ⟨mu_blind, hrecv, fun U hU hW => ⟨rfl, ev_at hE hS hAB hU hW, by rw [hU]; exact hP⟩⟩ rfl hn hl hst (by simpa using hrest) hdg hf) hS hA1 hf2.1 hf2.2 kx kk
  · intro w hw
    rcases List.mem_append.mp hw with h | h
    · simp only [List.mem_cons, List.not_mem_nil, or_false] at h
      rcases h with h | h | h | h <;> subst h
      · exact ⟨hT _ c1, WA_good c1⟩
      · exact ⟨hT _ c2, WA_good c2⟩
      · exact ⟨hT _ c3, WA_good c3⟩
      · exact ⟨hT _ c4, WA_good c4⟩
    · exact wsm_good hT c5 w h
  · show 8 + (maxL + 11) + 64 * d ≤ 64 * D
    omega
theorem mx_cS {yM : MethodName} {retM : Option FieldType} {k n9 : Nat} (htab : ∀ x ∈ c.exceptionTable.toList, False) (hlocks : meth.locks = false) (hx : p.tables.exec = Jvm.exec) (hb : c.code = cc) (hml : c.maxLocals = nL) (hown : s.vm.findClass own = some m.cls) (hts : ∀ w ∈ wsm yM cc nL retM, w.before args s = true) (hE : EV E B0 s s.heap)
    (hM : MX l E B0 y cY maxL ret d mc ms As P resC rvC PC' A1) (hC : CS own idx y cY maxL ret n) (hP : P H) (hS : va_S A s.heap H locs) (hAB : ∀ q, A q → B0 ≤ q) (hA1 : ∀ q, A1 q → A q)
    (hn : As.length = n) (hl : ls.size = nL) (hst : st = As.reverse ++ rest) (hd : d + 1 ≤ D) (hrest : (rest.map fun v => v.category).sum ≤ 8) (hf : cells + mc ≤ mcR ∧ slots + ms ≤ msR) (hf2 : cells + mc ≤ k ∧ slots + ms ≤ n9) (hdg : decode cc pc = .ok (.invokestatic idx, 3))
    (kx : ∀ (e9 : Nat), resC = .inl e9 → ∀ H1 : Heap, PC' H1 → H.size ≤ H1.size → (∀ q : Nat, q < H.size → ¬ A1 q → H1[q]? = H[q]?) → res = .inl e9 ∧ P' H1)
    (kk : ∀ (v : VC), resC = .inr v → ∀ (H1 : Heap) (locs1 : List Loc), PC' H1 → H.size ≤ H1.size → (∀ q : Nat, q < H.size → ¬ A1 q → H1[q]? = H[q]?) → va_S A s.heap H1 locs1 → W p l e (rmD D mcR msR) s m args below meth c H1 locs1 (cells + mc) (slots + ms) (vx_MQ below (QX res rvf P' A) (XX res P' A) args s k n9 A) (F0 m (pc + 3) ls ((rvC v).toList ++ rest))) :
    W p l e (rmD D mcR msR) s m args below meth c H locs cells slots (vx_MQ below (QX res rvf P' A) (XX res P' A) args s k n9 A) (F0 m pc ls st) := by
  obtain ⟨c1, c2, c3, c4, c5, c6⟩ := hC
  have hT : ∀ w ∈ WA, w ∈ wsm yM cc nL retM := fun w h => List.mem_cons_of_mem _ h
  refine mx_go (As := As) htab hlocks (vx_runS (As := As) (rest := rest) ⟨hx, hb, hml, hown, hts⟩ hM (va_cwS n hts ?_ rfl rfl rfl c5 ⟨hd, ?_⟩) ⟨mu_blind, fun U hU hW => ⟨rfl, ev_at hE hS hAB hU hW, by rw [hU]; exact hP⟩⟩ rfl hn hl hst (by simpa using hrest) hdg hf) hS hA1 hf2.1 hf2.2 kx kk
  · intro w hw
    rcases List.mem_append.mp hw with h | h
    · simp only [List.mem_cons, List.not_mem_nil, or_false] at h
      rcases h with h | h | h <;> subst h
      · exact ⟨hT _ c1, WA_good c1⟩
      · exact ⟨hT _ c2, WA_good c2⟩
      · exact ⟨hT _ c3, WA_good c3⟩
    · exact wsm_good hT c4 w h
  · show 8 + (maxL + 11) + 64 * d ≤ 64 * D
    omega
/-- the words of one throw, as a class names it -/
def TH (own : String) (ik is ic : Nat) (cls text : String) (names : List String) : Prop :=
  Bundle.fit cls = true ∧ (∀ n ∈ names, Bundle.fit n = true) ∧ (∀ w ∈ [Cond.classLink own ik cls, .initialized cls], w ∈ WA) ∧ Cond.stringRef own is text ∈ lw_tbl ∧ (∀ w ∈ vx_atS own ic cls names, w ∈ lw_tbl ∧ (goodWord w || nestW w) = true) ∧ names.length ≤ 3
theorem nest_tab {w : Cond} (h : nestW w = true) : w.onTables = true := by
  cases w <;> first | rfl | (simp [nestW] at h)
theorem th_word {w : Cond} (hw : ∀ w ∈ WA, w.before args s = true) (hn : EVn s) (h1 : w ∈ lw_tbl) (h2 : (goodWord w || nestW w) = true) : w.before args s = true := by
  rcases Bool.or_eq_true _ _ ▸ h2 with h | h
  · exact hw _ (List.mem_filter.mpr ⟨List.mem_append_left _ h1, h⟩)
  · exact va_Nw.use (nest_tab h) (hn w h1 h)
theorem th_ot {w : Cond} (h2 : (goodWord w || nestW w) = true) : vx_ot w = true := by
  unfold vx_ot
  rcases Bool.or_eq_true _ _ ▸ h2 with h | h
  · simp [h]
  · simp [nest_tab h]
theorem wa_ot {w : Cond} (h : w ∈ WA) : vx_ot w = true := by
  have h1 := (List.mem_filter.mp h).2
  exact th_ot (by rw [h1]; rfl)
theorem mx_thr {ik is ic k n e9 : Nat} {cls text : String} {names : List String} (hx : p.tables.exec = Jvm.exec) (hb : c.code = cc) (htr : l.stackTraces = false) (htab : ∀ x ∈ c.exceptionTable.toList, False) (hlocks : meth.locks = false) (hown : s.vm.findClass own = some m.cls) (hw : ∀ w ∈ WA, w.before args s = true) (hE : EV E B0 s s.heap) (hT : TH own ik is ic cls text names) (hS : va_S A s.heap H locs) (hAB : ∀ q, A q → B0 ≤ q) (hsize : ls.size = c.maxLocals)
    (d0 : decode cc pc = .ok (.new ik, 3)) (d3 : decode cc (pc + 3) = .ok (.dup, 1)) (d4 : decode cc (pc + 4) = .ok (.ldc is, 2)) (d6 : decode cc (pc + 6) = .ok (.invokespecial ic, 3)) (d9 : decode cc (pc + 9) = .ok (.athrow, 1))
    (hD : 8 ≤ D) (hrest : (rest.map fun v => v.category).sum ≤ 8) (hf : cells + 1 ≤ mcR ∧ slots + 6 ≤ msR) (hf2 : cells + 1 ≤ k ∧ slots + 6 ≤ n) (hcls : cls = exN e9) (hres : res = .inl e9) (hP : ∀ H1 : Heap, (∀ q : Nat, q < H.size → H1[q]? = H[q]?) → P' H1) :
    W p l e (rmD D mcR msR) s m args below meth c H locs cells slots (vx_MQ below (QX res rvf P' A) (XX res P' A) args s k n A) (F0 m pc ls rest) := by
  obtain ⟨t1, t2, t3, t4, t5, t6⟩ := hT
  obtain ⟨x1, x2, x3, -⟩ := hE.2.2.2.2.2
  obtain ⟨sa, hsa⟩ := x3 own is text t4
  have hS' := hS.wide hAB
  refine vx_throwS (A := fun q => B0 ≤ q) hx hb htr hown t1 t2 (hw _ (t3 _ (by simp))) (hw _ (t3 _ (by simp))) hsa (fun w h => th_word hw hE.2.2.2.2.1 (t5 w h).1 (t5 w h).2) ?_ x1 x2 hS' hsize d0 d3 d4 d6 d9 (fun x hx => (htab x hx).elim) ?_ ?_ hf.1 hf.2 hlocks ?_ hS.2.2 hf2.1 hf2.2
  · intro w h
    rcases List.mem_cons.mp h with h | h
    · subst h
      exact wa_ot (t3 _ (by simp))
    · rcases List.mem_cons.mp h with h | h
      · subst h
        exact wa_ot (t3 _ (by simp))
      · exact th_ot (t5 w h).2
  · show names.length + 3 < D
    omega
  · show (rest.map fun v => v.category).sum + (13 * (names.length + 1) + 43) ≤ 64 * D
    omega
  · intro t _ hz hq
    exact ⟨e9, hres, hcls, hP t.heap hq, Nat.le_trans hS.1 hz, fun q h1 h2 => by rw [hq q (Nat.lt_of_lt_of_le h1 hS.1)]; exact hS.2.1 q h1 h2⟩
theorem mx_thrW {ik is ic k n e9 : Nat} {cls text : String} {names : List String} (hx : p.tables.exec = Jvm.exec) (hb : c.code = cc) (htr : l.stackTraces = false) (htab : ∀ x ∈ c.exceptionTable.toList, False) (hlocks : meth.locks = false) (hown : s.vm.findClass own = some m.cls) (hw : ∀ w ∈ WA, w.before args s = true) (hE : EV E B0 s s.heap) (hT : TH own ik is ic cls text names) (hS : va_S A s.heap H locs) (hAB : ∀ q, A q → B0 ≤ q) (hsize : ls.size = c.maxLocals)
    (d0 : decode cc pc = .ok (.new ik, 3)) (d3 : decode cc (pc + 3) = .ok (.dup, 1)) (d4 : decode cc (pc + 4) = .ok (.ldc_w is, 3)) (d7 : decode cc (pc + 7) = .ok (.invokespecial ic, 3)) (d10 : decode cc (pc + 10) = .ok (.athrow, 1))
    (hD : 8 ≤ D) (hrest : (rest.map fun v => v.category).sum ≤ 8) (hf : cells + 1 ≤ mcR ∧ slots + 6 ≤ msR) (hf2 : cells + 1 ≤ k ∧ slots + 6 ≤ n) (hcls : cls = exN e9) (hres : res = .inl e9) (hP : ∀ H1 : Heap, (∀ q : Nat, q < H.size → H1[q]? = H[q]?) → P' H1) :
    W p l e (rmD D mcR msR) s m args below meth c H locs cells slots (vx_MQ below (QX res rvf P' A) (XX res P' A) args s k n A) (F0 m pc ls rest) := by
  obtain ⟨t1, t2, t3, t4, t5, t6⟩ := hT
  obtain ⟨x1, x2, x3, -⟩ := hE.2.2.2.2.2
  obtain ⟨sa, hsa⟩ := x3 own is text t4
  have hS' := hS.wide hAB
  refine vx_throwSW (A := fun q => B0 ≤ q) hx hb htr hown t1 t2 (hw _ (t3 _ (by simp))) (hw _ (t3 _ (by simp))) hsa (fun w h => th_word hw hE.2.2.2.2.1 (t5 w h).1 (t5 w h).2) ?_ x1 x2 hS' hsize d0 d3 d4 d7 d10 (fun x hx => (htab x hx).elim) ?_ ?_ hf.1 hf.2 hlocks ?_ hS.2.2 hf2.1 hf2.2
  · intro w h
    rcases List.mem_cons.mp h with h | h
    · subst h
      exact wa_ot (t3 _ (by simp))
    · rcases List.mem_cons.mp h with h | h
      · subst h
        exact wa_ot (t3 _ (by simp))
      · exact th_ot (t5 w h).2
  · show names.length + 3 < D
    omega
  · show (rest.map fun v => v.category).sum + (13 * (names.length + 1) + 43) ≤ 64 * D
    omega
  · intro t _ hz hq
    exact ⟨e9, hres, hcls, hP t.heap hq, Nat.le_trans hS.1 hz, fun q h1 h2 => by rw [hq q (Nat.lt_of_lt_of_le h1 hS.1)]; exact hS.2.1 q h1 h2⟩
theorem th_list (ws : List Cond) (ps : List Nat) (hp : ws = ps.filterMap (fun i => lw_tbl[i]?)) (h : ws.all (fun w => goodWord w || nestW w) = true) : ∀ w ∈ ws, w ∈ lw_tbl ∧ (goodWord w || nestW w) = true := by
  intro w hw
  have h1 := List.all_eq_true.mp h w hw
  rw [hp] at hw
  obtain ⟨i, -, hi⟩ := List.mem_filterMap.mp hw
  exact ⟨List.mem_of_getElem? hi, h1⟩
end MXR
