/-! ===== constructors: what a method named <init> may do; an object before it has its block's shape ===== -/
theorem at_ext {D : va_G} {q : Nat × va_E} {H H1 : Heap} (h : va_at D vwCl q H) (o1 : ∀ q : Nat, q < H.size → H1[q]? = H[q]?) : va_at D vwCl q H1 := h.kept (o1 _ h.lt)
theorem at_off {D : va_G} {q : Nat × va_E} {H H1 : Heap} {A1 : Nat → Prop} (h : va_at D vwCl q H) (hu : ∀ q : Nat, q < H.size → ¬ A1 q → H1[q]? = H[q]?) (hd : ¬ A1 q.1) : va_at D vwCl q H1 := h.kept (hu _ h.lt hd)
theorem at_offp {D : va_G} {q : Nat × va_E} {a : Nat} {H H1 : Heap} (h : va_at D vwCl q H) (oq : ∀ q : Nat, q ≠ a → H1[q]? = H[q]?) (hd : q.1 ≠ a) : va_at D vwCl q H1 := h.kept (oq _ hd)
theorem Blk.offq {E : EP} {b n a : Nat} {sh : Nat → Sh} {N : Mem} {H H1 : Heap} (h : Blk E b sh n N H) (oq : ∀ q : Nat, q ≠ a → H1[q]? = H[q]?) (hd : b + n ≤ a ∨ a < b) : Blk E b sh n N H1 := h.kept (fun q h1 h2 => oq q (by omega))
abbrev fr (b : Nat) : Nat → Prop := fun q => b ≤ q
/-- the words of Object's constructor, as a class names it -/
def OI (own : String) (idx : Nat) : Prop := ∀ w ∈ [Cond.methodLink own idx Lib.objectInit, .instanceMethod Lib.objectInit, .code Lib.objectInit ⟨#[0xb1]⟩ 1 none], w ∈ WA
def CI (own : String) (idx : Nat) (y : MethodName) (cY : ByteArray) (maxL n : Nat) : Prop :=
  (∀ w ∈ [Cond.methodLink own idx y, .instanceMethod y, .initialized y.cls, .code y cY maxL none], w ∈ WA) ∧ (y.cls ≠ "java/lang/invoke/MethodHandle" ∧ y.cls ≠ "java/lang/invoke/VarHandle" ∧ (parseMethodDescriptor y.desc).map (fun d => d.parameters.length) = some n) ∧ maxL ≤ 45 ∧ y.name = "<init>"
/-- .. that a final field may be written by its class's constructor -/
def FWF (own : String) (T : u_T) (Nf f : Nat) (ty0 : Nat → FieldType) (ty : FieldType) : Prop := (∀ k, k < Nf → parseFieldDescriptor (T k).2.2.1 = some (ty0 k)) ∧ (∀ a, a < Nf → ∀ b, b < Nf → a ≠ b → (T a).2.1 ≠ (T b).2.1) ∧ (T f).2.2.2 = true ∧ parseFieldDescriptor (T f).2.2.1 = some ty ∧ (T f).1 = own
theorem mi_of {l : Launch} {E : EP} {B0 : Nat} {y : MethodName} {cY : ByteArray} {maxL : Nat} {ret : Option FieldType} {d mc ms : Nat} {As : List Value} {P : Heap → Prop} {rv : Option Value} {P' : Heap → Prop} {A : Nat → Prop} (hy : plainName y.cls = true) (hlen : (lg_sl As).length ≤ maxL) (hin : y.name = "<init>")
    (body : ∀ (p : Program) (e : Env) (s : State) (m : MethodId) (args : Array Value) (below : List Frame) (meth : Method) (c : Code), p.tables.exec = Jvm.exec → c.code = cY → c.maxLocals = maxL → s.vm.findClass y.cls = some m.cls → (∀ w ∈ wsm y cY maxL ret, w.before args s = true) → meth.sig.returnType = ret → meth.locks = false → meth.name = "<init>" → EV E B0 s s.heap → ∀ H : Heap, P H → va_S A s.heap H [] → ∀ ls : Array Slot, lv_has ls maxL (lv_args 0 As) →
      W p l e (rmD d mc ms) s m args below meth c H [] 0 0 (MQ below (QU rv P' A) args s mc ms A) (F0 m 0 ls [])) : MU l E B0 y cY maxL ret d mc ms As P rv P' A := by
  refine Met.ofW (cc := cY) (maxL := maxL) (ret := ret) hy rfl ?_
  intro p e s m args below meth c s₁ B hml hv
  obtain ⟨rfl, hE, hP⟩ := hv
  have hts := atoms_spec (ws := wsm y cY maxL ret) B.pre
  have hown : s.vm.findClass y.cls = some m.cls := findClass_of_methodNamed B.named
  have hl := lv_entry As (n := maxL) hlen
  rw [lg_entry_eq]
  exact body p e s m _ below meth c B.exec B.bytes hml hown hts B.returns B.notSynchronized ((name_of_methodNamed B.named B.method).1.trans hin) hE s.heap hP va_S.rf _ hl
section BUILD
variable {p : Program} {l : Launch} {e : Env} {s : State} {m : MethodId} {args : Array Value} {below : List Frame} {meth : Method} {c : Code} {H : Heap} {locs : List Loc} {cells slots : Nat} {Q : State → Prop}
variable {cc : ByteArray} {pc nL D d mcR msR mc ms : Nat} {ls : Array Slot} {rest st As : List Value} {A A1 : Nat → Prop} {E : EP} {B0 : Nat} {P P' : Heap → Prop} {own : String} {idx n maxL a : Nat} {y : MethodName} {cY : ByteArray} {H0 : Heap} {R : Room}
theorem w_objInit (hx : p.tables.exec = Jvm.exec) (hb : c.code = cc) (hw : ∀ w ∈ WA, w.before args s = true) (hown : s.vm.findClass own = some m.cls) (hO : OI own idx) (hsize : ls.size = c.maxLocals) (hfr : 1 ≤ R.frames) (hlo : (rest.map fun v => v.category).sum + 12 ≤ R.locals) (hdg : decode cc pc = .ok (.invokespecial idx, 3))
    (kk : W p l e R s m args below meth c H locs cells slots Q (F0 m (pc + 3) ls rest)) : W p l e R s m args below meth c H locs cells slots Q (F0 m pc ls (.ref a :: rest)) :=
  W.objInit hx hb hown (hw _ (hO _ (by simp))) (hw _ (hO _ (by simp))) (hw _ (hO _ (by simp))) rfl hsize rfl hdg hfr (by show 2 * 0 + _ + 12 ≤ _; omega) kk
theorem mu_cI {yM : MethodName} {retM : Option FieldType} (hx : p.tables.exec = Jvm.exec) (hb : c.code = cc) (hml : c.maxLocals = nL) (hown : s.vm.findClass own = some m.cls) (hts : ∀ w ∈ wsm yM cc nL retM, w.before args s = true) (hE : EV E B0 s s.heap)
    (hM : MU l E B0 y cY maxL none d mc ms (.ref a :: As) P none P' A1) (hC : CI own idx y cY maxL n) (hP : P H) (hS : va_S A s.heap H locs) (hAB : ∀ q, A q → B0 ≤ q) (hA1 : ∀ q, A1 q → A q)
    (hn : As.length = n) (hl : ls.size = nL) (hst : st = As.reverse ++ .ref a :: rest) (hd : d + 1 ≤ D) (hrest : (rest.map fun v => v.category).sum ≤ 8) (hf : cells + mc ≤ mcR ∧ slots + ms ≤ msR) (hdg : decode cc pc = .ok (.invokespecial idx, 3))
    (kk : ∀ (H1 : Heap) (locs1 : List Loc), P' H1 → H.size ≤ H1.size → (∀ q : Nat, q < H.size → ¬ A1 q → H1[q]? = H[q]?) → va_S A s.heap H1 locs1 → W p l e (rmD D mcR msR) s m args below meth c H1 locs1 (cells + mc) (slots + ms) Q (F0 m (pc + 3) ls rest)) : W p l e (rmD D mcR msR) s m args below meth c H locs cells slots Q (F0 m pc ls st) := by
  obtain ⟨c1, c6, c7, c8⟩ := hC
  have hT : ∀ w ∈ WA, w ∈ wsm yM cc nL retM := fun w h => List.mem_cons_of_mem _ h
  have c5 : Cond.code y cY maxL none ∈ WA := c1 _ (by simp)
  refine mu_go (rv := none) (As := .ref a :: As) (va_runI (As := As) (rest := rest) ⟨hx, hb, hml, hown, hts⟩ hM (cwI n hts (wsm_good hT c5) rfl rfl rfl (hts _ (hT _ (c1 _ (by simp)))) (hts _ (hT _ (c1 _ (by simp)))) (hts _ (hT _ (c1 _ (by simp)))) c8 c6 ⟨hd, ?_⟩) ⟨mu_blind, fun U hU hW => ⟨rfl, ev_at hE hS hAB hU hW, by rw [hU]; exact hP⟩⟩ rfl hn hl hst (by simpa using hrest) hdg hf) hS hA1 kk
  show 8 + (maxL + 11) + 64 * d ≤ 64 * D
  omega
theorem w_putA (hx : p.tables.exec = Jvm.exec) (hb : c.code = cc) {C : String} {T : u_T} {Nf ci f : Nat} {ty0 : Nat → FieldType} {ty : FieldType} (hts : ∀ w ∈ WA, w.before args s = true) (hown : s.vm.findClass own = some m.cls) (hE : EV E B0 s s.heap) (hF : FL own idx ci C T Nf f) (hW : FW T Nf f ty0 ty) {fs : List Value} (hc : va_at E.1 vwCl (a, .inr (ci, fs)) H) (hl2 : f < fs.length) {v : Value} (hn : narrow ty v = v) (hfit : fits ty v = true) (hS : va_S A H0 H locs) (hA : A a) (hdg : decode cc pc = .ok (.putfield idx, 3))
    (kk : ∀ (H1 : Heap) (locs1 : List Loc), va_at E.1 vwCl (a, .inr (ci, fs.set f v)) H1 → H1.size = H.size → (∀ q : Nat, q ≠ a → H1[q]? = H[q]?) → va_S A H0 H1 locs1 → W p l e R s m args below meth c H1 locs1 cells slots Q (F0 m (pc + 3) ls rest)) : W p l e R s m args below meth c H locs cells slots Q (F0 m pc ls (v :: .ref a :: rest)) := by
  obtain ⟨f1, f2, f3, f4⟩ := hF
  obtain ⟨g1, g2, g3, g4⟩ := hW
  have hap := va_apart (own := own) hts f4 ty0 g1 g2 hE.1 f1
  obtain ⟨r, h1, cell, q1, q2, q3, q4⟩ := hc
  have hr : r = (C, T, Nf) := Option.some.inj (h1.symm.trans f1)
  subst hr
  obtain ⟨hSl, hfc, kC, hkC, hkind⟩ := hE.1.1 ci _ f1
  obtain ⟨cf, kf, fi, fd, hi, hsl⟩ := hSl f f2
  have hlay := hts _ (f4 _ (u_in_lay f2))
  unfold u_lay at hlay
  rw [if_neg (by rw [g3]; decide)] at hlay
  have hst := (u_facts hfc hkC (u_lays hts f4 f2) hi).1
  have h6 := u_store hfc hkC hkind hlay hi g4 hn hfit
  refine W.putK hx hb (f := fd) ⟨hown, hts _ f3, ⟨_, _, _, hi⟩, hst⟩ (by rw [q2]; exact h6) q1 q3 (by rw [hsl]; exact k2_hasslot (q4 f f2)) rfl rfl hdg fun H' e1 e2 e3 => ?_
  rw [hsl] at e1 ⊢
  exact kk H' _ ⟨_, f1, t_OB.to (V := updV (vp_V fs) f v) ⟨_, e1, q2, q3, t_set q4 hap f2 _⟩ (fun j _ => vp_updV_set hl2 _ j)⟩ e2 e3 (hS.put e2 e3 hA)
theorem w_putAF (hx : p.tables.exec = Jvm.exec) (hb : c.code = cc) {C : String} {T : u_T} {Nf ci f : Nat} {ty0 : Nat → FieldType} {ty : FieldType} (hts : ∀ w ∈ WA, w.before args s = true) (hown : s.vm.findClass own = some m.cls) (hE : EV E B0 s s.heap) (hin2 : meth.name = "<init>") (hF : FL own idx ci C T Nf f) (hW : FWF own T Nf f ty0 ty) {fs : List Value} (hc : va_at E.1 vwCl (a, .inr (ci, fs)) H) (hl2 : f < fs.length) {v : Value} (hn : narrow ty v = v) (hfit : fits ty v = true) (hS : va_S A H0 H locs) (hA : A a) (hdg : decode cc pc = .ok (.putfield idx, 3))
    (kk : ∀ (H1 : Heap) (locs1 : List Loc), va_at E.1 vwCl (a, .inr (ci, fs.set f v)) H1 → H1.size = H.size → (∀ q : Nat, q ≠ a → H1[q]? = H[q]?) → va_S A H0 H1 locs1 → W p l e R s m args below meth c H1 locs1 cells slots Q (F0 m (pc + 3) ls rest)) : W p l e R s m args below meth c H locs cells slots Q (F0 m pc ls (v :: .ref a :: rest)) := by
  obtain ⟨f1, f2, f3, f4⟩ := hF
  obtain ⟨g1, g2, g3, g4, g5⟩ := hW
  have hap := va_apart (own := own) hts f4 ty0 g1 g2 hE.1 f1
  obtain ⟨r, h1, cell, q1, q2, q3, q4⟩ := hc
  have hr : r = (C, T, Nf) := Option.some.inj (h1.symm.trans f1)
  subst hr
  obtain ⟨hSl, hfc, kC, hkC, hkind⟩ := hE.1.1 ci _ f1
  obtain ⟨cf, kf, fi, fd, hi, hsl⟩ := hSl f f2
  have hlay := hts _ (f4 _ (u_in_lay f2))
  unfold u_lay at hlay
  rw [if_pos g3] at hlay
  have hst := (u_facts hfc hkC (u_lays hts f4 f2) hi).1
  have hcf : m.cls = cf := by
    obtain ⟨_, _, c', _, _, _, -, -, hf', -, -, -, hown2, -⟩ := Cond.laysFinal_spec hlay
    have e1 : c' = cf := by have := hi.symm.trans hf'; simp at this; exact this.1.symm
    rw [g5] at hown2
    rw [← e1]; exact Option.some.inj (hown.symm.trans hown2)
  have h6 := u_fits hfc hkC hkind (Or.inr hlay) hi g4 hn hfit
  refine W.putFinK hx hb hown (hts _ f3) hi hst hcf hin2 (by rw [q2]; exact h6) q1 q3 (by rw [hsl]; exact k2_hasslot (q4 f f2)) rfl rfl hdg fun H' e1 e2 e3 => ?_
  rw [hsl] at e1 ⊢
  exact kk H' _ ⟨_, f1, t_OB.to (V := updV (vp_V fs) f v) ⟨_, e1, q2, q3, t_set q4 hap f2 _⟩ (fun j _ => vp_updV_set hl2 _ j)⟩ e2 e3 (hS.put e2 e3 hA)
theorem w_getA (hx : p.tables.exec = Jvm.exec) (hb : c.code = cc) {C : String} {T : u_T} {Nf ci f : Nat} (hts : ∀ w ∈ WA, w.before args s = true) (hown : s.vm.findClass own = some m.cls) (hE : EV E B0 s s.heap) (hF : FL own idx ci C T Nf f) {fs : List Value} (hc : va_at E.1 vwCl (a, .inr (ci, fs)) H) {v : Value} (hv : fs[f]? = some v) (hdg : decode cc pc = .ok (.getfield idx, 3))
    (kk : W p l e R s m args below meth c H locs cells slots Q (F0 m (pc + 3) ls (v :: rest))) : W p l e R s m args below meth c H locs cells slots Q (F0 m pc ls (.ref a :: rest)) := by
  obtain ⟨f1, f2, f3, f4⟩ := hF
  have hP : va_P E.1 vwCl [(a, .inr (ci, fs))] H := by
    intro j z hz
    cases j with
    | zero =>
      cases hz
      exact hc
    | succ j => simp at hz
  exact va_get (D := E.1) (ci := ci) (C := C) (T := T) (N := Nf) (v := v) hx hb hts f4 hown hE.1 hP 0 rfl f1 f f2 (hts _ f3) (fun _ h9 => h9) hv hdg kk
/-- an object goes into a row of objects of its class -/
theorem w_aastA (hx : p.tables.exec = Jvm.exec) (hb : c.code = cc) (hE : EV E B0 s s.heap) {t ci N v : Nat} {f : Nat → Option Nat} {r : vw_C} {vs : List Value} (ha : va_at E.1 vwCl (a, .inl (E.2.1 t, N, .inr (.inr (.inr (.inr f))))) H) (ht : (tysE E)[t]? = some (E.2.1 t, .object r.1)) (hv : va_at E.1 vwCl (v, .inr (ci, vs)) H) (hc : vwCl[ci]? = some r) {i : Int32} (hin : vp_in i N) (hS : va_S A H0 H locs) (hA : A a) (hdg : decode cc pc = .ok (.aastore, 1))
    (kk : ∀ (H1 : Heap) (locs1 : List Loc), va_at E.1 vwCl (a, .inl (E.2.1 t, N, .inr (.inr (.inr (.inr (va_up f i.toNatClampNeg (some v))))))) H1 → H1.size = H.size → (∀ q : Nat, q ≠ a → H1[q]? = H[q]?) → va_S A H0 H1 locs1 → W p l e R s m args below meth c H1 locs1 cells slots Q (F0 m (pc + 1) ls rest)) : W p l e R s m args below meth c H locs cells slots Q (F0 m pc ls (.ref v :: .int i :: .ref a :: rest)) := by
  have hlt : i.toNatClampNeg < N := Nat.not_le.mp fun q => hin (Or.inr q)
  have h0 : ¬ i < 0 := fun q => hin (Or.inl q)
  obtain ⟨r', hr', cellV, g1, g2, g3, -⟩ := hv
  have hcls := (hE.1.1 ci r hc).2
  obtain ⟨kA, comp, k1, k2, k3, -⟩ := (hE.1.2 t _ ht).2
  have hcomp : comp = E.1.1 ci := Option.some.inj (k3.symm.trans hcls.1)
  subst hcomp
  obtain ⟨kC, hkC, -⟩ := hcls.2
  refine W.aast hx hb ha (fun q h => by cases h) (fun h => by cases h) k1 k2 rfl hkC ⟨h0, by show _ < (arrV _ _ _).slots.size; rw [arrV_size]; exact hlt⟩ g1 (fun q h => by rw [g3] at h; cases h) (by rw [g2]; exact hkC) (by rw [g2]; exact va_assign hcls) rfl rfl hdg fun H1 e z oq => ?_
  refine kk H1 _ ?_ z oq (hS.put z oq hA)
  show H1[a]? = some (vp_cell _ _)
  rw [e]
  rw [vp_cell_q, vp_cell_q, arrV_store]
  congr 2
  funext q
  by_cases hq : q = i.toNatClampNeg
  · subst hq
    simp [updV, va_up, va_rf]
  · simp [updV, va_up, hq]
end BUILD
