/-! ===== calls within the JDK's builder: super's methods, inherited and private ones; its digits ===== -/
theorem sel_priv {y : MethodName} {C : String} {s : State} {args : Array Value} {n : Nat} (hy : y.cls ≠ "java/lang/invoke/MethodHandle" ∧ y.cls ≠ "java/lang/invoke/VarHandle")
    (hins : (Cond.instantiable C n).before args s = true) (hsame : (Cond.sameMethod y.cls y.cls y.name y.desc).before args s = true) (hpriv : (Cond.privateMethod y).before args s = true) (hinst : (Cond.instanceMethod y).before args s = true) :
    (Cond.selects C y y).before args s = true := by
  obtain ⟨c, k, hc, hk, -, hniab, -, -⟩ := Cond.instantiable_spec hins
  have hni : k.isInterface = false := (Bool.or_eq_false_iff.mp hniab).1
  obtain ⟨mk, methM, hnamed, hmethM, -, -⟩ := Cond.instanceMethod_spec hinst
  have hfound : s.methodFound? y.cls y.name y.desc = some mk := State.methodFound?_of_named hnamed hy
  have hsel : selectMethod {} s.vm c mk = .method mk := selectMethod_private hmethM (Cond.privateMethod_at hpriv mk methM hnamed hmethM)
  have hcm := findClass_of_methodNamed hnamed
  obtain ⟨cn, ck, r1, hcn, hck, hni2, -, -⟩ := Cond.sameMethod_found hsame
  cases hcn.symm.trans hcm
  simp only [Cond.before, Cond.holds, Cond.value, hc, hfound, hnamed, hsel, hk]
  simp [hni, hni2, hck]
def CSU (own : String) (idx : Nat) (y : MethodName) (cY : ByteArray) (maxL : Nat) (ret : Option FieldType) (n : Nat) : Prop :=
  (∀ w ∈ va_wsSU own idx y [.code y cY maxL ret], w ∈ WA) ∧ (y.name ≠ "<init>" ∧ (parseMethodDescriptor y.desc).map (fun d => d.parameters.length) = some n) ∧ maxL ≤ 45
def CVU (own : String) (idx : Nat) (y : MethodName) (cY : ByteArray) (maxL : Nat) (ret : Option FieldType) (n : Nat) : Prop :=
  (∀ w ∈ va_wsU own idx "java/lang/StringBuilder" y.cls y y [.code y cY maxL ret], w ∈ WA) ∧ (y.cls ≠ "java/lang/invoke/MethodHandle" ∧ y.cls ≠ "java/lang/invoke/VarHandle" ∧ (parseMethodDescriptor y.desc).map (fun d => d.parameters.length) = some n) ∧ maxL ≤ 45
section SBROWS
variable {p : Program} {l : Launch} {e : Env} {s : State} {m : MethodId} {args : Array Value} {below : List Frame} {meth : Method} {c : Code} {H : Heap} {locs : List Loc} {cells slots : Nat} {Q : State → Prop}
variable {cc : ByteArray} {pc nL D d mcR msR mc ms : Nat} {ls : Array Slot} {rest st As : List Value} {A A1 : Nat → Prop} {E : EP} {B0 : Nat} {rv : Option Value} {P P' : Heap → Prop} {own : String} {idx n maxL a : Nat} {y : MethodName} {cY : ByteArray} {ret : Option FieldType}
theorem mu_cSU {yM : MethodName} {retM : Option FieldType} (hx : p.tables.exec = Jvm.exec) (hb : c.code = cc) (hml : c.maxLocals = nL) (hown : s.vm.findClass own = some m.cls) (hts : ∀ w ∈ wsm yM cc nL retM, w.before args s = true) (hE : EV E B0 s s.heap)
    (hM : MU l E B0 y cY maxL ret d mc ms (.ref a :: As) P rv P' A1) (hC : CSU own idx y cY maxL ret n) (hrecv : ∃ cellB : Cell, H[a]? = some cellB ∧ cellB.vm.isStatics = false ∧ s.vm.findClass "java/lang/StringBuilder" = some cellB.cls) (hP : P H) (hS : va_S A s.heap H locs) (hAB : ∀ q, A q → B0 ≤ q) (hA1 : ∀ q, A1 q → A q)
    (hn : As.length = n) (hl : ls.size = nL) (hst : st = As.reverse ++ .ref a :: rest) (hd : d + 1 ≤ D) (hrest : (rest.map fun v => v.category).sum ≤ 8) (hf : cells + mc ≤ mcR ∧ slots + ms ≤ msR) (hdg : decode cc pc = .ok (.invokespecial idx, 3))
    (kk : ∀ (H1 : Heap) (locs1 : List Loc), P' H1 → H.size ≤ H1.size → (∀ q : Nat, q < H.size → ¬ A1 q → H1[q]? = H[q]?) → va_S A s.heap H1 locs1 → W p l e (rmD D mcR msR) s m args below meth c H1 locs1 (cells + mc) (slots + ms) Q (F0 m (pc + 3) ls (rv.toList ++ rest))) : W p l e (rmD D mcR msR) s m args below meth c H locs cells slots Q (F0 m pc ls st) := by
  obtain ⟨c1, c6, c7⟩ := hC
  have hT : ∀ w ∈ WA, w ∈ wsm yM cc nL retM := fun w h => List.mem_cons_of_mem _ h
  have c5 : Cond.code y cY maxL ret ∈ WA := c1 _ (by simp [va_wsSU])
  refine mu_go (As := .ref a :: As) (va_runSU (As := As) (rest := rest) (C := "java/lang/StringBuilder") (hE.1.1 1 _ rfl).2 ⟨hx, hb, hml, hown, hts⟩ hM (va_cwSU (ws' := WA) n hts ?_ rfl rfl rfl c6 ⟨hd, ?_⟩) ⟨mu_blind, hrecv, fun U hU hW => ⟨rfl, ev_at hE hS hAB hU hW, by rw [hU]; exact hP⟩⟩ rfl hn hl hst (by simpa using hrest) hdg hf) hS hA1 kk
  · intro w hw
    rcases List.mem_append.mp hw with h | h
    · have h9 := c1 w (List.mem_append_left _ h)
      exact ⟨hT _ h9, WA_good h9⟩
    · exact wsm_good hT c5 w h
  · show 8 + (maxL + 11) + 64 * d ≤ 64 * D
    omega
theorem mu_cVU {yM : MethodName} {retM : Option FieldType} (hx : p.tables.exec = Jvm.exec) (hb : c.code = cc) (hml : c.maxLocals = nL) (hown : s.vm.findClass own = some m.cls) (hts : ∀ w ∈ wsm yM cc nL retM, w.before args s = true) (hE : EV E B0 s s.heap)
    (hM : MU l E B0 y cY maxL ret d mc ms (.ref a :: As) P rv P' A1) (hC : CVU own idx y cY maxL ret n) (hrecv : ∃ cellB : Cell, H[a]? = some cellB ∧ cellB.vm.isStatics = false ∧ s.vm.findClass "java/lang/StringBuilder" = some cellB.cls) (hP : P H) (hS : va_S A s.heap H locs) (hAB : ∀ q, A q → B0 ≤ q) (hA1 : ∀ q, A1 q → A q)
    (hn : As.length = n) (hl : ls.size = nL) (hst : st = As.reverse ++ .ref a :: rest) (hd : d + 1 ≤ D) (hrest : (rest.map fun v => v.category).sum ≤ 8) (hf : cells + mc ≤ mcR ∧ slots + ms ≤ msR) (hdg : decode cc pc = .ok (.invokevirtual idx, 3))
    (kk : ∀ (H1 : Heap) (locs1 : List Loc), P' H1 → H.size ≤ H1.size → (∀ q : Nat, q < H.size → ¬ A1 q → H1[q]? = H[q]?) → va_S A s.heap H1 locs1 → W p l e (rmD D mcR msR) s m args below meth c H1 locs1 (cells + mc) (slots + ms) Q (F0 m (pc + 3) ls (rv.toList ++ rest))) : W p l e (rmD D mcR msR) s m args below meth c H locs cells slots Q (F0 m pc ls st) := by
  obtain ⟨c1, c6, c7⟩ := hC
  have hT : ∀ w ∈ WA, w ∈ wsm yM cc nL retM := fun w h => List.mem_cons_of_mem _ h
  have c5 : Cond.code y cY maxL ret ∈ WA := c1 _ (by simp [va_wsU])
  refine mu_go (As := .ref a :: As) (va_runU (As := As) (rest := rest) (C := "java/lang/StringBuilder") (owner := y.cls) (x := y) ⟨hx, hb, hml, hown, hts⟩ hM (va_cwU (ws' := WA) (n := n) hts ?_ rfl rfl rfl rfl c6 ⟨hd, ?_⟩) ⟨mu_blind, hrecv, fun U hU hW => ⟨rfl, ev_at hE hS hAB hU hW, by rw [hU]; exact hP⟩⟩ rfl hn hl hst (by simpa using hrest) hdg hf) hS hA1 kk
  · intro w hw
    rcases List.mem_append.mp hw with h | h
    · have h9 := c1 w (List.mem_append_left _ h)
      exact ⟨hT _ h9, WA_good h9⟩
    · exact wsm_good hT c5 w h
  · show 8 + (maxL + 11) + 64 * d ≤ 64 * D
    omega
theorem w_dig3 (hx : p.tables.exec = Jvm.exec) (hb : c.code = cc) {R : Room} (hw : ∀ w ∈ WA, w.before args s = true) (hown : s.vm.findClass own = some m.cls) (hE : EV E B0 s s.heap) (hlink : Cond.fieldLink own idx "java/lang/Integer" "DigitOnes" "[B" ∈ WA) (hS : va_S A s.heap H locs) (hAB : ∀ q, A q → B0 ≤ q) (hdg : decode cc pc = .ok (.getstatic idx, 3))
    (kk : W p l e R s m args below meth c H locs cells slots Q (F0 m (pc + 3) ls (.ref (E.2.2 3 3) :: rest))) : W p l e R s m args below meth c H locs cells slots Q (F0 m pc ls rest) := by
  obtain ⟨h1, h2, h3, h4, h5, h6, h7, h8, h9, h10, h11, h12, h13, -⟩ := hE.x
  exact va_gets hx hb h13 (hS.wide hAB) hown (hw _ hlink) (fun _ h => h) hdg kk
theorem w_digld3 (hx : p.tables.exec = Jvm.exec) (hb : c.code = cc) {R : Room} {i : Int32} (hE : EV E B0 s s.heap) (hS : va_S A s.heap H locs) (hAB : ∀ q, A q → B0 ≤ q) (hi : inb i 100 = true) (hdg : decode cc pc = .ok (.baload, 1))
    (kk : W p l e R s m args below meth c H locs cells slots Q (F0 m (pc + 1) ls (.int (nI (48 + i.toNatClampNeg % 10)) :: rest))) : W p l e R s m args below meth c H locs cells slots Q (F0 m pc ls (.int i :: .ref (E.2.2 3 3) :: rest)) := by
  obtain ⟨h1, h2, h3, h4, h5, h6, h7, h8, h9, h10, h11, h12, h13, h14, -⟩ := hE.x
  exact va_tb hx hb h14 (hS.wide hAB) (inb_in hi) rfl hdg kk
theorem w_dig4 (hx : p.tables.exec = Jvm.exec) (hb : c.code = cc) {R : Room} (hw : ∀ w ∈ WA, w.before args s = true) (hown : s.vm.findClass own = some m.cls) (hE : EV E B0 s s.heap) (hlink : Cond.fieldLink own idx "java/lang/Integer" "DigitTens" "[B" ∈ WA) (hS : va_S A s.heap H locs) (hAB : ∀ q, A q → B0 ≤ q) (hdg : decode cc pc = .ok (.getstatic idx, 3))
    (kk : W p l e R s m args below meth c H locs cells slots Q (F0 m (pc + 3) ls (.ref (E.2.2 3 4) :: rest))) : W p l e R s m args below meth c H locs cells slots Q (F0 m pc ls rest) := by
  obtain ⟨h1, h2, h3, h4, h5, h6, h7, h8, h9, h10, h11, h12, h13, h14, h15, -⟩ := hE.x
  exact va_gets hx hb h15 (hS.wide hAB) hown (hw _ hlink) (fun _ h => h) hdg kk
theorem w_digld4 (hx : p.tables.exec = Jvm.exec) (hb : c.code = cc) {R : Room} {i : Int32} (hE : EV E B0 s s.heap) (hS : va_S A s.heap H locs) (hAB : ∀ q, A q → B0 ≤ q) (hi : inb i 100 = true) (hdg : decode cc pc = .ok (.baload, 1))
    (kk : W p l e R s m args below meth c H locs cells slots Q (F0 m (pc + 1) ls (.int (nI (48 + i.toNatClampNeg / 10)) :: rest))) : W p l e R s m args below meth c H locs cells slots Q (F0 m pc ls (.int i :: .ref (E.2.2 3 4) :: rest)) := by
  obtain ⟨h1, h2, h3, h4, h5, h6, h7, h8, h9, h10, h11, h12, h13, h14, h15, h16, -⟩ := hE.x
  exact va_tb hx hb h16 (hS.wide hAB) (inb_in hi) rfl hdg kk
end SBROWS
