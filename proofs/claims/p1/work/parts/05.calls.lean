/-! ===== calls between contracts with one answer; enums; partial functions and loops ===== -/
theorem br_some {α β : Type} {x : Option α} {f : α → Option β} {r : β} (h : x.bind f = some r) : ∃ a, x = some a ∧ f a = some r := by
  cases x with
  | none => cases h
  | some a => exact ⟨a, rfl, h⟩
def gd {α : Type} (c : Bool) (x : Option α) : Option α := if c = true then x else none
theorem gd_some {α : Type} {c : Bool} {x : Option α} {r : α} (h : gd c x = some r) : c = true ∧ x = some r := by
  unfold gd at h
  by_cases hc : c = true
  · rw [if_pos hc] at h
    exact ⟨hc, h⟩
  · rw [if_neg hc] at h
    cases h
theorem gd_t {α : Type} {c : Bool} {x : Option α} (h : c = true) : gd c x = x := if_pos h
/-- a loop by its step: a new state, or the answer -/
def lpI {S R : Type} (f : S → Option (S ⊕ R)) : Nat → S → Option R
  | 0, _ => none
  | n + 1, s => match f s with
    | none => none
    | some (.inl s') => lpI f n s'
    | some (.inr r) => some r
theorem lpI_succ {S R : Type} {f : S → Option (S ⊕ R)} {n : Nat} {s : S} {r : R} (h : lpI f (n + 1) s = some r) : ∃ y, f s = some y ∧ ((∃ s', y = .inl s' ∧ lpI f n s' = some r) ∨ y = .inr r) := by
  unfold lpI at h
  cases e : f s with
  | none => rw [e] at h; cases h
  | some y =>
    rw [e] at h
    cases y with
    | inl s' => exact ⟨_, rfl, Or.inl ⟨s', rfl, h⟩⟩
    | inr r' =>
      have e2 : r' = r := Option.some.inj h
      subst e2
      exact ⟨_, rfl, Or.inr rfl⟩
theorem lpI_more {S R : Type} {f : S → Option (S ⊕ R)} : ∀ (n k : Nat) (s : S) (r : R), lpI f n s = some r → lpI f (n + k) s = some r := by
  intro n
  induction n with
  | zero => intro k s r h; cases h
  | succ n ih =>
    intro k s r h
    obtain ⟨y, h1, h2⟩ := lpI_succ h
    rw [show n + 1 + k = (n + k) + 1 by omega]
    unfold lpI
    rw [h1]
    rcases h2 with ⟨s', rfl, h3⟩ | rfl
    · exact ih k s' r h3
    · rfl
noncomputable def lp {S R : Type} (f : S → Option (S ⊕ R)) (s : S) : Option R := by
  classical
  exact if h : ∃ n, ∃ r, lpI f n s = some r then some h.choose_spec.choose else none
theorem lp_some {S R : Type} {f : S → Option (S ⊕ R)} {s : S} {r : R} (h : lp f s = some r) : ∃ n, lpI f n s = some r := by
  unfold lp at h
  split at h
  · rename_i hx
    have e := Option.some.inj h
    exact ⟨hx.choose, by rw [← e]; exact hx.choose_spec.choose_spec⟩
  · cases h
theorem lp_of {S R : Type} {f : S → Option (S ⊕ R)} {s : S} {r : R} {n : Nat} (h : lpI f n s = some r) : lp f s = some r := by
  have hx : ∃ n, ∃ r, lpI f n s = some r := ⟨n, r, h⟩
  unfold lp
  rw [dif_pos hx]
  have h1 := lpI_more hx.choose n s _ hx.choose_spec.choose_spec
  have h2 := lpI_more n hx.choose s _ h
  rw [Nat.add_comm] at h2
  rw [h2] at h1
  exact h1.symm
theorem lp_inl {S R : Type} {f : S → Option (S ⊕ R)} {s s' : S} (h : f s = some (.inl s')) : lp f s = lp f s' := by
  apply Option.ext
  intro r
  constructor
  · intro h1
    obtain ⟨n, h2⟩ := lp_some h1
    cases n with
    | zero => cases h2
    | succ n =>
      obtain ⟨y, h3, h4⟩ := lpI_succ h2
      rw [h] at h3
      have e := Option.some.inj h3
      subst e
      rcases h4 with ⟨s'', h5, h6⟩ | h5
      · cases h5
        exact lp_of h6
      · cases h5
  · intro h1
    obtain ⟨n, h2⟩ := lp_some h1
    refine lp_of (n := n + 1) ?_
    unfold lpI
    rw [h]
    exact h2
theorem lp_inr {S R : Type} {f : S → Option (S ⊕ R)} {s : S} {r : R} (h : f s = some (.inr r)) : lp f s = some r := by
  refine lp_of (n := 1) ?_
  unfold lpI
  rw [h]
/-- a call as an instruction of the class own names it -/
def CV (own : String) (idx : Nat) (y : MethodName) (cY : ByteArray) (maxL : Nat) (ret : Option FieldType) (n : Nat) : Prop :=
  Cond.methodLink own idx y ∈ WA ∧ Cond.instanceMethod y ∈ WA ∧ Cond.selects y.cls y y ∈ WA ∧ Cond.initialized y.cls ∈ WA ∧ Cond.code y cY maxL ret ∈ WA ∧ (y.cls ≠ "java/lang/invoke/MethodHandle" ∧ y.cls ≠ "java/lang/invoke/VarHandle" ∧ (parseMethodDescriptor y.desc).map (fun d => d.parameters.length) = some n) ∧ maxL ≤ 45
def CS (own : String) (idx : Nat) (y : MethodName) (cY : ByteArray) (maxL : Nat) (ret : Option FieldType) (n : Nat) : Prop :=
  Cond.methodLink own idx y ∈ WA ∧ Cond.static y ∈ WA ∧ Cond.initialized y.cls ∈ WA ∧ Cond.code y cY maxL ret ∈ WA ∧ (y.cls ≠ "java/lang/invoke/MethodHandle" ∧ y.cls ≠ "java/lang/invoke/VarHandle" ∧ (parseMethodDescriptor y.desc).map (fun d => d.parameters.length) = some n) ∧ maxL ≤ 45
def CSN (own : String) (idx : Nat) (y : MethodName) (host : String) (cY : ByteArray) (maxL : Nat) (ret : Option FieldType) (n : Nat) : Prop :=
  Cond.methodLinkNest own idx y host ∈ lw_tbl ∧ Cond.static y ∈ WA ∧ Cond.initialized y.cls ∈ WA ∧ Cond.code y cY maxL ret ∈ WA ∧ (y.cls ≠ "java/lang/invoke/MethodHandle" ∧ y.cls ≠ "java/lang/invoke/VarHandle" ∧ (parseMethodDescriptor y.desc).map (fun d => d.parameters.length) = some n) ∧ maxL ≤ 45
theorem cv_of {own : String} {idx : Nat} {y : MethodName} {cY : ByteArray} {maxL : Nat} {ret : Option FieldType} {n : Nat} (h : ∀ w ∈ [Cond.methodLink own idx y, .instanceMethod y, .selects y.cls y y, .initialized y.cls, .code y cY maxL ret], w ∈ WA) (hd : y.cls ≠ "java/lang/invoke/MethodHandle" ∧ y.cls ≠ "java/lang/invoke/VarHandle" ∧ (parseMethodDescriptor y.desc).map (fun d => d.parameters.length) = some n) (hm : maxL ≤ 45) : CV own idx y cY maxL ret n :=
  ⟨h _ (by simp), h _ (by simp), h _ (by simp), h _ (by simp), h _ (by simp), hd, hm⟩
theorem cs_of {own : String} {idx : Nat} {y : MethodName} {cY : ByteArray} {maxL : Nat} {ret : Option FieldType} {n : Nat} (h : ∀ w ∈ [Cond.methodLink own idx y, .static y, .initialized y.cls, .code y cY maxL ret], w ∈ WA) (hd : y.cls ≠ "java/lang/invoke/MethodHandle" ∧ y.cls ≠ "java/lang/invoke/VarHandle" ∧ (parseMethodDescriptor y.desc).map (fun d => d.parameters.length) = some n) (hm : maxL ≤ 45) : CS own idx y cY maxL ret n :=
  ⟨h _ (by simp), h _ (by simp), h _ (by simp), h _ (by simp), hd, hm⟩
theorem cn_of {own host : String} {idx : Nat} {y : MethodName} {cY : ByteArray} {maxL : Nat} {ret : Option FieldType} {n : Nat} (h0 : Cond.methodLinkNest own idx y host ∈ lw_tbl) (h : ∀ w ∈ [Cond.static y, .initialized y.cls, .code y cY maxL ret], w ∈ WA) (hd : y.cls ≠ "java/lang/invoke/MethodHandle" ∧ y.cls ≠ "java/lang/invoke/VarHandle" ∧ (parseMethodDescriptor y.desc).map (fun d => d.parameters.length) = some n) (hm : maxL ≤ 45) : CSN own idx y host cY maxL ret n :=
  ⟨h0, h _ (by simp), h _ (by simp), h _ (by simp), hd, hm⟩
theorem lp_back {S R : Type} {f : S → Option (S ⊕ R)} {n : Nat} {y : S ⊕ R} {r : R} {s0 : S} (hy : (∃ s', y = .inl s' ∧ lpI f n s' = some r) ∨ y = .inr r) (h : y = .inl s0) : lpI f n s0 = some r := by
  rcases hy with ⟨s', e, h1⟩ | e
  · rw [h] at e
    cases e
    exact h1
  · rw [h] at e
    cases e
theorem lp_end {S R : Type} {f : S → Option (S ⊕ R)} {n : Nat} {y : S ⊕ R} {r v : R} (hy : (∃ s', y = .inl s' ∧ lpI f n s' = some r) ∨ y = .inr r) (h : y = .inr v) : v = r := by
  rcases hy with ⟨s', e, h1⟩ | e
  · rw [h] at e
    cases e
  · rw [h] at e
    cases e
    rfl
theorem wsm_good {Ts : List Cond} {y : MethodName} {cY : ByteArray} {maxL : Nat} {ret : Option FieldType} (hT : ∀ w ∈ WA, w ∈ Ts) (hc : Cond.code y cY maxL ret ∈ WA) : GoodIn Ts (wsm y cY maxL ret) := by
  intro w hw
  rcases List.mem_cons.mp hw with h | h
  · subst h
    exact ⟨hT _ hc, WA_good hc⟩
  · exact ⟨hT _ h, WA_good h⟩
section CALLS
variable {p : Program} {l : Launch} {e : Env} {s : State} {m : MethodId} {args : Array Value} {below : List Frame} {meth : Method} {c : Code} {H : Heap} {locs : List Loc} {cells slots : Nat} {Q : State → Prop}
variable {cc : ByteArray} {pc nL D d mcR msR mc ms : Nat} {ls : Array Slot} {rest st As : List Value} {A A1 : Nat → Prop} {E : EP} {B0 : Nat} {rv : Option Value} {P P' : Heap → Prop} {own : String} {idx n maxL a : Nat} {y : MethodName} {cY : ByteArray} {ret : Option FieldType}
/-- behind a call: the answer, the world, the rest as it was -/
theorem mu_go (hr : va_Run p l e (rmD D mcR msR) s m args below meth c H locs cells slots mc ms (F0 m pc ls st) rest (QU rv P' A1 As.toArray) A1) (hS : va_S A s.heap H locs) (hA1 : ∀ q, A1 q → A q)
    (kk : ∀ (H1 : Heap) (locs1 : List Loc), P' H1 → H.size ≤ H1.size → (∀ q : Nat, q < H.size → ¬ A1 q → H1[q]? = H[q]?) → va_S A s.heap H1 locs1 → W p l e (rmD D mcR msR) s m args below meth c H1 locs1 (cells + mc) (slots + ms) Q (F0 m (pc + 3) ls (rv.toList ++ rest))) : W p l e (rmD D mcR msR) s m args below meth c H locs cells slots Q (F0 m pc ls st) := by
  intro T hT X
  obtain ⟨v, st₀, t, T', L, h0, X', hL, e1, e2, ⟨hv, hp, hz, hk⟩, go⟩ := hr T hT X
  have hv : v = rv := by injection hv
  subst hv
  rw [h0] at hz hk
  obtain ⟨t2, a1, b1⟩ := kk T'.heap (locs ++ L) (by rw [e1]; exact hp) (by rw [e1]; exact hz) (fun q h1 h2 => by rw [e1]; exact hk q h1 h2)
    ⟨Nat.le_trans hS.1 (by rw [e1]; exact hz), fun q h1 h2 => by rw [e1, hk q (Nat.lt_of_lt_of_le h1 hS.1) (fun z => h2 (hA1 q z))]; exact hS.2.1 q h1 h2, fun q hq => by
      rcases List.mem_append.mp hq with h | h
      · exact hS.2.2 q h
      · exact hA1 _ (hL q h)⟩ T' rfl X'
  exact ⟨t2, go t2 a1, b1⟩
theorem ev_at {U : State} (hE : EV E B0 s s.heap) (hS : va_S A s.heap H locs) (hAB : ∀ q, A q → B0 ≤ q) (hU : U.heap = H) (hW : s.WarmedH U.vm) : EV E B0 U U.heap := by
  rw [hU]
  exact (hE.kept (fun q h1 h2 => hS.2.1 q h1 (fun z => h2 (hAB q z)))).moved hW
theorem mu_cV {yM : MethodName} {retM : Option FieldType} (hx : p.tables.exec = Jvm.exec) (hb : c.code = cc) (hml : c.maxLocals = nL) (hown : s.vm.findClass own = some m.cls) (hts : ∀ w ∈ wsm yM cc nL retM, w.before args s = true) (hE : EV E B0 s s.heap)
    (hM : MU l E B0 y cY maxL ret d mc ms (.ref a :: As) P rv P' A1) (hC : CV own idx y cY maxL ret n) (hrecv : ∃ cellB : Cell, H[a]? = some cellB ∧ cellB.vm.isStatics = false ∧ s.vm.findClass y.cls = some cellB.cls) (hP : P H) (hS : va_S A s.heap H locs) (hAB : ∀ q, A q → B0 ≤ q) (hA1 : ∀ q, A1 q → A q)
    (hn : As.length = n) (hl : ls.size = nL) (hst : st = As.reverse ++ .ref a :: rest) (hd : d + 1 ≤ D) (hrest : (rest.map fun v => v.category).sum ≤ 8) (hf : cells + mc ≤ mcR ∧ slots + ms ≤ msR) (hdg : decode cc pc = .ok (.invokevirtual idx, 3))
    (kk : ∀ (H1 : Heap) (locs1 : List Loc), P' H1 → H.size ≤ H1.size → (∀ q : Nat, q < H.size → ¬ A1 q → H1[q]? = H[q]?) → va_S A s.heap H1 locs1 → W p l e (rmD D mcR msR) s m args below meth c H1 locs1 (cells + mc) (slots + ms) Q (F0 m (pc + 3) ls (rv.toList ++ rest))) : W p l e (rmD D mcR msR) s m args below meth c H locs cells slots Q (F0 m pc ls st) := by
  obtain ⟨c1, c2, c3, c4, c5, c6, c7⟩ := hC
  have hT : ∀ w ∈ WA, w ∈ wsm yM cc nL retM := fun w h => List.mem_cons_of_mem _ h
  refine mu_go (As := .ref a :: As) (va_runV (As := As) (rest := rest) (C := y.cls) ⟨hx, hb, hml, hown, hts⟩ hM (cwV n hts ?_ rfl rfl rfl ⟨rfl, c6⟩ ⟨hd, ?_⟩) ⟨mu_blind, hrecv, fun U hU hW => ⟨rfl, ev_at hE hS hAB hU hW, by rw [hU]; exact hP⟩⟩ rfl hn hl hst (by simpa using hrest) hdg hf) hS hA1 kk
  · intro w hw
    rcases List.mem_append.mp hw with h | h
    · simp only [List.mem_cons, List.not_mem_nil, or_false] at h
      rcases h with h | h | h | h <;> subst h
      · exact ⟨hT _ c1, WA_good c1⟩
      · exact ⟨hT _ c2, WA_good c2⟩
      · exact ⟨hT _ c3, WA_good c3⟩
      · exact ⟨hT _ c4, WA_good c4⟩
    · exact wsm_good hT c5 w h
  · show 8 + (maxL + 11) + 64 * d ≤ 64 * D
    omega
theorem mu_cS {yM : MethodName} {retM : Option FieldType} (hx : p.tables.exec = Jvm.exec) (hb : c.code = cc) (hml : c.maxLocals = nL) (hown : s.vm.findClass own = some m.cls) (hts : ∀ w ∈ wsm yM cc nL retM, w.before args s = true) (hE : EV E B0 s s.heap)
    (hM : MU l E B0 y cY maxL ret d mc ms As P rv P' A1) (hC : CS own idx y cY maxL ret n) (hP : P H) (hS : va_S A s.heap H locs) (hAB : ∀ q, A q → B0 ≤ q) (hA1 : ∀ q, A1 q → A q)
    (hn : As.length = n) (hl : ls.size = nL) (hst : st = As.reverse ++ rest) (hd : d + 1 ≤ D) (hrest : (rest.map fun v => v.category).sum ≤ 8) (hf : cells + mc ≤ mcR ∧ slots + ms ≤ msR) (hdg : decode cc pc = .ok (.invokestatic idx, 3))
    (kk : ∀ (H1 : Heap) (locs1 : List Loc), P' H1 → H.size ≤ H1.size → (∀ q : Nat, q < H.size → ¬ A1 q → H1[q]? = H[q]?) → va_S A s.heap H1 locs1 → W p l e (rmD D mcR msR) s m args below meth c H1 locs1 (cells + mc) (slots + ms) Q (F0 m (pc + 3) ls (rv.toList ++ rest))) : W p l e (rmD D mcR msR) s m args below meth c H locs cells slots Q (F0 m pc ls st) := by
  obtain ⟨c1, c2, c3, c4, c5, c6⟩ := hC
  have hT : ∀ w ∈ WA, w ∈ wsm yM cc nL retM := fun w h => List.mem_cons_of_mem _ h
  refine mu_go (As := As) (va_runS (As := As) (rest := rest) ⟨hx, hb, hml, hown, hts⟩ hM (va_cwS n hts ?_ rfl rfl rfl c5 ⟨hd, ?_⟩) ⟨mu_blind, fun U hU hW => ⟨rfl, ev_at hE hS hAB hU hW, by rw [hU]; exact hP⟩⟩ rfl hn hl hst (by simpa using hrest) hdg hf) hS hA1 kk
  · intro w hw
    rcases List.mem_append.mp hw with h | h
    · simp only [List.mem_cons, List.not_mem_nil, or_false] at h
      rcases h with h | h | h <;> subst h
      · exact ⟨hT _ c1, WA_good c1⟩
      · exact ⟨hT _ c2, WA_good c2⟩
      · exact ⟨hT _ c3, WA_good c3⟩
    · exact wsm_good hT c4 w h
  · show 8 + (maxL + 11) + 64 * d ≤ 64 * D
    omega
theorem mu_cSN {yM : MethodName} {retM : Option FieldType} {host : String} (hx : p.tables.exec = Jvm.exec) (hb : c.code = cc) (hml : c.maxLocals = nL) (hown : s.vm.findClass own = some m.cls) (hts : ∀ w ∈ wsm yM cc nL retM, w.before args s = true) (hE : EV E B0 s s.heap)
    (hM : MU l E B0 y cY maxL ret d mc ms As P rv P' A1) (hC : CSN own idx y host cY maxL ret n) (hP : P H) (hS : va_S A s.heap H locs) (hAB : ∀ q, A q → B0 ≤ q) (hA1 : ∀ q, A1 q → A q)
    (hn : As.length = n) (hl : ls.size = nL) (hst : st = As.reverse ++ rest) (hd : d + 1 ≤ D) (hrest : (rest.map fun v => v.category).sum ≤ 8) (hf : cells + mc ≤ mcR ∧ slots + ms ≤ msR) (hdg : decode cc pc = .ok (.invokestatic idx, 3))
    (kk : ∀ (H1 : Heap) (locs1 : List Loc), P' H1 → H.size ≤ H1.size → (∀ q : Nat, q < H.size → ¬ A1 q → H1[q]? = H[q]?) → va_S A s.heap H1 locs1 → W p l e (rmD D mcR msR) s m args below meth c H1 locs1 (cells + mc) (slots + ms) Q (F0 m (pc + 3) ls (rv.toList ++ rest))) : W p l e (rmD D mcR msR) s m args below meth c H locs cells slots Q (F0 m pc ls st) := by
  obtain ⟨c1, c2, c3, c4, c5, c6⟩ := hC
  have hT : ∀ w ∈ WA, w ∈ wsm yM cc nL retM := fun w h => List.mem_cons_of_mem _ h
  have hw0 : va_Nw (.methodLinkNest own idx y host) s := hE.2.2.2.2.1 _ c1 rfl
  refine mu_go (As := As) (va_runSN (host := host) (As := As) (rest := rest) ⟨hx, hb, hml, hown, hts⟩ hM ⟨va_cnB n hts (wsm_good hT c4) rfl rfl rfl hw0 (hts _ (hT _ c3)) c5 ⟨hd, ?_⟩, hts _ (hT _ c2), trivial⟩ ⟨mu_blind, fun U hU hW => ⟨rfl, ev_at hE hS hAB hU hW, by rw [hU]; exact hP⟩⟩ rfl hn hl hst (by simpa using hrest) hdg hf) hS hA1 kk
  · show 8 + (maxL + 11) + 64 * d ≤ 64 * D
    omega
theorem w_gs (hx : p.tables.exec = Jvm.exec) (hb : c.code = cc) {R : Room} {EC d own : String} {nm : List String} {F : List (String × String × String × List Int32)} {ad : Nat → Nat} {i idx : Nat} (hw : ∀ w ∈ WA, w.before args s = true) (hown : s.vm.findClass own = some m.cls) (hEn : va_En EC d nm F ad (fun q => B0 ≤ q) s s.heap) (hi : i < nm.length) (hS : va_S A s.heap H locs) (hAB : ∀ q, A q → B0 ≤ q) (hlink : Cond.fieldLink own idx EC (nm.getD i "") d ∈ WA) {z : Int32} (hz : z.toNatClampNeg = i) (hdg : decode cc pc = .ok (.getstatic idx, 3))
    (kk : W p l e R s m args below meth c H locs cells slots Q (F0 m (pc + 3) ls (.ref (ad z.toNatClampNeg) :: rest))) : W p l e R s m args below meth c H locs cells slots Q (F0 m pc ls rest) := by
  rw [hz] at kk
  exact va_gets hx hb (hEn.1 i hi).1 (hS.wide hAB) hown (hw _ hlink) (fun _ h9 => h9) hdg kk
theorem EV.en0 {E : EP} {B0 : Nat} {U : State} {H : Heap} (h : EV E B0 U H) : va_En "RadioNet$Mode" "LRadioNet$Mode;" nmMode (ordF [0, 1, 2]) (E.2.2 0) (fun q => B0 ≤ q) U H := h.2.1
theorem EV.en1 {E : EP} {B0 : Nat} {U : State} {H : Heap} (h : EV E B0 U H) : va_En "RadioNet$Fault" "LRadioNet$Fault;" nmFault (ordF [0, 1, 2, 3, 4]) (E.2.2 1) (fun q => B0 ≤ q) U H := h.2.2.1
theorem EV.en2 {E : EP} {B0 : Nat} {U : State} {H : Heap} (h : EV E B0 U H) : va_En "RadioNet$Kind" "LRadioNet$Kind;" nmKind (ordF [0, 1, 2, 3, 4, 5, 6, 7, 8, 9]) (E.2.2 2) (fun q => B0 ≤ q) U H := h.2.2.2.1
theorem inb_eq {x y : Int32} {n : Nat} (hx : inb x n = true) (hy : inb y n = true) (h : x.toNatClampNeg = y.toNatClampNeg) : x = y := by
  have h1 : ¬ (x < 0 ∨ n ≤ x.toNatClampNeg) := inb_in hx
  have h2 : ¬ (y < 0 ∨ n ≤ y.toNatClampNeg) := inb_in hy
  apply Int32.toInt_inj.mp
  have a1 : ¬ x < 0 := fun z => h1 (Or.inl z)
  have a2 : ¬ y < 0 := fun z => h2 (Or.inl z)
  rw [Int32.lt_iff_toInt_lt, Int32.toInt_zero] at a1 a2
  unfold Int32.toNatClampNeg at h
  omega
theorem w_acmpE_ne (hx : p.tables.exec = Jvm.exec) (hb : c.code = cc) {R : Room} {EC d : String} {nm : List String} {F : List (String × String × String × List Int32)} {ad : Nat → Nat} {A9 : Nat → Prop} {x y : Int32} {off : Int} {tgt : Nat} (hEn : va_En EC d nm F ad A9 s s.heap) (h1 : inb x nm.length = true) (h2 : inb y nm.length = true) (hdg : decode cc pc = .ok (.if_acmp .ne off, 3)) (ht : (pc : Int) + off = (tgt : Int))
    (kt : ¬ x = y → W p l e R s m args below meth c H locs cells slots Q (F0 m tgt ls rest)) (kf : x = y → W p l e R s m args below meth c H locs cells slots Q (F0 m (pc + 3) ls rest)) : W p l e R s m args below meth c H locs cells slots Q (F0 m pc ls (.ref (ad y.toNatClampNeg) :: .ref (ad x.toNatClampNeg) :: rest)) := by
  refine lv_acmp_ne (rx := some (ad x.toNatClampNeg)) (ry := some (ad y.toNatClampNeg)) hx hb hdg ht (fun q => kt (fun z => q (by rw [z]))) (fun q => kf ?_)
  exact inb_eq h1 h2 (hEn.2 _ _ (inb_lt h1) (inb_lt h2) (Option.some.inj q))
theorem w_acmpE_eq (hx : p.tables.exec = Jvm.exec) (hb : c.code = cc) {R : Room} {EC d : String} {nm : List String} {F : List (String × String × String × List Int32)} {ad : Nat → Nat} {A9 : Nat → Prop} {x y : Int32} {off : Int} {tgt : Nat} (hEn : va_En EC d nm F ad A9 s s.heap) (h1 : inb x nm.length = true) (h2 : inb y nm.length = true) (hdg : decode cc pc = .ok (.if_acmp .eq off, 3)) (ht : (pc : Int) + off = (tgt : Int))
    (kt : x = y → W p l e R s m args below meth c H locs cells slots Q (F0 m tgt ls rest)) (kf : ¬ x = y → W p l e R s m args below meth c H locs cells slots Q (F0 m (pc + 3) ls rest)) : W p l e R s m args below meth c H locs cells slots Q (F0 m pc ls (.ref (ad y.toNatClampNeg) :: .ref (ad x.toNatClampNeg) :: rest)) := by
  refine lv_acmp_eq (rx := some (ad x.toNatClampNeg)) (ry := some (ad y.toNatClampNeg)) hx hb hdg ht (fun q => kt ?_) (fun q => kf (fun z => q (by rw [z])))
  exact inb_eq h1 h2 (hEn.2 _ _ (inb_lt h1) (inb_lt h2) (Option.some.inj q))
theorem w_acmpR_ne (hx : p.tables.exec = Jvm.exec) (hb : c.code = cc) {R : Room} {b k1 k2 : Nat} {off : Int} {tgt : Nat} (hdg : decode cc pc = .ok (.if_acmp .ne off, 3)) (ht : (pc : Int) + off = (tgt : Int))
    (kt : ¬ k1 = k2 → W p l e R s m args below meth c H locs cells slots Q (F0 m tgt ls rest)) (kf : k1 = k2 → W p l e R s m args below meth c H locs cells slots Q (F0 m (pc + 3) ls rest)) : W p l e R s m args below meth c H locs cells slots Q (F0 m pc ls (.ref (b + k2) :: .ref (b + k1) :: rest)) := by
  refine lv_acmp_ne (rx := some (b + k1)) (ry := some (b + k2)) hx hb hdg ht (fun q => kt (fun z => q (by rw [z]))) (fun q => kf ?_)
  have := Option.some.inj q
  omega
theorem w_acmpR_eq (hx : p.tables.exec = Jvm.exec) (hb : c.code = cc) {R : Room} {b k1 k2 : Nat} {off : Int} {tgt : Nat} (hdg : decode cc pc = .ok (.if_acmp .eq off, 3)) (ht : (pc : Int) + off = (tgt : Int))
    (kt : k1 = k2 → W p l e R s m args below meth c H locs cells slots Q (F0 m tgt ls rest)) (kf : ¬ k1 = k2 → W p l e R s m args below meth c H locs cells slots Q (F0 m (pc + 3) ls rest)) : W p l e R s m args below meth c H locs cells slots Q (F0 m pc ls (.ref (b + k2) :: .ref (b + k1) :: rest)) := by
  refine lv_acmp_eq (rx := some (b + k1)) (ry := some (b + k2)) hx hb hdg ht (fun q => kt ?_) (fun q => kf (fun z => q (by rw [z])))
  have := Option.some.inj q
  omega
def isZ (v : Int32) : Bool := decide (v = 0 ∨ v = 1)
theorem isZ_n {v : Int32} (h : isZ v = true) : narrow .boolean (.int v) = .int v := by
  have h := @of_decide_eq_true (v = 0 ∨ v = 1) _ h
  rcases h with h | h <;> subst h <;> rfl
theorem isZ_f {v : Int32} (h : isZ v = true) : fits .boolean (.int v) = true := by
  have h := @of_decide_eq_true (v = 0 ∨ v = 1) _ h
  rcases h with h | h <;> subst h <;> rfl
def isC (v : Int32) : Bool := decide (narrow .char (.int v) = .int v) && fits .char (.int v)
theorem isC_n {v : Int32} (h : isC v = true) : narrow .char (.int v) = .int v := by
  have h := (Bool.and_eq_true _ _ ▸ h).1
  exact @of_decide_eq_true (narrow .char (.int v) = .int v) _ h
theorem isC_f {v : Int32} (h : isC v = true) : fits .char (.int v) = true := (Bool.and_eq_true _ _ ▸ h).2
/-- the receiver, out of a block -/
theorem w_recv {b k n : Nat} {sh : Nat → Sh} {N : Mem} {ci Nf : Nat} {C : String} {T : u_T} {sl : List (Nat × Nat)} (hE : EV E B0 s s.heap) (hB : Blk E b sh n N H) (hk : k < n) (hs : sh k = .inr (ci, sl)) (hc : vwCl[ci]? = some (C, T, Nf)) : ∃ cellB : Cell, H[b + k]? = some cellB ∧ cellB.vm.isStatics = false ∧ s.vm.findClass C = some cellB.cls := by
  have h := hB k hk
  rw [hs] at h
  have hP : va_P E.1 vwCl [(b + k, .inr (ci, slv E b (N k) 0 sl))] H := by
    intro j z hz
    cases j with
    | zero =>
      cases hz
      exact h
    | succ j => simp at hz
  exact va_recv hE.1 hP hc (q0 := 0) rfl
end CALLS
