/-! ===== blocks of cells, read as numbers by object and slot; their rows; contracts with one answer ===== -/
abbrev Mem : Type := Nat → Nat → Int32
/-- slot f of object k is v now -/
def up2 (N : Mem) (k f : Nat) (v : Int32) : Mem := fun k' => if k' = k then upd (N k) f v else N k'
theorem up2_row (N : Mem) (k f : Nat) (v : Int32) : up2 N k f v k = upd (N k) f v := if_pos rfl
theorem up2_ne (N : Mem) {k k' : Nat} (f : Nat) (v : Int32) (h : k' ≠ k) : up2 N k f v k' = N k' := if_neg h
/-- an object's shape: an array (kind, length, offset and stride of what it refers to), or a class with its slots (0: number; 1: reference at an offset; j + 2: constant of the enum j) -/
abbrev Sh : Type := (Nat × Nat × Nat × Nat) ⊕ (Nat × List (Nat × Nat))
abbrev EP : Type := va_G × (Nat → ClassId) × (Nat → Nat → Nat)
def sv1 (E : EP) (b : Nat) (x : Int32) (q : Nat × Nat) : Value := match q.1 with
  | 0 => .int x
  | 1 => .ref (b + q.2)
  | j + 2 => .ref (E.2.2 j x.toNatClampNeg)
def slv (E : EP) (b : Nat) (r : Nat → Int32) : Nat → List (Nat × Nat) → List Value
  | _, [] => []
  | i, q :: t => sv1 E b (r i) q :: slv E b r (i + 1) t
theorem slv_get (E : EP) (b : Nat) (r : Nat → Int32) (sl : List (Nat × Nat)) : ∀ (i f : Nat) (q : Nat × Nat), sl[f]? = some q → (slv E b r i sl)[f]? = some (sv1 E b (r (i + f)) q) := by
  induction sl with
  | nil => intro i f q h; simp at h
  | cons a t ih =>
    intro i f q h
    cases f with
    | zero =>
      have e : a = q := by simpa using h
      subst e
      rfl
    | succ f =>
      have h' : t[f]? = some q := by simpa using h
      show (slv E b r (i + 1) t)[f]? = _
      rw [ih (i + 1) f q h']
      congr 3
      omega
theorem slv_len (E : EP) (b : Nat) (r : Nat → Int32) (sl : List (Nat × Nat)) : ∀ i : Nat, (slv E b r i sl).length = sl.length := by
  induction sl with
  | nil => intro i; rfl
  | cons a t ih => intro i; show (slv E b r (i + 1) t).length + 1 = t.length + 1; rw [ih]
theorem slv_keep (E : EP) (b : Nat) (r : Nat → Int32) (g : Nat) (v : Int32) (sl : List (Nat × Nat)) : ∀ i : Nat, g < i → slv E b (upd r g v) i sl = slv E b r i sl := by
  induction sl with
  | nil => intro i _; rfl
  | cons a t ih =>
    intro i h
    show sv1 E b (upd r g v i) a :: slv E b (upd r g v) (i + 1) t = _
    rw [ih (i + 1) (by omega)]
    have e : upd r g v i = r i := if_neg (by omega)
    rw [e]
    rfl
theorem slv_set (E : EP) (b : Nat) (r : Nat → Int32) (v : Int32) (sl : List (Nat × Nat)) : ∀ (i f : Nat) (q : Nat × Nat), sl[f]? = some q → (slv E b r i sl).set f (sv1 E b v q) = slv E b (upd r (i + f) v) i sl := by
  induction sl with
  | nil => intro i f q h; simp at h
  | cons a t ih =>
    intro i f q h
    cases f with
    | zero =>
      have e : a = q := by simpa using h
      subst e
      show sv1 E b v a :: slv E b r (i + 1) t = sv1 E b (upd r i v i) a :: slv E b (upd r i v) (i + 1) t
      rw [slv_keep E b r i v t (i + 1) (by omega)]
      have e : upd r i v i = v := if_pos rfl
      rw [e]
    | succ f =>
      have h' : t[f]? = some q := by simpa using h
      show sv1 E b (r i) a :: (slv E b r (i + 1) t).set f (sv1 E b v q) = sv1 E b (upd r (i + (f + 1)) v i) a :: slv E b (upd r (i + (f + 1)) v) (i + 1) t
      rw [ih (i + 1) f q h']
      have e : upd r (i + (f + 1)) v i = r i := if_neg (by omega)
      rw [e, show i + 1 + f = i + (f + 1) by omega]
def celE (E : EP) (b : Nat) (s : Sh) (r : Nat → Int32) : va_E := match s with
  | .inl (0, n, o, _) => .inl (E.2.1 (5 * o), n, .inl r)
  | .inl (1, n, _, _) => .inl (E.2.1 1, n, .inl r)
  | .inl (k + 2, n, o, st) => .inl (E.2.1 (k + 2), n, .inr (.inr (.inr (.inr (fun i => some (b + (o + st * i)))))))
  | .inr (ci, sl) => .inr (ci, slv E b r 0 sl)
def Blk (E : EP) (b : Nat) (sh : Nat → Sh) (n : Nat) (N : Mem) (H : Heap) : Prop := ∀ k, k < n → va_at E.1 vwCl (b + k, celE E b (sh k) (N k)) H
theorem Blk.kept {E : EP} {b n : Nat} {sh : Nat → Sh} {N : Mem} {H H1 : Heap} (h : Blk E b sh n N H) (hq : ∀ q : Nat, b ≤ q → q < b + n → H1[q]? = H[q]?) : Blk E b sh n N H1 :=
  fun k hk => (h k hk).kept (hq (b + k) (by omega) (by omega))
theorem iv_mem {b n k : Nat} (h : k < n) : b ≤ b + k ∧ b + k < b + n := ⟨Nat.le_add_right _ _, Nat.add_lt_add_left h _⟩
theorem Blk.lt {E : EP} {b n : Nat} {sh : Nat → Sh} {N : Mem} {H : Heap} (h : Blk E b sh n N H) {k : Nat} (hk : k < n) : b + k < H.size := (h k hk).lt
theorem Blk.put {E : EP} {b n k f : Nat} {v : Int32} {sh : Nat → Sh} {N : Mem} {H H1 : Heap} (h : Blk E b sh n N H) (hk : k < n) (hc : va_at E.1 vwCl (b + k, celE E b (sh k) (upd (N k) f v)) H1) (oq : ∀ q : Nat, q ≠ b + k → H1[q]? = H[q]?) : Blk E b sh n (up2 N k f v) H1 := by
  intro k' hk'
  by_cases e : k' = k
  · subst e
    rw [up2_row]
    exact hc
  · rw [up2_ne N f v e]
    exact (h k' hk').kept (oq (b + k') (fun z => e (by omega)))
/-- the addresses of a block -/
abbrev iv (b n : Nat) : Nat → Prop := fun q => b ≤ q ∧ q < b + n
abbrev nv : Nat → Prop := fun _ => False
theorem Blk.still {E : EP} {b n : Nat} {sh : Nat → Sh} {N : Mem} {H H1 : Heap} (h : Blk E b sh n N H) (hq : ∀ q : Nat, q < H.size → ¬ nv q → H1[q]? = H[q]?) : Blk E b sh n N H1 :=
  fun k hk => (h k hk).kept (hq (b + k) (h k hk).lt (fun z => z))
-- ===== the words =====
/-- two private methods that a builder's own object selects: out of the tables' words (sel_priv) -/
def sbSels : List Cond := [.selects "java/lang/StringBuilder" ⟨"java/lang/AbstractStringBuilder", "ensureCapacityInternal", "(I)V"⟩ ⟨"java/lang/AbstractStringBuilder", "ensureCapacityInternal", "(I)V"⟩, .selects "java/lang/StringBuilder" ⟨"java/lang/AbstractStringBuilder", "newCapacity", "(I)I"⟩ ⟨"java/lang/AbstractStringBuilder", "newCapacity", "(I)I"⟩]
def lw_tb2 : List Cond := lw_tbl ++ sbSels
def WA : List Cond := lw_tb2.filter goodWord
theorem WA_of {w : Cond} (i : Nat) (h : lw_tb2[i]? = some w) (hg : goodWord w = true) : w ∈ WA := List.mem_filter.mpr ⟨List.mem_of_getElem? h, hg⟩
theorem WA_list (ws : List Cond) (ps : List Nat) (hp : ws = ps.filterMap (fun i => lw_tb2[i]?)) (h : ws.all goodWord = true) : ∀ w ∈ ws, w ∈ WA := by
  intro w hw
  have h1 := List.all_eq_true.mp h w hw
  rw [hp] at hw
  obtain ⟨i, -, hi⟩ := List.mem_filterMap.mp hw
  exact WA_of i hi h1
theorem WA_good {w : Cond} (h : w ∈ WA) : (w.onTables && w.keeps) = true ∨ ∃ ty, w = .arrayClass ty := good_of_word (List.mem_filter.mp h).2
def wsm (y : MethodName) (c : ByteArray) (n : Nat) (r : Option FieldType) : List Cond := .code y c n r :: WA
def tysE (E : EP) : List (ClassId × FieldType) := [(E.2.1 0, .int), (E.2.1 1, .char), (E.2.1 2, .object "RadioNet$Station"), (E.2.1 3, .object "RadioNet$Net"), (E.2.1 4, .object "RadioNet$Command"), (E.2.1 5, .byte), (E.2.1 6, .long), (E.2.1 7, .double)]
abbrev ordF (l : List Int32) : List (String × String × String × List Int32) := [("java/lang/Enum", "ordinal", "I", l)]
abbrev nmMode : List String := ["IDLE", "SPEAKING", "WAITING"]
abbrev nmFault : List String := ["NO_FAULT", "NO_STATION", "OUT_OF_RANGE", "SIGN_TAKEN", "WRONG_STATE"]
abbrev nmKind : List String := ["STATION", "MOVE", "POWER", "TUNE", "CALL", "OVER", "CANCEL", "LIMIT", "WAIT_ONE", "WAIT"]
def nestW : Cond → Bool
  | .methodLinkNest _ _ _ _ => true
  | .fieldLinkNest _ _ _ _ _ _ => true
  | .declares _ => true
  | .castable _ _ => true
  | _ => false
/-- the words of the tables that are no good words, but stay -/
def EVn (U : State) : Prop := ∀ w ∈ lw_tbl, nestW w = true → va_Nw w U
theorem EVn.moved {u U : State} (hW : u.WarmedH U.vm) (h : EVn u) : EVn U := by
  intro w hw hn
  have h1 := h w hw hn
  cases w <;> first | exact va_Nw.warmM hW h1 | exact va_Nw.warmF hW h1 | exact va_Nw.warmD hW h1 | exact va_Nw.warmC hW h1 | exact absurd hn (by simp [nestW])
abbrev swK : List Int32 := [1, 2, 3, 4, 5, 6, 7, 8, 0, 9]
abbrev swF : List Int32 := [0, 1, 2, 3, 4]
abbrev paLen : List Nat := [18, 10, 9, 8, 6, 6, 8, 7, 4, 6]
abbrev paByt : List (List Int32) := [[115, 116, 97, 116, 105, 111, 110, 32, 76, 68, 32, 78, 44, 78, 32, 78, 32, 68], [109, 111, 118, 101, 32, 68, 32, 78, 44, 78], [112, 111, 119, 101, 114, 32, 68, 61, 78], [116, 117, 110, 101, 32, 68, 61, 68], [99, 97, 108, 108, 32, 68], [111, 118, 101, 114, 32, 68], [99, 97, 110, 99, 101, 108, 32, 68], [108, 105, 109, 105, 116, 32, 78], [119, 97, 105, 116], [119, 97, 105, 116, 32, 78]]
abbrev aoC : List String := ["RadioNet$Station", "RadioNet$Net", "RadioNet$Command"]
/-- pairs of classes, the first no kind of the second -/
abbrev ncP : List (String × String) := [("java/lang/UnsupportedOperationException", "java/lang/IllegalArgumentException"), ("java/lang/IllegalStateException", "java/lang/IllegalArgumentException"), ("java/lang/IllegalStateException", "java/lang/UnsupportedOperationException"), ("java/lang/IllegalArgumentException", "java/lang/IndexOutOfBoundsException"), ("java/lang/IllegalStateException", "java/lang/IndexOutOfBoundsException"), ("java/util/NoSuchElementException", "java/lang/IndexOutOfBoundsException")]
/-- .. statics of the throws, texts, tables of the switches, the kinds and their patterns, the JDK's digits -/
def EVx (E : EP) (B0 : Nat) (U : State) (H : Heap) : Prop :=
  vx_Zq Bundle.tN "UNASSIGNED_STACK" Bundle.steD (fun q => B0 ≤ q) U H ∧
  vx_Zq Bundle.tN "SUPPRESSED_SENTINEL" Bundle.listD (fun q => B0 ≤ q) U H ∧
  (∀ (own : String) (k : Nat) (tx : String), Cond.stringRef own k tx ∈ lw_tbl → ∃ a, vk_R own k tx a U) ∧
  va_Z "RadioNet" "KINDS" "[LRadioNet$Kind;" (.ref (E.2.2 3 0)) (fun q => B0 ≤ q) U H ∧
  va_T (.object "RadioNet$Kind") (E.2.2 3 0) 10 (fun j => .ref (E.2.2 2 j)) (fun q => B0 ≤ q) U H ∧
  va_Z "RadioNet$1" "$SwitchMap$RadioNet$Kind" "[I" (.ref (E.2.2 3 1)) (fun q => B0 ≤ q) U H ∧
  va_T .int (E.2.2 3 1) 10 (fun j => .int (swK.getD j 0)) (fun q => B0 ≤ q) U H ∧
  va_Z "RadioNet$1" "$SwitchMap$RadioNet$Fault" "[I" (.ref (E.2.2 3 2)) (fun q => B0 ≤ q) U H ∧
  va_T .int (E.2.2 3 2) 5 (fun j => .int (swF.getD j 0)) (fun q => B0 ≤ q) U H ∧
  va_Ef 10 "RadioNet$Kind" "pattern" "Ljava/lang/String;" (fun i => .ref (E.2.2 4 i)) (E.2.2 2) (fun q => B0 ≤ q) U H ∧
  vk_S 10 paLen paByt (E.2.2 4) (E.2.2 5) (fun q => B0 ≤ q) U H ∧
  va_Z "java/lang/String" "COMPACT_STRINGS" "Z" (.int 1) (fun q => B0 ≤ q) U H ∧
  va_Z "java/lang/Integer" "DigitOnes" "[B" (.ref (E.2.2 3 3)) (fun q => B0 ≤ q) U H ∧
  va_T .byte (E.2.2 3 3) 100 (fun j => .int (nI (48 + j % 10))) (fun q => B0 ≤ q) U H ∧
  va_Z "java/lang/Integer" "DigitTens" "[B" (.ref (E.2.2 3 4)) (fun q => B0 ≤ q) U H ∧
  va_T .byte (E.2.2 3 4) 100 (fun j => .int (nI (48 + j / 10))) (fun q => B0 ≤ q) U H ∧
  va_Zq "jdk/internal/util/Preconditions" "SIOOBE_FORMATTER" "Ljava/util/function/BiFunction;" (fun q => B0 ≤ q) U H ∧
  (∀ C ∈ aoC, va_AO C U) ∧ (∀ q ∈ ncP, va_Nc q.1 q.2 U)
theorem EVx.moved {E : EP} {B0 : Nat} {u U : State} {H : Heap} (hW : u.WarmedH U.vm) (h : EVx E B0 u H) : EVx E B0 U H := by
  obtain ⟨h1, h2, h3, h4, h5, h6, h7, h8, h9, h10, h11, h12, h13, h14, h15, h16, h17, h18, h19⟩ := h
  have hv := hW.alike
  exact ⟨h1.moved hv, h2.moved hv, fun own k tx hm => (h3 own k tx hm).imp fun a h => h.warm hW, va_Z.moved hv h4, va_T.moved hv h5, va_Z.moved hv h6, va_T.moved hv h7, va_Z.moved hv h8, va_T.moved hv h9, va_Ef.moved hv h10, vk_S.moved hv h11, va_Z.moved hv h12, va_Z.moved hv h13, va_T.moved hv h14, va_Z.moved hv h15, va_T.moved hv h16, va_Zq.moved hv h17, fun C hC => (h18 C hC).moved hv, fun q hq => (h19 q hq).moved hv⟩
theorem EVx.kept {E : EP} {B0 : Nat} {U : State} {H H1 : Heap} (h : EVx E B0 U H) (hq : ∀ a : Nat, a < H.size → ¬ B0 ≤ a → H1[a]? = H[a]?) : EVx E B0 U H1 := by
  obtain ⟨h1, h2, h3, h4, h5, h6, h7, h8, h9, h10, h11, h12, h13, h14, h15, h16, h17, h18, h19⟩ := h
  exact ⟨h1.kept hq, h2.kept hq, h3, h4.kept hq, h5.kept hq, h6.kept hq, h7.kept hq, h8.kept hq, h9.kept hq, fun i hi => (h10 i hi).kept hq, h11.kept hq, h12.kept hq, h13.kept hq, h14.kept hq, h15.kept hq, h16.kept hq, va_Zq.kept h17 hq, h18, h19⟩
/-- what the start has that no method changes: classes, enums, nest mates' links -/
def EV (E : EP) (B0 : Nat) (U : State) (H : Heap) : Prop :=
  va_K E.1 vwCl (tysE E) U ∧
  va_En "RadioNet$Mode" "LRadioNet$Mode;" nmMode (ordF [0, 1, 2]) (E.2.2 0) (fun q => B0 ≤ q) U H ∧
  va_En "RadioNet$Fault" "LRadioNet$Fault;" nmFault (ordF [0, 1, 2, 3, 4]) (E.2.2 1) (fun q => B0 ≤ q) U H ∧
  va_En "RadioNet$Kind" "LRadioNet$Kind;" nmKind (ordF [0, 1, 2, 3, 4, 5, 6, 7, 8, 9]) (E.2.2 2) (fun q => B0 ≤ q) U H ∧
  EVn U ∧ EVx E B0 U H
theorem EV.moved {E : EP} {B0 : Nat} {u U : State} {H : Heap} (hW : u.WarmedH U.vm) (h : EV E B0 u H) : EV E B0 U H :=
  ⟨h.1.moved hW.alike, h.2.1.moved hW.alike, h.2.2.1.moved hW.alike, h.2.2.2.1.moved hW.alike, h.2.2.2.2.1.moved hW, h.2.2.2.2.2.moved hW⟩
theorem EV.kept {E : EP} {B0 : Nat} {U : State} {H H1 : Heap} (h : EV E B0 U H) (hq : ∀ a : Nat, a < H.size → ¬ B0 ≤ a → H1[a]? = H[a]?) : EV E B0 U H1 :=
  ⟨h.1, h.2.1.kept hq, h.2.2.1.kept hq, h.2.2.2.1.kept hq, h.2.2.2.2.1, h.2.2.2.2.2.kept hq⟩
theorem EV.ao {E : EP} {B0 : Nat} {U : State} {H : Heap} {A : Array Value} (h : EV E B0 U H) {C : String} (hC : C ∈ aoC) : (Cond.arrayOver (.object C)).before A U = true := (h.2.2.2.2.2.2.2.2.2.2.2.2.2.2.2.2.2.2.2.2.2.2.1 C hC).use
theorem EV.nc {E : EP} {B0 : Nat} {U : State} {H : Heap} (h : EV E B0 U H) {C T : String} (hC : (C, T) ∈ ncP) : va_Nc C T U := h.2.2.2.2.2.2.2.2.2.2.2.2.2.2.2.2.2.2.2.2.2.2.2 (C, T) hC
theorem va_S.wide {A A' : Nat → Prop} {H0 H : Heap} {locs : List Loc} (h : va_S A H0 H locs) (hA : ∀ q, A q → A' q) : va_S A' H0 H locs :=
  ⟨h.1, fun q h1 h2 => h.2.1 q h1 (fun z => h2 (hA q z)), fun l hl => hA _ (h.2.2 l hl)⟩
-- ===== contracts with one answer =====
def QU (rv : Option Value) (P' : Heap → Prop) (A : Nat → Prop) : Array Value → State → Outcome → State → Prop := fun _ st oc t => oc = .returned rv ∧ P' t.heap ∧ va_F A st t
abbrev rmD (d mc ms : Nat) : Room := { frames := d, cells := mc, slots := ms, locals := 64 * d }
abbrev MU (l : Launch) (E : EP) (B0 : Nat) (y : MethodName) (cY : ByteArray) (maxL : Nat) (ret : Option FieldType) (d mc ms : Nat) (As : List Value) (P : Heap → Prop) (rv : Option Value) (P' : Heap → Prop) (A : Nat → Prop) : Prop :=
  Met l y (wsm y cY maxL ret) (rmD d mc ms) (va_Pc As (fun U => EV E B0 U U.heap ∧ P U.heap)) (QU rv P' A) mc ms A
theorem mu_blind {E : EP} {B0 : Nat} {As : List Value} {P : Heap → Prop} : FrameBlind (va_Pc As (fun U => EV E B0 U U.heap ∧ P U.heap)) := by
  intro a U g mk h
  exact ⟨h.1, h.2.1.moved (State.WarmedH.refl U), h.2.2⟩
theorem mu_of {l : Launch} {E : EP} {B0 : Nat} {y : MethodName} {cY : ByteArray} {maxL : Nat} {ret : Option FieldType} {d mc ms : Nat} {As : List Value} {P : Heap → Prop} {rv : Option Value} {P' : Heap → Prop} {A : Nat → Prop} (hy : plainName y.cls = true) (hlen : (lg_sl As).length ≤ maxL)
    (body : ∀ (p : Program) (e : Env) (s : State) (m : MethodId) (args : Array Value) (below : List Frame) (meth : Method) (c : Code), p.tables.exec = Jvm.exec → c.code = cY → c.maxLocals = maxL → s.vm.findClass y.cls = some m.cls → (∀ w ∈ wsm y cY maxL ret, w.before args s = true) → meth.sig.returnType = ret → meth.locks = false → EV E B0 s s.heap → ∀ H : Heap, P H → va_S A s.heap H [] → ∀ ls : Array Slot, lv_has ls maxL (lv_args 0 As) →
      W p l e (rmD d mc ms) s m args below meth c H [] 0 0 (MQ below (QU rv P' A) args s mc ms A) (F0 m 0 ls [])) : MU l E B0 y cY maxL ret d mc ms As P rv P' A := by
  refine Met.ofW (cc := cY) (maxL := maxL) (ret := ret) hy rfl ?_
  intro p e s m args below meth c s₁ B hml hv
  obtain ⟨rfl, hE, hP⟩ := hv
  have hts := atoms_spec (ws := wsm y cY maxL ret) B.pre
  have hown : s.vm.findClass y.cls = some m.cls := findClass_of_methodNamed B.named
  have hl := lv_entry As (n := maxL) hlen
  rw [lg_entry_eq]
  exact body p e s m _ below meth c B.exec B.bytes hml hown hts B.returns B.notSynchronized hE s.heap hP va_S.rf _ hl
section ROWS
variable {p : Program} {l : Launch} {e : Env} {R : Room} {s : State} {m : MethodId} {args : Array Value} {below : List Frame} {meth : Method} {c : Code} {H : Heap} {locs : List Loc} {cells slots : Nat} {Q : State → Prop}
variable {cc : ByteArray} {pc : Nat} {ls : Array Slot} {rest st : List Value} {A A1 : Nat → Prop} {E : EP} {B0 b n : Nat} {sh : Nat → Sh} {N : Mem} {H0 : Heap} {rv : Option Value} {P P' : Heap → Prop}
theorem mu_i (hx : p.tables.exec = Jvm.exec) (hb : c.code = cc) {v : Int32} (hr : meth.sig.returnType = some .int) (hlocks : meth.locks = false) (hP : P' H) (hS : va_S A s.heap H locs) (hdg : decode cc pc = .ok (.ireturn, 1)) : W p l e R s m args below meth c H locs cells slots (MQ below (QU (some (.int v)) P' A) args s cells slots A) (F0 m pc ls [.int v]) :=
  W.iret hx hb hr (fun t ht _ => ⟨rfl, by rw [ht]; exact hP, hS.F ht⟩) hS.2.2 hdg hlocks
theorem mu_z (hx : p.tables.exec = Jvm.exec) (hb : c.code = cc) {v : Int32} {ty : FieldType} (hr : meth.sig.returnType = some ty) (hn : narrow ty (.int v) = .int v) (hlocks : meth.locks = false) (hP : P' H) (hS : va_S A s.heap H locs) (hdg : decode cc pc = .ok (.ireturn, 1)) : W p l e R s m args below meth c H locs cells slots (MQ below (QU (some (.int v)) P' A) args s cells slots A) (F0 m pc ls [.int v]) :=
  W.zret hx hb hr hn (fun t ht _ => ⟨rfl, by rw [ht]; exact hP, hS.F ht⟩) hS.2.2 hdg hlocks
theorem mu_v (hx : p.tables.exec = Jvm.exec) (hb : c.code = cc) (hr : meth.sig.returnType = none) (hlocks : meth.locks = false) (hP : P' H) (hS : va_S A s.heap H locs) (hdg : decode cc pc = .ok (.return_, 1)) : W p l e R s m args below meth c H locs cells slots (MQ below (QU none P' A) args s cells slots A) (F0 m pc ls []) :=
  W.vret hx hb hr (fun t ht _ => ⟨rfl, by rw [ht]; exact hP, hS.F ht⟩) hS.2.2 hdg hlocks
theorem mu_a (hx : p.tables.exec = Jvm.exec) (hb : c.code = cc) {a : Nat} {C : String} (hr : meth.sig.returnType = some (.object C)) (hlocks : meth.locks = false) (hP : P' H) (hS : va_S A s.heap H locs) (hdg : decode cc pc = .ok (.areturn, 1)) : W p l e R s m args below meth c H locs cells slots (MQ below (QU (some (.ref a)) P' A) args s cells slots A) (F0 m pc ls [.ref a]) :=
  W.aret hx hb hr (Or.inl ⟨C, rfl⟩) (Or.inr ⟨a, rfl⟩) (fun t ht _ => ⟨rfl, by rw [ht]; exact hP, hS.F ht⟩) hS.2.2 hdg hlocks
/-- a field as an instruction of the class own names it -/
def FL (own : String) (idx ci : Nat) (C : String) (T : u_T) (Nf f : Nat) : Prop := vwCl[ci]? = some (C, T, Nf) ∧ f < Nf ∧ Cond.fieldLink own idx (T f).1 (T f).2.1 (T f).2.2.1 ∈ WA ∧ (∀ w ∈ u_ws C T Nf, w ∈ WA)
/-- .. and that it may be written -/
def FW (T : u_T) (Nf f : Nat) (ty0 : Nat → FieldType) (ty : FieldType) : Prop := (∀ k, k < Nf → parseFieldDescriptor (T k).2.2.1 = some (ty0 k)) ∧ (∀ a, a < Nf → ∀ b, b < Nf → a ≠ b → (T a).2.1 ≠ (T b).2.1) ∧ (T f).2.2.2 = false ∧ parseFieldDescriptor (T f).2.2.1 = some ty
theorem w_get (hx : p.tables.exec = Jvm.exec) (hb : c.code = cc) {own C : String} {T : u_T} {Nf ci idx f k : Nat} (hts : ∀ w ∈ WA, w.before args s = true) (hown : s.vm.findClass own = some m.cls) (hE : EV E B0 s s.heap) (hF : FL own idx ci C T Nf f) (hB : Blk E b sh n N H) (hk : k < n) {sl : List (Nat × Nat)} (hs : sh k = .inr (ci, sl)) {q : Nat × Nat} (hq : sl[f]? = some q) {v : Value} (hv : sv1 E b (N k f) q = v) (hdg : decode cc pc = .ok (.getfield idx, 3))
    (kk : W p l e R s m args below meth c H locs cells slots Q (F0 m (pc + 3) ls (v :: rest))) : W p l e R s m args below meth c H locs cells slots Q (F0 m pc ls (.ref (b + k) :: rest)) := by
  obtain ⟨f1, f2, f3, f4⟩ := hF
  subst hv
  have hc := hB k hk
  rw [hs] at hc
  have hP : va_P E.1 vwCl [(b + k, .inr (ci, slv E b (N k) 0 sl))] H := by
    intro j z hz
    cases j with
    | zero =>
      cases hz
      exact hc
    | succ j => simp at hz
  refine va_get (D := E.1) (ci := ci) (C := C) (T := T) (N := Nf) (v := sv1 E b (N k f) q) hx hb hts f4 hown hE.1 hP 0 rfl f1 f f2 (hts _ f3) (fun _ h9 => h9) ?_ hdg kk
  have h := slv_get E b (N k) sl 0 f q hq
  rw [Nat.zero_add] at h
  exact h
theorem w_put (hx : p.tables.exec = Jvm.exec) (hb : c.code = cc) {own C : String} {T : u_T} {Nf ci idx f k : Nat} {ty0 : Nat → FieldType} {ty : FieldType} (hts : ∀ w ∈ WA, w.before args s = true) (hown : s.vm.findClass own = some m.cls) (hE : EV E B0 s s.heap) (hF : FL own idx ci C T Nf f) (hW : FW T Nf f ty0 ty) (hB : Blk E b sh n N H) (hk : k < n) {sl : List (Nat × Nat)} (hs : sh k = .inr (ci, sl)) {q : Nat × Nat} (hq : sl[f]? = some q) (x : Int32) {v : Value} (hv : sv1 E b x q = v) (hn : narrow ty v = v) (hfit : fits ty v = true) (hS : va_S A H0 H locs) (hA : A (b + k)) (hdg : decode cc pc = .ok (.putfield idx, 3))
    (kk : ∀ (H1 : Heap) (locs1 : List Loc), Blk E b sh n (up2 N k f x) H1 → H1.size = H.size → (∀ q : Nat, q ≠ b + k → H1[q]? = H[q]?) → va_S A H0 H1 locs1 → W p l e R s m args below meth c H1 locs1 cells slots Q (F0 m (pc + 3) ls rest)) : W p l e R s m args below meth c H locs cells slots Q (F0 m pc ls (v :: .ref (b + k) :: rest)) := by
  obtain ⟨f1, f2, f3, f4⟩ := hF
  obtain ⟨g1, g2, g3, g4⟩ := hW
  subst hv
  have hc := hB k hk
  rw [hs] at hc
  have hap := va_apart (own := own) hts f4 ty0 g1 g2 hE.1 f1
  obtain ⟨r, h1, cell, q1, q2, q3, q4⟩ := hc
  have hr : r = (C, T, Nf) := Option.some.inj (h1.symm.trans f1)
  subst hr
  obtain ⟨hSl, hfc, kC, hkC, hkind⟩ := hE.1.1 ci _ f1
  obtain ⟨cf, kf, fi, fd, hi, hsl⟩ := hSl f f2
  have hlay := hts _ (f4 _ (u_in_lay f2))
  unfold u_lay at hlay
  rw [if_neg (by rw [g3]; decide)] at hlay
  have hst := (u_facts hfc hkC (u_lays hts f4 f2) hi).1
  have h6 := u_store hfc hkC hkind hlay hi g4 hn hfit
  have hl2 : f < (slv E b (N k) 0 sl).length := by
    rw [slv_len]
    exact (List.getElem?_eq_some_iff.mp hq).1
  refine W.putK hx hb (f := fd) ⟨hown, hts _ f3, ⟨_, _, _, hi⟩, hst⟩ (by rw [q2]; exact h6) q1 q3 (by rw [hsl]; exact k2_hasslot (q4 f f2)) rfl rfl hdg fun H' e1 e2 e3 => ?_
  rw [hsl] at e1 ⊢
  refine kk H' _ (hB.put hk ?_ e3) e2 e3 (hS.put e2 e3 hA)
  rw [hs]
  have e9 : slv E b (upd (N k) f x) 0 sl = (slv E b (N k) 0 sl).set f (sv1 E b x q) := by
    have h := slv_set E b (N k) x sl 0 f q hq
    rw [Nat.zero_add] at h
    exact h.symm
  show va_at E.1 vwCl (b + k, .inr (ci, slv E b (upd (N k) f x) 0 sl)) H'
  rw [e9]
  exact ⟨_, f1, t_OB.to (V := updV (vp_V (slv E b (N k) 0 sl)) f (sv1 E b x q)) ⟨_, e1, q2, q3, t_set q4 hap f2 _⟩ (fun j _ => vp_updV_set hl2 _ j)⟩
def inb (i : Int32) (n : Nat) : Bool := decide (¬ (i < 0 ∨ n ≤ i.toNatClampNeg))
theorem inb_in {i : Int32} {n : Nat} (h : inb i n = true) : vp_in i n := @of_decide_eq_true (¬ (i < 0 ∨ n ≤ i.toNatClampNeg)) _ h
theorem inb_lt {i : Int32} {n : Nat} (h : inb i n = true) : i.toNatClampNeg < n := Nat.not_le.mp fun q => inb_in h (Or.inr q)
theorem w_ld {D : va_G} {tys : List (ClassId × FieldType)} {a cA k : Nat} {x : vp_A} (h : va_at D vwCl (a, .inl (cA, x)) H) : va_P D vwCl [(a, .inl (cA, x))] H := by
  intro j z hz
  cases j with
  | zero =>
    cases hz
    exact h
  | succ j => simp at hz
theorem w_iald (hx : p.tables.exec = Jvm.exec) (hb : c.code = cc) {k len sd : Nat} {i : Int32} (hE : EV E B0 s s.heap) (hB : Blk E b sh n N H) (hk : k < n) (hs : sh k = .inl (0, len, 0, sd)) {x9 : Nat} (hj : i.toNatClampNeg = x9) (hin : inb i len = true) (hdg : decode cc pc = .ok (.iaload, 1))
    (kk : W p l e R s m args below meth c H locs cells slots Q (F0 m (pc + 1) ls (.int (N k x9) :: rest))) : W p l e R s m args below meth c H locs cells slots Q (F0 m pc ls (.int i :: .ref (b + k) :: rest)) := by
  subst hj
  have hc := hB k hk
  rw [hs] at hc
  exact va_iald hx hb hE.1 (w_ld (tys := []) (k := 0) hc) 0 0 rfl rfl (inb_in hin) hdg kk
theorem w_cald (hx : p.tables.exec = Jvm.exec) (hb : c.code = cc) {k len o sd : Nat} {i : Int32} (hE : EV E B0 s s.heap) (hB : Blk E b sh n N H) (hk : k < n) (hs : sh k = .inl (1, len, o, sd)) {x9 : Nat} (hj : i.toNatClampNeg = x9) (hin : inb i len = true) (hdg : decode cc pc = .ok (.caload, 1))
    (kk : W p l e R s m args below meth c H locs cells slots Q (F0 m (pc + 1) ls (.int (N k x9) :: rest))) : W p l e R s m args below meth c H locs cells slots Q (F0 m pc ls (.int i :: .ref (b + k) :: rest)) := by
  subst hj
  have hc := hB k hk
  rw [hs] at hc
  exact va_cald hx hb hE.1 (w_ld (tys := []) (k := 0) hc) 0 1 rfl rfl (inb_in hin) hdg kk
theorem w_aald (hx : p.tables.exec = Jvm.exec) (hb : c.code = cc) {k len o sd j : Nat} {C : String} {i : Int32} (hE : EV E B0 s s.heap) (hB : Blk E b sh n N H) (hk : k < n) (hs : sh k = .inl (j + 2, len, o, sd)) (ht : (tysE E)[j + 2]? = some (E.2.1 (j + 2), .object C)) {x9 : Nat} (hj : i.toNatClampNeg = x9) (hin : inb i len = true) (hdg : decode cc pc = .ok (.aaload, 1))
    (kk : W p l e R s m args below meth c H locs cells slots Q (F0 m (pc + 1) ls (.ref (b + (o + sd * x9)) :: rest))) : W p l e R s m args below meth c H locs cells slots Q (F0 m pc ls (.int i :: .ref (b + k) :: rest)) := by
  subst hj
  have hc := hB k hk
  rw [hs] at hc
  exact va_aldq hx hb hE.1 (w_ld (tys := []) (k := 0) hc) 0 (j + 2) rfl ht (inb_in hin) hdg kk
theorem w_iast (hx : p.tables.exec = Jvm.exec) (hb : c.code = cc) {k len sd : Nat} {i x : Int32} (hE : EV E B0 s s.heap) (hB : Blk E b sh n N H) (hk : k < n) (hs : sh k = .inl (0, len, 0, sd)) {x9 : Nat} (hj : i.toNatClampNeg = x9) (hin : inb i len = true) (hS : va_S A H0 H locs) (hA : A (b + k)) (hdg : decode cc pc = .ok (.iastore, 1))
    (kk : ∀ (H1 : Heap) (locs1 : List Loc), Blk E b sh n (up2 N k x9 x) H1 → H1.size = H.size → (∀ q : Nat, q ≠ b + k → H1[q]? = H[q]?) → va_S A H0 H1 locs1 → W p l e R s m args below meth c H1 locs1 cells slots Q (F0 m (pc + 1) ls rest)) : W p l e R s m args below meth c H locs cells slots Q (F0 m pc ls (.int x :: .int i :: .ref (b + k) :: rest)) := by
  subst hj
  have hc := hB k hk
  rw [hs] at hc
  refine W.iast hx hb hc ((hE.1.2 0 _ rfl).1 len (fun j => .int (N k j))) (fun q => by cases q) (by show ¬ (i < 0 ∨ (arrV _ _ _).slots.size ≤ _); rw [arrV_size]; exact inb_in hin) rfl rfl hdg fun H1 e z oq => ?_
  refine kk H1 _ (hB.put hk ?_ oq) z oq (hS.put z oq hA)
  rw [hs]
  show H1[b + k]? = some (vp_cell _ _)
  rw [e, vp_cell_i, vp_cell_i, arrV_store]
  congr 2
  funext q
  by_cases hq : q = i.toNatClampNeg
  · subst hq
    simp [updV, upd]
  · simp [updV, upd, hq]
theorem w_bald (hx : p.tables.exec = Jvm.exec) (hb : c.code = cc) {k len sd : Nat} {i : Int32} (hE : EV E B0 s s.heap) (hB : Blk E b sh n N H) (hk : k < n) (hs : sh k = .inl (0, len, 1, sd)) {x9 : Nat} (hj : i.toNatClampNeg = x9) (hin : inb i len = true) (hdg : decode cc pc = .ok (.baload, 1))
    (kk : W p l e R s m args below meth c H locs cells slots Q (F0 m (pc + 1) ls (.int (N k x9) :: rest))) : W p l e R s m args below meth c H locs cells slots Q (F0 m pc ls (.int i :: .ref (b + k) :: rest)) := by
  subst hj
  have hc := hB k hk
  rw [hs] at hc
  exact va_bald hx hb hE.1 (w_ld (tys := []) (k := 0) hc) 0 5 rfl rfl (inb_in hin) hdg kk
theorem w_blen (hx : p.tables.exec = Jvm.exec) (hb : c.code = cc) {k len sd : Nat} (hE : EV E B0 s s.heap) (hB : Blk E b sh n N H) (hk : k < n) (hs : sh k = .inl (0, len, 1, sd)) (hdg : decode cc pc = .ok (.arraylength, 1))
    (kk : W p l e R s m args below meth c H locs cells slots Q (F0 m (pc + 1) ls (.int (nI len) :: rest))) : W p l e R s m args below meth c H locs cells slots Q (F0 m pc ls (.ref (b + k) :: rest)) := by
  have hc := hB k hk
  rw [hs] at hc
  exact W.alen hx hb (n := nI len) hc ((hE.1.2 5 _ rfl).1 len (fun j => .int (N k j))) (by show (arrV _ _ _).slots.size.toInt32 = _; rw [arrV_size]; rfl) rfl rfl hdg kk
theorem w_bast (hx : p.tables.exec = Jvm.exec) (hb : c.code = cc) {k len sd : Nat} {i x : Int32} (hE : EV E B0 s s.heap) (hB : Blk E b sh n N H) (hk : k < n) (hs : sh k = .inl (0, len, 1, sd)) {x9 : Nat} (hj : i.toNatClampNeg = x9) (hin : inb i len = true) (hS : va_S A H0 H locs) (hA : A (b + k)) (hdg : decode cc pc = .ok (.bastore, 1))
    (kk : ∀ (H1 : Heap) (locs1 : List Loc), Blk E b sh n (up2 N k x9 (vp_nar .byte x)) H1 → H1.size = H.size → (∀ q : Nat, q ≠ b + k → H1[q]? = H[q]?) → va_S A H0 H1 locs1 → W p l e R s m args below meth c H1 locs1 cells slots Q (F0 m (pc + 1) ls rest)) : W p l e R s m args below meth c H locs cells slots Q (F0 m pc ls (.int x :: .int i :: .ref (b + k) :: rest)) := by
  subst hj
  have hc := hB k hk
  rw [hs] at hc
  refine W.bast hx hb hc ((hE.1.2 5 _ rfl).1 len (fun j => .int (N k j))) (fun q => by cases q) (by show ¬ (i < 0 ∨ (arrV _ _ _).slots.size ≤ _); rw [arrV_size]; exact inb_in hin) rfl rfl hdg fun H1 e z oq => ?_
  refine kk H1 _ (hB.put hk ?_ oq) z oq (hS.put z oq hA)
  rw [hs]
  show H1[b + k]? = some (vp_cell _ _)
  rw [e, vp_cell_i, vp_cell_i, arrV_store]
  congr 2
  funext q
  by_cases hq : q = i.toNatClampNeg
  · subst hq
    simp [updV, upd, vp_nar]
    try rfl
  · simp [updV, upd, hq]
theorem w_cast (hx : p.tables.exec = Jvm.exec) (hb : c.code = cc) {k len o sd : Nat} {i x : Int32} (hE : EV E B0 s s.heap) (hB : Blk E b sh n N H) (hk : k < n) (hs : sh k = .inl (1, len, o, sd)) {x9 : Nat} (hj : i.toNatClampNeg = x9) (hin : inb i len = true) (hS : va_S A H0 H locs) (hA : A (b + k)) (hdg : decode cc pc = .ok (.castore, 1))
    (kk : ∀ (H1 : Heap) (locs1 : List Loc), Blk E b sh n (up2 N k x9 (vp_nar .char x)) H1 → H1.size = H.size → (∀ q : Nat, q ≠ b + k → H1[q]? = H[q]?) → va_S A H0 H1 locs1 → W p l e R s m args below meth c H1 locs1 cells slots Q (F0 m (pc + 1) ls rest)) : W p l e R s m args below meth c H locs cells slots Q (F0 m pc ls (.int x :: .int i :: .ref (b + k) :: rest)) := by
  subst hj
  have hc := hB k hk
  rw [hs] at hc
  refine W.cast hx hb hc ((hE.1.2 1 _ rfl).1 len (fun j => .int (N k j))) (fun q => by cases q) (by show ¬ (i < 0 ∨ (arrV _ _ _).slots.size ≤ _); rw [arrV_size]; exact inb_in hin) rfl rfl hdg fun H1 e z oq => ?_
  refine kk H1 _ (hB.put hk ?_ oq) z oq (hS.put z oq hA)
  rw [hs]
  show H1[b + k]? = some (vp_cell _ _)
  rw [e, vp_cell_i, vp_cell_i, arrV_store]
  congr 2
  funext q
  by_cases hq : q = i.toNatClampNeg
  · subst hq
    simp [updV, upd, vp_nar]
    try rfl
  · simp [updV, upd, hq]
end ROWS
