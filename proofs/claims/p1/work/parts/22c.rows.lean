/-! ===== the law's walk: what holds all along, script reads, the rows it wants ===== -/
abbrev ch (x : Int32) : Int32 := (x.toUInt32 % 65536).toInt32
abbrev lawL (b B j : Nat) : List (Nat × Value) := [(5, .int (nI (7 * j))), (0, .ref b), (1, .ref (B + 0)), (2, .ref (B + 202 + 0)), (3, .ref (B + 212)), (4, .ref (B + 213))]
def LC (p : Program) (l : Launch) (e : Env) (s : State) (m : MethodId) (meth : Method) (c : Code) (E : EP) (b L B : Nat) (xs : Nat → Int32) : Prop :=
  p.tables.exec = Jvm.exec ∧ c.code = cL_law ∧ c.maxLocals = 9 ∧ s.vm.findClass RL = some m.cls ∧ (∀ w ∈ WA, w.before #[Value.ref b] s = true) ∧ EV E B s s.heap ∧ l.stackTraces = false ∧ va_X b L xs s s.heap ∧ b < s.heap.size ∧ b < B ∧ L ≤ 7
def LK (p : Program) (l : Launch) (e : Env) (s : State) (m : MethodId) (below : List Frame) (meth : Method) (c : Code) (E : EP) (b B : Nat) (Q : State → Prop) (j cs sl : Nat) (r : KS × Mem) : Prop :=
  ∀ (H : Heap) (locs : List Loc) (ls : Array Slot), CW E B r.1 H → Blk E (B + 202) modSh 10 r.2 H → va_S (fun q => B ≤ q) s.heap H locs → lv_has ls 9 (lawL b B j) → W p l e room_1 s m #[Value.ref b] below meth c H locs cs sl Q (F0 m 2939 ls [])
theorem b1 {v : Int32} (h : isZ v = true) (h0 : ¬ v = 0) : Int32.toInt64 v = 1 := by
  have h := @of_decide_eq_true (v = 0 ∨ v = 1) _ h
  rcases h with h | h
  · exact absurd h h0
  · rw [h]; rfl
/-- a double that is no NaN equals itself -/
theorem fp_self {x : UInt64} (h : vf_n64 x) : Op.cmpValue (FP.dcmp x x) .l = 0 := by
  obtain ⟨-, ⟨e1, e2, e3, e4, e5⟩⟩ := fpc
  have hx : x.toNat % 9223372036854775808 ≤ 9218868437227405312 := by
    unfold vf_n64 at h
    rw [UInt64.le_iff_toNat_le, UInt64.toNat_and] at h
    have h : x.toNat &&& (9223372036854775807 : Nat) ≤ 9218868437227405312 := h
    rw [show (9223372036854775807 : Nat) = 2 ^ 63 - 1 by decide, Nat.and_two_pow_sub_one_eq_mod] at h
    exact h
  have hd : FP.Core.decode FP.Core.b64 x.toNat ≠ .nan := by
    unfold FP.Core.decode FP.Core.fieldE FP.Core.fieldT
    rw [e1, e2]
    split
    · rename_i h1
      split
      · intro z; cases z
      · rename_i h2
        omega
    · split <;> (intro z; cases z)
  have ho : FP.dcmp x x = some .eq := by
    show FP.Core.order (FP.Core.decode FP.Core.b64 x.toNat) (FP.Core.decode FP.Core.b64 x.toNat) = some .eq
    cases h9 : FP.Core.decode FP.Core.b64 x.toNat with
    | nan => exact absurd h9 hd
    | inf s =>
      show some (compare (FP.Core.signed s 1) (FP.Core.signed s 1)) = some .eq
      rw [Int.compare_eq_eq.mpr rfl]
    | fin s c q =>
      show some (compare (FP.Core.signed s (FP.Core.inUnits c q (min q q))) (FP.Core.signed s (FP.Core.inUnits c q (min q q)))) = some .eq
      rw [Int.compare_eq_eq.mpr rfl]
  rw [ho]
  rfl
section LAWLOOP
variable {p : Program} {l : Launch} {e : Env} {R : Room} {s : State} {m : MethodId} {args : Array Value} {below : List Frame} {meth : Method} {c : Code} {H : Heap} {locs : List Loc} {cells slots : Nat} {Q : State → Prop}
variable {cc : ByteArray} {pc : Nat} {ls : Array Slot} {rest : List Value} {b L B j : Nat} {xs : Nat → Int32}
theorem lc_eq (hx : p.tables.exec = Jvm.exec) (hb : c.code = cc) {v : Int64} (hdg : decode cc pc = .ok (.lcmp, 1)) (kk : W p l e R s m args below meth c H locs cells slots Q (F0 m (pc + 1) ls (.int 0 :: rest))) : W p l e R s m args below meth c H locs cells slots Q (F0 m pc ls (.long v :: .long v :: rest)) := by
  intro T hT X
  obtain ⟨t, a, b⟩ := kk T hT X
  exact ⟨t, Stand.lcmpEq X hx (by rw [hb]; exact hdg) t a, b⟩
theorem sc_ld (hx : p.tables.exec = Jvm.exec) (hb : c.code = cc) (hX : va_X b L xs s s.heap) (hbl : b < s.heap.size) (hbB : b < B) (hS : va_S (fun q => B ≤ q) s.heap H locs) (hj : 7 * j + 7 ≤ L) (hL : L ≤ 7) {k : Nat} {kI : Int32} (hk : k < 7) (he : kI = nI k) (hdg : decode cc pc = .ok (.iaload, 1))
    (kk : W p l e R s m args below meth c H locs cells slots Q (F0 m (pc + 1) ls (.int (xs (7 * j + k)) :: rest))) : W p l e R s m args below meth c H locs cells slots Q (F0 m pc ls (.int (nI (7 * j) + kI) :: .ref b :: rest)) := by
  subst he
  have e : nI (7 * j) + nI k = nI (7 * j + k) := nI_add _ _
  rw [e]
  refine va_sld hx hb hX hbl (fun z => Nat.lt_irrefl _ (Nat.lt_of_lt_of_le hbB z)) hS (nI_in (by omega) (by omega)) hdg ?_
  rw [nI_clamp (by omega)]
  exact kk
theorem sc_ld0 (hx : p.tables.exec = Jvm.exec) (hb : c.code = cc) (hX : va_X b L xs s s.heap) (hbl : b < s.heap.size) (hbB : b < B) (hS : va_S (fun q => B ≤ q) s.heap H locs) (hj : 7 * j + 7 ≤ L) (hL : L ≤ 7) (hdg : decode cc pc = .ok (.iaload, 1))
    (kk : W p l e R s m args below meth c H locs cells slots Q (F0 m (pc + 1) ls (.int (xs (7 * j)) :: rest))) : W p l e R s m args below meth c H locs cells slots Q (F0 m pc ls (.int (nI (7 * j)) :: .ref b :: rest)) := by
  refine va_sld hx hb hX hbl (fun z => Nat.lt_irrefl _ (Nat.lt_of_lt_of_le hbB z)) hS (nI_in (by omega) (by omega)) hdg ?_
  rw [nI_clamp (by omega)]
  exact kk
end LAWLOOP
