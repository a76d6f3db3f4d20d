/-! ===== making objects and arrays: what is new lies at the heap's end ===== -/
section MAKE
variable {p : Program} {l : Launch} {e : Env} {R : Room} {s : State} {m : MethodId} {args : Array Value} {below : List Frame} {meth : Method} {c : Code} {H : Heap} {locs : List Loc} {cells slots : Nat} {Q : State → Prop}
variable {cc : ByteArray} {pc : Nat} {ls : Array Slot} {rest : List Value} {A : Nat → Prop} {E : EP} {B0 : Nat}
theorem va_S.grow {H0 H1 : Heap} (hS : va_S A H0 H locs) (z1 : H1.size = H.size + 1) (o1 : ∀ q, q < H.size → H1[q]? = H[q]?) : va_S A H0 H1 locs :=
  ⟨Nat.le_trans hS.1 (by omega), fun x h1 h2 => (o1 x (Nat.lt_of_lt_of_le h1 hS.1)).trans (hS.2.1 x h1 h2), hS.2.2⟩
theorem w_newa (hx : p.tables.exec = Jvm.exec) (hb : c.code = cc) {atype : ArrayType} {ty : FieldType} (hty : newarray.typeOf atype = ty) (hd0 : defaultValue ty = .int 0) (hprim : ∀ (U : State) (cA : ClassId), va_RA U cA ty = (U.vm.findClass ("[" ++ ty.toString) = some cA)) {t N : Nat} (ht : (tysE E)[t]? = some (E.2.1 t, ty)) {sh : Nat → Sh} (hsh : ∀ (b : Nat) (r : Nat → Int32), celE E b (sh 0) r = .inl (E.2.1 t, N, .inl r)) (harr : (Cond.arrayClass ty).before args s = true) (hE : EV E B0 s s.heap) (hS : va_S A s.heap H locs)
    {n : Int32} (hn : ¬ n < 0) (hN : n.toNatClampNeg = N) (hbytes : N * componentBytes ty ≤ 536870912) (hcells : cells + 1 ≤ R.cells) (hslots : slots + N ≤ R.slots) (hdg : decode cc pc = .ok (.newarray atype, 2))
    (kk : ∀ H1 : Heap, Blk E H.size sh 1 (fun _ _ => 0) H1 → H1.size = H.size + 1 → (∀ q : Nat, q < H.size → H1[q]? = H[q]?) → va_S A s.heap H1 locs → W p l e R s m args below meth c H1 locs (cells + 1) (slots + N) Q (F0 m (pc + 2) ls (.ref (H.size + 0) :: rest))) : W p l e R s m args below meth c H locs cells slots Q (F0 m pc ls (.int n :: rest)) := by
  subst hty
  refine va_newaK hx hb harr rfl hdg rfl hn hN hbytes hcells hslots rfl fun H1 cA e1 z1 o1 hAr hNm => ?_
  have hc : cA = E.2.1 t := by
    have h2 := (hE.1.2 t _ ht).2
    rw [hprim] at h2
    exact Option.some.inj (hNm.symm.trans h2)
  subst hc
  refine kk H1 ?_ z1 o1 (hS.grow z1 o1)
  intro k hk
  obtain rfl : k = 0 := by omega
  show va_at E.1 vwCl (H.size + 0, celE E H.size (sh 0) (fun _ => 0)) H1
  rw [hsh]
  show H1[H.size + 0]? = some (vp_cell _ _)
  rw [vp_cell_i, Nat.add_zero, e1, hd0]
theorem w_newo (hx : p.tables.exec = Jvm.exec) (hb : c.code = cc) {own C : String} {T : u_T} {Nf ci index : Nat} (hw : ∀ w ∈ WA, w.before args s = true) (hin : ∀ w ∈ u_ws C T Nf, w ∈ WA) (ty : Nat → FieldType) (hty : ∀ k, k < Nf → parseFieldDescriptor (T k).2.2.1 = some (ty k)) (hown : s.vm.findClass own = some m.cls) (hwd : ∀ w ∈ [Cond.classLink own index C, .instantiable C Nf, .initialized C], w ∈ WA) (hE : EV E B0 s s.heap) (hS : va_S A s.heap H locs)
    (hc : vwCl[ci]? = some (C, T, Nf)) {fs : List Value} (hfs : ∀ j, j < Nf → defaultValue (ty j) = vp_V fs j) (hcells : cells + 1 ≤ R.cells) (hslots : slots + Nf ≤ R.slots) (hdg : decode cc pc = .ok (.new index, 3))
    (kk : ∀ H1 : Heap, va_at E.1 vwCl (H.size + 0, .inr (ci, fs)) H1 → H1.size = H.size + 1 → (∀ q : Nat, q < H.size → H1[q]? = H[q]?) → va_S A s.heap H1 locs → W p l e R s m args below meth c H1 locs (cells + 1) (slots + Nf) Q (F0 m (pc + 3) ls (.ref (H.size + 0) :: rest))) : W p l e R s m args below meth c H locs cells slots Q (F0 m pc ls rest) := by
  have hKn := hE.1.1 ci _ hc
  refine W.newcK hx hb hown (hw _ (hwd _ (by simp))) (hw _ (hwd _ (by simp))) (hw _ (hwd _ (by simp))) rfl hdg hcells hslots hKn.2.1 rfl fun H1 kC hkC e1 z1 o1 => ?_
  exact kk H1 ⟨_, hc, (u_born ty hw hin hKn hkC e1 hty).to hfs⟩ z1 o1 (hS.grow z1 o1)
theorem w_newq (hx : p.tables.exec = Jvm.exec) (hb : c.code = cc) {own C : String} {index t : Nat} (hown : s.vm.findClass own = some m.cls) (hclink : (Cond.classLink own index C).before args s = true) (hover : (Cond.arrayOver (.object C)).before args s = true) (hE : EV E B0 s s.heap) (hS : va_S A s.heap H locs) (ht : (tysE E)[t]? = some (E.2.1 t, .object C))
    {n : Int32} {N : Nat} (hn : ¬ n < 0) (hN : n.toNatClampNeg = N) (hbytes : N * 4 ≤ 536870912) (hcells : cells + 1 ≤ R.cells) (hslots : slots + N ≤ R.slots) (hdg : decode cc pc = .ok (.anewarray index, 3))
    (kk : ∀ H1 : Heap, va_at E.1 vwCl (H.size + 0, .inl (E.2.1 t, N, .inr (.inr (.inr (.inr (fun _ => none)))))) H1 → H1.size = H.size + 1 → (∀ q : Nat, q < H.size → H1[q]? = H[q]?) → va_S A s.heap H1 locs → W p l e R s m args below meth c H1 locs (cells + 1) (slots + N) Q (F0 m (pc + 3) ls (.ref (H.size + 0) :: rest))) : W p l e R s m args below meth c H locs cells slots Q (F0 m pc ls (.int n :: rest)) := by
  subst hN
  refine W.anew hx hb hown hclink hover rfl hdg rfl hn hbytes hcells hslots fun cA kA comp f1 f2 f3 f4 => ?_
  generalize hH1 : H.push ({ cls := cA, slots := Array.replicate n.toNatClampNeg .null, vm := .none } : Cell) = H1
  have z1 : H1.size = H.size + 1 := by rw [← hH1, Array.size_push]
  have e1 : H1[H.size]? = some (arrV cA n.toNatClampNeg (fun _ => .null)) := by rw [← hH1, Array.getElem?_push_size, ← arrV_new]
  have o1 : ∀ q : Nat, q < H.size → H1[q]? = H[q]? := fun q hq => by rw [← hH1, Array.getElem?_push, if_neg (Nat.ne_of_lt hq)]
  obtain ⟨kA2, comp2, g1, g2, g3, g4⟩ := (hE.1.2 t _ ht).2
  have hc : cA = E.2.1 t := Option.some.inj (f1.symm.trans g4)
  subst hc
  refine kk H1 ?_ z1 o1 (hS.grow z1 o1)
  show H1[H.size + 0]? = some (vp_cell _ _)
  rw [vp_cell_q]
  exact e1
end MAKE
theorem Blk.one {E : EP} {b : Nat} {sh : Nat → Sh} {N N' : Mem} {H : Heap} (h : Blk E b sh 1 N H) (e : N 0 = N' 0) : Blk E b sh 1 N' H := by
  intro k hk
  obtain rfl : k = 0 := by omega
  rw [← e]
  exact h 0 (by omega)
theorem Blk.sh {E : EP} {b n : Nat} {sh sh' : Nat → Sh} {N : Mem} {H : Heap} (h : Blk E b sh n N H) (e : ∀ k, k < n → sh k = sh' k) : Blk E b sh' n N H := by
  intro k hk
  rw [← e k hk]
  exact h k hk
