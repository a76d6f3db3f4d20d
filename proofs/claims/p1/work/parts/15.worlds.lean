/-! ===== a row of nets (the history's), the output's builder: its object, and its bytes, which may move once ===== -/
def Fam (E : EP) (b : Nat) (Q : Nat → Mem) (H : Heap) : Prop := ∀ i, i < 8 → Blk E (b + 15 * i) netSh 15 (Q i) H
theorem Fam.ext {E : EP} {b : Nat} {Q : Nat → Mem} {H H1 : Heap} (h : Fam E b Q H) (hq : ∀ q : Nat, q < H.size → H1[q]? = H[q]?) : Fam E b Q H1 := fun i hi => (h i hi).ext hq
theorem Fam.off {E : EP} {b : Nat} {Q : Nat → Mem} {H H1 : Heap} {A1 : Nat → Prop} (h : Fam E b Q H) (hu : ∀ q : Nat, q < H.size → ¬ A1 q → H1[q]? = H[q]?) (hd : ∀ q : Nat, b ≤ q → q < b + 120 → ¬ A1 q) : Fam E b Q H1 :=
  fun i hi => (h i hi).off hu (fun q h1 h2 => hd q (by omega) (by omega))
def sbO (w : Nat) : Nat → Sh := fun _ => .inr (1, [(1, w), (0, 0), (0, 0), (0, 0)])
def sbB (cp : Nat) : Nat → Sh := fun _ => .inl (0, cp, 1, 0)
abbrev TX : Type := Mem × Nat
/-- t.1 0: the builder's slots (coder 1, maybeLatin1 2, count 3); t.1 1: its bytes; t.2: how many there is room for -/
def SBt (E : EP) (bs L0 : Nat) (t : TX) (H : Heap) : Prop := L0 ≤ H.size ∧ ∃ w, 1 ≤ w ∧ (w = 1 ∨ L0 ≤ bs + w) ∧ Blk E bs (sbO w) 1 (fun _ => t.1 0) H ∧ Blk E (bs + w) (sbB t.2) 1 (fun _ => t.1 1) H
def sbA (bs L0 : Nat) : Nat → Prop := fun q => q = bs ∨ q = bs + 1 ∨ L0 ≤ q
theorem sbA_w {bs L0 w : Nat} (h : w = 1 ∨ L0 ≤ bs + w) : sbA bs L0 (bs + w) := by
  rcases h with h | h
  · exact Or.inr (Or.inl (by omega))
  · exact Or.inr (Or.inr h)
theorem SBt.size {E : EP} {bs L0 : Nat} {t : TX} {H : Heap} (h : SBt E bs L0 t H) : L0 ≤ H.size := h.1
theorem SBt.off {E : EP} {bs L0 : Nat} {t : TX} {H H1 : Heap} {A1 : Nat → Prop} (h : SBt E bs L0 t H) (hz : H.size ≤ H1.size) (hu : ∀ q : Nat, q < H.size → ¬ A1 q → H1[q]? = H[q]?) (hd : ∀ q : Nat, sbA bs L0 q → ¬ A1 q) : SBt E bs L0 t H1 := by
  obtain ⟨h1, w, h2, h3, h4, h5⟩ := h
  refine ⟨Nat.le_trans h1 hz, w, h2, h3, h4.off hu (fun q q1 q2 => hd q (Or.inl (by omega))), h5.off hu (fun q q1 q2 => hd q ?_)⟩
  have e : q = bs + w := by omega
  subst e
  exact sbA_w h3
theorem SBt.ext {E : EP} {bs L0 : Nat} {t : TX} {H H1 : Heap} (h : SBt E bs L0 t H) (hq : ∀ q : Nat, q < H.size → H1[q]? = H[q]?) : SBt E bs L0 t H1 := by
  obtain ⟨h1, w, h2, h3, h4, h5⟩ := h
  refine ⟨?_, w, h2, h3, h4.ext hq, h5.ext hq⟩
  by_cases z : L0 = 0
  · omega
  · have e := hq (L0 - 1) (by omega)
    have e2 : H[L0 - 1]? = some H[L0 - 1] := Array.getElem?_eq_getElem (by omega)
    rw [e2] at e
    have := (Array.getElem?_eq_some_iff.mp e).1
    omega
theorem SBt.recv {E : EP} {B0 bs L0 : Nat} {s : State} {t : TX} {H : Heap} (hE : EV E B0 s s.heap) (h : SBt E bs L0 t H) : ∃ cellB : Cell, H[bs + 0]? = some cellB ∧ cellB.vm.isStatics = false ∧ s.vm.findClass "java/lang/StringBuilder" = some cellB.cls := by
  obtain ⟨h1, w, h2, h3, h4, h5⟩ := h
  exact w_recv (k := 0) (ci := 1) hE h4 (by decide) rfl rfl
theorem iv_sb_dis {b n bs L0 : Nat} (h1 : b + n ≤ bs ∨ bs + 2 ≤ b) (h2 : b + n ≤ L0) : ∀ q, b ≤ q → q < b + n → ¬ sbA bs L0 q := by
  intro q q1 q2 q3
  rcases q3 with h | h | h <;> omega
theorem sb_iv_dis {b n bs L0 : Nat} (h1 : b + n ≤ bs ∨ bs + 2 ≤ b) (h2 : b + n ≤ L0) : ∀ q, sbA bs L0 q → ¬ iv b n q := by
  intro q q3 q1
  obtain ⟨q1, q2⟩ := q1
  rcases q3 with h | h | h <;> omega
theorem or_dis_s {bs L0 : Nat} {A A' : Nat → Prop} (h1 : ∀ q, sbA bs L0 q → ¬ A q) (h2 : ∀ q, sbA bs L0 q → ¬ A' q) : ∀ q, sbA bs L0 q → ¬ orA A A' q := fun q x h => h.elim (h1 q x) (h2 q x)
theorem sb_ge {bs L0 B0 : Nat} (h1 : B0 ≤ bs) (h2 : B0 ≤ L0) : ∀ q, sbA bs L0 q → B0 ≤ q := by
  intro q h
  rcases h with h | h | h <;> omega
