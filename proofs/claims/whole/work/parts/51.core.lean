/-! ===== the core relation of the class's net and the reference's row ===== -/
def rlo (f : Nat) : Nat := if f = 0 then 65 else if f = 4 then 1 else 0
def rhi (f : Nat) : Nat := if f = 0 then 90 else if f = 1 then 9 else if f = 5 then 9 else if f = 6 then 2 else 99
def RG (f : Nat) (x : Int32) : Prop := ∃ a, rlo f ≤ a ∧ a ≤ rhi f ∧ x = nI a
/-- the minutes that a turn has lasted, as the reference keeps them -/
def ls (M : Mem) (i : Nat) : Int32 := M 1 (8 + 12 * i + 8)
/-- who waits has a speaker -/
def WS (v : Nat → Nat → Int32) (n : Nat) : Prop := ∀ i, i < n → v i 6 = 2 → ∃ s, s < n ∧ v s 6 = 1 ∧ v s 5 = v i 5
def SV (v : Nat → Nat → Int32) (n : Nat) : Prop := (∀ i, i < n → ∀ f, f < 7 → RG f (v i f)) ∧ OS v n ∧ WS v n
def HD (N M : Mem) (n : Nat) : Prop := n ≤ 8 ∧ N 0 1 = nI n ∧ M 1 0 = nI n
def VW (N M : Mem) (n : Nat) : Prop := ∀ i, i < n → ∀ f, f ≤ 9 → vN N i f = vM M i f
def TL (N M : Mem) : Prop := N 0 5 = M 1 1 ∧ ∃ lim, 1 ≤ lim ∧ lim ≤ 60 ∧ N 0 6 = nI lim ∧ M 1 2 = nI lim
def CC (N : Mem) : Prop := ∀ i, i < 8 → isC (N (2 + i) 0) = true
def LSb (M : Mem) (n b : Nat) : Prop := ∀ i, i < n → vM M i 6 = 1 → ∃ l, l ≤ b ∧ ls M i = nI l ∧ M 1 1 - vM M i 7 = nI l
def LQ (N : Mem) (L : Nat → Nat) (w : Nat) : Prop := w ≤ 8 ∧ N 0 3 = nI w ∧ ∀ j, j < w → N 10 j = nI (L j)
def TB (M : Mem) (L : Nat → Nat) (w B : Nat) : Prop := ∃ k, k ≤ B ∧ M 1 3 = nI k ∧ ∀ j, j < w → tk M (L j) ≤ nI k
def LG (N M : Mem) : Prop := ∃ c, c ≤ 16 ∧ N 11 3 = nI c ∧ M 1 4 = nI c ∧ ∀ e, e < c → N 12 e = M 1 (108 + 3 * e) ∧ N 13 e = M 1 (108 + 3 * e + 1) ∧ N 14 e = M 1 (108 + 3 * e + 2)
def RC (N M : Mem) (b B n w : Nat) (L : Nat → Nat) : Prop := HD N M n ∧ VW N M n ∧ TL N M ∧ CC N ∧ SV (vM M) n ∧ LSb M n b ∧ LQ N L w ∧ LT M L w n ∧ TB M L w B ∧ LG N M
theorem RG_lt {f : Nat} {x : Int32} (h : RG f x) : ∃ a, a ≤ 99 ∧ x = nI a := by
  obtain ⟨a, h1, h2, h3⟩ := h
  refine ⟨a, ?_, h3⟩
  unfold rhi at h2
  repeat' split at h2
  all_goals omega
theorem RG_6 {x : Int32} (h : RG 6 x) : x = 0 ∨ x = 1 ∨ x = 2 := by
  obtain ⟨a, _, h2, h3⟩ := h
  have h2 : a ≤ 2 := h2
  subst h3
  rcases (show a = 0 ∨ a = 1 ∨ a = 2 by omega) with e | e | e <;> subst e
  · exact Or.inl rfl
  · exact Or.inr (Or.inl rfl)
  · exact Or.inr (Or.inr rfl)
theorem RG_60 : RG 6 0 := ⟨0, by decide, by decide, rfl⟩
theorem RG_61 : RG 6 1 := ⟨1, by decide, by decide, rfl⟩
theorem RG_62 : RG 6 2 := ⟨2, by decide, by decide, rfl⟩
theorem RC.hn {N M : Mem} {b B n w : Nat} {L : Nat → Nat} (h : RC N M b B n w L) : n ≤ 8 := h.1.1
theorem RC.vw {N M : Mem} {b B n w : Nat} {L : Nat → Nat} (h : RC N M b B n w L) : VW N M n := h.2.1
theorem RC.mv {N M : Mem} {b B n w : Nat} {L : Nat → Nat} (h : RC N M b B n w L) : MV M n := ⟨h.1.1, h.1.2.2⟩
theorem RC.rg {N M : Mem} {b B n w : Nat} {L : Nat → Nat} (h : RC N M b B n w L) {i : Nat} (hi : i < n) {f : Nat} (hf : f < 7) : RG f (vM M i f) := h.2.2.2.2.1.1 i hi f hf
theorem RC.os {N M : Mem} {b B n w : Nat} {L : Nat → Nat} (h : RC N M b B n w L) : OS (vM M) n := h.2.2.2.2.1.2.1
theorem RC.ws {N M : Mem} {b B n w : Nat} {L : Nat → Nat} (h : RC N M b B n w L) : WS (vM M) n := h.2.2.2.2.1.2.2
theorem RC.lt {N M : Mem} {b B n w : Nat} {L : Nat → Nat} (h : RC N M b B n w L) : LT M L w n := h.2.2.2.2.2.2.2.1
theorem RC.lq {N M : Mem} {b B n w : Nat} {L : Nat → Nat} (h : RC N M b B n w L) : LQ N L w := h.2.2.2.2.2.2.1
theorem RC.lss {N M : Mem} {b B n w : Nat} {L : Nat → Nat} (h : RC N M b B n w L) : LSb M n b := h.2.2.2.2.2.1
theorem RC.tl {N M : Mem} {b B n w : Nat} {L : Nat → Nat} (h : RC N M b B n w L) : TL N M := h.2.2.1
theorem RC.cc {N M : Mem} {b B n w : Nat} {L : Nat → Nat} (h : RC N M b B n w L) : CC N := h.2.2.2.1
theorem RC.tb {N M : Mem} {b B n w : Nat} {L : Nat → Nat} (h : RC N M b B n w L) : TB M L w B := h.2.2.2.2.2.2.2.2.1
theorem RC.lg {N M : Mem} {b B n w : Nat} {L : Nat → Nat} (h : RC N M b B n w L) : LG N M := h.2.2.2.2.2.2.2.2.2
theorem RC.lv {N M : Mem} {b B n w : Nat} {L : Nat → Nat} (h : RC N M b B n w L) : LV N L w n := ⟨h.lq.1, h.lq.2.1, h.lq.2.2, h.lt.1⟩
theorem inb_012 {x : Int32} (h : RG 6 x) : inb x 3 = true := by
  rcases RG_6 h with e | e | e <;> subst e <;> decide
theorem RC.nv {N M : Mem} {b B n w : Nat} {L : Nat → Nat} (h : RC N M b B n w L) : NV N n := by
  refine ⟨h.1.1, h.1.2.1, fun i hi => ?_⟩
  have e : N (2 + i) 6 = vM M i 6 := h.vw i hi 6 (by decide)
  rw [e]
  exact inb_012 (h.rg hi (by decide))
theorem RC.mono {N M : Mem} {b B n w : Nat} {L : Nat → Nat} (h : RC N M b B n w L) {b' B' : Nat} (hb : b ≤ b') (hB : B ≤ B') : RC N M b' B' n w L := by
  obtain ⟨a1, a2, a3, a4, a5, a6, a7, a8, ⟨k, h1, h2, h3⟩, a10⟩ := h
  refine ⟨a1, a2, a3, a4, a5, fun i hi hm => ?_, a7, a8, ⟨k, by omega, h2, h3⟩, a10⟩
  obtain ⟨l, g1, g2, g3⟩ := a6 i hi hm
  exact ⟨l, by omega, g2, g3⟩
/-- the reference's side is row 1 alone, below 160 -/
theorem RC.ref {N M M' : Mem} {b B n w : Nat} {L : Nat → Nat} (h : RC N M b B n w L) (e : ∀ f, f < 160 → M' 1 f = M 1 f) : RC N M' b B n w L := by
  have hn := h.hn
  have ev : ∀ i f, i < n → f ≤ 9 → vM M' i f = vM M i f := fun i f hi hf => by
    unfold vM
    rw [e _ (by split <;> omega)]
  have et : ∀ i, i < n → tk M' i = tk M i := fun i hi => e _ (by omega)
  have el : ∀ i, i < n → ls M' i = ls M i := fun i hi => e _ (by omega)
  obtain ⟨⟨a1, a1', a1''⟩, a2, ⟨a3, lim, a31, a32, a33, a34⟩, a4, ⟨a51, a52, a53⟩, a6, a7, ⟨a81, a82, a83⟩, ⟨k, h1, h2, h3⟩, ⟨c, c1, c2, c3, c4⟩⟩ := h
  refine ⟨⟨a1, a1', by rw [e _ (by decide)]; exact a1''⟩, fun i hi f hf => by rw [ev i f hi hf]; exact a2 i hi f hf, ⟨by rw [e _ (by decide)]; exact a3, lim, a31, a32, a33, by rw [e _ (by decide)]; exact a34⟩, a4, ⟨fun i hi f hf => ?_, fun i j hi hj h1 h2 h3 => ?_, fun i hi hm => ?_⟩, fun i hi hm => ?_, a7, ⟨a81, fun i hi => ?_, fun i j hij hj => ?_⟩, ⟨k, h1, by rw [e _ (by decide)]; exact h2, fun j hj => ?_⟩, ⟨c, c1, c2, by rw [e _ (by decide)]; exact c3, fun x hx => ?_⟩⟩
  · rw [ev i f hi (by omega)]; exact a51 i hi f hf
  · rw [ev i 6 hi (by decide)] at h1
    rw [ev j 6 hj (by decide)] at h2
    rw [ev i 5 hi (by decide), ev j 5 hj (by decide)] at h3
    exact a52 i j hi hj h1 h2 h3
  · rw [ev i 6 hi (by decide)] at hm
    obtain ⟨s, s1, s2, s3⟩ := a53 i hi hm
    exact ⟨s, s1, by rw [ev s 6 s1 (by decide)]; exact s2, by rw [ev s 5 s1 (by decide), ev i 5 hi (by decide)]; exact s3⟩
  · rw [ev i 6 hi (by decide)] at hm
    obtain ⟨l, l1, l2, l3⟩ := a6 i hi hm
    exact ⟨l, l1, by rw [el i hi]; exact l2, by rw [e _ (by decide), ev i 7 hi (by decide)]; exact l3⟩
  · rw [ev i 6 hi (by decide)]; exact a82 i hi
  · rw [et _ (a81.1 i (by omega)), et _ (a81.1 j hj)]
    exact a83 i j hij hj
  · rw [et _ (a81.1 j hj)]; exact h3 j hj
  · rw [e _ (by omega), e _ (by omega), e _ (by omega)]
    exact c4 x hx
/-- .. the class's side is what a copy copies -/
theorem RC.net {N N' M : Mem} {b B n w : Nat} {L : Nat → Nat} (h : RC N M b B n w L) (e : sameNet N' N) : RC N' M b B n w L := by
  have hn := h.hn
  obtain ⟨e1, e2, e3, e4, e5, e6, e7, e8⟩ := e
  obtain ⟨⟨a1, a1', a1''⟩, a2, ⟨a3, lim, a31, a32, a33, a34⟩, a4, a5, a6, ⟨a71, a72, a73⟩, a8, a9, ⟨c, c1, c2, c3, c4⟩⟩ := h
  refine ⟨⟨a1, by rw [e1]; exact a1', a1''⟩, fun i hi f hf => ?_, ⟨by rw [e3]; exact a3, lim, a31, a32, by rw [e4]; exact a33, a34⟩, fun i hi => by rw [e6 i hi 0 (by decide)]; exact a4 i hi, a5, a6, ⟨a71, by rw [e2]; exact a72, fun j hj => by rw [e7 j (by omega)]; exact a73 j hj⟩, a8, a9, ⟨c, c1, by rw [e5]; exact c2, c3, fun x hx => ?_⟩⟩
  · show N' (2 + i) f = _
    rw [e6 i (by omega) f (by omega)]
    exact a2 i hi f hf
  · obtain ⟨g1, g2, g3⟩ := e8 x (by omega)
    rw [g1, g2, g3]
    exact c4 x hx
/-- .. with the parameters closed -/
def RCx (N M : Mem) (b B : Nat) : Prop := ∃ n w L, RC N M b B n w L
/-- a core call writes the reference's row 1 alone -/
def Fr1 (M M' : Mem) : Prop := ∀ k, k ≠ 1 → M' k = M k
theorem Fr1.rfl' (M : Mem) : Fr1 M M := fun _ _ => rfl
theorem Fr1.trans {M M1 M2 : Mem} (h : Fr1 M M1) (g : Fr1 M1 M2) : Fr1 M M2 := fun k hk => (g k hk).trans (h k hk)
theorem Fr1.up (M : Mem) (f : Nat) (x : Int32) : Fr1 M (up2 M 1 f x) := fun k hk => up2_ne M f x hk
theorem spkP_congr {v w : Nat → Nat → Int32} {n : Nat} (h : ∀ i f, i < n → f ≤ 6 → v i f = w i f) (c : Int32) {i : Nat} (hi : i < n) : spkP v c i = spkP w c i := by
  unfold spkP
  rw [h i 5 hi (by decide), h i 6 hi (by decide)]
theorem RC.v6 {N M : Mem} {b B n w : Nat} {L : Nat → Nat} (h : RC N M b B n w L) : ∀ i f, i < n → f ≤ 6 → vN N i f = vM M i f := fun i f hi hf => h.vw i hi f (by omega)
theorem RC.spk {N M : Mem} {b B n w : Nat} {L : Nat → Nat} (h : RC N M b B n w L) (c : Int32) : first (spkP (vN N) c) n = first (spkP (vM M) c) n := first_congr (fun i hi => spkP_congr h.v6 c hi)
theorem RC.chp {N M : Mem} {b B n w : Nat} {L : Nat → Nat} (h : RC N M b B n w L) (c : Int32) {j : Nat} (hj : j < w) : chP (vN N) L c j = chP (vM M) L c j := by
  unfold chP
  rw [h.vw _ (h.lt.1.1 j hj) 5 (by decide)]
/-- reference: one slot set -/
theorem r_set (M : Mem) {i o : Nat} (hi : i < 8) (ho : o < 12) (x : Int32) : fX12_set M (nI i) (nI o) x = some (up2 M 1 (8 + 12 * i + o) x) := by
  unfold fX12_set
  have e : ((8 : Int32) + ((12 : Int32) * nI i)) + nI o = nI (8 + 12 * i + o) := by
    rw [show (12 : Int32) = nI 12 from rfl, show (8 : Int32) = nI 8 from rfl, pk_mul, nI_add, nI_add]
  rw [e, gd_t (inb_nI (by omega) (by decide)), nI_clamp (by omega)]
theorem vM_up (M : Mem) (p : Nat) (x : Int32) (i f : Nat) : vM (up2 M 1 p x) i f = if 8 + 12 * i + (if f ≤ 7 then f else f + 1) = p then x else vM M i f := by
  unfold vM
  rw [up2_at]
  simp
theorem vN_up (N : Mem) (k g : Nat) (x : Int32) (i f : Nat) : vN (up2 N k g x) i f = if 2 + i = k ∧ f = g then x else vN N i f := by
  unfold vN
  rw [up2_at]
def vset (v : Nat → Nat → Int32) (i f : Nat) (x : Int32) : Nat → Nat → Int32 := fun i' f' => if i' = i ∧ f' = f then x else v i' f'
theorem vset_same (v : Nat → Nat → Int32) (i f : Nat) (x : Int32) : vset v i f x i f = x := if_pos ⟨rfl, rfl⟩
theorem vset_i (v : Nat → Nat → Int32) {i f i' f' : Nat} (x : Int32) (h : i' ≠ i) : vset v i f x i' f' = v i' f' := if_neg (fun z => h z.1)
theorem vset_f (v : Nat → Nat → Int32) {i f i' f' : Nat} (x : Int32) (h : f' ≠ f) : vset v i f x i' f' = v i' f' := if_neg (fun z => h z.2)
theorem vN_set (N : Mem) (i g : Nat) (x : Int32) (i' f' : Nat) : vN (up2 N (2 + i) g x) i' f' = vset (vN N) i g x i' f' := by
  rw [vN_up]
  unfold vset
  by_cases h : i' = i ∧ f' = g
  · rw [if_pos h, if_pos ⟨by omega, h.2⟩]
  · rw [if_neg h, if_neg (fun z => h ⟨by omega, z.2⟩)]
theorem vM_set (M : Mem) {i g : Nat} (hg : g ≤ 7) (x : Int32) (i' : Nat) {f' : Nat} (hf : f' ≤ 9) : vM (up2 M 1 (8 + 12 * i + g) x) i' f' = vset (vM M) i g x i' f' := by
  rw [vM_up]
  unfold vset
  by_cases h : i' = i ∧ f' = g
  · rw [if_pos h, if_pos (by obtain ⟨h1, h2⟩ := h; subst h1; subst h2; rw [if_pos hg])]
  · rw [if_neg h, if_neg (fun z => h (by split at z <;> omega))]
/-- one field of a station set: power, place, or the channel of one who is idle -/
theorem RC_set {N M : Mem} {b B n w : Nat} {L : Nat → Nat} (h : RC N M b B n w L) {i f : Nat} (hi : i < n) (hf : 2 ≤ f ∧ f ≤ 5) {x : Int32} (hx : RG f x) (h5 : f = 5 → vM M i 6 = 0) : RC (up2 N (2 + i) f x) (up2 M 1 (8 + 12 * i + f) x) b B n w L := by
  have hn := h.hn
  have ev : ∀ i' f', f' ≤ 9 → vM (up2 M 1 (8 + 12 * i + f) x) i' f' = vset (vM M) i f x i' f' := fun i' f' hf' => vM_set M (by omega) x i' hf'
  have e6 : ∀ i', vM (up2 M 1 (8 + 12 * i + f) x) i' 6 = vM M i' 6 := fun i' => by rw [ev i' 6 (by decide), vset_f _ _ (by omega)]
  have e7 : ∀ i', vM (up2 M 1 (8 + 12 * i + f) x) i' 7 = vM M i' 7 := fun i' => by rw [ev i' 7 (by decide), vset_f _ _ (by omega)]
  have e5 : ∀ i', vM M i' 6 ≠ 0 → vM (up2 M 1 (8 + 12 * i + f) x) i' 5 = vM M i' 5 := fun i' h0 => by
    rw [ev i' 5 (by decide)]
    by_cases g : i' = i ∧ 5 = f
    · obtain ⟨g1, g2⟩ := g
      subst g1
      exact absurd (h5 g2.symm) h0
    · exact if_neg g
  have es : ∀ p, (p < 8 ∨ 104 ≤ p) → up2 M 1 (8 + 12 * i + f) x 1 p = M 1 p := fun p hp => by rw [up2_at, if_neg (by omega)]
  have et : ∀ i', tk (up2 M 1 (8 + 12 * i + f) x) i' = tk M i' := fun i' => by unfold tk; rw [up2_at, if_neg (by omega)]
  have el : ∀ i', ls (up2 M 1 (8 + 12 * i + f) x) i' = ls M i' := fun i' => by unfold ls; rw [up2_at, if_neg (by omega)]
  have k0 : ∀ k g, ¬ (2 ≤ k ∧ k < 10) → up2 N (2 + i) f x k g = N k g := fun k g hk => by rw [up2_at, if_neg (by omega)]
  obtain ⟨⟨a1, a1', a1''⟩, a2, ⟨a3, lim, a31, a32, a33, a34⟩, a4, ⟨a51, a52, a53⟩, a6, ⟨a71, a72, a73⟩, ⟨a81, a82, a83⟩, ⟨k, h1, h2, h3⟩, ⟨c, c1, c2, c3, c4⟩⟩ := h
  refine ⟨⟨a1, by rw [k0 _ _ (by omega)]; exact a1', by rw [es _ (by omega)]; exact a1''⟩, fun i' hi' f' hf' => ?_, ⟨by rw [k0 _ _ (by omega), es _ (by omega)]; exact a3, lim, a31, a32, by rw [k0 _ _ (by omega)]; exact a33, by rw [es _ (by omega)]; exact a34⟩, fun i' hi' => ?_, ⟨fun i' hi' f' hf' => ?_, fun i' j' hi' hj' q1 q2 q3 => ?_, fun i' hi' hm => ?_⟩, fun i' hi' hm => ?_, ⟨a71, by rw [k0 _ _ (by omega)]; exact a72, fun j hj => by rw [k0 _ _ (by omega)]; exact a73 j hj⟩, ⟨a81, fun i' hi' => by rw [e6]; exact a82 i' hi', fun i' j' hij hj => by rw [et, et]; exact a83 i' j' hij hj⟩, ⟨k, h1, by rw [es _ (by omega)]; exact h2, fun j hj => by rw [et]; exact h3 j hj⟩, ⟨c, c1, by rw [k0 _ _ (by omega)]; exact c2, by rw [es _ (by omega)]; exact c3, fun y hy => ?_⟩⟩
  · rw [vN_set, ev i' f' hf']
    unfold vset
    by_cases g : i' = i ∧ f' = f
    · rw [if_pos g, if_pos g]
    · rw [if_neg g, if_neg g]; exact a2 i' hi' f' hf'
  · rw [up2_at, if_neg (by omega)]; exact a4 i' hi'
  · rw [ev i' f' (by omega)]
    unfold vset
    by_cases g : i' = i ∧ f' = f
    · rw [if_pos g, g.2]; exact hx
    · rw [if_neg g]; exact a51 i' hi' f' hf'
  · rw [e6] at q1 q2
    rw [e5 i' (by rw [q1]; decide), e5 j' (by rw [q2]; decide)] at q3
    exact a52 i' j' hi' hj' q1 q2 q3
  · rw [e6] at hm
    obtain ⟨s, s1, s2, s3⟩ := a53 i' hi' hm
    exact ⟨s, s1, by rw [e6]; exact s2, by rw [e5 s (by rw [s2]; decide), e5 i' (by rw [hm]; decide)]; exact s3⟩
  · rw [e6] at hm
    obtain ⟨l, l1, l2, l3⟩ := a6 i' hi' hm
    exact ⟨l, l1, by rw [el]; exact l2, by rw [es _ (by omega), e7]; exact l3⟩
  · rw [k0 _ _ (by omega), k0 _ _ (by omega), k0 _ _ (by omega), es _ (by omega), es _ (by omega), es _ (by omega)]
    exact c4 y hy
