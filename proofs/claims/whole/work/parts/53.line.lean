/-! ===== core calls: a request, a place in the line given up ===== -/
theorem RC_mk {N M N' M' : Mem} {b B n w : Nat} {L : Nat → Nat} (h : RC N M b B n w L) {b' B' w' : Nat} {L' : Nat → Nat}
    (kn : N' 0 1 = N 0 1) (k5 : N' 0 5 = N 0 5) (k6 : N' 0 6 = N 0 6) (m0 : M' 1 0 = M 1 0) (m1 : M' 1 1 = M 1 1) (m2 : M' 1 2 = M 1 2)
    (kc : ∀ i, i < 8 → N' (2 + i) 0 = N (2 + i) 0) (ev : VW N' M' n) (ef : ∀ i f, i < n → f < 6 → vM M' i f = vM M i f) (e6 : ∀ i, i < n → RG 6 (vM M' i 6))
    (os : OS (vM M') n) (ws : WS (vM M') n) (hl : LSb M' n b') (lq : LQ N' L' w') (lt : LT M' L' w' n) (tb : TB M' L' w' B') (lg : LG N' M') : RC N' M' b' B' n w' L' := by
  obtain ⟨⟨a1, a1', a1''⟩, a2, ⟨a3, lim, a31, a32, a33, a34⟩, a4, ⟨a51, a52, a53⟩, a6, a7, a8, a9, a10⟩ := h
  refine ⟨⟨a1, kn.trans a1', m0.trans a1''⟩, ev, ⟨by rw [k5, m1]; exact a3, lim, a31, a32, k6.trans a33, m2.trans a34⟩, fun i hi => by rw [kc i hi]; exact a4 i hi, ⟨fun i hi f hf => ?_, os, ws⟩, hl, lq, lt, tb, lg⟩
  by_cases c : f = 6
  · subst c; exact e6 i hi
  · rw [ef i f hi (by omega)]; exact a51 i hi f hf
theorem LG_keep {N M N' M' : Mem} (h : LG N M) (k3 : N' 11 3 = N 11 3) (m4 : M' 1 4 = M 1 4) (k : ∀ e, N' 12 e = N 12 e ∧ N' 13 e = N 13 e ∧ N' 14 e = N 14 e) (m : ∀ f, 108 ≤ f → M' 1 f = M 1 f) : LG N' M' := by
  obtain ⟨c, c1, c2, c3, c4⟩ := h
  refine ⟨c, c1, k3.trans c2, m4.trans c3, fun e he => ?_⟩
  rw [(k e).1, (k e).2.1, (k e).2.2, m _ (by omega), m _ (by omega), m _ (by omega)]
  exact c4 e he
/-- the line's length, both sides -/
theorem line_eq {N M : Mem} {b B n w : Nat} {L : Nat → Nat} (h : RC N M b B n w L) (c : Int32) : fX6_waitingOn N c = fX12_lineOf M c := by
  rw [c_waitingOn h.hn h.lv, r_lineOf h.mv]
  have e : cnt (fun j => decide (vN N (L j) 5 = c)) w = cnt (fun j => (fun i => decide (vM M i 5 = c)) (L j)) w := cnt_congr (fun j hj => by rw [h.vw _ (h.lt.1.1 j hj) 5 (by decide)])
  rw [e, cnt_line (fun i => decide (vM M i 5 = c)) w h.lt.1]
  congr 2
  refine cnt_congr (fun i hi => ?_)
  have q := h.lt.2.1 i hi
  unfold waitP
  cases hb : inL L w i with
  | true =>
    rw [Bool.true_and, Bool.eq_iff_iff, decide_eq_true_iff, decide_eq_true_iff]
    exact ⟨fun z => ⟨q.mp hb, z⟩, fun z => z.2⟩
  | false =>
    have q2 : ¬ vM M i 6 = 2 := fun z => by rw [q.mpr z] at hb; cases hb
    rw [Bool.false_and, decide_eq_false (fun z => q2 z.1)]
theorem line_lt {L : Nat → Nat} {w n : Nat} (h : LI L w n) {i : Nat} (hi : i < n) (hx : inL L w i = false) : w < n := by
  have e := cnt_line (fun _ => true) w h
  have e1 : ∀ m, cnt (fun _ => true) m = m := by
    intro m
    induction m with
    | zero => rfl
    | succ m ih => show cnt (fun _ => true) m + 1 = m + 1; rw [ih]
  have e2 := cnt_lt (p := fun i => inL L w i && true) (q := fun _ => true) (x := i) n (fun _ _ _ => rfl) hi (by rw [hx]; rfl) rfl
  rw [e1] at e e2
  omega
theorem i32_trans {a b c : Int32} (h : a ≤ b) (g : b < c) : a < c := by
  rw [Int32.lt_iff_toInt_lt] at g ⊢
  rw [Int32.le_iff_toInt_le] at h
  omega
theorem i32_le_trans {a b c : Int32} (h : a ≤ b) (g : b ≤ c) : a ≤ c := by
  rw [Int32.le_iff_toInt_le] at h g ⊢
  omega
theorem i32_le_of_lt {a b : Int32} (h : a < b) : a ≤ b := by
  rw [Int32.lt_iff_toInt_lt] at h
  rw [Int32.le_iff_toInt_le]
  omega
/-- one more at the line's end -/
def addL (L : Nat → Nat) (w i : Nat) : Nat → Nat := fun j => if j = w then i else L j
theorem addL_w (L : Nat → Nat) (w i : Nat) : addL L w i w = i := if_pos rfl
theorem addL_ne (L : Nat → Nat) {w i j : Nat} (h : j ≠ w) : addL L w i j = L j := if_neg h
theorem addL_LI {L : Nat → Nat} {w n i : Nat} (h : LI L w n) (hi : i < n) (hx : inL L w i = false) : LI (addL L w i) (w + 1) n := by
  have hx' : ∀ j, j < w → L j ≠ i := fun j hj z => by
    have := (decide_eq_false_iff_not.mp hx) ⟨j, hj, z⟩
    exact this
  refine ⟨fun j hj => ?_, fun a c ha hc e => ?_⟩
  · by_cases q : j = w
    · rw [q, addL_w]; exact hi
    · rw [addL_ne L q]; exact h.1 j (by omega)
  · by_cases qa : a = w
    · by_cases qc : c = w
      · omega
      · rw [qa, addL_w, addL_ne L qc] at e
        exact absurd e.symm (hx' c (by omega))
    · by_cases qc : c = w
      · rw [qc, addL_w, addL_ne L qa] at e
        exact absurd e (hx' a (by omega))
      · rw [addL_ne L qa, addL_ne L qc] at e
        exact h.2 a c (by omega) (by omega) e
theorem addL_inL (L : Nat → Nat) (w i k : Nat) : inL (addL L w i) (w + 1) k = true ↔ (inL L w k = true ∨ k = i) := by
  unfold inL
  rw [decide_eq_true_iff, decide_eq_true_iff]
  constructor
  · rintro ⟨j, hj, e⟩
    by_cases q : j = w
    · rw [q, addL_w] at e; exact Or.inr e.symm
    · rw [addL_ne L q] at e; exact Or.inl ⟨j, by omega, e⟩
  · rintro (⟨j, hj, e⟩ | e)
    · exact ⟨j, by omega, by rw [addL_ne L (by omega)]; exact e⟩
    · exact ⟨w, by omega, by rw [addL_w]; exact e.symm⟩
theorem nI_ne1 {j : Nat} (h : j < 2 ^ 31) : nI j ≠ -1 := fun e => by
  have := congrArg Int32.toInt e
  rw [nI_toInt h, show (-1 : Int32).toInt = -1 by decide] at this
  omega
theorem first_none {p : Nat → Bool} {n : Nat} (hn : n ≤ 8) (h : first p n = -1) : ∀ j, j < n → p j = false := by
  rcases first_spec p n with ⟨_, h2⟩ | ⟨j, hj, _, _, e⟩
  · exact h2
  · exact absurd (e.symm.trans h) (nI_ne1 (by omega))
theorem neg1_lt : (-1 : Int32) < 0 := by decide
theorem c_beginTurn (N : Mem) {i : Nat} (hi : i < 8) : fX6_beginTurn N (nI i) = some (up2 (up2 N (2 + i) 6 1) (2 + i) 7 (N 0 5)) := by
  have e : (nI i).toNatClampNeg = i := nI_clamp (by omega)
  unfold fX6_beginTurn
  rw [gd_t (inb_nI hi (by decide)), gd_t (inb_nI hi (by decide)), e, Nat.one_mul]
  rw [show up2 N (2 + i) 6 1 0 5 = N 0 5 by rw [up2_at, if_neg (by omega)]]
theorem r_speaks (M : Mem) {i : Nat} (hi : i < 8) : fX12_speaks M (nI i) = some (up2 (up2 (up2 M 1 (8 + 12 * i + 6) 1) 1 (8 + 12 * i + 7) (M 1 1)) 1 (8 + 12 * i + 8) 0) := by
  have s6 : ∀ (M : Mem) (v : Int32), fX12_set M (nI i) 6 v = some (up2 M 1 (8 + 12 * i + 6) v) := fun M v => r_set M (o := 6) hi (by decide) v
  have s7 : ∀ (M : Mem) (v : Int32), fX12_set M (nI i) 7 v = some (up2 M 1 (8 + 12 * i + 7) v) := fun M v => r_set M (o := 7) hi (by decide) v
  have s8 : ∀ (M : Mem) (v : Int32), fX12_set M (nI i) 8 v = some (up2 M 1 (8 + 12 * i + 8) v) := fun M v => r_set M (o := 8) hi (by decide) v
  unfold fX12_speaks
  simp only [s6, s7, s8, Option.bind_some]
  rw [show up2 M 1 (8 + 12 * i + 6) 1 1 1 = M 1 1 by rw [up2_at, if_neg (by omega)]]
/-- one who is idle, on a channel where nobody speaks, begins to speak -/
theorem RC_speak {N M : Mem} {b B n w : Nat} {L : Nat → Nat} (h : RC N M b B n w L) {i : Nat} (hi : i < n) (h0 : vM M i 6 = 0) (hf : ∀ j, j < n → spkP (vM M) (vM M i 5) j = false) : RC (up2 (up2 N (2 + i) 6 1) (2 + i) 7 (N 0 5)) (up2 (up2 (up2 M 1 (8 + 12 * i + 6) 1) 1 (8 + 12 * i + 7) (M 1 1)) 1 (8 + 12 * i + 8) 0) b B n w L := by
  have hn := h.hn
  have ht := h.tl.1
  generalize hN : up2 (up2 N (2 + i) 6 1) (2 + i) 7 (N 0 5) = N'
  generalize hM : up2 (up2 (up2 M 1 (8 + 12 * i + 6) 1) 1 (8 + 12 * i + 7) (M 1 1)) 1 (8 + 12 * i + 8) 0 = M'
  have k0 : ∀ k g, ¬ (2 ≤ k ∧ k < 10) → N' k g = N k g := fun k g hk => by rw [← hN, up2_at, if_neg (by omega), up2_at, if_neg (by omega)]
  have es : ∀ p, (p < 8 ∨ 104 ≤ p) → M' 1 p = M 1 p := fun p hp => by rw [← hM, up2_at, if_neg (by omega), up2_at, if_neg (by omega), up2_at, if_neg (by omega)]
  have eN : ∀ a f, vN N' a f = if a = i ∧ f = 7 then N 0 5 else if a = i ∧ f = 6 then 1 else vN N a f := fun a f => by
    rw [← hN, vN_set, vset, vN_set, vset]
  have eM : ∀ a f, f ≤ 9 → vM M' a f = if a = i ∧ f = 7 then M 1 1 else if a = i ∧ f = 6 then 1 else vM M a f := fun a f hf => by
    rw [← hM, vM_up, if_neg (by split <;> omega), vM_set _ (by decide) _ _ hf, vset, vM_set _ (by decide) _ _ hf, vset]
  have eT : ∀ a, tk M' a = tk M a := fun a => by unfold tk; rw [← hM, up2_at, if_neg (by omega), up2_at, if_neg (by omega), up2_at, if_neg (by omega)]
  have eL : ∀ a, ls M' a = if a = i then 0 else ls M a := fun a => by
    unfold ls
    rw [← hM, up2_at]
    by_cases c : a = i
    · subst c; rw [if_pos ⟨rfl, rfl⟩, if_pos rfl]
    · rw [if_neg (by omega), up2_at, if_neg (by omega), up2_at, if_neg (by omega), if_neg c]
  have q6 : ∀ a, a ≠ i → vM M' a 6 = vM M a 6 := fun a ha => by rw [eM a 6 (by decide), if_neg (fun z => ha z.1), if_neg (fun z => ha z.1)]
  have q6i : vM M' i 6 = 1 := by rw [eM i 6 (by decide), if_neg (by omega), if_pos ⟨rfl, rfl⟩]
  have q5 : ∀ a, vM M' a 5 = vM M a 5 := fun a => by rw [eM a 5 (by decide), if_neg (by omega), if_neg (by omega)]
  have hno : ∀ j, j < n → vM M j 6 = 1 → vM M j 5 ≠ vM M i 5 := fun j hj h1 h5 => by
    have := decide_eq_false_iff_not.mp (hf j hj)
    exact this ⟨h5, h1⟩
  obtain ⟨l81, l82, l83⟩ := h.lt
  refine RC_mk h (k0 _ _ (by omega)) (k0 _ _ (by omega)) (k0 _ _ (by omega)) (es _ (by omega)) (es _ (by omega)) (es _ (by omega)) (fun a ha => ?_) (fun a ha f hf => ?_) (fun a f ha hf => ?_) (fun a ha => ?_) (fun a c ha hc h1 h2 h3 => ?_) (fun a ha h1 => ?_) (fun a ha h1 => ?_) ⟨h.lq.1, by rw [k0 _ _ (by omega)]; exact h.lq.2.1, fun j hj => by rw [k0 _ _ (by omega)]; exact h.lq.2.2 j hj⟩ ⟨l81, fun a ha => ?_, fun a c hac hc => by rw [eT, eT]; exact l83 a c hac hc⟩ ?_ (LG_keep h.lg (k0 _ _ (by omega)) (es _ (by omega)) (fun e => ⟨k0 _ _ (by omega), k0 _ _ (by omega), k0 _ _ (by omega)⟩) (fun f hf => es f (by omega)))
  · show vN N' a 0 = vN N a 0
    rw [eN, if_neg (by omega), if_neg (by omega)]
  · rw [eN, eM a f hf, ht, h.vw a ha f hf]
  · rw [eM a f (by omega), if_neg (by omega), if_neg (by omega)]
  · by_cases c : a = i
    · rw [c, q6i]; exact RG_61
    · rw [q6 a c]; exact h.rg ha (by decide)
  · rw [q5, q5] at h3
    by_cases ca : a = i
    · by_cases cc : c = i
      · rw [ca, cc]
      · rw [q6 c cc] at h2
        subst ca
        exact absurd h3.symm (hno c hc h2)
    · by_cases cc : c = i
      · rw [q6 a ca] at h1
        subst cc
        exact absurd h3 (hno a ha h1)
      · rw [q6 a ca] at h1
        rw [q6 c cc] at h2
        exact h.os a c ha hc h1 h2 h3
  · have ca : a ≠ i := fun z => by rw [z, q6i] at h1; exact absurd h1 (by decide)
    rw [q6 a ca] at h1
    obtain ⟨s, s1, s2, s3⟩ := h.ws a ha h1
    have cs : s ≠ i := fun z => by rw [z, h0] at s2; exact absurd s2 (by decide)
    exact ⟨s, s1, by rw [q6 s cs]; exact s2, by rw [q5, q5]; exact s3⟩
  · by_cases ca : a = i
    · refine ⟨0, Nat.zero_le _, by rw [eL, if_pos ca]; rfl, ?_⟩
      rw [es _ (by omega), eM a 7 (by decide), if_pos ⟨ca, rfl⟩, Int32.sub_self]
      rfl
    · rw [q6 a ca] at h1
      obtain ⟨l, l1, l2, l3⟩ := h.lss a ha h1
      exact ⟨l, l1, by rw [eL, if_neg ca]; exact l2, by rw [es _ (by omega), eM a 7 (by decide), if_neg (fun z => ca z.1), if_neg (by omega)]; exact l3⟩
  · by_cases ca : a = i
    · have := l82 i hi
      rw [ca, q6i]
      refine ⟨fun z => ?_, fun z => absurd z (by decide)⟩
      have := this.mp z
      rw [h0] at this
      exact absurd this (by decide)
    · rw [q6 a ca]; exact l82 a ha
  · obtain ⟨k, h1, h2, h3⟩ := h.tb
    exact ⟨k, h1, by rw [es _ (by omega)]; exact h2, fun j hj => by rw [eT]; exact h3 j hj⟩
/-- one who is idle waits at the line's end -/
theorem RC_wait {N M : Mem} {b B n w : Nat} {L : Nat → Nat} (h : RC N M b B n w L) (hB : B < 2 ^ 30) {i : Nat} (hi : i < n) (h0 : vM M i 6 = 0) {s : Nat} (hs : s < n) (hp : spkP (vM M) (vM M i 5) s = true) : w < 8 ∧ RC (up2 (up2 (up2 N (2 + i) 6 2) 10 w (nI i)) 0 3 (nI (w + 1))) (up2 (up2 (up2 M 1 3 (M 1 3 + 1)) 1 (8 + 12 * i + 11) (M 1 3 + 1)) 1 (8 + 12 * i + 6) 2) b (B + 1) n (w + 1) (addL L w i) := by
  have hn := h.hn
  obtain ⟨l81, l82, l83⟩ := h.lt
  have hx : inL L w i = false := by
    cases z : inL L w i with
    | false => rfl
    | true =>
      have := (l82 i hi).mp z
      rw [h0] at this
      exact absurd this (by decide)
  have hw := line_lt l81 hi hx
  refine ⟨by omega, ?_⟩
  have hps : vM M s 5 = vM M i 5 ∧ vM M s 6 = 1 := of_decide_eq_true hp
  have hsi : s ≠ i := fun z => by have := hps.2; rw [z, h0] at this; exact absurd this (by decide)
  generalize hN : up2 (up2 (up2 N (2 + i) 6 2) 10 w (nI i)) 0 3 (nI (w + 1)) = N'
  generalize hM : up2 (up2 (up2 M 1 3 (M 1 3 + 1)) 1 (8 + 12 * i + 11) (M 1 3 + 1)) 1 (8 + 12 * i + 6) 2 = M'
  have k0 : ∀ k g, ¬ (2 ≤ k ∧ k ≤ 10) → ¬ (k = 0 ∧ g = 3) → N' k g = N k g := fun k g hk hg => by rw [← hN, up2_at, if_neg (by omega), up2_at, if_neg (by omega), up2_at, if_neg (by omega)]
  have es : ∀ p, p ≠ 3 → (p < 8 ∨ 104 ≤ p) → M' 1 p = M 1 p := fun p h3 hp => by rw [← hM, up2_at, if_neg (by omega), up2_at, if_neg (by omega), up2_at, if_neg (by omega)]
  have e3 : M' 1 3 = M 1 3 + 1 := by rw [← hM, up2_at, if_neg (by omega), up2_at, if_neg (by omega), up2_at, if_pos ⟨rfl, rfl⟩]
  have eN : ∀ a f, a < 8 → vN N' a f = if a = i ∧ f = 6 then 2 else vN N a f := fun a f ha => by
    rw [← hN, vN_up, if_neg (by omega), vN_up, if_neg (by omega), vN_set, vset]
  have eM : ∀ a f, f ≤ 9 → vM M' a f = if a = i ∧ f = 6 then 2 else vM M a f := fun a f hf => by
    have z1 : ¬ (8 + 12 * a + (if f ≤ 7 then f else f + 1) = 8 + 12 * i + 11) := by split <;> omega
    have z2 : ¬ (8 + 12 * a + (if f ≤ 7 then f else f + 1) = 3) := by split <;> omega
    rw [← hM, vM_set _ (by decide) _ _ hf, vset, vM_up, if_neg z1, vM_up, if_neg z2]
  have eT : ∀ a, tk M' a = if a = i then M 1 3 + 1 else tk M a := fun a => by
    unfold tk
    rw [← hM, up2_at, if_neg (by omega), up2_at]
    by_cases c : a = i
    · rw [if_pos ⟨rfl, by omega⟩, if_pos c]
    · rw [if_neg (by omega), up2_at, if_neg (by omega), if_neg c]
  have eL : ∀ a, ls M' a = ls M a := fun a => by unfold ls; rw [← hM, up2_at, if_neg (by omega), up2_at, if_neg (by omega), up2_at, if_neg (by omega)]
  have q6 : ∀ a, a ≠ i → vM M' a 6 = vM M a 6 := fun a ha => by rw [eM a 6 (by decide), if_neg (fun z => ha z.1)]
  have q6i : vM M' i 6 = 2 := by rw [eM i 6 (by decide), if_pos ⟨rfl, rfl⟩]
  have q5 : ∀ a, vM M' a 5 = vM M a 5 := fun a => by rw [eM a 5 (by decide), if_neg (by omega)]
  obtain ⟨k, t1, t2, t3⟩ := h.tb
  have hk1 : M 1 3 + 1 = nI (k + 1) := by rw [t2, nI_1]
  have hlt : nI k < nI (k + 1) := nI_lt (by omega) (by omega)
  have hLi : ∀ j, j < w → L j ≠ i := fun j hj z => (decide_eq_false_iff_not.mp hx) ⟨j, hj, z⟩
  refine RC_mk h (k0 _ _ (by omega) (by omega)) (k0 _ _ (by omega) (by omega)) (k0 _ _ (by omega) (by omega)) (es _ (by omega) (by omega)) (es _ (by omega) (by omega)) (es _ (by omega) (by omega)) (fun a ha => ?_) (fun a ha f hf => ?_) (fun a f ha hf => ?_) (fun a ha => ?_) (fun a c ha hc h1 h2 h3 => ?_) (fun a ha h1 => ?_) (fun a ha h1 => ?_) ⟨by omega, ?_, fun j hj => ?_⟩ ⟨addL_LI l81 hi hx, fun a ha => ?_, fun a c hac hc => ?_⟩ ⟨k + 1, by omega, e3.trans hk1, fun j hj => ?_⟩ (LG_keep h.lg (k0 _ _ (by omega) (by omega)) (es _ (by omega) (by omega)) (fun e => ⟨k0 _ _ (by omega) (by omega), k0 _ _ (by omega) (by omega), k0 _ _ (by omega) (by omega)⟩) (fun f hf => es f (by omega) (by omega)))
  · show vN N' a 0 = vN N a 0
    rw [eN a 0 ha, if_neg (by omega)]
  · rw [eN a f (by omega), eM a f hf, h.vw a ha f hf]
  · rw [eM a f (by omega), if_neg (by omega)]
  · by_cases c : a = i
    · rw [c, q6i]; exact RG_62
    · rw [q6 a c]; exact h.rg ha (by decide)
  · have ca : a ≠ i := fun z => by rw [z, q6i] at h1; exact absurd h1 (by decide)
    have cc : c ≠ i := fun z => by rw [z, q6i] at h2; exact absurd h2 (by decide)
    rw [q6 a ca] at h1
    rw [q6 c cc] at h2
    rw [q5, q5] at h3
    exact h.os a c ha hc h1 h2 h3
  · by_cases ca : a = i
    · exact ⟨s, hs, by rw [q6 s hsi]; exact hps.2, by rw [q5, q5, ca]; exact hps.1⟩
    · rw [q6 a ca] at h1
      obtain ⟨s', s1, s2, s3⟩ := h.ws a ha h1
      have cs : s' ≠ i := fun z => by rw [z, h0] at s2; exact absurd s2 (by decide)
      exact ⟨s', s1, by rw [q6 s' cs]; exact s2, by rw [q5, q5]; exact s3⟩
  · have ca : a ≠ i := fun z => by rw [z, q6i] at h1; exact absurd h1 (by decide)
    rw [q6 a ca] at h1
    obtain ⟨l, l1, l2, l3⟩ := h.lss a ha h1
    exact ⟨l, l1, by rw [eL]; exact l2, by rw [es _ (by omega) (by omega), eM a 7 (by decide), if_neg (by omega)]; exact l3⟩
  · rw [← hN, up2_at, if_pos ⟨rfl, rfl⟩]
  · rw [← hN, up2_at, if_neg (by omega), up2_at]
    by_cases c : j = w
    · rw [if_pos ⟨rfl, c⟩, c, addL_w]
    · rw [if_neg (fun z => c z.2), up2_at, if_neg (by omega), addL_ne L c]
      exact h.lq.2.2 j (by omega)
  · rw [addL_inL]
    by_cases ca : a = i
    · rw [ca, q6i]; exact ⟨fun _ => rfl, fun _ => Or.inr rfl⟩
    · rw [q6 a ca]
      exact ⟨fun z => (l82 a ha).mp (z.resolve_right ca), fun z => Or.inl ((l82 a ha).mpr z)⟩
  · have ca : a ≠ w := by omega
    rw [addL_ne L ca]
    by_cases cc : c = w
    · rw [cc, addL_w, eT, eT, if_neg (hLi a (by omega)), if_pos rfl, hk1]
      exact i32_trans (t3 a (by omega)) hlt
    · rw [addL_ne L cc, eT, eT, if_neg (hLi a (by omega)), if_neg (hLi c (by omega))]
      exact l83 a c hac (by omega)
  · by_cases c : j = w
    · rw [c, addL_w, eT, if_pos rfl, hk1]
      exact Int32.le_refl _
    · rw [addL_ne L c, eT, if_neg (hLi j (by omega))]
      exact i32_le_trans (t3 j (by omega)) (i32_le_of_lt hlt)
theorem co_request {N M : Mem} {b B n w : Nat} {L : Nat → Nat} (h : RC N M b B n w L) (hB : B < 2 ^ 30) {i : Nat} (hi : i < n) (h0 : vM M i 6 = 0) : CO M (fX6_speakOrWait N (nI i)) (fX12_requests M (nI i)) b (B + 1) := by
  have hn := h.hn
  have e : (nI i).toNatClampNeg = i := nI_clamp (by omega)
  have hi8 : inb (nI i) 8 = true := inb_nI (by omega) (by decide)
  have h5 : N (2 + i) 5 = vM M i 5 := h.vw i hi 5 (by decide)
  unfold fX6_speakOrWait fX12_requests
  rw [gd_t hi8, e, Nat.one_mul, r_5 M (by omega)]
  simp only [Option.bind_some]
  rw [h5, c_speakerOn h.nv, r_speakerOn h.mv, h.spk]
  simp only [Option.bind_some]
  rcases first_spec (spkP (vM M) (vM M i 5)) n with ⟨e1, hf⟩ | ⟨s, hs, hp, _, e1⟩
  · rw [e1, if_neg (show ¬ (0 : Int32) ≤ -1 by decide), if_neg (show ¬ (0 : Int32) ≤ -1 by decide), c_beginTurn N (by omega), r_speaks M (by omega)]
    simp only [Option.bind_some]
    exact ⟨0, _, _, rfl, rfl, ((Fr1.up _ _ _).trans (Fr1.up _ _ _)).trans (Fr1.up _ _ _), n, w, L, (RC_speak h hi h0 hf).mono (Nat.le_refl _) (Nat.le_succ _)⟩
  · obtain ⟨hw, hR⟩ := RC_wait h hB hi h0 hs hp
    have ew : (nI w).toNatClampNeg = w := nI_clamp (by omega)
    have hw8 : inb (nI w) 8 = true := inb_nI hw (by decide)
    have kw : up2 N (2 + i) 6 2 0 3 = nI w := by rw [up2_at, if_neg (by omega)]; exact h.lq.2.1
    have kw2 : up2 (up2 N (2 + i) 6 2) 10 w (nI i) 0 3 = nI w := by rw [up2_at, if_neg (by omega)]; exact kw
    rw [e1, if_pos (nI_pos' (by omega)), if_pos (nI_pos' (by omega)), gd_t hi8, if_neg (show ¬ (8 : Int32) ≤ up2 N (2 + i) 6 2 0 3 by rw [kw]; exact nI_ge (b := 8) hw (by omega)), kw, gd_t hw8, ew, kw2, nI_1]
    have em : up2 M 1 3 (M 1 3 + 1) 1 3 = M 1 3 + 1 := by rw [up2_at, if_pos ⟨rfl, rfl⟩]
    have s11 : fX12_set (up2 M 1 3 (M 1 3 + 1)) (nI i) 11 (M 1 3 + 1) = some (up2 (up2 M 1 3 (M 1 3 + 1)) 1 (8 + 12 * i + 11) (M 1 3 + 1)) := r_set _ (o := 11) (by omega) (by decide) _
    have s6 : fX12_set (up2 (up2 M 1 3 (M 1 3 + 1)) 1 (8 + 12 * i + 11) (M 1 3 + 1)) (nI i) 6 2 = some (up2 (up2 (up2 M 1 3 (M 1 3 + 1)) 1 (8 + 12 * i + 11) (M 1 3 + 1)) 1 (8 + 12 * i + 6) 2) := r_set _ (o := 6) (by omega) (by decide) _
    rw [em, s11]
    simp only [Option.bind_some]
    rw [s6]
    simp only [Option.bind_some]
    generalize hN : up2 (up2 (up2 N (2 + i) 6 2) 10 w (nI i)) 0 3 (nI (w + 1)) = N' at hR ⊢
    generalize hM : up2 (up2 (up2 M 1 3 (M 1 3 + 1)) 1 (8 + 12 * i + 11) (M 1 3 + 1)) 1 (8 + 12 * i + 6) 2 = M' at hR ⊢
    have m5 : vM M' i 5 = vM M i 5 := by rw [← hM, vM_set _ (by decide) _ _ (by decide), vset, if_neg (by omega), vM_up, if_neg (by split <;> omega), vM_up, if_neg (by split <;> omega)]
    rw [c_waitingOn hn hR.lv, r_positionOf hR.mv (by omega)]
    simp only [Option.bind_some]
    have pe := place_eq hR.lt (j := w) (by omega)
    rw [addL_w] at pe
    have ec : cnt (fun j => decide (vN N' (addL L w i j) 5 = vM M i 5)) (w + 1) = cnt (chP (vM M') (addL L w i) (vM M' i 5)) w + 1 := by
      have e9 : cnt (fun j => decide (vN N' (addL L w i j) 5 = vM M i 5)) (w + 1) = cnt (chP (vM M') (addL L w i) (vM M' i 5)) (w + 1) := cnt_congr (fun j hj => by
        unfold chP
        rw [hR.vw _ (hR.lt.1.1 j hj) 5 (by decide), m5])
      rw [e9]
      show _ + (if chP (vM M') (addL L w i) (vM M' i 5) w = true then 1 else 0) = _
      rw [if_pos (show chP (vM M') (addL L w i) (vM M' i 5) w = true by unfold chP; rw [addL_w]; exact decide_eq_true rfl)]
    rw [ec, ← pe, Nat.add_comm]
    exact ⟨_, _, _, rfl, rfl, by rw [← hM]; exact ((Fr1.up _ _ _).trans (Fr1.up _ _ _)).trans (Fr1.up _ _ _), n, w + 1, _, hR⟩
