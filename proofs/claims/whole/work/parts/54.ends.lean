/-! ===== leaving the line; the end of a turn ===== -/
def shl (N : Mem) (j0 t : Nat) : Mem := fun k f => if k = 10 ∧ j0 ≤ f ∧ f + 1 < t then N 10 (f + 1) else N k f
def rmL (N : Mem) (j0 w : Nat) : Mem := up2 (shl N j0 w) 0 3 (nI (w - 1))
def rmv (L : Nat → Nat) (j0 : Nat) : Nat → Nat := fun j => if j < j0 then L j else L (j + 1)
theorem shl_ne (N : Mem) (j0 t : Nat) {k : Nat} (h : k ≠ 10) (f : Nat) : shl N j0 t k f = N k f := if_neg (fun z => h z.1)
theorem shl_ge (N : Mem) (j0 : Nat) {t f : Nat} (k : Nat) (h : t ≤ f + 1) : shl N j0 t k f = N k f := if_neg (fun z => by omega)
theorem c_leaveLine {N : Mem} {L : Nat → Nat} {w n : Nat} (hn : n ≤ 8) (h : LV N L w n) {j0 : Nat} (hj : j0 < w) : fX6_leaveLine N (nI (L j0)) = some (rmL N j0 w) := by
  obtain ⟨h1, h2, h3, h4⟩ := h
  have hL0 := h4.1 j0 hj
  unfold fX6_leaveLine
  have e0 : ((0 : Int32), (0 : Int32), N) = (fun t => (nI (if t ≤ j0 then t else t - 1), nI t, shl N j0 t)) 0 := by
    have : shl N j0 0 = N := by funext k f; exact if_neg (by omega)
    show _ = (nI 0, nI 0, shl N j0 0)
    rw [this]
    rfl
  rw [e0]
  refine lp_up (fun t => (nI (if t ≤ j0 then t else t - 1), nI t, shl N j0 t)) w (fun t ht => ?_) ?_
  · have et : (nI t).toNatClampNeg = t := nI_clamp (by omega)
    have hLt := h4.1 t ht
    have q3 : shl N j0 t 0 3 = nI w := by rw [shl_ne N j0 t (by decide)]; exact h2
    have q10 : shl N j0 t 10 t = nI (L t) := by rw [shl_ge N j0 10 (by omega)]; exact h3 t ht
    unfold fX6_leaveLine_s
    dsimp only
    rw [if_neg (show ¬ shl N j0 t 0 3 ≤ nI t by rw [q3]; exact lt_step h1 ht), gd_t (inb_nI (by omega) (by decide)), et]
    by_cases c : t = j0
    · subst c
      rw [if_pos q10, if_pos (Nat.le_refl t), if_neg (by omega), nI_1]
      have : shl N t t = shl N t (t + 1) := by
        funext k f
        unfold shl
        rw [if_neg (by omega), if_neg (by omega)]
      rw [this]
      rfl
    · have hne : ¬ shl N j0 t 10 t = nI (L j0) := by
        rw [q10, nI_eq (by omega) (by omega)]
        intro z
        exact c (h4.2 t j0 ht hj z)
      rw [if_neg hne]
      by_cases g : t ≤ j0
      · have g1 : t + 1 ≤ j0 := by omega
        rw [if_pos g, if_pos g1, gd_t (inb_nI (by omega) (by decide)), gd_t (inb_nI (by omega) (by decide)), nI_1, et]
        have : up2 (shl N j0 t) 10 t (shl N j0 t 10 t) = shl N j0 (t + 1) := by
          funext k f
          rw [up2_at]
          by_cases q : k = 10 ∧ f = t
          · rw [if_pos q, q.1, q.2, shl_ge N j0 10 (by omega)]
            unfold shl
            rw [if_neg (by omega)]
          · rw [if_neg q]
            unfold shl
            rw [if_neg (by omega), if_neg (by omega)]
        rw [this]
      · have g1 : ¬ t + 1 ≤ j0 := by omega
        have ek : (nI (t - 1)).toNatClampNeg = t - 1 := nI_clamp (by omega)
        rw [if_neg g, if_neg g1, gd_t (inb_nI (by omega) (by decide)), gd_t (inb_nI (by omega) (by decide)), nI_1, nI_1, ek]
        have : up2 (shl N j0 t) 10 (t - 1) (shl N j0 t 10 t) = shl N j0 (t + 1) := by
          funext k f
          rw [up2_at]
          by_cases q : k = 10 ∧ f = t - 1
          · rw [if_pos q, shl_ge N j0 10 (by omega), q.1, q.2]
            unfold shl
            rw [if_pos (by omega)]
            congr 1
            omega
          · rw [if_neg q]
            unfold shl
            by_cases q2 : k = 10 ∧ j0 ≤ f ∧ f + 1 < t
            · rw [if_pos q2, if_pos (by omega)]
            · rw [if_neg q2, if_neg (by omega)]
        have e9 : t - 1 + 1 = t + 1 - 1 := by omega
        rw [this, e9]
  · have q3 : shl N j0 w 0 3 = nI w := by rw [shl_ne N j0 w (by decide)]; exact h2
    unfold fX6_leaveLine_s
    dsimp only
    rw [if_pos (show shl N j0 w 0 3 ≤ nI w by rw [q3]; exact nI_le (Nat.le_refl w) (by omega)), if_neg (by omega)]
    rfl
theorem rmL_LQ {N : Mem} {L : Nat → Nat} {w j0 : Nat} (h : LQ N L w) (hj : j0 < w) : LQ (rmL N j0 w) (rmv L j0) (w - 1) := by
  obtain ⟨h1, h2, h3⟩ := h
  refine ⟨by omega, by unfold rmL; rw [up2_at, if_pos ⟨rfl, rfl⟩], fun j hj2 => ?_⟩
  unfold rmL rmv
  rw [up2_at, if_neg (by omega)]
  unfold shl
  by_cases c : j < j0
  · rw [if_neg (by omega), if_pos c]; exact h3 j (by omega)
  · rw [if_pos (by omega), if_neg c]; exact h3 (j + 1) (by omega)
theorem rmL_at (N : Mem) (j0 w : Nat) {k f : Nat} (h : k ≠ 10) (h0 : ¬ (k = 0 ∧ f = 3)) : rmL N j0 w k f = N k f := by
  unfold rmL
  rw [up2_at, if_neg h0, shl_ne N j0 w h]
theorem rmv_LI {L : Nat → Nat} {w n j0 : Nat} (h : LI L w n) (hj : j0 < w) : LI (rmv L j0) (w - 1) n := by
  refine ⟨fun j hj2 => ?_, fun a c ha hc e => ?_⟩
  · unfold rmv
    by_cases q : j < j0
    · rw [if_pos q]; exact h.1 j (by omega)
    · rw [if_neg q]; exact h.1 (j + 1) (by omega)
  · unfold rmv at e
    by_cases qa : a < j0
    · by_cases qc : c < j0
      · rw [if_pos qa, if_pos qc] at e; exact h.2 a c (by omega) (by omega) e
      · rw [if_pos qa, if_neg qc] at e
        have := h.2 a (c + 1) (by omega) (by omega) e
        omega
    · by_cases qc : c < j0
      · rw [if_neg qa, if_pos qc] at e
        have := h.2 (a + 1) c (by omega) (by omega) e
        omega
      · rw [if_neg qa, if_neg qc] at e
        have := h.2 (a + 1) (c + 1) (by omega) (by omega) e
        omega
theorem rmv_inL {L : Nat → Nat} {w n j0 : Nat} (h : LI L w n) (hj : j0 < w) (k : Nat) : inL (rmv L j0) (w - 1) k = true ↔ (inL L w k = true ∧ k ≠ L j0) := by
  unfold inL
  rw [decide_eq_true_iff, decide_eq_true_iff]
  constructor
  · rintro ⟨j, hj2, e⟩
    unfold rmv at e
    by_cases q : j < j0
    · rw [if_pos q] at e
      refine ⟨⟨j, by omega, e⟩, fun z => ?_⟩
      have := h.2 j j0 (by omega) hj (e.trans z)
      omega
    · rw [if_neg q] at e
      refine ⟨⟨j + 1, by omega, e⟩, fun z => ?_⟩
      have := h.2 (j + 1) j0 (by omega) hj (e.trans z)
      omega
  · rintro ⟨⟨j, hj2, e⟩, hne⟩
    have hjj : j ≠ j0 := fun z => hne (by rw [← e, z])
    by_cases q : j < j0
    · exact ⟨j, by omega, by unfold rmv; rw [if_pos q]; exact e⟩
    · refine ⟨j - 1, by omega, ?_⟩
      unfold rmv
      rw [if_neg (by omega), show j - 1 + 1 = j by omega]
      exact e
theorem rmv_of {L : Nat → Nat} {w j0 : Nat} {j : Nat} (hj : j < w - 1) : ∃ j1, j1 < w ∧ rmv L j0 j = L j1 := by
  unfold rmv
  by_cases q : j < j0
  · exact ⟨j, by omega, if_pos q⟩
  · exact ⟨j + 1, by omega, if_neg q⟩
theorem rmv_tk {M : Mem} {L : Nat → Nat} {w n j0 : Nat} (h : LT M L w n) (hj : j0 < w) : ∀ a c, a < c → c < w - 1 → tk M (rmv L j0 a) < tk M (rmv L j0 c) := by
  intro a c hac hc
  unfold rmv
  by_cases qa : a < j0
  · by_cases qc : c < j0
    · rw [if_pos qa, if_pos qc]; exact h.2.2 a c hac (by omega)
    · rw [if_pos qa, if_neg qc]; exact h.2.2 a (c + 1) (by omega) (by omega)
  · rw [if_neg qa, if_neg (by omega)]; exact h.2.2 (a + 1) (c + 1) (by omega) (by omega)
/-- one who waits gives up -/
theorem co_cancel {N M : Mem} {b B n w : Nat} {L : Nat → Nat} (h : RC N M b B n w L) {i : Nat} (hi : i < n) (h2 : vM M i 6 = 2) : CO M (fX6_stopWaiting N (nI i)) (fX12_cancels M (nI i)) b B := by
  have hn := h.hn
  obtain ⟨l81, l82, l83⟩ := h.lt
  obtain ⟨j0, hj, ej⟩ := of_decide_eq_true ((l82 i hi).mpr h2)
  have e : (nI i).toNatClampNeg = i := nI_clamp (by omega)
  have hi8 : inb (nI i) 8 = true := inb_nI (by omega) (by decide)
  have lv := c_leaveLine hn h.lv hj
  rw [ej] at lv
  have s6 : fX12_set M (nI i) 6 0 = some (up2 M 1 (8 + 12 * i + 6) 0) := r_set M (o := 6) (by omega) (by decide) 0
  have k0 : ∀ k g, k ≠ 10 → ¬ (k = 0 ∧ g = 3) → ¬ (k = 2 + i ∧ g = 6) → up2 (rmL N j0 w) (2 + i) 6 0 k g = N k g := fun k g hk hg h6 => by rw [up2_at, if_neg h6, rmL_at N j0 w hk hg]
  have eN : ∀ a f, a < 8 → vN (up2 (rmL N j0 w) (2 + i) 6 0) a f = if a = i ∧ f = 6 then 0 else vN N a f := fun a f ha => by
    rw [vN_set, vset]
    by_cases c : a = i ∧ f = 6
    · rw [if_pos c, if_pos c]
    · rw [if_neg c, if_neg c]
      exact rmL_at N j0 w (by omega) (by omega)
  have eM : ∀ a f, f ≤ 9 → vM (up2 M 1 (8 + 12 * i + 6) 0) a f = if a = i ∧ f = 6 then 0 else vM M a f := fun a f hf => vM_set M (by decide) _ _ hf
  have es : ∀ p, (p < 8 ∨ 104 ≤ p) → up2 M 1 (8 + 12 * i + 6) 0 1 p = M 1 p := fun p hp => by rw [up2_at, if_neg (by omega)]
  have eT : ∀ a, tk (up2 M 1 (8 + 12 * i + 6) 0) a = tk M a := fun a => by unfold tk; rw [up2_at, if_neg (by omega)]
  have eL : ∀ a, ls (up2 M 1 (8 + 12 * i + 6) 0) a = ls M a := fun a => by unfold ls; rw [up2_at, if_neg (by omega)]
  have lq : LQ (up2 (rmL N j0 w) (2 + i) 6 0) (rmv L j0) (w - 1) := by
    obtain ⟨g1, g2, g3⟩ := rmL_LQ h.lq hj
    exact ⟨g1, by rw [up2_at, if_neg (by omega)]; exact g2, fun j hj2 => by rw [up2_at, if_neg (by omega)]; exact g3 j hj2⟩
  have n5 : up2 (rmL N j0 w) (2 + i) 6 0 (2 + i) 5 = vM M i 5 := by
    rw [k0 _ _ (by omega) (by omega) (by omega)]; exact h.vw i hi 5 (by decide)
  have m5 : vM (up2 M 1 (8 + 12 * i + 6) 0) i 5 = vM M i 5 := by rw [eM i 5 (by decide), if_neg (by omega)]
  have q6 : ∀ a, a ≠ i → vM (up2 M 1 (8 + 12 * i + 6) 0) a 6 = vM M a 6 := fun a ha => by rw [eM a 6 (by decide), if_neg (fun z => ha z.1)]
  have q6i : vM (up2 M 1 (8 + 12 * i + 6) 0) i 6 = 0 := by rw [eM i 6 (by decide), if_pos ⟨rfl, rfl⟩]
  have q5 : ∀ a, vM (up2 M 1 (8 + 12 * i + 6) 0) a 5 = vM M a 5 := fun a => by rw [eM a 5 (by decide), if_neg (by omega)]
  have hR : RC (up2 (rmL N j0 w) (2 + i) 6 0) (up2 M 1 (8 + 12 * i + 6) 0) b B n (w - 1) (rmv L j0) := by
    obtain ⟨k, t1, t2, t3⟩ := h.tb
    refine RC_mk h (k0 _ _ (by omega) (by omega) (by omega)) (k0 _ _ (by omega) (by omega) (by omega)) (k0 _ _ (by omega) (by omega) (by omega)) (es _ (by omega)) (es _ (by omega)) (es _ (by omega)) (fun a ha => ?_) (fun a ha f hf => ?_) (fun a f ha hf => ?_) (fun a ha => ?_) (fun a c ha hc h1 h2' h3 => ?_) (fun a ha h1 => ?_) (fun a ha h1 => ?_) lq ⟨rmv_LI l81 hj, fun a ha => ?_, fun a c hac hc => by rw [eT, eT]; exact rmv_tk h.lt hj a c hac hc⟩ ⟨k, t1, by rw [es _ (by omega)]; exact t2, fun j hj2 => ?_⟩ (LG_keep h.lg (k0 _ _ (by omega) (by omega) (by omega)) (es _ (by omega)) (fun e => ⟨k0 _ _ (by omega) (by omega) (by omega), k0 _ _ (by omega) (by omega) (by omega), k0 _ _ (by omega) (by omega) (by omega)⟩) (fun f hf => es f (by omega)))
    · have q := eN a 0 ha
      rw [if_neg (by omega)] at q
      exact q
    · rw [eN a f (by omega), eM a f hf, h.vw a ha f hf]
    · rw [eM a f (by omega), if_neg (by omega)]
    · by_cases c : a = i
      · rw [c, q6i]; exact RG_60
      · rw [q6 a c]; exact h.rg ha (by decide)
    · have ca : a ≠ i := fun z => by rw [z, q6i] at h1; exact absurd h1 (by decide)
      have cc : c ≠ i := fun z => by rw [z, q6i] at h2'; exact absurd h2' (by decide)
      rw [q6 a ca] at h1
      rw [q6 c cc] at h2'
      rw [q5, q5] at h3
      exact h.os a c ha hc h1 h2' h3
    · have ca : a ≠ i := fun z => by rw [z, q6i] at h1; exact absurd h1 (by decide)
      rw [q6 a ca] at h1
      obtain ⟨s', s1, s2, s3⟩ := h.ws a ha h1
      have cs : s' ≠ i := fun z => by rw [z, h2] at s2; exact absurd s2 (by decide)
      exact ⟨s', s1, by rw [q6 s' cs]; exact s2, by rw [q5, q5]; exact s3⟩
    · have ca : a ≠ i := fun z => by rw [z, q6i] at h1; exact absurd h1 (by decide)
      rw [q6 a ca] at h1
      obtain ⟨l, l1, l2, l3⟩ := h.lss a ha h1
      exact ⟨l, l1, by rw [eL]; exact l2, by rw [es _ (by omega), eM a 7 (by decide), if_neg (by omega)]; exact l3⟩
    · rw [rmv_inL l81 hj, ej]
      by_cases ca : a = i
      · rw [ca, q6i]; exact ⟨fun z => absurd rfl z.2, fun z => absurd z (by decide)⟩
      · rw [q6 a ca]
        exact ⟨fun z => (l82 a ha).mp z.1, fun z => ⟨(l82 a ha).mpr z, ca⟩⟩
    · obtain ⟨j1, j2, j3⟩ := rmv_of (L := L) (j0 := j0) hj2
      rw [j3, eT]
      exact t3 j1 j2
  unfold fX6_stopWaiting fX12_cancels
  rw [lv, s6]
  simp only [Option.bind_some]
  rw [gd_t hi8, gd_t hi8, e, Nat.one_mul, n5, r_5 _ (by omega)]
  simp only [Option.bind_some]
  rw [m5, line_eq hR, r_lineOf hR.mv]
  exact ⟨_, _, _, rfl, rfl, Fr1.up _ _ _, n, _, _, hR⟩
/-! the end of a turn -/
/-- what the end of s's turn does to the reference's row: x is the next to speak, or no station -/
def EFX (M M' : Mem) (n s x : Nat) : Prop :=
  (x < n → waitP (vM M) (vM M s 5) x = true) ∧ (∀ k, k < n → waitP (vM M) (vM M s 5) k = true → x < n ∧ (k = x ∨ tk M x < tk M k)) ∧
  (∀ a f, a < n → f ≤ 9 → vM M' a f = if a = x ∧ f = 7 then M 1 1 else if a = x ∧ f = 6 then 1 else if a = s ∧ f = 6 then 0 else vM M a f) ∧
  (∀ a, a < n → ls M' a = if a = x ∨ a = s then 0 else ls M a) ∧ (∀ a, a < n → tk M' a = tk M a) ∧ M' 1 1 = M 1 1 ∧ M' 1 2 = M 1 2 ∧ M' 1 0 = M 1 0
theorem RC_over {N M N' M' : Mem} {b B n w : Nat} {L : Nat → Nat} (h : RC N M b B n w L) {s x : Nat} (hs : s < n) (hm : vM M s 6 = 1) (hE : EFX M M' n s x) {w' : Nat} {L' : Nat → Nat}
    (eN : ∀ a f, a < n → f ≤ 9 → vN N' a f = if a = x ∧ f = 7 then N 0 5 else if a = x ∧ f = 6 then 1 else if a = s ∧ f = 6 then 0 else vN N a f) (kc : ∀ a, a < 8 → N' (2 + a) 0 = N (2 + a) 0)
    (kn : N' 0 1 = N 0 1) (k5 : N' 0 5 = N 0 5) (k6 : N' 0 6 = N 0 6) (m3 : M' 1 3 = M 1 3) (lg : LG N' M')
    (lq : LQ N' L' w') (li : LI L' w' n) (lin : ∀ k, k < n → (inL L' w' k = true ↔ (inL L w k = true ∧ k ≠ x))) (ltk : ∀ a c, a < c → c < w' → tk M (L' a) < tk M (L' c)) (lof : ∀ j, j < w' → ∃ j1, j1 < w ∧ L' j = L j1) : RC N' M' b B n w' L' := by
  obtain ⟨x1, x2, eM, eL, eT, m1, m2, m0⟩ := hE
  have hxs : x ≠ s := fun z => by
    have := (of_decide_eq_true (x1 (by rw [z]; exact hs))).1
    rw [z, hm] at this
    exact absurd this (by decide)
  have hx2 : x < n → vM M x 6 = 2 ∧ vM M x 5 = vM M s 5 := fun hx => of_decide_eq_true (x1 hx)
  have q5 : ∀ a, a < n → vM M' a 5 = vM M a 5 := fun a ha => by rw [eM a 5 ha (by decide), if_neg (by omega), if_neg (by omega), if_neg (by omega)]
  have q6 : ∀ a, a < n → a ≠ x → a ≠ s → vM M' a 6 = vM M a 6 := fun a ha h1 h2 => by rw [eM a 6 ha (by decide), if_neg (by omega), if_neg (fun z => h1 z.1), if_neg (fun z => h2 z.1)]
  have q6x : x < n → vM M' x 6 = 1 := fun hx => by rw [eM x 6 hx (by decide), if_neg (by omega), if_pos ⟨rfl, rfl⟩]
  have q6s : vM M' s 6 = 0 := by rw [eM s 6 hs (by decide), if_neg (by omega), if_neg (fun z => hxs z.1.symm), if_pos ⟨rfl, rfl⟩]
  obtain ⟨k, t1, t2, t3⟩ := h.tb
  refine RC_mk h kn k5 k6 m0 m1 m2 kc (fun a ha f hf => ?_) (fun a f ha hf => ?_) (fun a ha => ?_) (fun a c ha hc h1 h2 h3 => ?_) (fun a ha h1 => ?_) (fun a ha h1 => ?_) lq ⟨li, fun a ha => ?_, fun a c hac hc => by rw [eT _ (li.1 a (by omega)), eT _ (li.1 c hc)]; exact ltk a c hac hc⟩ ⟨k, t1, by rw [m3]; exact t2, fun j hj => ?_⟩ lg
  · rw [eN a f ha hf, eM a f ha hf, h.tl.1, h.vw a ha f hf]
  · rw [eM a f ha (by omega), if_neg (by omega), if_neg (by omega), if_neg (by omega)]
  · by_cases c : a = x
    · subst c; rw [q6x ha]; exact RG_61
    · by_cases c2 : a = s
      · rw [c2, q6s]; exact RG_60
      · rw [q6 a ha c c2]; exact h.rg ha (by decide)
  · have ca : a ≠ s := fun z => by rw [z, q6s] at h1; exact absurd h1 (by decide)
    have cc : c ≠ s := fun z => by rw [z, q6s] at h2; exact absurd h2 (by decide)
    rw [q5 a ha, q5 c hc] at h3
    by_cases xa : a = x
    · by_cases xc : c = x
      · rw [xa, xc]
      · exfalso
        rw [q6 c hc xc cc] at h2
        have g := (hx2 (by rw [← xa]; exact ha)).2
        rw [xa, g] at h3
        exact cc (h.os c s hc hs h2 hm h3.symm)
    · by_cases xc : c = x
      · exfalso
        rw [q6 a ha xa ca] at h1
        have g := (hx2 (by rw [← xc]; exact hc)).2
        rw [xc, g] at h3
        exact ca (h.os a s ha hs h1 hm h3)
      · rw [q6 a ha xa ca] at h1
        rw [q6 c hc xc cc] at h2
        exact h.os a c ha hc h1 h2 h3
  · have ca : a ≠ s := fun z => by rw [z, q6s] at h1; exact absurd h1 (by decide)
    have xa : a ≠ x := fun z => by subst z; rw [q6x ha] at h1; exact absurd h1 (by decide)
    rw [q6 a ha xa ca] at h1
    obtain ⟨p, p1, p2, p3⟩ := h.ws a ha h1
    by_cases ps : p = s
    · have g := x2 a ha (decide_eq_true ⟨h1, by rw [← p3, ps]⟩)
      exact ⟨x, g.1, q6x g.1, by rw [q5 x g.1, q5 a ha, (hx2 g.1).2, ← p3, ps]⟩
    · have px : p ≠ x := fun z => by
        subst z
        rw [(hx2 p1).1] at p2
        exact absurd p2 (by decide)
      exact ⟨p, p1, by rw [q6 p p1 px ps]; exact p2, by rw [q5 p p1, q5 a ha]; exact p3⟩
  · have ca : a ≠ s := fun z => by rw [z, q6s] at h1; exact absurd h1 (by decide)
    by_cases xa : a = x
    · refine ⟨0, Nat.zero_le _, by rw [eL a ha, if_pos (Or.inl xa)]; rfl, ?_⟩
      rw [m1, eM a 7 ha (by decide), if_pos ⟨xa, rfl⟩, Int32.sub_self]
      rfl
    · rw [q6 a ha xa ca] at h1
      obtain ⟨l, l1, l2, l3⟩ := h.lss a ha h1
      exact ⟨l, l1, by rw [eL a ha, if_neg (by omega)]; exact l2, by rw [m1, eM a 7 ha (by decide), if_neg (fun z => xa z.1), if_neg (by omega), if_neg (by omega)]; exact l3⟩
  · rw [lin a ha]
    by_cases xa : a = x
    · subst xa
      rw [q6x ha]
      exact ⟨fun z => absurd rfl z.2, fun z => absurd z (by decide)⟩
    · by_cases ca : a = s
      · subst ca
        rw [q6s]
        refine ⟨fun z => ?_, fun z => absurd z (by decide)⟩
        have := (h.lt.2.1 a ha).mp z.1
        rw [hm] at this
        exact absurd this (by decide)
      · rw [q6 a ha xa ca]
        exact ⟨fun z => (h.lt.2.1 a ha).mp z.1, fun z => ⟨(h.lt.2.1 a ha).mpr z, xa⟩⟩
  · obtain ⟨j1, j2, j3⟩ := lof j hj
    rw [eT _ (li.1 j hj), j3]
    exact t3 j1 j2
