/-! ===== a log row on both sides; a turn ends on both sides ===== -/
theorem LG_put {N M : Mem} {c : Nat} (hc : c < 16) (h : ∀ e, e < c → N 12 e = M 1 (108 + 3 * e) ∧ N 13 e = M 1 (108 + 3 * e + 1) ∧ N 14 e = M 1 (108 + 3 * e + 2)) (a b d : Int32) : LG (putL N c a b d) (putR M c a b d) := by
  refine ⟨c + 1, by omega, ?_, ?_, fun e he => ?_⟩
  · unfold putL; rw [up2_at, if_pos ⟨rfl, rfl⟩]
  · unfold putR; rw [up2_at, if_pos ⟨rfl, rfl⟩]
  · unfold putL putR
    by_cases q : e = c
    · subst q
      refine ⟨?_, ?_, ?_⟩
      · simp [up2_at]
        intro z
        omega
      · simp [up2_at]
        intro z
        omega
      · simp [up2_at]
        intro z
        omega
    · obtain ⟨g1, g2, g3⟩ := h e (by omega)
      refine ⟨?_, ?_, ?_⟩
      · rw [up2_at, if_neg (by omega), up2_at, if_neg (by omega), up2_at, if_neg (by omega), up2_at, if_neg (by omega), up2_at, if_neg (by omega), up2_at, if_neg (by omega), up2_at, if_neg (by omega), up2_at, if_neg (by omega)]; exact g1
      · rw [up2_at, if_neg (by omega), up2_at, if_neg (by omega), up2_at, if_neg (by omega), up2_at, if_neg (by omega), up2_at, if_neg (by omega), up2_at, if_neg (by omega), up2_at, if_neg (by omega), up2_at, if_neg (by omega)]; exact g2
      · rw [up2_at, if_neg (by omega), up2_at, if_neg (by omega), up2_at, if_neg (by omega), up2_at, if_neg (by omega), up2_at, if_neg (by omega), up2_at, if_neg (by omega), up2_at, if_neg (by omega), up2_at, if_neg (by omega)]; exact g3
theorem putL_at (N : Mem) (c : Nat) (a b d : Int32) {k : Nat} (h : k ≤ 10) (g : Nat) : putL N c a b d k g = N k g := by
  unfold putL
  rw [up2_at, if_neg (by omega), up2_at, if_neg (by omega), up2_at, if_neg (by omega), up2_at, if_neg (by omega)]
theorem putR_at (M : Mem) (c : Nat) (a b d : Int32) {k g : Nat} (h : k ≠ 1 ∨ (g < 108 ∧ g ≠ 4)) : putR M c a b d k g = M k g := by
  unfold putR
  rw [up2_at, if_neg (by omega), up2_at, if_neg (by omega), up2_at, if_neg (by omega), up2_at, if_neg (by omega)]
theorem log_both {N M : Mem} (h : LG N M) {i : Nat} (hi : i < 8) {p q : Int32} (hp : M 1 (8 + 12 * i + 7) = p) (hq : M 1 (8 + 12 * i + 8) = q) : ∃ N1 M1, fX10_add N (nI i) p q = some N1 ∧ fX12_logs M (nI i) = some M1 ∧ (∀ k g, k ≤ 10 → N1 k g = N k g) ∧ Fr1 M M1 ∧ (∀ f, f < 108 → f ≠ 4 → M1 1 f = M 1 f) ∧ LG N1 M1 := by
  obtain ⟨c, c1, c2, c3, c4⟩ := h
  by_cases hc : c < 16
  · refine ⟨_, _, c_add_few c2 hc (nI i) p q, ?_, fun k g hk => putL_at N c _ _ _ hk g, ?_, fun f h1 h2 => ?_, LG_put hc c4 (nI i) p q⟩
    · rw [r_logs_few c3 hc hi, hp, hq]
    · intro k hk; funext g; exact putR_at M c _ _ _ (Or.inl hk)
    · exact putR_at M c _ _ _ (Or.inr ⟨h1, h2⟩)
  · have hc16 : c = 16 := by omega
    subst hc16
    refine ⟨_, _, c_add_full c2 (nI i) p q, ?_, fun k g hk => ?_, ?_, fun f h1 h2 => ?_, LG_put (N := up2 (shiftL N 15) 11 3 (nI 15)) (M := shiftR (up2 M 1 4 (nI 15)) 45) (by decide) (fun e he => ?_) (nI i) p q⟩
    · rw [r_logs_full c3 hi, hp, hq]
    · rw [putL_at _ _ _ _ _ hk, up2_at, if_neg (by omega)]
      unfold shiftL
      rw [if_neg (by omega)]
    · intro k hk; funext g
      rw [putR_at _ _ _ _ _ (Or.inl hk)]
      unfold shiftR
      rw [if_neg (by omega), up2_at, if_neg (by omega)]
    · rw [putR_at _ _ _ _ _ (Or.inr ⟨h1, h2⟩), shiftR_at _ _ _ (Or.inl h1), up2_at, if_neg (by omega)]
    · obtain ⟨g1, g2, g3⟩ := c4 (e + 1) (by omega)
      have k1 : ∀ b, (b = 12 ∨ b = 13 ∨ b = 14) → up2 (shiftL N 15) 11 3 (nI 15) b e = N b (e + 1) := fun b hb => by
        rw [up2_at, if_neg (by omega)]
        unfold shiftL
        rw [if_pos ⟨hb, he⟩]
      have k2 : ∀ o, o < 3 → shiftR (up2 M 1 4 (nI 15)) 45 1 (108 + 3 * e + o) = M 1 (108 + 3 * (e + 1) + o) := fun o ho => by
        unfold shiftR
        rw [if_pos (by omega), up2_at, if_neg (by omega)]
        congr 1
        omega
      have k20 := k2 0 (by decide)
      refine ⟨?_, ?_, ?_⟩
      · rw [k1 12 (Or.inl rfl), g1]; exact k20.symm
      · rw [k1 13 (Or.inr (Or.inl rfl)), g2]; exact (k2 1 (by decide)).symm
      · rw [k1 14 (Or.inr (Or.inr rfl)), g3]; exact (k2 2 (by decide)).symm
/-- .. and the relation stays -/
theorem RC_log {N M : Mem} {b B n w : Nat} {L : Nat → Nat} (h : RC N M b B n w L) {N1 M1 : Mem} (k : ∀ k g, k ≤ 10 → N1 k g = N k g) (m : ∀ f, f < 108 → f ≠ 4 → M1 1 f = M 1 f) (lg : LG N1 M1) : RC N1 M1 b B n w L := by
  have hn := h.hn
  have ev : ∀ i f, i < n → f ≤ 9 → vM M1 i f = vM M i f := fun i f hi hf => by
    unfold vM
    rw [m _ (by split <;> omega) (by omega)]
  have et : ∀ i, i < n → tk M1 i = tk M i := fun i hi => m _ (by omega) (by omega)
  have el : ∀ i, i < n → ls M1 i = ls M i := fun i hi => m _ (by omega) (by omega)
  obtain ⟨t, t1, t2, t3⟩ := h.tb
  refine RC_mk h (k _ _ (by omega)) (k _ _ (by omega)) (k _ _ (by omega)) (m _ (by omega) (by omega)) (m _ (by omega) (by omega)) (m _ (by omega) (by omega)) (fun i hi => k _ _ (by omega)) (fun i hi f hf => ?_) (fun i f hi hf => ev i f hi (by omega)) (fun i hi => by rw [ev i 6 hi (by decide)]; exact h.rg hi (by decide)) (fun a c ha hc h1 h2 h3 => ?_) (fun a ha h1 => ?_) (fun a ha h1 => ?_) ⟨h.lq.1, by rw [k _ _ (by omega)]; exact h.lq.2.1, fun j hj => by rw [k _ _ (by omega)]; exact h.lq.2.2 j hj⟩ ⟨h.lt.1, fun i hi => by rw [ev i 6 hi (by decide)]; exact h.lt.2.1 i hi, fun a c hac hc => by rw [et _ (h.lt.1.1 a (by omega)), et _ (h.lt.1.1 c hc)]; exact h.lt.2.2 a c hac hc⟩ ⟨t, t1, by rw [m _ (by omega) (by omega)]; exact t2, fun j hj => by rw [et _ (h.lt.1.1 j hj)]; exact t3 j hj⟩ lg
  · show N1 (2 + i) f = _
    rw [k _ _ (by omega), ev i f hi hf]
    exact h.vw i hi f hf
  · rw [ev a 6 ha (by decide)] at h1
    rw [ev c 6 hc (by decide)] at h2
    rw [ev a 5 ha (by decide), ev c 5 hc (by decide)] at h3
    exact h.os a c ha hc h1 h2 h3
  · rw [ev a 6 ha (by decide)] at h1
    obtain ⟨s, s1, s2, s3⟩ := h.ws a ha h1
    exact ⟨s, s1, by rw [ev s 6 s1 (by decide)]; exact s2, by rw [ev s 5 s1 (by decide), ev a 5 ha (by decide)]; exact s3⟩
  · rw [ev a 6 ha (by decide)] at h1
    obtain ⟨l, l1, l2, l3⟩ := h.lss a ha h1
    exact ⟨l, l1, by rw [el a ha]; exact l2, by rw [m _ (by omega) (by omega), ev a 7 ha (by decide)]; exact l3⟩
/-- nobody first in line: nobody in line -/
theorem pos_none {v : Nat → Nat → Int32} {L : Nat → Nat} {c : Int32} {w : Nat} (h : ∀ j, j < w → posP v L c 1 j = false) : ∀ j, j < w → chP v L c j = false := by
  have key : ∀ t, t ≤ w → (∀ j, j < t → chP v L c j = false) ∧ cnt (chP v L c) t = 0 := by
    intro t
    induction t with
    | zero => intro _; exact ⟨fun j hj => by omega, rfl⟩
    | succ t ih =>
      intro ht
      obtain ⟨g1, g2⟩ := ih (by omega)
      have hc : chP v L c t = false := by
        cases z : chP v L c t with
        | false => rfl
        | true =>
          have q := h t (by omega)
          unfold posP at q
          have es : cnt (chP v L c) (t + 1) = cnt (chP v L c) t + (if chP v L c t = true then 1 else 0) := rfl
          rw [z, es, z, g2] at q
          exact absurd q (by decide)
      refine ⟨fun j hj => ?_, ?_⟩
      · by_cases e : j = t
        · rw [e]; exact hc
        · exact g1 j (by omega)
      · show cnt (chP v L c) t + (if chP v L c t = true then 1 else 0) = 0
        rw [g2, hc]
        rfl
  exact (key w (Nat.le_refl w)).1
theorem pos_first {v : Nat → Nat → Int32} {L : Nat → Nat} {c : Int32} {j0 : Nat} (hj : j0 < 2 ^ 30) (h : posP v L c 1 j0 = true) : chP v L c j0 = true ∧ ∀ j, j < j0 → chP v L c j = false := by
  unfold posP at h
  rw [Bool.and_eq_true, decide_eq_true_iff] at h
  obtain ⟨h1, h2⟩ := h
  have es : cnt (chP v L c) (j0 + 1) = cnt (chP v L c) j0 + (if chP v L c j0 = true then 1 else 0) := rfl
  have b1 := cnt_le (chP v L c) (j0 + 1)
  have h2 : nI (cnt (chP v L c) (j0 + 1)) = nI 1 := h2
  rw [nI_eq (by omega) (by omega), es, if_pos h1] at h2
  refine ⟨h1, fun j hj2 => ?_⟩
  cases z : chP v L c j with
  | false => rfl
  | true =>
    have m := cnt_mono (chP v L c) (a := j + 1) (b := j0) (by omega)
    have e2 : cnt (chP v L c) (j + 1) = cnt (chP v L c) j + (if chP v L c j = true then 1 else 0) := rfl
    rw [z, if_pos rfl] at e2
    omega
theorem co_ends {N M : Mem} {b B n w : Nat} {L : Nat → Nat} (h : RC N M b B n w L) (hb : b < 2 ^ 30) {s : Nat} (hs : s < n) (hm : vM M s 6 = 1) : ∃ N' M' x, fX6_endTurn N (nI s) = some (ls M s, N') ∧ fX12_ends M (nI s) = some (ls M s, M') ∧ Fr1 M M' ∧ (∃ w' L', RC N' M' b B n w' L') ∧ EFX M M' n s x := by
  have hn := h.hn
  have e : (nI s).toNatClampNeg = s := nI_clamp (by omega)
  have hs8 : inb (nI s) 8 = true := inb_nI (by omega) (by decide)
  obtain ⟨l, l1, l2, l3⟩ := h.lss s hs hm
  have b7 : N (2 + s) 7 = vM M s 7 := h.vw s hs 7 (by decide)
  have hlast : N 0 5 - N (2 + s) 7 = ls M s := by rw [b7, h.tl.1, l3, l2]
  obtain ⟨N1, M1, g1, g2, g3, g4, g5, g6⟩ := log_both h.lg (i := s) (by omega) (p := N (2 + s) 7) (q := ls M s) (by rw [b7]; unfold vM; rw [if_pos (by decide)]) rfl
  have h1 := RC_log h g3 g5 g6
  have ev1 : ∀ i f, i < n → f ≤ 9 → vM M1 i f = vM M i f := fun i f hi hf => by
    unfold vM
    rw [g5 _ (by split <;> omega) (by omega)]
  have n5 : up2 N1 (2 + s) 6 0 (2 + s) 5 = vM M s 5 := by
    rw [up2_at, if_neg (by omega), g3 _ _ (by omega)]; exact h.vw s hs 5 (by decide)
  -- the class's net with s idle reads its line as before
  have lv2 : LV (up2 N1 (2 + s) 6 0) L w n := by
    obtain ⟨q1, q2, q3, q4⟩ := h1.lv
    exact ⟨q1, by rw [up2_at, if_neg (by omega)]; exact q2, fun j hj => by rw [up2_at, if_neg (by omega)]; exact q3 j hj, q4⟩
  have ech : ∀ j, j < w → chP (vN (up2 N1 (2 + s) 6 0)) L (vM M s 5) j = chP (vM M1) L (vM M s 5) j := fun j hj => by
    unfold chP
    rw [vN_up, if_neg (by omega), h1.vw _ (h1.lt.1.1 j hj) 5 (by decide)]
  have epos : sel (posP (vN (up2 N1 (2 + s) 6 0)) L (vM M s 5) 1) (fun j => nI (L j)) (-1) w = sel (posP (vM M1) L (vM M s 5) 1) (fun j => nI (L j)) (-1) w := by
    have ep : ∀ j, j < w → posP (vN (up2 N1 (2 + s) 6 0)) L (vM M s 5) 1 j = posP (vM M1) L (vM M s 5) 1 j := fun j hj => by
      unfold posP
      rw [ech j hj, cnt_congr (n := j + 1) (fun i hi => ech i (by omega))]
    have key : ∀ d i, i + d ≤ w → selF (posP (vN (up2 N1 (2 + s) 6 0)) L (vM M s 5) 1) (fun j => nI (L j)) (-1) d i = selF (posP (vM M1) L (vM M s 5) 1) (fun j => nI (L j)) (-1) d i := by
      intro d
      induction d with
      | zero => intro i _; rfl
      | succ d ih =>
        intro i hi
        unfold selF
        rw [ep i (by omega), ih (i + 1) (by omega)]
    exact key w 0 (by omega)
  have t8 : fX12_t M (nI s) 8 = some (ls M s) := r_8 M (by omega)
  have t5 : fX12_t M1 (nI s) 5 = some (vM M s 5) := by rw [r_5 M1 (by omega), ev1 s 5 hs (by decide)]
  have s6 : fX12_set M1 (nI s) 6 0 = some (up2 M1 1 (8 + 12 * s + 6) 0) := r_set M1 (o := 6) (by omega) (by decide) 0
  have s8 : fX12_set (up2 M1 1 (8 + 12 * s + 6) 0) (nI s) 8 0 = some (up2 (up2 M1 1 (8 + 12 * s + 6) 0) 1 (8 + 12 * s + 8) 0) := r_set _ (o := 8) (by omega) (by decide) 0
  unfold fX6_endTurn fX12_ends
  rw [gd_t hs8, e, Nat.one_mul, hlast, g1, t8]
  simp only [Option.bind_some]
  rw [n5, c_stationInLine hn lv2, epos, inLine_eq hn h1.lq.1 h1.lt, g2]
  simp only [Option.bind_some]
  rw [t5]
  simp only [Option.bind_some]
  rw [r_inLine h1.mv]
  simp only [Option.bind_some]
  rw [s6]
  simp only [Option.bind_some]
  rw [s8]
  simp only [Option.bind_some]
  rw [← inLine_eq hn h1.lq.1 h1.lt]
  have fr3 : Fr1 M (up2 (up2 M1 1 (8 + 12 * s + 6) 0) 1 (8 + 12 * s + 8) 0) := (g4.trans (Fr1.up _ _ _)).trans (Fr1.up _ _ _)
  have es3 : ∀ p, (p < 8 ∨ 104 ≤ p) → up2 (up2 M1 1 (8 + 12 * s + 6) 0) 1 (8 + 12 * s + 8) 0 1 p = M1 1 p := fun p hp => by rw [up2_at, if_neg (by omega), up2_at, if_neg (by omega)]
  have eM3 : ∀ a f, f ≤ 9 → vM (up2 (up2 M1 1 (8 + 12 * s + 6) 0) 1 (8 + 12 * s + 8) 0) a f = if a = s ∧ f = 6 then 0 else vM M1 a f := fun a f hf => by
    have z : ¬ (8 + 12 * a + (if f ≤ 7 then f else f + 1) = 8 + 12 * s + 8) := by split <;> omega
    rw [vM_up, if_neg z, vM_set _ (by decide) _ _ hf, vset]
  have eT3 : ∀ a, tk (up2 (up2 M1 1 (8 + 12 * s + 6) 0) 1 (8 + 12 * s + 8) 0) a = tk M1 a := fun a => by unfold tk; rw [up2_at, if_neg (by omega), up2_at, if_neg (by omega)]
  have eL3 : ∀ a, ls (up2 (up2 M1 1 (8 + 12 * s + 6) 0) 1 (8 + 12 * s + 8) 0) a = if a = s then 0 else ls M1 a := fun a => by
    unfold ls
    rw [up2_at]
    by_cases c : a = s
    · rw [if_pos ⟨rfl, by omega⟩, if_pos c]
    · rw [if_neg (by omega), up2_at, if_neg (by omega), if_neg c]
  have et1 : ∀ a, a < n → tk M1 a = tk M a := fun a ha => g5 _ (by omega) (by omega)
  have el1 : ∀ a, a < n → ls M1 a = ls M a := fun a ha => g5 _ (by omega) (by omega)
  have ewp : ∀ a, a < n → waitP (vM M1) (vM M s 5) a = waitP (vM M) (vM M s 5) a := fun a ha => by
    unfold waitP
    rw [ev1 a 6 ha (by decide), ev1 a 5 ha (by decide)]
  have hwait : ∀ a, a < n → waitP (vM M1) (vM M s 5) a = true → ∃ j, j < w ∧ L j = a ∧ chP (vM M1) L (vM M s 5) j = true := fun a ha hwa => by
    have q := of_decide_eq_true hwa
    obtain ⟨j, hj, ej⟩ := of_decide_eq_true ((h1.lt.2.1 a ha).mpr q.1)
    exact ⟨j, hj, ej, decide_eq_true (by rw [ej]; exact q.2)⟩
  rcases sel_spec (posP (vM M1) L (vM M s 5) 1) (fun j => nI (L j)) (-1 : Int32) w with ⟨q1, q2⟩ | ⟨j0, hj, q1, q2⟩
  · rw [q1, if_pos neg1_lt, if_pos neg1_lt]
    have hno := pos_none q2
    have hE : EFX M (up2 (up2 M1 1 (8 + 12 * s + 6) 0) 1 (8 + 12 * s + 8) 0) n s 99 := by
      refine ⟨fun z => by omega, fun k hk hw => ?_, fun a f ha hf => ?_, fun a ha => ?_, fun a ha => by rw [eT3, et1 a ha], ?_, ?_, ?_⟩
      · rw [← ewp k hk] at hw
        obtain ⟨j, hj, ej, hc⟩ := hwait k hk hw
        rw [hno j hj] at hc
        cases hc
      · rw [eM3 a f hf, ev1 a f ha hf, if_neg (show ¬ (a = 99 ∧ f = 7) by omega), if_neg (show ¬ (a = 99 ∧ f = 6) by omega)]
      · rw [eL3, el1 a ha]
        by_cases c : a = s
        · rw [if_pos c, if_pos (Or.inr c)]
        · rw [if_neg c, if_neg (by omega)]
      · rw [es3 _ (by omega)]; exact g5 _ (by omega) (by omega)
      · rw [es3 _ (by omega)]; exact g5 _ (by omega) (by omega)
      · rw [es3 _ (by omega)]; exact g5 _ (by omega) (by omega)
    refine ⟨_, _, 99, rfl, rfl, fr3, ⟨w, L, RC_over h hs hm hE (fun a f ha hf => ?_) (fun a ha => ?_) ?_ ?_ ?_ ?_ ?_ ⟨h.lq.1, lv2.2.1, lv2.2.2.1⟩ h.lt.1 (fun k hk => ⟨fun z => ⟨z, by omega⟩, fun z => z.1⟩) h.lt.2.2 (fun j hj => ⟨j, hj, rfl⟩)⟩, hE⟩
    · rw [if_neg (by omega), if_neg (by omega), vN_set, vset]
      by_cases c : a = s ∧ f = 6
      · rw [if_pos c, if_pos c]
      · rw [if_neg c, if_neg c]; exact g3 _ _ (by omega)
    · rw [up2_at, if_neg (by omega)]; exact g3 _ _ (by omega)
    · rw [up2_at, if_neg (by omega)]; exact g3 _ _ (by omega)
    · rw [up2_at, if_neg (by omega)]; exact g3 _ _ (by omega)
    · rw [up2_at, if_neg (by omega)]; exact g3 _ _ (by omega)
    · rw [es3 _ (by omega)]; exact g5 _ (by omega) (by omega)
    · exact LG_keep g6 (by rw [up2_at, if_neg (by omega)]) (es3 _ (by omega)) (fun e => ⟨by rw [up2_at, if_neg (by omega)], by rw [up2_at, if_neg (by omega)], by rw [up2_at, if_neg (by omega)]⟩) (fun f hf => es3 f (by omega))
  · have hw8 := h1.lq.1
    have hxn := h1.lt.1.1 j0 hj
    obtain ⟨hc0, hcf⟩ := pos_first (by omega) q1
    have x6 : vM M (L j0) 6 = 2 := by rw [← ev1 _ 6 hxn (by decide)]; exact (h1.lt.2.1 _ hxn).mp (decide_eq_true ⟨j0, hj, rfl⟩)
    have x5 : vM M (L j0) 5 = vM M s 5 := by rw [← ev1 _ 5 hxn (by decide)]; exact of_decide_eq_true hc0
    have hxs : L j0 ≠ s := fun z => by rw [z, hm] at x6; exact absurd x6 (by decide)
    have hlv := c_leaveLine hn lv2 hj
    rw [q2, if_neg (nI_pos (by omega)), if_neg (nI_pos (by omega)), hlv]
    simp only [Option.bind_some]
    rw [c_beginTurn _ (by omega), r_speaks _ (by omega)]
    simp only [Option.bind_some]
    generalize hx : L j0 = x at *
    have k5 : rmL (up2 N1 (2 + s) 6 0) j0 w 0 5 = N 0 5 := by rw [rmL_at _ _ _ (by omega) (by omega), up2_at, if_neg (by omega)]; exact g3 _ _ (by omega)
    have m1 : up2 (up2 M1 1 (8 + 12 * s + 6) 0) 1 (8 + 12 * s + 8) 0 1 1 = M 1 1 := by rw [es3 _ (by omega)]; exact g5 _ (by omega) (by omega)
    rw [k5, m1]
    generalize hN3 : rmL (up2 N1 (2 + s) 6 0) j0 w = N3 at *
    generalize hM3 : up2 (up2 M1 1 (8 + 12 * s + 6) 0) 1 (8 + 12 * s + 8) 0 = M3 at *
    have kN : ∀ k g, ¬ (2 ≤ k ∧ k ≤ 10) → ¬ (k = 0 ∧ g = 3) → up2 (up2 N3 (2 + x) 6 1) (2 + x) 7 (N 0 5) k g = N1 k g := fun k g hk hg => by
      rw [up2_at, if_neg (by omega), up2_at, if_neg (by omega), ← hN3, rmL_at _ _ _ (by omega) hg, up2_at, if_neg (by omega)]
    have es4 : ∀ p, (p < 8 ∨ 104 ≤ p) → up2 (up2 (up2 M3 1 (8 + 12 * x + 6) 1) 1 (8 + 12 * x + 7) (M 1 1)) 1 (8 + 12 * x + 8) 0 1 p = M1 1 p := fun p hp => by
      rw [up2_at, if_neg (by omega), up2_at, if_neg (by omega), up2_at, if_neg (by omega)]; exact es3 p hp
    have eM4 : ∀ a f, a < n → f ≤ 9 → vM (up2 (up2 (up2 M3 1 (8 + 12 * x + 6) 1) 1 (8 + 12 * x + 7) (M 1 1)) 1 (8 + 12 * x + 8) 0) a f = if a = x ∧ f = 7 then M 1 1 else if a = x ∧ f = 6 then 1 else if a = s ∧ f = 6 then 0 else vM M a f := fun a f ha hf => by
      have z : ¬ (8 + 12 * a + (if f ≤ 7 then f else f + 1) = 8 + 12 * x + 8) := by split <;> omega
      rw [vM_up, if_neg z, vM_set _ (by decide) _ _ hf, vset, vM_set _ (by decide) _ _ hf, vset, eM3 a f hf, ev1 a f ha hf]
    have eN4 : ∀ a f, a < n → vN (up2 (up2 N3 (2 + x) 6 1) (2 + x) 7 (N 0 5)) a f = if a = x ∧ f = 7 then N 0 5 else if a = x ∧ f = 6 then 1 else if a = s ∧ f = 6 then 0 else vN N a f := fun a f ha => by
      rw [vN_set, vset, vN_set, vset]
      have q : vN N3 a f = if a = s ∧ f = 6 then 0 else vN N a f := by
        have q9 : vN N3 a f = vN (up2 N1 (2 + s) 6 0) a f := by rw [← hN3]; exact rmL_at _ _ _ (by omega) (by omega)
        rw [q9, vN_set, vset]
        by_cases c : a = s ∧ f = 6
        · rw [if_pos c, if_pos c]
        · rw [if_neg c, if_neg c]; exact g3 _ _ (by omega)
      rw [q]
    have hE : EFX M (up2 (up2 (up2 M3 1 (8 + 12 * x + 6) 1) 1 (8 + 12 * x + 7) (M 1 1)) 1 (8 + 12 * x + 8) 0) n s x := by
      refine ⟨fun _ => decide_eq_true ⟨x6, x5⟩, fun k hk hw => ⟨hxn, ?_⟩, eM4, fun a ha => ?_, fun a ha => ?_, ?_, ?_, ?_⟩
      · rw [← ewp k hk] at hw
        obtain ⟨j, hj2, ej, hc⟩ := hwait k hk hw
        rcases Nat.lt_trichotomy j j0 with z | z | z
        · rw [hcf j z] at hc; cases hc
        · left; rw [← ej, z, hx]
        · right
          have q := h1.lt.2.2 j0 j z hj2
          rw [ej, hx, et1 _ hxn, et1 _ hk] at q
          exact q
      · unfold ls
        rw [up2_at]
        by_cases c : a = x
        · rw [if_pos ⟨rfl, by omega⟩, if_pos (Or.inl c)]
        · rw [if_neg (by omega), up2_at, if_neg (by omega), up2_at, if_neg (by omega)]
          have q := eL3 a
          unfold ls at q
          rw [q]
          have q2 := el1 a ha
          unfold ls at q2
          rw [q2]
          by_cases c2 : a = s
          · rw [if_pos c2, if_pos (Or.inr c2)]
          · rw [if_neg c2, if_neg (by omega)]
      · have q : tk (up2 (up2 (up2 M3 1 (8 + 12 * x + 6) 1) 1 (8 + 12 * x + 7) (M 1 1)) 1 (8 + 12 * x + 8) 0) a = tk M3 a := by
          unfold tk; rw [up2_at, if_neg (by omega), up2_at, if_neg (by omega), up2_at, if_neg (by omega)]
        rw [q, eT3, et1 a ha]
      · rw [es4 _ (by omega)]; exact g5 _ (by omega) (by omega)
      · rw [es4 _ (by omega)]; exact g5 _ (by omega) (by omega)
      · rw [es4 _ (by omega)]; exact g5 _ (by omega) (by omega)
    have lq4 : LQ (up2 (up2 N3 (2 + x) 6 1) (2 + x) 7 (N 0 5)) (rmv L j0) (w - 1) := by
      have q := rmL_LQ (N := up2 N1 (2 + s) 6 0) (L := L) ⟨hw8, lv2.2.1, lv2.2.2.1⟩ hj
      rw [hN3] at q
      obtain ⟨z1, z2, z3⟩ := q
      exact ⟨z1, by rw [up2_at, if_neg (by omega), up2_at, if_neg (by omega)]; exact z2, fun j hj2 => by rw [up2_at, if_neg (by omega), up2_at, if_neg (by omega)]; exact z3 j hj2⟩
    refine ⟨_, _, x, rfl, rfl, ((fr3.trans (Fr1.up _ _ _)).trans (Fr1.up _ _ _)).trans (Fr1.up _ _ _), ⟨w - 1, rmv L j0, RC_over h hs hm hE (fun a f ha hf => eN4 a f ha) (fun a ha => ?_) ?_ ?_ ?_ ?_ ?_ lq4 (rmv_LI h.lt.1 hj) (fun k hk => by rw [rmv_inL h.lt.1 hj, hx]) (rmv_tk h.lt hj) (fun j hj2 => rmv_of hj2)⟩, hE⟩
    · rw [up2_at, if_neg (by omega), up2_at, if_neg (by omega), ← hN3, rmL_at _ _ _ (by omega) (by omega), up2_at, if_neg (by omega)]
      exact g3 _ _ (by omega)
    · rw [kN _ _ (by omega) (by omega)]; exact g3 _ _ (by omega)
    · rw [kN _ _ (by omega) (by omega)]; exact g3 _ _ (by omega)
    · rw [kN _ _ (by omega) (by omega)]; exact g3 _ _ (by omega)
    · rw [es4 _ (by omega)]; exact g5 _ (by omega) (by omega)
    · exact LG_keep g6 (kN _ _ (by omega) (by omega)) (es4 _ (by omega)) (fun e => ⟨kN _ _ (by omega) (by omega), kN _ _ (by omega) (by omega), kN _ _ (by omega) (by omega)⟩) (fun f hf => es4 f (by omega))
