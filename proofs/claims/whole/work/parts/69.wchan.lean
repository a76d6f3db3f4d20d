/-! ===== a channel written, both sides ===== -/
theorem cnt_step (p : Nat → Bool) (n : Nat) : cnt p (n + 1) = cnt p n + (if p n = true then 1 else 0) := rfl
/-- the k-th of the line -/
theorem inLine_at {N M : Mem} {b B n w : Nat} {L : Nat → Nat} (h : RC N M b B n w L) {c : Int32} {j : Nat} (hj : j < w) (hc : chP (vM M) L c j = true) : fX12_inLine M c (nI (cnt (chP (vM M) L c) j + 1)) = some (nI (L j)) := by
  have hn := h.hn
  have hw := h.lq.1
  rw [r_inLine h.mv, ← inLine_eq hn hw h.lt]
  congr 1
  have ej : cnt (chP (vM M) L c) (j + 1) = cnt (chP (vM M) L c) j + 1 := by rw [cnt_step, if_pos hc]
  refine sel_first hj ?_ (fun u hu => ?_)
  · unfold posP
    rw [hc, ej, decide_eq_true rfl]
    rfl
  · unfold posP
    have m := cnt_mono (chP (vM M) L c) (a := u + 1) (b := j) (by omega)
    have b1 := cnt_le (chP (vM M) L c) j
    have b2 := cnt_le (chP (vM M) L c) (u + 1)
    have hne : ¬ nI (cnt (chP (vM M) L c) (u + 1)) = nI (cnt (chP (vM M) L c) j + 1) := by
      rw [nI_eq (by omega) (by omega)]
      omega
    rw [decide_eq_false hne, Bool.and_false]
theorem lineOf_w {N M : Mem} {b B n w : Nat} {L : Nat → Nat} (h : RC N M b B n w L) (c : Int32) : fX12_lineOf M c = some (nI (cnt (chP (vM M) L c) w)) := by
  rw [← line_eq h, c_waitingOn h.hn h.lv]
  congr 2
  exact cnt_congr (fun j hj => h.chp c hj)
theorem chP_fw {M M' : Mem} (h : FWr M M') (L : Nat → Nat) (c : Int32) : chP (vM M') L c = chP (vM M) L c := by
  funext j
  unfold chP
  rw [h.row]
theorem q_writeLine {N M0 : Mem} {b B n w : Nat} {L : Nat → Nat} (hR0 : RC N M0 b B n w L) (G : Mem) (c : Int32) : ∀ d j, j + d = w → ∀ (Sb : TX) (M : Mem) (len : Nat), FWr M0 M → OB Sb M len → len + 3 * (w - j) ≤ 34 →
    ∃ t M' len', lp (fX11_appendLine_s G N c) (nI j, Sb) = some t ∧ lp (fX12_writeChannel_s c) (nI (cnt (chP (vM M0) L c) j + 1), M) = some (nI len', M') ∧ OB t M' len' ∧ FWr M0 M' := by
  have hn := hR0.hn
  have hw := hR0.lq.1
  intro d
  induction d with
  | zero =>
    intro j hj Sb M len hF hO hl
    have e : j = w := by omega
    subst e
    have hR := hR0.fw hF
    have b1 := cnt_le (chP (vM M0) L c) j
    refine ⟨Sb, M, len, lp_inr ?_, lp_inr ?_, hO, hF⟩
    · unfold fX11_appendLine_s
      dsimp only
      rw [if_pos (show N 0 3 ≤ nI j by rw [hR.lq.2.1]; exact nI_le (Nat.le_refl j) (by omega))]
    · unfold fX12_writeChannel_s
      dsimp only
      rw [lineOf_w hR, chP_fw hF]
      simp only [Option.bind_some]
      rw [if_pos (nI_lt (Nat.lt_succ_self _) (by omega)), hO.2.2.1]
  | succ d ih =>
    intro j hj Sb M len hF hO hl
    have hR := hR0.fw hF
    have hjw : j < w := by omega
    have ej : (nI j).toNatClampNeg = j := nI_clamp (by omega)
    have hL := hR0.lt.1.1 j hjw
    have eL : (nI (L j)).toNatClampNeg = L j := nI_clamp (by omega)
    have n5 : N (2 + L j) 5 = vM M0 (L j) 5 := hR0.vw _ hL 5 (by decide)
    have b1 := cnt_le (chP (vM M0) L c) w
    have hnw : ¬ N 0 3 ≤ nI j := by rw [hR.lq.2.1]; exact lt_step hw hjw
    by_cases g : vM M0 (L j) 5 = c
    · have hc : chP (vM M0) L c j = true := decide_eq_true g
      have hcm : chP (vM M) L c j = true := by rw [chP_fw hF]; exact hc
      have ecn : cnt (chP (vM M0) L c) (j + 1) = cnt (chP (vM M0) L c) j + 1 := by rw [cnt_step, if_pos hc]
      have mono := cnt_mono (chP (vM M0) L c) (a := j + 1) (b := w) (by omega)
      obtain ⟨t1, M1, a1, a2, a3, a4⟩ := ap_char hO (by omega) (show 60 < 128 by decide)
      have a1 : fJ4_append_cf468 Sb 60 = some t1 := a1
      have a2 : fX12_write M 60 = some M1 := a2
      have hR1 := hR.fw a4
      have il := inLine_at hR1 hjw (show chP (vM M1) L c j = true by rw [chP_fw a4]; exact hcm)
      rw [chP_fw a4, chP_fw hF] at il
      obtain ⟨t2, M2, c1, c2, c3, c4⟩ := ap_sign hR1 G a3 (by omega) hL
      obtain ⟨t, M', len', d1, d2, d3, d4⟩ := ih (j + 1) (by omega) t2 M2 (len + 1 + 2) ((hF.trans a4).trans c4) c3 (by omega)
      refine ⟨t, M', len', ?_, ?_, d3, d4⟩
      · rw [lp_inl (s' := (nI (j + 1), t2))]
        · exact d1
        · unfold fX11_appendLine_s
          dsimp only
          rw [if_neg hnw, gd_t (inb_nI (by omega) (by decide)), ej, hR.lq.2.2 j hjw, gd_t (inb_nI (by omega) (by decide)), eL, Nat.one_mul, if_pos (n5.trans g), a1]
          simp only [Option.bind_some]
          rw [c1]
          simp only [Option.bind_some]
          rw [nI_1]
      · rw [lp_inl (s' := (nI (cnt (chP (vM M0) L c) (j + 1) + 1), M2))]
        · exact d2
        · unfold fX12_writeChannel_s
          dsimp only
          rw [lineOf_w hR, chP_fw hF]
          simp only [Option.bind_some]
          rw [if_neg (nI_nlt (by omega) (by omega)), a2]
          simp only [Option.bind_some]
          rw [il]
          simp only [Option.bind_some]
          rw [c2]
          simp only [Option.bind_some]
          rw [nI_1, ecn]
    · have hc : chP (vM M0) L c j = false := decide_eq_false g
      have ecn : cnt (chP (vM M0) L c) (j + 1) = cnt (chP (vM M0) L c) j := by rw [cnt_step, hc]; rfl
      obtain ⟨t, M', len', d1, d2, d3, d4⟩ := ih (j + 1) (by omega) Sb M len hF hO (by omega)
      rw [ecn] at d2
      refine ⟨t, M', len', ?_, d2, d3, d4⟩
      rw [lp_inl (s' := (nI (j + 1), Sb))]
      · exact d1
      · unfold fX11_appendLine_s
        dsimp only
        rw [if_neg hnw, gd_t (inb_nI (by omega) (by decide)), ej, hR.lq.2.2 j hjw, gd_t (inb_nI (by omega) (by decide)), eL, Nat.one_mul, if_neg (fun z => g (n5.symm.trans z)), nI_1]
theorem q_writeChannel {z : KS} {M : Mem} {B : Nat} (h : SR z M B) (a : Int32) : ok (fC_writeChannel z M a) (fun r => SR r.1 r.2 B) := by
  obtain ⟨n, w, L, hR⟩ := h.1
  have hn := hR.hn
  unfold fC_writeChannel
  rcases chan_or a with ⟨c, hc, ea, g1, g2⟩ | ⟨g1, g2⟩
  · have g3 : fX11_requireChannel a = some (.inr ()) := by unfold fX11_requireChannel; rw [g1]; rfl
    obtain ⟨len, hO⟩ := h.2.2.2.2.2
    have hO : OB z.Sb M len := hO
    have hl34 : len ≤ 34 := by rcases hO.2.2.2.1 with q | q <;> have := hO.2.2.2.2.1 <;> omega
    obtain ⟨t0, c0, o0⟩ := c_setLength (hO.r04 0) hl34
    have w0 : FWr (up2 M 0 4 0) (up2 (up2 M 0 4 0) 0 10 0) := fun k f hk hf => by rw [up2_at, if_neg hf]
    have hR0 : RC z.N (up2 M 0 4 0) 59 B n w L := hR.ref (fun f _ => by rw [up2_at, if_neg (by omega)])
    have hRw := hR0.fw w0
    have s1 : fX6_speakerOn z.N a = some (first (spkP (vM (up2 (up2 M 0 4 0) 0 10 0)) a) n) := by rw [c_speakerOn hRw.nv, hRw.spk]
    have s2 : fX12_speakerOn (up2 (up2 M 0 4 0) 0 10 0) a = some (first (spkP (vM (up2 (up2 M 0 4 0) 0 10 0)) a) n) := r_speakerOn hRw.mv a
    rcases first_spec (spkP (vM (up2 (up2 M 0 4 0) 0 10 0)) a) n with ⟨f1, _⟩ | ⟨s, hs, hp, _, f1⟩
    · refine fin (k := 0) (z' := KS.mk z.G z.N z.T z.V z.Hs z.Q z.R z.P t0 (nI 0).toInt64 z.od) (b := nI 0) (M' := up2 (up2 M 0 4 0) 0 10 0) ?_ ?_ ?_ (fun _ => rfl) ((h.r04 0).fw w0 o0)
      · unfold fL_writeChannel fX11_writeChannel
        rw [g3]
        simp only [Option.bind_some, sx]
        rw [c0]
        simp only [Option.bind_some]
        rw [s1, f1]
        simp only [Option.bind_some]
        rw [if_pos neg1_lt, c_length o0]
        rfl
      · unfold fX12_writeChannel
        rw [g2]
        simp only [Option.bind_some]
        rw [if_neg (by decide), if_pos (le0 M), s2, f1]
        simp only [Option.bind_some]
        rw [if_neg (by decide)]
        rfl
      · rw [up2_at, if_neg (by omega)]
        exact e_04 M 0
    · have hps : vM (up2 (up2 M 0 4 0) 0 10 0) s 5 = a ∧ vM (up2 (up2 M 0 4 0) 0 10 0) s 6 = 1 := of_decide_eq_true hp
      obtain ⟨t1, M1, a1, a2, a3, a4⟩ := ap_sign hRw z.G o0 (by omega) hs
      -- the speaker isn't in the line: at most seven are
      have hxs : inL L w s = false := by
        cases q : inL L w s with
        | false => rfl
        | true =>
          have := (hRw.lt.2.1 s hs).mp q
          rw [hps.2] at this
          exact absurd this (by decide)
      have hw7 := line_lt hRw.lt.1 hs hxs
      obtain ⟨t, M', len', d1, d2, d3, d4⟩ := q_writeLine hRw z.G a w 0 (by omega) t1 M1 (0 + 2) a4 a3 (by omega)
      have fall := w0.trans d4
      have es : (nI s).toNatClampNeg = s := nI_clamp (by omega)
      refine fin (k := 0) (z' := KS.mk z.G z.N z.T z.V z.Hs z.Q z.R z.P t (nI len').toInt64 z.od) (b := nI len') (M' := M') ?_ ?_ ?_ (fun _ => rfl) ((h.r04 0).fw fall d3)
      · unfold fL_writeChannel fX11_writeChannel
        rw [g3]
        simp only [Option.bind_some, sx]
        rw [c0]
        simp only [Option.bind_some]
        rw [s1, f1]
        simp only [Option.bind_some]
        rw [if_neg (nI_pos (by omega)), gd_t (inb_nI (by omega) (by decide)), es, Nat.one_mul, a1]
        simp only [Option.bind_some]
        unfold fX11_appendLine
        rw [show ((0 : Int32), t1) = (nI 0, t1) from rfl, d1]
        simp only [Option.bind_some]
        rw [c_length d3]
        rfl
      · unfold fX12_writeChannel
        rw [g2]
        simp only [Option.bind_some]
        rw [if_neg (by decide), if_pos (le0 M), s2, f1]
        simp only [Option.bind_some]
        rw [if_pos (nI_0le (by omega)), a2]
        exact d2
      · rw [fall 0 4 (by decide) (by omega)]
        exact e_04 M 0
  · have g3 : fX11_requireChannel a = some (.inl 0) := by unfold fX11_requireChannel; rw [g1]; rfl
    refine fin (k := 1) (z' := z) (b := 0) (M' := up2 M 0 4 1) ?_ ?_ (e_04 _ _) (fun q => absurd q (by decide)) (h.r04 1)
    · unfold fL_writeChannel fX11_writeChannel
      rw [g3]
      rfl
    · unfold fX12_writeChannel
      rw [g2]
      simp only [Option.bind_some]
      rw [if_pos trivial, if_neg (nle1 M)]
