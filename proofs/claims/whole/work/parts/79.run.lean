/-! ===== a program run on both sides ===== -/
theorem run_loop {P : Mem} {c : Nat} (hc : c ≤ 13) (hP3 : P 0 3 = nI c) (x : Int32) (G N Hs : Mem) (Q : Nat → Mem) {B : Nat} (hB : B < 2 ^ 29) : ∀ d i, i + d = c → ∀ T M : Mem, RCx T M 59 (B + i) → M 0 18 = nI c → (∀ k, k < c → CM P M k) →
    (∃ T' M', lp fX11_run_s (x, nI i, G, N, T, Hs, Q, P) = lp fX11_run_s (x, nI c, G, N, T', Hs, Q, P) ∧ lp fX12_run_s (nI i, M) = lp fX12_run_s (nI c, M') ∧ Fr1 M M' ∧ RCx T' M' 59 (B + c)) ∨
    (∃ j T' M', lp fX11_run_s (x, nI i, G, N, T, Hs, Q, P) = some (.inl 2, up2 G 0 9 (nI j), N, T', Hs, Q, P) ∧ lp fX12_run_s (nI i, M) = some (0, up2 (up2 (cpy M' 2 0 1 0 160) 0 7 (nI j)) 0 4 2) ∧ Fr1 M M') := by
  intro d
  induction d with
  | zero =>
    intro i hi T M hR _ _
    have e : i = c := by omega
    subst e
    exact Or.inl ⟨T, M, rfl, rfl, Fr1.rfl' M, hR⟩
  | succ d ih =>
    intro i hi T M hR h18 hC
    obtain ⟨n, w, L, hR'⟩ := hR
    have ei : (nI i).toNatClampNeg = i := nI_clamp (by omega)
    have hge : ¬ nI c ≤ nI i := nI_ge (by omega) (by omega)
    rcases exec_both hR' (by omega) (show i < 13 by omega) (hC i (by omega)) with ⟨T1, M1, x1, x2, x3, x4⟩ | ⟨x1, x2⟩
    · have s1 : fX11_run_s (x, nI i, G, N, T, Hs, Q, P) = some (.inl (x, nI (i + 1), G, N, T1, Hs, Q, P)) := by
        unfold fX11_run_s
        dsimp only
        rw [if_neg (show ¬ P 0 3 ≤ nI i by rw [hP3]; exact hge), gd_t (inb_nI (by omega) (by decide)), ei, x1]
        simp only [Option.bind_some]
        rw [if_neg (by decide), nI_1]
      have s2 : fX12_run_s (nI i, M) = some (.inl (nI (i + 1), M1)) := by
        unfold fX12_run_s
        dsimp only
        rw [if_neg (show ¬ M 0 18 ≤ nI i by rw [h18]; exact hge), x2]
        simp only [Option.bind_some]
        rw [if_pos trivial, nI_1]
      have hC1 : ∀ k, k < c → CM P M1 k := fun k hk => by
        obtain ⟨κ, b1, b2, b3, b4, b5, b6⟩ := hC k hk
        exact ⟨κ, b1, b2, by rw [x3 7 (by decide)]; exact b3, fun j hj => by rw [x3 8 (by decide)]; exact b4 j hj, fun z => by rw [x3 8 (by decide)]; exact b5 z, fun z => by rw [x3 8 (by decide)]; exact b6 z⟩
      rcases ih (i + 1) (by omega) T1 M1 x4 (by rw [x3 0 (by decide)]; exact h18) hC1 with ⟨T', M', y1, y2, y3, y4⟩ | ⟨j, T', M', y1, y2, y3⟩
      · exact Or.inl ⟨T', M', (lp_inl s1).trans y1, (lp_inl s2).trans y2, x3.trans y3, y4⟩
      · exact Or.inr ⟨j, T', M', (lp_inl s1).trans y1, (lp_inl s2).trans y2, x3.trans y3⟩
    · refine Or.inr ⟨i, T, M, lp_inr ?_, lp_inr ?_, Fr1.rfl' M⟩
      · unfold fX11_run_s
        dsimp only
        rw [if_neg (show ¬ P 0 3 ≤ nI i by rw [hP3]; exact hge), gd_t (inb_nI (by omega) (by decide)), ei, x1]
        simp only [Option.bind_some]
        rw [if_pos trivial]
      · have cp : fX12_copy M 2 160 0 1 160 0 = some (cpy M 2 0 1 0 160) := copy_spec M (k1 := 2) (n1 := 160) (s := 0) (k3 := 1) (n3 := 160) (d := 0) (by decide) (by decide) (by decide) (by decide) (by decide) (by decide) (Or.inl (by decide))
        unfold fX12_run_s
        dsimp only
        rw [if_neg (show ¬ M 0 18 ≤ nI i by rw [h18]; exact hge), x2]
        simp only [Option.bind_some]
        rw [if_neg (by decide), cp]
        rfl
theorem q_run {z : KS} {M : Mem} {B : Nat} (h : SR z M B) (hB : B < 2 ^ 28) : ok (fC_run z M) (fun r => SR r.1 r.2 (B + 13)) := by
  have h' := h
  obtain ⟨g1, g2, g3, ⟨g4, g5⟩, ⟨len, p1, p2, p3, p4⟩, g7⟩ := h
  have hcc : CC z.N := by obtain ⟨n, w, L, q⟩ := g1; exact q.cc
  -- where the reference's reader begins
  have fb : ∀ k f, k ≠ 2 → ¬ (k = 0 ∧ f = 4) → MBf M k f = M k f := fun k f a b => MBf_at M a b
  obtain ⟨M0, hM0⟩ : ∃ M0, M0 = up2 (up2 (up2 (up2 (up2 (MBf M) 0 16 (MBf M 0 15)) 0 15 0) 0 17 0) 0 18 0) 0 19 0 := ⟨_, rfl⟩
  have f0 : ∀ k f, ¬ (k = 0 ∧ 15 ≤ f ∧ f ≤ 19) → M0 k f = MBf M k f := fun k f a => by
    rw [hM0, up2_at, if_neg (by omega), up2_at, if_neg (by omega), up2_at, if_neg (by omega), up2_at, if_neg (by omega), up2_at, if_neg (by omega)]
  have m15 : M0 0 15 = 0 := by rw [hM0, up2_at, if_neg (by omega), up2_at, if_neg (by omega), up2_at, if_neg (by omega), up2_at, if_pos ⟨rfl, rfl⟩]
  have m16 : M0 0 16 = nI len := by
    rw [hM0, up2_at, if_neg (by omega), up2_at, if_neg (by omega), up2_at, if_neg (by omega), up2_at, if_neg (by omega), up2_at, if_pos ⟨rfl, rfl⟩, fb 0 15 (by omega) (by omega)]
    exact p3
  have m17 : M0 0 17 = 0 := by rw [hM0, up2_at, if_neg (by omega), up2_at, if_neg (by omega), up2_at, if_pos ⟨rfl, rfl⟩]
  have m18 : M0 0 18 = 0 := by rw [hM0, up2_at, if_neg (by omega), up2_at, if_pos ⟨rfl, rfl⟩]
  have m19 : M0 0 19 = 0 := by rw [hM0, up2_at, if_pos ⟨rfl, rfl⟩]
  have hS : ST M0 (fun i => M 6 i) len (0, false, []) := ⟨p1, m16, fun i hi => by rw [f0 6 i (by omega), fb 6 i (by omega) (by omega)], m17, Nat.zero_le _, m19, fun _ j hj => absurd hj (Nat.not_lt_zero j)⟩
  have hPX : PX (up2 z.P 0 3 0) (fun i => M 6 i) len := ⟨p1, by rw [up2_at, if_neg (by omega)]; exact p2, fun i hi => by rw [up2_at, if_neg (by omega)]; exact (p4 i hi).1⟩
  obtain ⟨e, P1, Mp, c1, c2, ⟨c3, c4⟩, c5, c6⟩ := parse_both (fun i hi => (p4 i hi).2) 13 0 (by omega) (up2 z.P 0 3 0) M0 0 [] hPX (by rw [up2_at, if_pos ⟨rfl, rfl⟩]; rfl) hS m18 (by omega) (fun k hk => by omega)
  have hparse : fX7_parse z.P = some (e, P1) := c1
  have rparse : fX12_parse (MBf M) = some Mp := by
    unfold fX12_parse
    rw [← hM0]
    exact c2
  have hPR : ∀ (M2 : Mem), M2 0 15 = 0 → PR (up2 P1 0 1 0) M2 := fun M2 a => ⟨0, by omega, by rw [up2_at, if_pos ⟨rfl, rfl⟩]; rfl, a, fun i hi => absurd hi (Nat.not_lt_zero i)⟩
  have fp : ∀ k f, k ≠ 2 → ¬ (k = 0 ∧ f = 4) → ¬ (k = 0 ∧ 15 ≤ f ∧ f ≤ 19) → k ≠ 7 → k ≠ 8 → k ≠ 9 → Mp k f = M k f := fun k f a1 a2 a3 a4 a5 a6 => by rw [c5 k f (by omega) a4 a5 a6, f0 k f a3, fb k f a1 a2]
  have mp15 : Mp 0 15 = 0 := by rw [c5 0 15 (by omega) (by omega) (by omega) (by omega)]; exact m15
  have mp2 : ∀ f, f < 160 → Mp 2 f = M 1 f := fun f hf => by rw [c5 2 f (by omega) (by omega) (by omega) (by omega), f0 2 f (by omega)]; exact MBf_2 M hf
  have mp4 : Mp 0 4 = 0 := by rw [c5 0 4 (by omega) (by omega) (by omega) (by omega), f0 0 4 (by omega)]; exact MBf_4 M
  unfold fC_run
  rcases c6 with ⟨e1, e2, c', d1, d2, d3, d4⟩ | ⟨p, d1, e1, e2, e3⟩
  · -- it is a program
    obtain ⟨K, k1, k2⟩ := net_copy z.T z.N hcc
    have hRK : RCx K Mp 59 (B + 0) := by
      obtain ⟨n, w, L, q⟩ := g1
      exact ⟨n, w, L, (q.net k2).ref (fun f hf => fp 1 f (by omega) (by omega) (by omega) (by omega) (by omega) (by omega))⟩
    have hCM : ∀ k, k < c' → CM (up2 P1 0 1 0) Mp k := fun k hk => by
      obtain ⟨κ, b1, b2, b3, b4, b5, b6⟩ := d4 k hk
      exact ⟨κ, b1, by rw [up2_at, if_neg (by omega)]; exact b2, b3, fun j hj => by rw [up2_at, if_neg (by omega)]; exact b4 j hj, b5, b6⟩
    have hP3 : up2 P1 0 1 0 0 3 = nI c' := by rw [up2_at, if_neg (by omega)]; exact d2
    have ec : ∀ y, lp fX11_run_s (e, 0, z.G, z.N, K, z.Hs, z.Q, up2 P1 0 1 0) = y → fX11_run z.G z.N z.T z.Hs z.Q z.P = y := fun y hy => by
      unfold fX11_run
      rw [hparse]
      simp only [Option.bind_some]
      unfold fX7_empty
      simp only [Option.bind_some]
      rw [if_pos (by rw [e1]; decide), k1]
      exact hy
    have er : ∀ y, lp fX12_run_s (0, Mp) = y → fX12_run M = y := fun y hy => by
      unfold fX12_run
      rw [r_begin]
      simp only [Option.bind_some]
      rw [rparse]
      simp only [Option.bind_some]
      rw [if_pos e2]
      exact hy
    rcases run_loop d1 hP3 e z.G z.N z.Hs z.Q (show B < 2 ^ 29 by omega) c' 0 (by omega) K Mp hRK d3 hCM with ⟨T', M', y1, y2, y3, y4⟩ | ⟨j, T', M', y1, y2, y3⟩
    · -- every command was done
      have y18 : M' 0 18 = nI c' := by rw [y3 0 (by decide)]; exact d3
      have f' : ∀ k f, k ≠ 1 → k ≠ 2 → ¬ (k = 0 ∧ f = 4) → ¬ (k = 0 ∧ 15 ≤ f ∧ f ≤ 19) → k ≠ 7 → k ≠ 8 → k ≠ 9 → M' k f = M k f := fun k f a0 a1 a2 a3 a4 a5 a6 => by rw [y3 k a0]; exact fp k f a1 a2 a3 a4 a5 a6
      obtain ⟨Hs', Q', M2, w1, w2, w3, w4⟩ := HI_push (M1 := M') g2 (show B ≤ B + 13 by omega) g1 hcc (fun f hf => by rw [y3 2 (by decide)]; exact mp2 f hf) (f' 0 5 (by omega) (by omega) (by omega) (by omega) (by omega) (by omega) (by omega)) (fun f _ => f' 4 f (by omega) (by omega) (by omega) (by omega) (by omega) (by omega) (by omega)) (nI c')
      obtain ⟨n, w, L, hR'⟩ := y4
      obtain ⟨N2, n1, n2⟩ := net_copy z.N T' hR'.cc
      have f2 : ∀ k f, k ≠ 1 → k ≠ 2 → k ≠ 4 → ¬ (k = 0 ∧ (f = 4 ∨ f = 5)) → ¬ (k = 0 ∧ 15 ≤ f ∧ f ≤ 19) → k ≠ 7 → k ≠ 8 → k ≠ 9 → M2 k f = M k f := fun k f a0 a1 a2 a3 a4 a5 a6 a7 => by rw [w3 k f a2 (by omega)]; exact f' k f a0 a1 (by omega) a4 a5 a6 a7
      have hSR : SRa z.G N2 z.V Hs' Q' (up2 P1 0 1 0) z.Sb M2 (B + 13) := by
        refine ⟨⟨n, w, L, ((hR'.net n2).ref (fun f _ => w3 1 f (by omega) (by omega))).mono (Nat.le_refl _) (by omega)⟩, w4, (g3.mono (by omega)).ref (f2 _ _ (by omega) (by omega) (by omega) (by omega) (by omega) (by omega) (by omega) (by omega)) (fun f _ => f2 _ _ (by omega) (by omega) (by omega) (by omega) (by omega) (by omega) (by omega) (by omega)), ⟨by rw [f2 _ _ (by omega) (by omega) (by omega) (by omega) (by omega) (by omega) (by omega) (by omega)]; exact g4, by rw [f2 _ _ (by omega) (by omega) (by omega) (by omega) (by omega) (by omega) (by omega) (by omega)]; exact g5⟩, hPR M2 ?_, g7.ref (f2 _ _ (by omega) (by omega) (by omega) (by omega) (by omega) (by omega) (by omega) (by omega)) (fun f => f2 _ _ (by omega) (by omega) (by omega) (by omega) (by omega) (by omega) (by omega) (by omega))⟩
        rw [w3 0 15 (by omega) (by omega), y3 0 (by decide)]
        exact mp15
      refine fin (k := 0) (z' := KS.mk z.G N2 T' z.V Hs' Q' z.R (up2 P1 0 1 0) z.Sb (nI c').toInt64 z.od) (b := nI c') (M' := M2) ?_ (er _ ?_) ?_ (fun _ => rfl) hSR
      · unfold fL_run
        rw [ec (some (.inr (nI c'), z.G, N2, T', Hs', Q', up2 P1 0 1 0)) ?_]
        · rfl
        · refine Eq.trans y1 (lp_inr ?_)
          unfold fX11_run_s
          dsimp only
          rw [if_pos (show up2 P1 0 1 0 0 3 ≤ nI c' by rw [hP3]; exact Int32.le_refl _), w1]
          simp only [Option.bind_some]
          rw [n1, hP3]
          rfl
      · refine Eq.trans y2 (lp_inr ?_)
        unfold fX12_run_s
        dsimp only
        rw [if_pos (show M' 0 18 ≤ nI c' by rw [y18]; exact Int32.le_refl _), y18, w2]
        rfl
      · rw [w3 0 4 (by omega) (by omega), y3 0 (by decide)]
        exact mp4
    · -- a command failed
      have f2 : ∀ k f, k ≠ 1 → k ≠ 2 → ¬ (k = 0 ∧ (f = 4 ∨ f = 7)) → ¬ (k = 0 ∧ 15 ≤ f ∧ f ≤ 19) → k ≠ 7 → k ≠ 8 → k ≠ 9 → up2 (up2 (cpy M' 2 0 1 0 160) 0 7 (nI j)) 0 4 2 k f = M k f := fun k f a0 a1 a3 a4 a5 a6 a7 => by
        rw [up2_at, if_neg (by omega), up2_at, if_neg (by omega)]
        unfold cpy
        rw [if_neg (by omega), y3 k a0]
        exact fp k f a1 (by omega) a4 a5 a6 a7
      have f1 : ∀ f, f < 160 → up2 (up2 (cpy M' 2 0 1 0 160) 0 7 (nI j)) 0 4 2 1 f = M 1 f := fun f hf => by
        rw [up2_at, if_neg (by omega), up2_at, if_neg (by omega)]
        unfold cpy
        rw [if_pos (by omega), y3 2 (by decide), show 0 + (f - 0) = f by omega]
        exact mp2 f hf
      have hSR : SRa (up2 z.G 0 9 (nI j)) z.N z.V z.Hs z.Q (up2 P1 0 1 0) z.Sb (up2 (up2 (cpy M' 2 0 1 0 160) 0 7 (nI j)) 0 4 2) (B + 13) := by
        refine ⟨(g1.ref f1).mono (by omega), (g2.mono (by omega)).ref (f2 _ _ (by omega) (by omega) (by omega) (by omega) (by omega) (by omega) (by omega)) (fun f _ => f2 _ _ (by omega) (by omega) (by omega) (by omega) (by omega) (by omega) (by omega)), ?_, ⟨?_, ?_⟩, hPR _ ?_, g7.ref (f2 _ _ (by omega) (by omega) (by omega) (by omega) (by omega) (by omega) (by omega)) (fun f => f2 _ _ (by omega) (by omega) (by omega) (by omega) (by omega) (by omega) (by omega))⟩
        · have g3' := (g3.mono (show B ≤ B + 13 by omega)).ref (M' := up2 (up2 (cpy M' 2 0 1 0 160) 0 7 (nI j)) 0 4 2) (f2 _ _ (by omega) (by omega) (by omega) (by omega) (by omega) (by omega) (by omega)) (fun f _ => f2 _ _ (by omega) (by omega) (by omega) (by omega) (by omega) (by omega) (by omega))
          have eg : up2 z.G 0 9 (nI j) 0 3 = z.G 0 3 := by rw [up2_at, if_neg (by omega)]
          unfold SA at g3' ⊢
          rw [eg]
          exact g3'
        · rw [up2_at, if_neg (by omega), f2 0 6 (by omega) (by omega) (by omega) (by omega) (by omega) (by omega) (by omega)]
          exact g4
        · rw [up2_at, if_pos ⟨rfl, rfl⟩, up2_at, if_neg (by omega), up2_at, if_pos ⟨rfl, rfl⟩]
        · rw [up2_at, if_neg (by omega), up2_at, if_neg (by omega)]
          unfold cpy
          rw [if_neg (by omega), y3 0 (by decide)]
          exact mp15
      refine fin (k := 2) (z' := KS.mk (up2 z.G 0 9 (nI j)) z.N T' z.V z.Hs z.Q z.R (up2 P1 0 1 0) z.Sb z.o z.od) (b := 0) (M' := up2 (up2 (cpy M' 2 0 1 0 160) 0 7 (nI j)) 0 4 2) ?_ (er _ y2) (e_04 _ _) (fun q => absurd q (by decide)) hSR
      unfold fL_run
      rw [ec _ y1]
      rfl
  · -- it is no program
    have f2 : ∀ k f, k ≠ 2 → ¬ (k = 0 ∧ (f = 4 ∨ f = 6)) → ¬ (k = 0 ∧ 15 ≤ f ∧ f ≤ 19) → k ≠ 7 → k ≠ 8 → k ≠ 9 → up2 (up2 Mp 0 6 (nI p)) 0 4 1 k f = M k f := fun k f a1 a3 a4 a5 a6 a7 => by
      rw [up2_at, if_neg (by omega), up2_at, if_neg (by omega)]
      exact fp k f a1 (by omega) a4 a5 a6 a7
    have hSR : SRa (up2 z.G 0 8 (nI p)) z.N z.V z.Hs z.Q (up2 P1 0 1 0) z.Sb (up2 (up2 Mp 0 6 (nI p)) 0 4 1) (B + 13) := by
      refine ⟨(g1.ref (fun f _ => f2 _ _ (by omega) (by omega) (by omega) (by omega) (by omega) (by omega))).mono (by omega), (g2.mono (by omega)).ref (f2 _ _ (by omega) (by omega) (by omega) (by omega) (by omega) (by omega)) (fun f _ => f2 _ _ (by omega) (by omega) (by omega) (by omega) (by omega) (by omega)), ?_, ⟨?_, ?_⟩, hPR _ ?_, g7.ref (f2 _ _ (by omega) (by omega) (by omega) (by omega) (by omega) (by omega)) (fun f => f2 _ _ (by omega) (by omega) (by omega) (by omega) (by omega) (by omega))⟩
      · have g3' := (g3.mono (show B ≤ B + 13 by omega)).ref (M' := up2 (up2 Mp 0 6 (nI p)) 0 4 1) (f2 _ _ (by omega) (by omega) (by omega) (by omega) (by omega) (by omega)) (fun f _ => f2 _ _ (by omega) (by omega) (by omega) (by omega) (by omega) (by omega))
        have eg : up2 z.G 0 8 (nI p) 0 3 = z.G 0 3 := by rw [up2_at, if_neg (by omega)]
        unfold SA at g3' ⊢
        rw [eg]
        exact g3'
      · rw [up2_at, if_pos ⟨rfl, rfl⟩, up2_at, if_neg (by omega), up2_at, if_pos ⟨rfl, rfl⟩]
      · rw [up2_at, if_neg (by omega), f2 0 7 (by omega) (by omega) (by omega) (by omega) (by omega) (by omega)]
        exact g5
      · rw [up2_at, if_neg (by omega), up2_at, if_neg (by omega)]
        exact mp15
    refine fin (k := 1) (z' := KS.mk (up2 z.G 0 8 (nI p)) z.N z.T z.V z.Hs z.Q z.R (up2 P1 0 1 0) z.Sb z.o z.od) (b := 0) (M' := up2 (up2 Mp 0 6 (nI p)) 0 4 1) ?_ ?_ (e_04 _ _) (fun q => absurd q (by decide)) hSR
    · unfold fL_run fX11_run
      rw [hparse]
      simp only [Option.bind_some]
      unfold fX7_empty
      simp only [Option.bind_some]
      rw [if_neg (by rw [e1]; exact nI_pos (by omega)), e1]
      rfl
    · unfold fX12_run
      rw [r_begin]
      simp only [Option.bind_some]
      rw [rparse]
      simp only [Option.bind_some]
      rw [if_neg (by rw [e2]; decide), e3]
      rfl
