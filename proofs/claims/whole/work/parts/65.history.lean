/-! ===== the history, both sides; undo, save, restore ===== -/
theorem SRa.ref {G N V Hs : Mem} {Q : Nat → Mem} {P : Mem} {Sb : TX} {M M' : Mem} {B : Nat} (h : SRa G N V Hs Q P Sb M B) (k : ∀ a f, a ≠ 2 → ¬ (a = 0 ∧ f = 4) → M' a f = M a f) : SRa G N V Hs Q P Sb M' B := by
  obtain ⟨h1, h2, h3, ⟨h4, h5⟩, h6, h7⟩ := h
  exact ⟨h1.ref (fun f _ => k _ _ (by omega) (by omega)), h2.ref (k _ _ (by omega) (by omega)) (fun f _ => k _ _ (by omega) (by omega)), h3.ref (k _ _ (by omega) (by omega)) (fun f _ => k _ _ (by omega) (by omega)), ⟨by rw [k _ _ (by omega) (by omega)]; exact h4, by rw [k _ _ (by omega) (by omega)]; exact h5⟩, h6.ref (k _ _ (by omega) (by omega)) (fun f => k _ _ (by omega) (by omega)), h7.ref (k _ _ (by omega) (by omega)) (fun f => k _ _ (by omega) (by omega))⟩
def MBf (M : Mem) : Mem := cpy (up2 M 0 4 0) 1 0 2 0 160
theorem MBf_at (M : Mem) {k f : Nat} (h : k ≠ 2) (h4 : ¬ (k = 0 ∧ f = 4)) : MBf M k f = M k f := by
  unfold MBf cpy
  rw [if_neg (fun z => h z.1), up2_at, if_neg h4]
theorem MBf_2 (M : Mem) {f : Nat} (h : f < 160) : MBf M 2 f = M 1 f := by
  unfold MBf cpy
  rw [if_pos ⟨rfl, by omega, by omega⟩, up2_at, if_neg (by omega)]
  congr 1
  omega
theorem MBf_4 (M : Mem) : MBf M 0 4 = 0 := by
  unfold MBf cpy
  rw [if_neg (by omega), up2_at, if_pos ⟨rfl, rfl⟩]
theorem r_begin (M : Mem) : fX12_begin M = some (MBf M) := by
  unfold fX12_begin
  have h := copy_spec (up2 M 0 4 0) (k1 := 1) (n1 := 160) (s := 0) (k3 := 2) (n3 := 160) (d := 0) (by decide) (by decide) (by decide) (by decide) (by decide) (by decide) (Or.inl (by decide))
  have h : fX12_copy (up2 M 0 4 0) 1 160 0 2 160 0 = some (MBf M) := h
  rw [h]
  rfl
theorem SRa.begin {G N V Hs : Mem} {Q : Nat → Mem} {P : Mem} {Sb : TX} {M : Mem} {B : Nat} (h : SRa G N V Hs Q P Sb M B) : SRa G N V Hs Q P Sb (MBf M) B := h.ref (fun a f h1 h2 => MBf_at M h1 h2)
/-- rows moved one down -/
def shH (M : Mem) (t : Nat) : Mem := fun k f => if k = 4 ∧ f < 160 * t then M 4 (f + 160) else M k f
theorem r_commit {M : Mem} {d : Nat} (hd : d ≤ 8) (h5 : M 0 5 = nI d) (a : Int32) : ∃ M', fX12_commit M a = some (a, M') ∧ (∀ k f, k ≠ 4 → ¬ (k = 0 ∧ f = 5) → M' k f = M k f) ∧
    (d < 8 → M' 0 5 = nI (d + 1) ∧ (∀ f, f < 160 → M' 4 (160 * d + f) = M 2 f) ∧ ∀ f, f < 160 * d → M' 4 f = M 4 f) ∧
    (d = 8 → M' 0 5 = nI 8 ∧ (∀ f, f < 160 → M' 4 (160 * 7 + f) = M 2 f) ∧ ∀ f, f < 160 * 7 → M' 4 f = M 4 (f + 160)) := by
  have cp : ∀ (K : Mem) (e : Nat), e < 8 → fX12_copy K 2 160 0 4 1280 (160 * nI e) = some (cpy K 2 0 4 (160 * e) 160) := fun K e he => by
    have q := copy_spec K (k1 := 2) (n1 := 160) (s := 0) (k3 := 4) (n3 := 1280) (d := 160 * e) (by decide) (by decide) (by decide) (by omega) (by decide) (by decide) (Or.inl (by decide))
    rw [show (160 : Int32) * nI e = nI (160 * e) from pk_mul 160 e]
    exact q
  unfold fX12_commit
  by_cases c : d = 8
  · subst c
    rw [h5, if_pos (show nI 8 = (8 : Int32) from rfl)]
    have e0 : ((1 : Int32), M) = (fun t => (nI (t + 1), shH M t)) 0 := by
      have : shH M 0 = M := by funext k f; exact if_neg (by omega)
      show _ = (nI 1, shH M 0)
      rw [this]
      rfl
    have s5 : shH M 7 0 5 = nI 8 := by unfold shH; rw [if_neg (by omega)]; exact h5
    have e7 : up2 (shH M 7) 0 5 (shH M 7 0 5 - 1) 0 5 = nI 7 := by rw [up2_at, if_pos ⟨rfl, rfl⟩, s5]; decide
    have k5 : cpy (up2 (shH M 7) 0 5 (shH M 7 0 5 - 1)) 2 0 4 (160 * 7) 160 0 5 = nI 7 := by
      unfold cpy
      rw [if_neg (by omega)]
      exact e7
    refine ⟨up2 (cpy (up2 (shH M 7) 0 5 (shH M 7 0 5 - 1)) 2 0 4 (160 * 7) 160) 0 5 (nI 7 + 1), ?_, ?_, fun q => by omega, fun _ => ⟨?_, fun f hf => ?_, fun f hf => ?_⟩⟩
    · rw [e0]
      refine lp_up (r := (a, up2 (cpy (up2 (shH M 7) 0 5 (shH M 7 0 5 - 1)) 2 0 4 (160 * 7) 160) 0 5 (nI 7 + 1))) (fun t => (nI (t + 1), shH M t)) 7 (fun t ht => ?_) ?_
      · unfold fX12_commit_s
        dsimp only
        have q := copy_spec (shH M t) (k1 := 4) (n1 := 1280) (s := 160 * (t + 1)) (k3 := 4) (n3 := 1280) (d := 160 * t) (by decide) (by decide) (by omega) (by omega) (by decide) (by decide) (Or.inr (by omega))
        rw [if_neg (show ¬ (8 : Int32) ≤ nI (t + 1) from nI_ge (b := 8) (by omega) (by omega)), nI_pred, show (160 : Int32) * nI (t + 1) = nI (160 * (t + 1)) from pk_mul 160 (t + 1), show (160 : Int32) * nI t = nI (160 * t) from pk_mul 160 t, q]
        simp only [Option.bind_some]
        rw [nI_1]
        congr 3
        funext k f
        unfold cpy shH
        by_cases g : k = 4 ∧ 160 * t ≤ f ∧ f < 160 * t + 160
        · rw [if_pos g, if_pos (show k = 4 ∧ f < 160 * (t + 1) by omega), if_neg (by omega)]
          congr 1
          omega
        · rw [if_neg g]
          by_cases g2 : k = 4 ∧ f < 160 * t
          · rw [if_pos g2, if_pos (by omega)]
          · rw [if_neg g2, if_neg (by omega)]
      · unfold fX12_commit_s
        dsimp only
        rw [if_pos (by decide), e7, cp _ 7 (by decide)]
        simp only [Option.bind_some]
        rw [k5]
    · intro k f hk hf
      rw [up2_at, if_neg hf]
      unfold cpy
      rw [if_neg (by omega), up2_at, if_neg hf]
      unfold shH
      rw [if_neg (by omega)]
    · rw [up2_at, if_pos ⟨rfl, rfl⟩]; decide
    · rw [up2_at, if_neg (by omega)]
      unfold cpy
      rw [if_pos (by omega), up2_at, if_neg (by omega)]
      unfold shH
      rw [if_neg (by omega), show 0 + (160 * 7 + f - 160 * 7) = f by omega]
    · rw [up2_at, if_neg (by omega)]
      unfold cpy
      rw [if_neg (by omega), up2_at, if_neg (by omega)]
      unfold shH
      rw [if_pos (by omega)]
  · have hd8 : d < 8 := by omega
    have h8 : ¬ M 0 5 = 8 := by
      rw [h5, show (8 : Int32) = nI 8 from rfl, nI_eq (by omega) (by omega)]
      exact c
    rw [if_neg h8, h5, cp M d hd8]
    simp only [Option.bind_some]
    have k5 : cpy M 2 0 4 (160 * d) 160 0 5 = nI d := by unfold cpy; rw [if_neg (by omega)]; exact h5
    refine ⟨_, rfl, fun k f hk hf => ?_, fun _ => ⟨?_, fun f hf => ?_, fun f hf => ?_⟩, fun q => absurd q c⟩
    · rw [up2_at, if_neg hf]
      unfold cpy
      rw [if_neg (by omega)]
    · rw [up2_at, if_pos ⟨rfl, rfl⟩, k5, nI_1]
    · rw [up2_at, if_neg (by omega)]
      unfold cpy
      rw [if_pos (by omega)]
      congr 1
      omega
    · rw [up2_at, if_neg (by omega)]
      unfold cpy
      rw [if_neg (by omega)]
theorem c_push {Hs : Mem} {Q : Nat → Mem} {N : Mem} {d h : Nat} (hd : d ≤ 8) (hh : h < 8) (e1 : Hs 0 1 = nI h) (e2 : Hs 0 2 = nI d) (hc : CC N) : ∃ K, fX3_push Hs Q N = some (up2 (up2 Hs 0 1 (nI ((h + 1) % 8))) 0 2 (nI (if d = 8 then 8 else d + 1)), fun j => if j = h then K else Q j) ∧ sameNet K N := by
  have eh : (nI h).toNatClampNeg = h := nI_clamp (by omega)
  obtain ⟨K, k1, k2⟩ := net_copy (Q h) N hc
  refine ⟨K, ?_, k2⟩
  unfold fX3_push
  rw [e1, gd_t (inb_nI hh (by decide)), eh, k1]
  simp only [Option.bind_some]
  have x1 : (if (8 : Int32) ≤ nI h + 1 then (0 : Int32) else nI h + 1) = nI ((h + 1) % 8) := by
    rw [nI_1]
    by_cases c : h = 7
    · subst c; decide
    · rw [if_neg (show ¬ (8 : Int32) ≤ nI (h + 1) from nI_ge (b := 8) (by omega) (by omega)), Nat.mod_eq_of_lt (by omega)]
  have x2 : (if (8 : Int32) < Hs 0 2 + 1 then (8 : Int32) else Hs 0 2 + 1) = nI (if d = 8 then 8 else d + 1) := by
    rw [e2, nI_1]
    by_cases c : d = 8
    · subst c; decide
    · rw [if_neg (show ¬ (8 : Int32) < nI (d + 1) from nI_nlt (a := 8) (by omega) (by omega)), if_neg c]
  rw [x1, x2]
/-- a change: the class pushes its net, the reference commits what was before -/
theorem HI_push {Hs : Mem} {Q : Nat → Mem} {N M M1 : Mem} {B B' : Nat} (h : HI Hs Q M B) (hBB : B ≤ B') (hR : RCx N M 59 B) (hc : CC N) (e2 : ∀ f, f < 160 → M1 2 f = M 1 f) (e5 : M1 0 5 = M 0 5) (e4 : ∀ f, f < 1280 → M1 4 f = M 4 f) (a : Int32) :
    ∃ Hs' Q' M', fX3_push Hs Q N = some (Hs', Q') ∧ fX12_commit M1 a = some (a, M') ∧ (∀ k f, k ≠ 4 → ¬ (k = 0 ∧ f = 5) → M' k f = M1 k f) ∧ HI Hs' Q' M' B' := by
  obtain ⟨d, x, h1, h2, h3, h4, h5, h6⟩ := h
  obtain ⟨K, p1, p2⟩ := c_push (Q := Q) h1 h2 h3 h4 hc
  obtain ⟨M', c1, c2, c3, c4⟩ := r_commit h1 (e5.trans h5) a
  refine ⟨_, _, M', p1, c1, c2, ?_⟩
  obtain ⟨n, w, L, hR⟩ := hR
  have hK : ∀ (M2 : Mem), (∀ f, f < 160 → M2 1 f = M 1 f) → RCx K M2 59 B' := fun M2 he => ⟨n, w, L, ((hR.net p2).ref he).mono (Nat.le_refl _) hBB⟩
  by_cases c : d = 8
  · subst c
    obtain ⟨g1, g2, g3⟩ := c4 rfl
    refine ⟨8, (x + 1) % 8, by omega, by omega, by rw [up2_at, if_neg (by omega), up2_at, if_pos ⟨rfl, rfl⟩], by rw [up2_at, if_pos ⟨rfl, rfl⟩, if_pos rfl], g1, fun e he => ?_⟩
    by_cases ce : e = 7
    · subst ce
      dsimp only
      rw [if_pos (by omega)]
      exact hK _ (fun f hf => (g2 f hf).trans (e2 f hf))
    · dsimp only
      rw [if_neg (by omega)]
      have q := (h6 (e + 1) (by omega)).mono hBB
      rw [show (x + 8 - 8 + (e + 1)) % 8 = ((x + 1) % 8 + 8 - 8 + e) % 8 by omega] at q
      refine q.ref (fun f hf => ?_)
      show M' 4 (160 * e + f) = M 4 (160 * (e + 1) + f)
      rw [g3 _ (by omega), e4 _ (by omega)]
      congr 1
      omega
  · obtain ⟨g1, g2, g3⟩ := c3 (by omega)
    refine ⟨d + 1, (x + 1) % 8, by omega, by omega, by rw [up2_at, if_neg (by omega), up2_at, if_pos ⟨rfl, rfl⟩], by rw [up2_at, if_pos ⟨rfl, rfl⟩, if_neg c], g1, fun e he => ?_⟩
    by_cases ce : e = d
    · subst ce
      dsimp only
      rw [if_pos (by omega)]
      exact hK _ (fun f hf => (g2 f hf).trans (e2 f hf))
    · dsimp only
      rw [if_neg (by omega)]
      have q := (h6 e (by omega)).mono hBB
      rw [show (x + 8 - d + e) % 8 = ((x + 1) % 8 + 8 - (d + 1) + e) % 8 by omega] at q
      refine q.ref (fun f hf => ?_)
      show M' 4 (160 * e + f) = M 4 (160 * e + f)
      rw [g3 _ (by omega), e4 _ (by omega)]
theorem q_change {z : KS} {M : Mem} {B B' : Nat} (h : SR z M B) (hB : B ≤ B') {x y : Option (Int32 × Mem)} (hc : CO (MBf M) x y 59 B') :
    ∃ a N' Hs' Q' M', ((fX3_push z.Hs z.Q z.N).bind fun z6 => x.bind fun z8 => some ((Sum.inr z8.1 : Nat ⊕ Int32), z8.2, z6.1, z6.2)) = some (.inr a, N', Hs', Q') ∧ (y.bind fun z6 => (fX12_commit z6.2 z6.1).bind fun z8 => some (z8.1, z8.2)) = some (a, M') ∧ M' 0 4 = 0 ∧ SRa z.G N' z.V Hs' Q' z.P z.Sb M' B' := by
  obtain ⟨a, N', M1, x1, x2, fr, hR'⟩ := hc
  obtain ⟨h1, h2, h3, ⟨h4, h5⟩, h6, h7⟩ := h
  have hcc : CC z.N := by obtain ⟨n, w, L, q⟩ := h1; exact q.cc
  have f0 : ∀ k f, k ≠ 1 → k ≠ 2 → ¬ (k = 0 ∧ f = 4) → M1 k f = M k f := fun k f hk hk2 hf => by rw [fr k hk]; exact MBf_at M hk2 hf
  obtain ⟨Hs', Q', M', p1, p2, p3, p4⟩ := HI_push (M1 := M1) h2 hB h1 hcc (fun f hf => by rw [fr 2 (by decide)]; exact MBf_2 M hf) (f0 _ _ (by omega) (by omega) (by omega)) (fun f _ => f0 _ _ (by omega) (by omega) (by omega)) a
  have f1 : ∀ k f, k ≠ 1 → k ≠ 2 → k ≠ 4 → ¬ (k = 0 ∧ (f = 4 ∨ f = 5)) → M' k f = M k f := fun k f a1 a2 a4 a0 => by rw [p3 k f a4 (by omega)]; exact f0 k f a1 a2 (by omega)
  refine ⟨a, N', Hs', Q', M', ?_, ?_, ?_, hR'.ref (fun f _ => p3 _ _ (by omega) (by omega)), p4, (h3.mono hB).ref (f1 _ _ (by omega) (by omega) (by omega) (by omega)) (fun f _ => f1 _ _ (by omega) (by omega) (by omega) (by omega)), ⟨by rw [f1 _ _ (by omega) (by omega) (by omega) (by omega)]; exact h4, by rw [f1 _ _ (by omega) (by omega) (by omega) (by omega)]; exact h5⟩, h6.ref (f1 _ _ (by omega) (by omega) (by omega) (by omega)) (fun f => f1 _ _ (by omega) (by omega) (by omega) (by omega)), h7.ref (f1 _ _ (by omega) (by omega) (by omega) (by omega)) (fun f => f1 _ _ (by omega) (by omega) (by omega) (by omega))⟩
  · rw [p1, x1]
    rfl
  · rw [x2]
    simp only [Option.bind_some]
    rw [p2]
    rfl
  · rw [p3 _ _ (by omega) (by omega), fr 0 (by decide)]
    exact MBf_4 M
theorem q_undo {z : KS} {M : Mem} {B : Nat} (h : SR z M B) : ok (fC_undo z M) (fun r => SR r.1 r.2 B) := by
  have h' := h
  obtain ⟨h1, ⟨d, x, d1, d2, d3, d4, d5, d6⟩, h3, ⟨h4, h5⟩, h6, h7⟩ := h
  unfold fC_undo
  by_cases c : d = 0
  · have e0 : nI d = 0 := by rw [c]; rfl
    refine fin (k := 1) (z' := z) (b := 0) (M' := up2 M 0 4 1) ?_ ?_ (e_04 _ _) (fun q => absurd q (by decide)) (h'.r04 1)
    · unfold fL_undo fX11_undo
      rw [d4, if_pos e0]
      rfl
    · unfold fX12_undo
      rw [if_pos (d5.trans e0), if_neg (nle1 M)]
  · obtain ⟨d', rfl⟩ : ∃ d', d = d' + 1 := ⟨d - 1, by omega⟩
    have e0 : ¬ nI (d' + 1) = 0 := nI_ne0 (by omega) (by omega)
    have q6 := d6 d' (by omega)
    have hx1 : (if z.Hs 0 1 ≤ 0 then (7 : Int32) else z.Hs 0 1 - 1) = nI ((x + 7) % 8) := by
      rw [d3]
      by_cases cx : x = 0
      · subst cx; decide
      · obtain ⟨x', rfl⟩ : ∃ x', x = x' + 1 := ⟨x - 1, by omega⟩
        rw [if_neg (nI_nle (by omega) (by omega)), nI_pred]
        congr 1
        omega
    have eidx : (x + 8 - (d' + 1) + d') % 8 = (x + 7) % 8 := by omega
    rw [eidx] at q6
    have ecl : (nI ((x + 7) % 8)).toNatClampNeg = (x + 7) % 8 := nI_clamp (by omega)
    obtain ⟨n, w, L, q6⟩ := q6
    obtain ⟨K, k1, k2⟩ := net_copy z.N (z.Q ((x + 7) % 8)) q6.cc
    have hpop : fX3_popInto z.Hs z.Q z.N = some (up2 (up2 z.Hs 0 1 (nI ((x + 7) % 8))) 0 2 (nI d'), K) := by
      unfold fX3_popInto
      rw [hx1, gd_t (inb_nI (by omega) (by decide)), ecl, k1]
      simp only [Option.bind_some]
      rw [d4, nI_pred]
    have cp := copy_spec (up2 (up2 M 0 4 0) 0 5 (nI d')) (k1 := 4) (n1 := 1280) (s := 160 * d') (k3 := 1) (n3 := 160) (d := 0) (by decide) (by decide) (by omega) (by omega) (by decide) (by decide) (Or.inl (by decide))
    have cp : fX12_copy (up2 (up2 M 0 4 0) 0 5 (nI d')) 4 1280 (160 * nI d') 1 160 0 = some (cpy (up2 (up2 M 0 4 0) 0 5 (nI d')) 4 (160 * d') 1 0 160) := by
      rw [show (160 : Int32) * nI d' = nI (160 * d') from pk_mul 160 d']
      exact cp
    have f0 : ∀ k f, k ≠ 1 → ¬ (k = 0 ∧ (f = 4 ∨ f = 5)) → cpy (up2 (up2 M 0 4 0) 0 5 (nI d')) 4 (160 * d') 1 0 160 k f = M k f := fun k f hk hf => by
      unfold cpy
      rw [if_neg (by omega), up2_at, if_neg (by omega), up2_at, if_neg (by omega)]
    have f1 : ∀ f, f < 160 → cpy (up2 (up2 M 0 4 0) 0 5 (nI d')) 4 (160 * d') 1 0 160 1 f = M 4 (160 * d' + f) := fun f hf => by
      unfold cpy
      rw [if_pos (by omega), up2_at, if_neg (by omega), up2_at, if_neg (by omega)]
      congr 1
    have f5 : cpy (up2 (up2 M 0 4 0) 0 5 (nI d')) 4 (160 * d') 1 0 160 0 5 = nI d' := by
      unfold cpy
      rw [if_neg (by omega), up2_at, if_pos ⟨rfl, rfl⟩]
    have hS : SRa z.G K z.V (up2 (up2 z.Hs 0 1 (nI ((x + 7) % 8))) 0 2 (nI d')) z.Q z.P z.Sb (cpy (up2 (up2 M 0 4 0) 0 5 (nI d')) 4 (160 * d') 1 0 160) B := by
      refine ⟨?_, ?_, h3.ref (f0 _ _ (by omega) (by omega)) (fun f _ => f0 _ _ (by omega) (by omega)), ⟨by rw [f0 _ _ (by omega) (by omega)]; exact h4, by rw [f0 _ _ (by omega) (by omega)]; exact h5⟩, h6.ref (f0 _ _ (by omega) (by omega)) (fun f => f0 _ _ (by omega) (by omega)), h7.ref (f0 _ _ (by omega) (by omega)) (fun f => f0 _ _ (by omega) (by omega))⟩
      · exact ⟨n, w, L, (q6.net k2).ref (fun f hf => f1 f hf)⟩
      · refine ⟨d', (x + 7) % 8, by omega, by omega, by rw [up2_at, if_neg (by omega), up2_at, if_pos ⟨rfl, rfl⟩], by rw [up2_at, if_pos ⟨rfl, rfl⟩], f5, fun e he => ?_⟩
        have q := d6 e (by omega)
        rw [show (x + 8 - (d' + 1) + e) % 8 = ((x + 7) % 8 + 8 - d' + e) % 8 by omega] at q
        exact q.ref (fun f hf => f0 _ _ (by omega) (by omega))
    refine fin (k := 0) (z' := KS.mk z.G K z.T z.V (up2 (up2 z.Hs 0 1 (nI ((x + 7) % 8))) 0 2 (nI d')) z.Q z.R z.P z.Sb (nI d').toInt64 z.od) (b := nI d') (M' := cpy (up2 (up2 M 0 4 0) 0 5 (nI d')) 4 (160 * d') 1 0 160) ?_ ?_ ?_ (fun _ => rfl) hS
    · unfold fL_undo fX11_undo
      rw [d4, if_neg e0, hpop]
      rfl
    · unfold fX12_undo
      have g5 : up2 M 0 4 0 0 5 = nI (d' + 1) := by rw [up2_at, if_neg (by omega)]; exact d5
      have g5' : up2 (up2 M 0 4 0) 0 5 (nI d') 0 5 = nI d' := by rw [up2_at, if_pos ⟨rfl, rfl⟩]
      rw [if_neg (show ¬ M 0 5 = 0 by rw [d5]; exact e0), if_pos (le0 M), g5, nI_pred, g5', cp]
      simp only [Option.bind_some]
      rw [f5]
    · unfold cpy
      rw [if_neg (by omega), up2_at, if_neg (by omega)]
      exact e_04 M 0
theorem q_save {z : KS} {M : Mem} {B : Nat} (h : SR z M B) : ok (fC_save z M) (fun r => SR r.1 r.2 B) := by
  obtain ⟨⟨n, w, L, hR⟩, h2, h3, ⟨h4, h5⟩, h6, h7⟩ := h
  obtain ⟨K, k1, k2⟩ := net_copy z.V z.N hR.cc
  have cp : fX12_copy (up2 M 0 4 0) 1 160 0 3 160 0 = some (cpy (up2 M 0 4 0) 1 0 3 0 160) := copy_spec (up2 M 0 4 0) (k1 := 1) (n1 := 160) (s := 0) (k3 := 3) (n3 := 160) (d := 0) (by decide) (by decide) (by decide) (by decide) (by decide) (by decide) (Or.inl (by decide))
  have f0 : ∀ k f, k ≠ 3 → ¬ (k = 0 ∧ (f = 4 ∨ f = 8)) → up2 (cpy (up2 M 0 4 0) 1 0 3 0 160) 0 8 1 k f = M k f := fun k f hk hf => by
    rw [up2_at, if_neg (by omega)]
    unfold cpy
    rw [if_neg (by omega), up2_at, if_neg (by omega)]
  have f3 : ∀ f, f < 160 → up2 (cpy (up2 M 0 4 0) 1 0 3 0 160) 0 8 1 3 f = M 1 f := fun f hf => by
    rw [up2_at, if_neg (by omega)]
    unfold cpy
    rw [if_pos (by omega), up2_at, if_neg (by omega)]
    congr 1
    omega
  have ec : fX11_save z.G z.N z.V = some (nI n, up2 z.G 0 3 1, K) := by
    unfold fX11_save
    rw [k1, hR.nv.2.1]
    rfl
  have er : fX12_save M = some (nI n, up2 (cpy (up2 M 0 4 0) 1 0 3 0 160) 0 8 1) := by
    unfold fX12_save
    rw [cp]
    simp only [Option.bind_some]
    rw [f0 1 0 (by omega) (by omega), hR.mv.2]
  have hS : SRa (up2 z.G 0 3 1) z.N K z.Hs z.Q z.P z.Sb (up2 (cpy (up2 M 0 4 0) 1 0 3 0 160) 0 8 1) B := by
    refine ⟨⟨n, w, L, hR.ref (fun f _ => f0 _ _ (by omega) (by omega))⟩, h2.ref (f0 _ _ (by omega) (by omega)) (fun f _ => f0 _ _ (by omega) (by omega)), Or.inr ⟨?_, ?_, ⟨n, w, L, (hR.net k2).ref (fun f hf => ?_)⟩⟩, ⟨?_, ?_⟩, h6.ref (f0 _ _ (by omega) (by omega)) (fun f => f0 _ _ (by omega) (by omega)), h7.ref (f0 _ _ (by omega) (by omega)) (fun f => f0 _ _ (by omega) (by omega))⟩
    · show up2 z.G 0 3 1 0 3 = 1
      rw [up2_at, if_pos ⟨rfl, rfl⟩]
    · rw [up2_at, if_pos ⟨rfl, rfl⟩]
    · show up2 (cpy (up2 M 0 4 0) 1 0 3 0 160) 0 8 1 3 (0 + f) = _
      rw [Nat.zero_add, f3 f hf]
    · show up2 z.G 0 3 1 0 8 = _
      rw [up2_at, if_neg (by omega), f0 _ _ (by omega) (by omega)]
      exact h4
    · show up2 z.G 0 3 1 0 9 = _
      rw [up2_at, if_neg (by omega), f0 _ _ (by omega) (by omega)]
      exact h5
  unfold fC_save
  rw [ec, er]
  show ok (gd (decide (nI n = nI n)) _) _
  rw [gd_t (decide_eq_true rfl)]
  exact ok_some.mpr hS
theorem q_restore {z : KS} {M : Mem} {B : Nat} (h : SR z M B) : ok (fC_restore z M) (fun r => SR r.1 r.2 B) := by
  have h' := h
  obtain ⟨h1, ⟨d, x, d1, d2, d3, d4, d5, d6⟩, h3, ⟨h4, h5⟩, h6, h7⟩ := h
  unfold fC_restore
  rcases h3 with ⟨g1, g2⟩ | ⟨g1, g2, ⟨n, w, L, hR⟩⟩
  · refine fin (k := 1) (z' := z) (b := 0) (M' := up2 M 0 4 1) ?_ ?_ (e_04 _ _) (fun q => absurd q (by decide)) (h'.r04 1)
    · unfold fL_restore fX11_restore
      rw [if_pos g1]
      rfl
    · unfold fX12_restore
      rw [if_pos g2, if_neg (nle1 M)]
  · obtain ⟨K, k1, k2⟩ := net_copy z.N z.V hR.cc
    have hRK := hR.net k2
    have cp : fX12_copy (up2 M 0 4 0) 3 160 0 1 160 0 = some (cpy (up2 M 0 4 0) 3 0 1 0 160) := copy_spec (up2 M 0 4 0) (k1 := 3) (n1 := 160) (s := 0) (k3 := 1) (n3 := 160) (d := 0) (by decide) (by decide) (by decide) (by decide) (by decide) (by decide) (Or.inl (by decide))
    have f0 : ∀ k f, k ≠ 1 → ¬ (k = 0 ∧ (f = 4 ∨ f = 5)) → up2 (cpy (up2 M 0 4 0) 3 0 1 0 160) 0 5 0 k f = M k f := fun k f hk hf => by
      rw [up2_at, if_neg (by omega)]
      unfold cpy
      rw [if_neg (by omega), up2_at, if_neg (by omega)]
    have f1 : ∀ f, f < 160 → up2 (cpy (up2 M 0 4 0) 3 0 1 0 160) 0 5 0 1 f = rowM M 3 0 1 f := fun f hf => by
      rw [up2_at, if_neg (by omega)]
      unfold cpy rowM
      rw [if_pos (by omega), up2_at, if_neg (by omega)]
      rfl
    have en : up2 (cpy (up2 M 0 4 0) 3 0 1 0 160) 0 5 0 1 0 = nI n := by rw [f1 0 (by decide)]; exact hR.mv.2
    have ec : fX11_restore z.G z.N z.V z.Hs = some (.inr (nI n), K, up2 z.Hs 0 2 0) := by
      unfold fX11_restore
      rw [if_neg (by rw [g1]; decide), k1]
      simp only [Option.bind_some]
      unfold fX3_clear
      simp only [Option.bind_some]
      rw [hRK.nv.2.1]
    have hS : SRa z.G K z.V (up2 z.Hs 0 2 0) z.Q z.P z.Sb (up2 (cpy (up2 M 0 4 0) 3 0 1 0 160) 0 5 0) B :=
      ⟨⟨n, w, L, hRK.ref f1⟩, ⟨0, x, by omega, d2, by rw [up2_at, if_neg (by omega)]; exact d3, by rw [up2_at, if_pos ⟨rfl, rfl⟩]; rfl, by rw [up2_at, if_pos ⟨rfl, rfl⟩]; rfl, fun e he => by omega⟩, Or.inr ⟨g1, by rw [f0 _ _ (by omega) (by omega)]; exact g2, ⟨n, w, L, hR.ref (fun f hf => f0 _ _ (by omega) (by omega))⟩⟩, ⟨by rw [f0 _ _ (by omega) (by omega)]; exact h4, by rw [f0 _ _ (by omega) (by omega)]; exact h5⟩, h6.ref (f0 _ _ (by omega) (by omega)) (fun f => f0 _ _ (by omega) (by omega)), h7.ref (f0 _ _ (by omega) (by omega)) (fun f => f0 _ _ (by omega) (by omega))⟩
    refine fin (k := 0) (z' := KS.mk z.G K z.T z.V (up2 z.Hs 0 2 0) z.Q z.R z.P z.Sb (nI n).toInt64 z.od) (b := nI n) (M' := up2 (cpy (up2 M 0 4 0) 3 0 1 0 160) 0 5 0) ?_ ?_ ?_ (fun _ => rfl) hS
    · unfold fL_restore
      rw [ec]
      rfl
    · unfold fX12_restore
      rw [if_neg (show ¬ M 0 8 = 0 by rw [g2]; decide), if_pos (le0 M), cp]
      simp only [Option.bind_some]
      rw [en]
    · rw [up2_at, if_neg (by omega)]
      unfold cpy
      rw [if_neg (by omega)]
      exact e_04 M 0
