/-! ===== the calls that change ===== -/
theorem pl_or (x y : Int32) : (RG 2 x ∧ RG 3 y ∧ fX11_isPlace x y = some 1 ∧ fX12_isPlace x y = some 1) ∨ (fX11_isPlace x y = some 0 ∧ fX12_isPlace x y = some 0) := by
  unfold fX11_isPlace fX12_isPlace fX12_in
  rcases in_cases x 0 99 (by decide) (by decide) with ⟨c, c1, c2, c3, c4, c5⟩ | q | ⟨q1, q2⟩
  · have c4 : ¬ x < 0 := c4
    have c5 : ¬ (99 : Int32) < x := c5
    rcases in_cases y 0 99 (by decide) (by decide) with ⟨e, e1, e2, e3, e4, e5⟩ | q | ⟨q1, q2⟩
    · have e4 : ¬ y < 0 := e4
      have e5 : ¬ (99 : Int32) < y := e5
      left
      exact ⟨⟨c, by simp [rlo], c2, c3⟩, ⟨e, by simp [rlo], e2, e3⟩, by simp [c4, c5, e4, e5], by simp [c4, c5, e4, e5]⟩
    · right
      have q : y < 0 := q
      exact ⟨by simp [c4, c5, q], by simp [c4, c5, q]⟩
    · right
      have q1 : ¬ y < 0 := q1
      have q2 : (99 : Int32) < y := q2
      exact ⟨by simp [c4, c5, q1, q2], by simp [c4, c5, q1, q2]⟩
  · right
    have q : x < 0 := q
    exact ⟨by simp [q], by simp [q]⟩
  · right
    have q1 : ¬ x < 0 := q1
    have q2 : (99 : Int32) < x := q2
    exact ⟨by simp [q1, q2], by simp [q1, q2]⟩
theorem pw_or (x : Int32) : (RG 4 x ∧ fX11_isPower x = some 1 ∧ fX12_in x 1 99 = some 1) ∨ (fX11_isPower x = some 0 ∧ fX12_in x 1 99 = some 0) := by
  unfold fX11_isPower fX12_in
  rcases in_cases x 1 99 (by decide) (by decide) with ⟨c, c1, c2, c3, c4, c5⟩ | q | ⟨q1, q2⟩
  · have c4 : ¬ x < 1 := c4
    have c5 : ¬ (99 : Int32) < x := c5
    left
    exact ⟨⟨c, by simpa [rlo] using c1, c2, c3⟩, by simp [c4, c5], by simp [c4, c5]⟩
  · right
    have q : x < 1 := q
    exact ⟨by simp [q], by simp [q]⟩
  · right
    have q1 : ¬ x < 1 := q1
    have q2 : (99 : Int32) < x := q2
    exact ⟨by simp [q1, q2], by simp [q1, q2]⟩
theorem mn_or (x : Int32) : (∃ m, 1 ≤ m ∧ m ≤ 60 ∧ x = nI m ∧ fX11_faultOfMinutes x = some 0 ∧ fX12_in x 1 60 = some 1) ∨ (fX11_faultOfMinutes x = some 2 ∧ fX12_in x 1 60 = some 0) := by
  unfold fX11_faultOfMinutes fX12_in
  rcases in_cases x 1 60 (by decide) (by decide) with ⟨c, c1, c2, c3, c4, c5⟩ | q | ⟨q1, q2⟩
  · have c4 : ¬ x < 1 := c4
    have c5 : ¬ (60 : Int32) < x := c5
    left
    exact ⟨c, c1, c2, c3, by simp [c4, c5], by simp [c4, c5]⟩
  · right
    have q : x < 1 := q
    exact ⟨by simp [q], by simp [q]⟩
  · right
    have q1 : ¬ x < 1 := q1
    have q2 : (60 : Int32) < x := q2
    exact ⟨by simp [q1, q2], by simp [q1, q2]⟩
/-- adding: the fault of the class, why the reference can't -/
theorem add_or {N M : Mem} {b B n w : Nat} {L : Nat → Nat} (h : RC N M b B n w L) (l d x y p c : Int32) :
    (n < 8 ∧ RG 0 l ∧ RG 1 d ∧ RG 2 x ∧ RG 3 y ∧ RG 4 p ∧ RG 5 c ∧ isC l = true ∧ fX6_faultOfAdding N l d x y p c = some 0 ∧ fX12_cannotAdd M l d x y p c = some 0) ∨ (fX6_faultOfAdding N l d x y p c = some 2 ∧ fX12_cannotAdd M l d x y p c = some 1) ∨ (fX6_faultOfAdding N l d x y p c = some 3 ∧ fX12_cannotAdd M l d x y p c = some 2) ∨ (fX6_faultOfAdding N l d x y p c = some 4 ∧ fX12_cannotAdd M l d x y p c = some 3) := by
  have hn := h.hn
  unfold fX6_faultOfAdding fX12_cannotAdd
  rcases in_cases l 65 90 (by decide) (by decide) with ⟨cl, l1, l2, l3, l4, l5⟩ | q | ⟨q1, q2⟩
  · have l4 : ¬ l < 65 := l4
    have l5 : ¬ (90 : Int32) < l := l5
    have a1 : fX11_isLetter l = some 1 := by unfold fX11_isLetter; rw [if_neg l4, if_neg l5]
    have a2 : fX12_in l 65 90 = some 1 := by unfold fX12_in; rw [if_neg l4, if_neg l5]
    rcases in_cases d 0 9 (by decide) (by decide) with ⟨cd, d1, d2, d3, d4, d5⟩ | q | ⟨q1, q2⟩
    · have d4 : ¬ d < 0 := d4
      have d5 : ¬ (9 : Int32) < d := d5
      have b2 : fX12_in d 0 9 = some 1 := by unfold fX12_in; rw [if_neg d4, if_neg d5]
      rcases pl_or x y with ⟨x1, y1, x3, x4⟩ | ⟨x3, x4⟩
      · rcases pw_or p with ⟨p1, p3, p4⟩ | ⟨p3, p4⟩
        · rcases chan_or c with ⟨cc, c1, c2, c3, c4⟩ | ⟨c3, c4⟩
          · have s1 : fX6_stationOfSign N l d = some (first (sgnP (vM M) l d) n) := by rw [c_stationOfSign h.nv, sgn_congr h.v6]
            have s2 : fX12_signed M l d = some (first (sgnP (vM M) l d) n) := r_signed h.mv l d
            rcases first_spec (sgnP (vM M) l d) n with ⟨f1, _⟩ | ⟨s, hs, _, _, f1⟩
            · by_cases n8 : n = 8
              · right; right; right
                have e1 : ¬ N 0 1 < 8 := by rw [h.nv.2.1, n8]; decide
                have e2 : M 1 0 = 8 := by rw [h.mv.2, n8]; rfl
                exact ⟨by simp [a1, d4, d5, x3, p3, c3, s1, f1, e1], by simp [a2, b2, x4, p4, c4, s2, f1, e2]⟩
              · left
                have e1 : N 0 1 < 8 := by rw [h.nv.2.1]; exact nI_lt (b := 8) (by omega) (by omega)
                have e2 : ¬ M 1 0 = 8 := by
                  rw [h.mv.2, show (8 : Int32) = nI 8 from rfl, nI_eq (by omega) (by omega)]
                  exact n8
                refine ⟨by omega, ⟨cl, by simpa [rlo] using l1, l2, l3⟩, ⟨cd, by simp [rlo], d2, d3⟩, x1, y1, p1, ⟨cc, by simp [rlo], c1, c2⟩, ?_, by simp [a1, d4, d5, x3, p3, c3, s1, f1, e1], by simp [a2, b2, x4, p4, c4, s2, f1, e2]⟩
                rw [l3]
                exact (ch_nI ⟨cl, by omega⟩).2
            · right; right; left
              have e1 : ¬ nI s < 0 := nI_pos (by omega)
              exact ⟨by simp [a1, d4, d5, x3, p3, c3, s1, f1, e1], by simp [a2, b2, x4, p4, c4, s2, f1, e1]⟩
          · right; left
            exact ⟨by simp [a1, d4, d5, x3, p3, c3], by simp [a2, b2, x4, p4, c4]⟩
        · right; left
          exact ⟨by simp [a1, d4, d5, x3, p3], by simp [a2, b2, x4, p4]⟩
      · right; left
        exact ⟨by simp [a1, d4, d5, x3], by simp [a2, b2, x4]⟩
    · right; left
      have q : d < 0 := q
      have b2 : fX12_in d 0 9 = some 0 := by unfold fX12_in; rw [if_pos q]
      exact ⟨by simp [a1, q], by simp [a2, b2]⟩
    · right; left
      have q1 : ¬ d < 0 := q1
      have q2 : (9 : Int32) < d := q2
      have b2 : fX12_in d 0 9 = some 0 := by unfold fX12_in; rw [if_neg q1, if_pos q2]
      exact ⟨by simp [a1, q1, q2], by simp [a2, b2]⟩
  · right; left
    have q : l < 65 := q
    have a1 : fX11_isLetter l = some 0 := by unfold fX11_isLetter; rw [if_pos q]
    have a2 : fX12_in l 65 90 = some 0 := by unfold fX12_in; rw [if_pos q]
    exact ⟨by simp [a1], by simp [a2]⟩
  · right; left
    have q1 : ¬ l < 65 := q1
    have q2 : (90 : Int32) < l := q2
    have a1 : fX11_isLetter l = some 0 := by unfold fX11_isLetter; rw [if_neg q1, if_pos q2]
    have a2 : fX12_in l 65 90 = some 0 := by unfold fX12_in; rw [if_neg q1, if_pos q2]
    exact ⟨by simp [a1], by simp [a2]⟩
theorem move_or {N M : Mem} {b B n w : Nat} {L : Nat → Nat} (h : RC N M b B n w L) (a x y : Int32) : (∃ i, i < n ∧ a = nI i ∧ RG 2 x ∧ RG 3 y ∧ fX6_faultOfMoving N a x y = some 0 ∧ fX12_cannotMove M a x y = some 0) ∨ (fX6_faultOfMoving N a x y = some 1 ∧ fX12_cannotMove M a x y = some 1) ∨ (fX6_faultOfMoving N a x y = some 2 ∧ fX12_cannotMove M a x y = some 2) := by
  unfold fX6_faultOfMoving fX12_cannotMove
  rcases st_or n a with ⟨i, hi, e⟩ | hno
  · subst e
    rw [c_has_yes h.nv hi, r_st_yes h.mv hi]
    rcases pl_or x y with ⟨x1, y1, x3, x4⟩ | ⟨x3, x4⟩
    · left; exact ⟨i, hi, rfl, x1, y1, by simp [x3], by simp [x4]⟩
    · right; right; exact ⟨by simp [x3], by simp [x4]⟩
  · rw [c_has_no h.nv hno, r_st_no h.mv hno]
    right; left; exact ⟨rfl, rfl⟩
theorem power_or {N M : Mem} {b B n w : Nat} {L : Nat → Nat} (h : RC N M b B n w L) (a x : Int32) : (∃ i, i < n ∧ a = nI i ∧ RG 4 x ∧ fX6_faultOfPower N a x = some 0 ∧ fX12_cannotPower M a x = some 0) ∨ (fX6_faultOfPower N a x = some 1 ∧ fX12_cannotPower M a x = some 1) ∨ (fX6_faultOfPower N a x = some 2 ∧ fX12_cannotPower M a x = some 2) := by
  unfold fX6_faultOfPower fX12_cannotPower
  rcases st_or n a with ⟨i, hi, e⟩ | hno
  · subst e
    rw [c_has_yes h.nv hi, r_st_yes h.mv hi]
    rcases pw_or x with ⟨x1, x3, x4⟩ | ⟨x3, x4⟩
    · left; exact ⟨i, hi, rfl, x1, by simp [x3], by simp [x4]⟩
    · right; right; exact ⟨by simp [x3], by simp [x4]⟩
  · rw [c_has_no h.nv hno, r_st_no h.mv hno]
    right; left; exact ⟨rfl, rfl⟩
theorem tune_or {N M : Mem} {b B n w : Nat} {L : Nat → Nat} (h : RC N M b B n w L) (a x : Int32) : (∃ i, i < n ∧ a = nI i ∧ RG 5 x ∧ vM M i 6 = 0 ∧ fX6_faultOfTuning N a x = some 0 ∧ fX12_cannotTune M a x = some 0) ∨ (fX6_faultOfTuning N a x = some 1 ∧ fX12_cannotTune M a x = some 1) ∨ (fX6_faultOfTuning N a x = some 2 ∧ fX12_cannotTune M a x = some 2) ∨ (fX6_faultOfTuning N a x = some 4 ∧ fX12_cannotTune M a x = some 3) := by
  have hn := h.hn
  unfold fX6_faultOfTuning fX12_cannotTune
  rcases st_or n a with ⟨i, hi, e⟩ | hno
  · subst e
    rw [c_has_yes h.nv hi, r_st_yes h.mv hi]
    rcases chan_or x with ⟨cc, c1, c2, c3, c4⟩ | ⟨c3, c4⟩
    · have g := h.mode hi (m := 0) (by decide)
      have g2 : fX12_t M (nI i) 6 = some (vM M i 6) := r_6 M (by omega)
      by_cases c0 : vM M i 6 = 0
      · rw [if_pos c0] at g
        left; exact ⟨i, hi, rfl, ⟨cc, by simp [rlo], c1, c2⟩, c0, by simp [c3, g], by simp [c4, g2, c0]⟩
      · rw [if_neg c0] at g
        right; right; right; exact ⟨by simp [c3, g], by simp [c4, g2, c0]⟩
    · right; right; left; exact ⟨by simp [c3], by simp [c4]⟩
  · rw [c_has_no h.nv hno, r_st_no h.mv hno]
    right; left; exact ⟨rfl, rfl⟩
theorem mode_or {N M : Mem} {b B n w : Nat} {L : Nat → Nat} (h : RC N M b B n w L) (a : Int32) {m : Int32} (hm : inb m 3 = true) : (∃ i, i < n ∧ a = nI i ∧ vM M i 6 = m ∧ fX6_faultOfMode N a m = some 0 ∧ fX12_unless M a m = some 0) ∨ (fX6_faultOfMode N a m = some 1 ∧ fX12_unless M a m = some 1) ∨ (fX6_faultOfMode N a m = some 4 ∧ fX12_unless M a m = some 2) := by
  rcases st_or n a with ⟨i, hi, e⟩ | hno
  · subst e
    rw [h.mode hi hm, r_unless_yes h.mv hi]
    by_cases c : vM M i 6 = m
    · left; exact ⟨i, hi, rfl, c, by rw [if_pos c], by rw [if_pos c]⟩
    · right; right; exact ⟨by rw [if_neg c], by rw [if_neg c]⟩
  · right; left
    exact ⟨c_faultOfMode_no h.nv hno m, r_unless_no h.mv hno m⟩
theorem SRa.fail {G N V Hs : Mem} {Q : Nat → Mem} {P : Mem} {Sb : TX} {M : Mem} {B : Nat} (h : SRa G N V Hs Q P Sb M B) (x : Int32) : SRa G N V Hs Q P Sb (up2 (MBf M) 0 4 x) B := h.begin.r04 x
theorem q_addStation {z : KS} {M : Mem} {B : Nat} (h : SR z M B) (hB : B < 2 ^ 29) (a b c d e f : Int32) : ok (fC_addStation z M a b c d e f) (fun r => SR r.1 r.2 (B + 1)) := by
  obtain ⟨n, w, L, hR⟩ := h.1
  have hRB : RC z.N (MBf M) 59 B n w L := hR.ref (fun f _ => MBf_at M (by omega) (by omega))
  unfold fC_addStation
  rcases add_or hRB (ch a) b c d e f with ⟨g1, g2, g3, g4, g5, g6, g7, g8, hf, hc⟩ | ⟨hf, hc⟩ | ⟨hf, hc⟩ | ⟨hf, hc⟩
  · have hcc := (co_add hRB g1 g2 g3 g4 g5 g6 g7 g8)
    obtain ⟨v, N', Hs', Q', M', e1, e2, e3, e4⟩ := q_change h (Nat.le_succ B) (let ⟨a1, a2, a3, a4, a5, a6, a7⟩ := hcc; ⟨a1, a2, a3, a4, a5, a6, a7.mono (Nat.le_succ B)⟩)
    refine fin (k := 0) (z' := KS.mk z.G N' z.T z.V Hs' Q' z.R z.P z.Sb v.toInt64 z.od) (b := v) (M' := M') ?_ ?_ e3 (fun _ => rfl) e4
    · unfold fL_addStation fX11_addStation
      rw [hf]
      simp only [Option.bind_some]
      rw [rf0]
      simp only [Option.bind_some, sx]
      rw [e1]
      rfl
    · unfold fX12_addStation
      rw [r_begin]
      simp only [Option.bind_some]
      rw [hc]
      simp only [Option.bind_some]
      rw [if_pos (by decide)]
      exact e2
  · refine fin (k := 1) (z' := z) (b := 0) (M' := up2 (MBf M) 0 4 1) ?_ ?_ (e_04 _ _) (fun q => absurd q (by decide)) ((SRa.fail h 1).mono (Nat.le_succ B))
    · unfold fL_addStation fX11_addStation
      rw [hf]
      simp only [Option.bind_some]
      rw [rf2]
      rfl
    · unfold fX12_addStation
      rw [r_begin]
      simp only [Option.bind_some]
      rw [hc]
      simp only [Option.bind_some]
      rw [if_neg (by decide)]
      rfl
  · refine fin (k := 2) (z' := z) (b := 0) (M' := up2 (MBf M) 0 4 2) ?_ ?_ (e_04 _ _) (fun q => absurd q (by decide)) ((SRa.fail h 2).mono (Nat.le_succ B))
    · unfold fL_addStation fX11_addStation
      rw [hf]
      simp only [Option.bind_some]
      rw [rf3]
      rfl
    · unfold fX12_addStation
      rw [r_begin]
      simp only [Option.bind_some]
      rw [hc]
      simp only [Option.bind_some]
      rw [if_neg (by decide)]
      rfl
  · refine fin (k := 3) (z' := z) (b := 0) (M' := up2 (MBf M) 0 4 3) ?_ ?_ (e_04 _ _) (fun q => absurd q (by decide)) ((SRa.fail h 3).mono (Nat.le_succ B))
    · unfold fL_addStation fX11_addStation
      rw [hf]
      simp only [Option.bind_some]
      rw [rf4]
      rfl
    · unfold fX12_addStation
      rw [r_begin]
      simp only [Option.bind_some]
      rw [hc]
      simp only [Option.bind_some]
      rw [if_neg (by decide)]
      rfl
theorem q_move {z : KS} {M : Mem} {B : Nat} (h : SR z M B) (hB : B < 2 ^ 29) (a b c : Int32) : ok (fC_move z M a b c) (fun r => SR r.1 r.2 (B + 1)) := by
  obtain ⟨n, w, L, hR⟩ := h.1
  have hRB : RC z.N (MBf M) 59 B n w L := hR.ref (fun f _ => MBf_at M (by omega) (by omega))
  unfold fC_move
  rcases move_or hRB a b c with ⟨i, hi, e, g1, g2, hf, hc⟩ | ⟨hf, hc⟩ | ⟨hf, hc⟩
  · subst e
    have hcc := (co_move hRB hi g1 g2)
    obtain ⟨v, N', Hs', Q', M', e1, e2, e3, e4⟩ := q_change h (Nat.le_succ B) (let ⟨a1, a2, a3, a4, a5, a6, a7⟩ := hcc; ⟨a1, a2, a3, a4, a5, a6, a7.mono (Nat.le_succ B)⟩)
    refine fin (k := 0) (z' := KS.mk z.G N' z.T z.V Hs' Q' z.R z.P z.Sb v.toInt64 z.od) (b := v) (M' := M') ?_ ?_ e3 (fun _ => rfl) e4
    · unfold fL_move fX11_move
      rw [hf]
      simp only [Option.bind_some]
      rw [rf0]
      simp only [Option.bind_some, sx]
      rw [e1]
      rfl
    · unfold fX12_move
      rw [r_begin]
      simp only [Option.bind_some]
      rw [hc]
      simp only [Option.bind_some]
      rw [if_pos (by decide)]
      exact e2
  · refine fin (k := 1) (z' := z) (b := 0) (M' := up2 (MBf M) 0 4 1) ?_ ?_ (e_04 _ _) (fun q => absurd q (by decide)) ((SRa.fail h 1).mono (Nat.le_succ B))
    · unfold fL_move fX11_move
      rw [hf]
      simp only [Option.bind_some]
      rw [rf1]
      rfl
    · unfold fX12_move
      rw [r_begin]
      simp only [Option.bind_some]
      rw [hc]
      simp only [Option.bind_some]
      rw [if_neg (by decide)]
      rfl
  · refine fin (k := 2) (z' := z) (b := 0) (M' := up2 (MBf M) 0 4 2) ?_ ?_ (e_04 _ _) (fun q => absurd q (by decide)) ((SRa.fail h 2).mono (Nat.le_succ B))
    · unfold fL_move fX11_move
      rw [hf]
      simp only [Option.bind_some]
      rw [rf2]
      rfl
    · unfold fX12_move
      rw [r_begin]
      simp only [Option.bind_some]
      rw [hc]
      simp only [Option.bind_some]
      rw [if_neg (by decide)]
      rfl
theorem q_setPower {z : KS} {M : Mem} {B : Nat} (h : SR z M B) (hB : B < 2 ^ 29) (a b : Int32) : ok (fC_setPower z M a b) (fun r => SR r.1 r.2 (B + 1)) := by
  obtain ⟨n, w, L, hR⟩ := h.1
  have hRB : RC z.N (MBf M) 59 B n w L := hR.ref (fun f _ => MBf_at M (by omega) (by omega))
  unfold fC_setPower
  rcases power_or hRB a b with ⟨i, hi, e, g1, hf, hc⟩ | ⟨hf, hc⟩ | ⟨hf, hc⟩
  · subst e
    have hcc := (co_power hRB hi g1)
    obtain ⟨v, N', Hs', Q', M', e1, e2, e3, e4⟩ := q_change h (Nat.le_succ B) (let ⟨a1, a2, a3, a4, a5, a6, a7⟩ := hcc; ⟨a1, a2, a3, a4, a5, a6, a7.mono (Nat.le_succ B)⟩)
    refine fin (k := 0) (z' := KS.mk z.G N' z.T z.V Hs' Q' z.R z.P z.Sb v.toInt64 z.od) (b := v) (M' := M') ?_ ?_ e3 (fun _ => rfl) e4
    · unfold fL_setPower fX11_setPower
      rw [hf]
      simp only [Option.bind_some]
      rw [rf0]
      simp only [Option.bind_some, sx]
      rw [e1]
      rfl
    · unfold fX12_setPower
      rw [r_begin]
      simp only [Option.bind_some]
      rw [hc]
      simp only [Option.bind_some]
      rw [if_pos (by decide)]
      exact e2
  · refine fin (k := 1) (z' := z) (b := 0) (M' := up2 (MBf M) 0 4 1) ?_ ?_ (e_04 _ _) (fun q => absurd q (by decide)) ((SRa.fail h 1).mono (Nat.le_succ B))
    · unfold fL_setPower fX11_setPower
      rw [hf]
      simp only [Option.bind_some]
      rw [rf1]
      rfl
    · unfold fX12_setPower
      rw [r_begin]
      simp only [Option.bind_some]
      rw [hc]
      simp only [Option.bind_some]
      rw [if_neg (by decide)]
      rfl
  · refine fin (k := 2) (z' := z) (b := 0) (M' := up2 (MBf M) 0 4 2) ?_ ?_ (e_04 _ _) (fun q => absurd q (by decide)) ((SRa.fail h 2).mono (Nat.le_succ B))
    · unfold fL_setPower fX11_setPower
      rw [hf]
      simp only [Option.bind_some]
      rw [rf2]
      rfl
    · unfold fX12_setPower
      rw [r_begin]
      simp only [Option.bind_some]
      rw [hc]
      simp only [Option.bind_some]
      rw [if_neg (by decide)]
      rfl
theorem q_tune {z : KS} {M : Mem} {B : Nat} (h : SR z M B) (hB : B < 2 ^ 29) (a b : Int32) : ok (fC_tune z M a b) (fun r => SR r.1 r.2 (B + 1)) := by
  obtain ⟨n, w, L, hR⟩ := h.1
  have hRB : RC z.N (MBf M) 59 B n w L := hR.ref (fun f _ => MBf_at M (by omega) (by omega))
  unfold fC_tune
  rcases tune_or hRB a b with ⟨i, hi, e, g1, g2, hf, hc⟩ | ⟨hf, hc⟩ | ⟨hf, hc⟩ | ⟨hf, hc⟩
  · subst e
    have hcc := (co_tune hRB hi g2 g1)
    obtain ⟨v, N', Hs', Q', M', e1, e2, e3, e4⟩ := q_change h (Nat.le_succ B) (let ⟨a1, a2, a3, a4, a5, a6, a7⟩ := hcc; ⟨a1, a2, a3, a4, a5, a6, a7.mono (Nat.le_succ B)⟩)
    refine fin (k := 0) (z' := KS.mk z.G N' z.T z.V Hs' Q' z.R z.P z.Sb v.toInt64 z.od) (b := v) (M' := M') ?_ ?_ e3 (fun _ => rfl) e4
    · unfold fL_tune fX11_tune
      rw [hf]
      simp only [Option.bind_some]
      rw [rf0]
      simp only [Option.bind_some, sx]
      rw [e1]
      rfl
    · unfold fX12_tune
      rw [r_begin]
      simp only [Option.bind_some]
      rw [hc]
      simp only [Option.bind_some]
      rw [if_pos (by decide)]
      exact e2
  · refine fin (k := 1) (z' := z) (b := 0) (M' := up2 (MBf M) 0 4 1) ?_ ?_ (e_04 _ _) (fun q => absurd q (by decide)) ((SRa.fail h 1).mono (Nat.le_succ B))
    · unfold fL_tune fX11_tune
      rw [hf]
      simp only [Option.bind_some]
      rw [rf1]
      rfl
    · unfold fX12_tune
      rw [r_begin]
      simp only [Option.bind_some]
      rw [hc]
      simp only [Option.bind_some]
      rw [if_neg (by decide)]
      rfl
  · refine fin (k := 2) (z' := z) (b := 0) (M' := up2 (MBf M) 0 4 2) ?_ ?_ (e_04 _ _) (fun q => absurd q (by decide)) ((SRa.fail h 2).mono (Nat.le_succ B))
    · unfold fL_tune fX11_tune
      rw [hf]
      simp only [Option.bind_some]
      rw [rf2]
      rfl
    · unfold fX12_tune
      rw [r_begin]
      simp only [Option.bind_some]
      rw [hc]
      simp only [Option.bind_some]
      rw [if_neg (by decide)]
      rfl
  · refine fin (k := 3) (z' := z) (b := 0) (M' := up2 (MBf M) 0 4 3) ?_ ?_ (e_04 _ _) (fun q => absurd q (by decide)) ((SRa.fail h 3).mono (Nat.le_succ B))
    · unfold fL_tune fX11_tune
      rw [hf]
      simp only [Option.bind_some]
      rw [rf4]
      rfl
    · unfold fX12_tune
      rw [r_begin]
      simp only [Option.bind_some]
      rw [hc]
      simp only [Option.bind_some]
      rw [if_neg (by decide)]
      rfl
theorem q_request {z : KS} {M : Mem} {B : Nat} (h : SR z M B) (hB : B < 2 ^ 29) (a : Int32) : ok (fC_request z M a) (fun r => SR r.1 r.2 (B + 1)) := by
  obtain ⟨n, w, L, hR⟩ := h.1
  have hRB : RC z.N (MBf M) 59 B n w L := hR.ref (fun f _ => MBf_at M (by omega) (by omega))
  unfold fC_request
  rcases mode_or hRB a (m := 0) (by decide) with ⟨i, hi, e, g1, hf, hc⟩ | ⟨hf, hc⟩ | ⟨hf, hc⟩
  · subst e
    obtain ⟨v, N', Hs', Q', M', e1, e2, e3, e4⟩ := q_change h (Nat.le_succ B) (co_request hRB (by omega) hi g1)
    refine fin (k := 0) (z' := KS.mk z.G N' z.T z.V Hs' Q' z.R z.P z.Sb v.toInt64 z.od) (b := v) (M' := M') ?_ ?_ e3 (fun _ => rfl) e4
    · unfold fL_request fX11_request
      rw [hf]
      simp only [Option.bind_some]
      rw [rf0]
      simp only [Option.bind_some, sx]
      rw [e1]
      rfl
    · unfold fX12_request
      rw [r_begin]
      simp only [Option.bind_some]
      rw [hc]
      simp only [Option.bind_some]
      rw [if_pos (by decide)]
      exact e2
  · refine fin (k := 1) (z' := z) (b := 0) (M' := up2 (MBf M) 0 4 1) ?_ ?_ (e_04 _ _) (fun q => absurd q (by decide)) ((SRa.fail h 1).mono (Nat.le_succ B))
    · unfold fL_request fX11_request
      rw [hf]
      simp only [Option.bind_some]
      rw [rf1]
      rfl
    · unfold fX12_request
      rw [r_begin]
      simp only [Option.bind_some]
      rw [hc]
      simp only [Option.bind_some]
      rw [if_neg (by decide)]
      rfl
  · refine fin (k := 2) (z' := z) (b := 0) (M' := up2 (MBf M) 0 4 2) ?_ ?_ (e_04 _ _) (fun q => absurd q (by decide)) ((SRa.fail h 2).mono (Nat.le_succ B))
    · unfold fL_request fX11_request
      rw [hf]
      simp only [Option.bind_some]
      rw [rf4]
      rfl
    · unfold fX12_request
      rw [r_begin]
      simp only [Option.bind_some]
      rw [hc]
      simp only [Option.bind_some]
      rw [if_neg (by decide)]
      rfl
theorem q_release {z : KS} {M : Mem} {B : Nat} (h : SR z M B) (hB : B < 2 ^ 29) (a : Int32) : ok (fC_release z M a) (fun r => SR r.1 r.2 (B + 1)) := by
  obtain ⟨n, w, L, hR⟩ := h.1
  have hRB : RC z.N (MBf M) 59 B n w L := hR.ref (fun f _ => MBf_at M (by omega) (by omega))
  unfold fC_release
  rcases mode_or hRB a (m := 1) (by decide) with ⟨i, hi, e, g1, hf, hc⟩ | ⟨hf, hc⟩ | ⟨hf, hc⟩
  · subst e
    obtain ⟨N1, M1, x, b1, b2, b3, ⟨w1, L1, b4⟩, b5⟩ := co_ends hRB (by decide) hi g1
    obtain ⟨v, N', Hs', Q', M', e1, e2, e3, e4⟩ := q_change h (Nat.le_succ B) (⟨_, N1, M1, b1, b2, b3, n, w1, L1, b4.mono (Nat.le_refl _) (Nat.le_succ B)⟩)
    refine fin (k := 0) (z' := KS.mk z.G N' z.T z.V Hs' Q' z.R z.P z.Sb v.toInt64 z.od) (b := v) (M' := M') ?_ ?_ e3 (fun _ => rfl) e4
    · unfold fL_release fX11_release
      rw [hf]
      simp only [Option.bind_some]
      rw [rf0]
      simp only [Option.bind_some, sx]
      rw [e1]
      rfl
    · unfold fX12_release
      rw [r_begin]
      simp only [Option.bind_some]
      rw [hc]
      simp only [Option.bind_some]
      rw [if_pos (by decide)]
      exact e2
  · refine fin (k := 1) (z' := z) (b := 0) (M' := up2 (MBf M) 0 4 1) ?_ ?_ (e_04 _ _) (fun q => absurd q (by decide)) ((SRa.fail h 1).mono (Nat.le_succ B))
    · unfold fL_release fX11_release
      rw [hf]
      simp only [Option.bind_some]
      rw [rf1]
      rfl
    · unfold fX12_release
      rw [r_begin]
      simp only [Option.bind_some]
      rw [hc]
      simp only [Option.bind_some]
      rw [if_neg (by decide)]
      rfl
  · refine fin (k := 2) (z' := z) (b := 0) (M' := up2 (MBf M) 0 4 2) ?_ ?_ (e_04 _ _) (fun q => absurd q (by decide)) ((SRa.fail h 2).mono (Nat.le_succ B))
    · unfold fL_release fX11_release
      rw [hf]
      simp only [Option.bind_some]
      rw [rf4]
      rfl
    · unfold fX12_release
      rw [r_begin]
      simp only [Option.bind_some]
      rw [hc]
      simp only [Option.bind_some]
      rw [if_neg (by decide)]
      rfl
theorem q_cancel {z : KS} {M : Mem} {B : Nat} (h : SR z M B) (hB : B < 2 ^ 29) (a : Int32) : ok (fC_cancel z M a) (fun r => SR r.1 r.2 (B + 1)) := by
  obtain ⟨n, w, L, hR⟩ := h.1
  have hRB : RC z.N (MBf M) 59 B n w L := hR.ref (fun f _ => MBf_at M (by omega) (by omega))
  unfold fC_cancel
  rcases mode_or hRB a (m := 2) (by decide) with ⟨i, hi, e, g1, hf, hc⟩ | ⟨hf, hc⟩ | ⟨hf, hc⟩
  · subst e
    have hcc := (co_cancel hRB hi g1)
    obtain ⟨v, N', Hs', Q', M', e1, e2, e3, e4⟩ := q_change h (Nat.le_succ B) (let ⟨a1, a2, a3, a4, a5, a6, a7⟩ := hcc; ⟨a1, a2, a3, a4, a5, a6, a7.mono (Nat.le_succ B)⟩)
    refine fin (k := 0) (z' := KS.mk z.G N' z.T z.V Hs' Q' z.R z.P z.Sb v.toInt64 z.od) (b := v) (M' := M') ?_ ?_ e3 (fun _ => rfl) e4
    · unfold fL_cancel fX11_cancel
      rw [hf]
      simp only [Option.bind_some]
      rw [rf0]
      simp only [Option.bind_some, sx]
      rw [e1]
      rfl
    · unfold fX12_cancel
      rw [r_begin]
      simp only [Option.bind_some]
      rw [hc]
      simp only [Option.bind_some]
      rw [if_pos (by decide)]
      exact e2
  · refine fin (k := 1) (z' := z) (b := 0) (M' := up2 (MBf M) 0 4 1) ?_ ?_ (e_04 _ _) (fun q => absurd q (by decide)) ((SRa.fail h 1).mono (Nat.le_succ B))
    · unfold fL_cancel fX11_cancel
      rw [hf]
      simp only [Option.bind_some]
      rw [rf1]
      rfl
    · unfold fX12_cancel
      rw [r_begin]
      simp only [Option.bind_some]
      rw [hc]
      simp only [Option.bind_some]
      rw [if_neg (by decide)]
      rfl
  · refine fin (k := 2) (z' := z) (b := 0) (M' := up2 (MBf M) 0 4 2) ?_ ?_ (e_04 _ _) (fun q => absurd q (by decide)) ((SRa.fail h 2).mono (Nat.le_succ B))
    · unfold fL_cancel fX11_cancel
      rw [hf]
      simp only [Option.bind_some]
      rw [rf4]
      rfl
    · unfold fX12_cancel
      rw [r_begin]
      simp only [Option.bind_some]
      rw [hc]
      simp only [Option.bind_some]
      rw [if_neg (by decide)]
      rfl
theorem q_setTurnLimit {z : KS} {M : Mem} {B : Nat} (h : SR z M B) (hB : B < 2 ^ 29) (a : Int32) : ok (fC_setTurnLimit z M a) (fun r => SR r.1 r.2 (B + 1)) := by
  obtain ⟨n, w, L, hR⟩ := h.1
  have hRB : RC z.N (MBf M) 59 B n w L := hR.ref (fun f _ => MBf_at M (by omega) (by omega))
  unfold fC_setTurnLimit
  rcases mn_or a with ⟨m, g1, g2, e, hf, hc⟩ | ⟨hf, hc⟩
  · have hcc := (co_limit hRB g1 g2)
    rw [← e] at hcc
    obtain ⟨v, N', Hs', Q', M', e1, e2, e3, e4⟩ := q_change h (Nat.le_succ B) (let ⟨a1, a2, a3, a4, a5, a6, a7⟩ := hcc; ⟨a1, a2, a3, a4, a5, a6, a7.mono (Nat.le_succ B)⟩)
    refine fin (k := 0) (z' := KS.mk z.G N' z.T z.V Hs' Q' z.R z.P z.Sb v.toInt64 z.od) (b := v) (M' := M') ?_ ?_ e3 (fun _ => rfl) e4
    · unfold fL_setTurnLimit fX11_setTurnLimit
      rw [hf]
      simp only [Option.bind_some]
      rw [rf0]
      simp only [Option.bind_some, sx]
      rw [e1]
      rfl
    · unfold fX12_setTurnLimit
      rw [r_begin]
      simp only [Option.bind_some]
      rw [hc]
      simp only [Option.bind_some]
      rw [if_neg (by decide)]
      exact e2
  · refine fin (k := 1) (z' := z) (b := 0) (M' := up2 (MBf M) 0 4 1) ?_ ?_ (e_04 _ _) (fun q => absurd q (by decide)) ((SRa.fail h 1).mono (Nat.le_succ B))
    · unfold fL_setTurnLimit fX11_setTurnLimit
      rw [hf]
      simp only [Option.bind_some]
      rw [rf2]
      rfl
    · unfold fX12_setTurnLimit
      rw [r_begin]
      simp only [Option.bind_some]
      rw [hc]
      simp only [Option.bind_some]
      rw [if_pos trivial]
      rfl
theorem q_pass {z : KS} {M : Mem} {B : Nat} (h : SR z M B) (hB : B < 2 ^ 29) (a : Int32) : ok (fC_pass z M a) (fun r => SR r.1 r.2 (B + 1)) := by
  obtain ⟨n, w, L, hR⟩ := h.1
  have hRB : RC z.N (MBf M) 59 B n w L := hR.ref (fun f _ => MBf_at M (by omega) (by omega))
  unfold fC_pass
  rcases mn_or a with ⟨m, g1, g2, e, hf, hc⟩ | ⟨hf, hc⟩
  · have hcc := (co_passes hRB g2)
    rw [← e] at hcc
    obtain ⟨v, N', Hs', Q', M', e1, e2, e3, e4⟩ := q_change h (Nat.le_succ B) (let ⟨a1, a2, a3, a4, a5, a6, a7⟩ := hcc; ⟨a1, a2, a3, a4, a5, a6, a7.mono (Nat.le_succ B)⟩)
    refine fin (k := 0) (z' := KS.mk z.G N' z.T z.V Hs' Q' z.R z.P z.Sb v.toInt64 z.od) (b := v) (M' := M') ?_ ?_ e3 (fun _ => rfl) e4
    · unfold fL_pass fX11_pass
      rw [hf]
      simp only [Option.bind_some]
      rw [rf0]
      simp only [Option.bind_some, sx]
      rw [e1]
      rfl
    · unfold fX12_pass
      rw [r_begin]
      simp only [Option.bind_some]
      rw [hc]
      simp only [Option.bind_some]
      rw [if_neg (by decide)]
      exact e2
  · refine fin (k := 1) (z' := z) (b := 0) (M' := up2 (MBf M) 0 4 1) ?_ ?_ (e_04 _ _) (fun q => absurd q (by decide)) ((SRa.fail h 1).mono (Nat.le_succ B))
    · unfold fL_pass fX11_pass
      rw [hf]
      simp only [Option.bind_some]
      rw [rf2]
      rfl
    · unfold fX12_pass
      rw [r_begin]
      simp only [Option.bind_some]
      rw [hc]
      simp only [Option.bind_some]
      rw [if_pos trivial]
      rfl
