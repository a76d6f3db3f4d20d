/-! ===== .. kind by kind ===== -/
theorem n_num {M : Mem} {s : Nat → Int32} {len : Nat} {Z : PZ} (h : ST M s len Z) {m c : Int32} (hm : (m = 1 ∧ c = 68) ∨ (m = 2 ∧ c = 78)) {j : Nat} (hj : Z.2.1 = false → Z.2.2.length = j) : ∃ v M', fX12_number M m = some (v, M') ∧ ST (up2 M' 9 j v) s len (pz s len Z c) ∧ FR M (up2 M' 9 j v) := by
  have hm' : ∃ k : Nat, m = nI k ∧ ((k = 1 ∧ c = 68) ∨ (k = 2 ∧ c = 78)) := by
    rcases hm with ⟨a, b⟩ | ⟨a, b⟩
    · exact ⟨1, a, Or.inl ⟨rfl, b⟩⟩
    · exact ⟨2, a, Or.inr ⟨rfl, b⟩⟩
  obtain ⟨k, ek, hk⟩ := hm'
  obtain ⟨v, M', e1, e2, e3, e4⟩ := r_number h hk
  exact ⟨v, M', by rw [ek]; exact e1, ST_put e2 (fun z => hj (pz_vl z).1) e4, fun a f ha hf => by rw [up2_at, if_neg (by omega)]; exact e3 a f hf⟩
theorem n_cap {M : Mem} {s : Nat → Int32} {len : Nat} {Z : PZ} (h : ST M s len Z) {j : Nat} (hj : Z.2.1 = false → Z.2.2.length = j) : ∃ v M', fX12_capital M = some (v, M') ∧ ST (up2 M' 9 j v) s len (pz s len Z 76) ∧ FR M (up2 M' 9 j v) := by
  obtain ⟨v, M', e1, e2, e3, e4⟩ := r_capital h
  exact ⟨v, M', e1, ST_put e2 (fun z => hj (pz_vl z).1) e4, fun a f ha hf => by rw [up2_at, if_neg (by omega)]; exact e3 a f hf⟩
theorem n_exp {M : Mem} {s : Nat → Int32} {len : Nat} {Z : PZ} (h : ST M s len Z) {c : Int32} (hc : c ≠ 68 ∧ c ≠ 76 ∧ c ≠ 78) (hm : c ≠ -1) : ∃ M', fX12_expect M c = some M' ∧ ST M' s len (pz s len Z c) ∧ FR M M' := by
  obtain ⟨M', e1, e2, e3⟩ := r_expect h hc hm
  exact ⟨M', e1, e2, e3.fr⟩
theorem ln_lit {s : Nat → Int32} {len : Nat} {Z : PZ} {c : Int32} {j : Nat} (h : Z.2.1 = false → Z.2.2.length = j) (hc : (decide (c = 68) || (decide (c = 76) || decide (c = 78))) = false) : (pz s len Z c).2.1 = false → (pz s len Z c).2.2.length = j := fun z => by
  obtain ⟨h1, h2⟩ := pz_vl z
  rw [h2, hc, h h1]
  rfl
theorem ln_val {s : Nat → Int32} {len : Nat} {Z : PZ} {c : Int32} {j : Nat} (h : Z.2.1 = false → Z.2.2.length = j) (hc : (decide (c = 68) || (decide (c = 76) || decide (c = 78))) = true) : (pz s len Z c).2.1 = false → (pz s len Z c).2.2.length = j + 1 := fun z => by
  obtain ⟨h1, h2⟩ := pz_vl z
  rw [h2, hc, h h1]
  rfl
/-- what a command's reading comes to: the reader at Z, command c stored if it is right -/
def RSP (M M' : Mem) (s : Nat → Int32) (len c κ : Nat) (Z : PZ) : Prop := ST M' s len Z ∧ FC8 M M' c ∧ (Z.2.1 = false → M' 0 18 = nI (c + 1) ∧ M' 7 c = nI κ ∧ ∀ j, j < 6 → j < Z.2.2.length → M' 8 (6 * c + j) = Z.2.2.getD j 0)
theorem rsp_last {M M1 : Mem} {s : Nat → Int32} {len : Nat} {Z : PZ} (hf : FR M M1) (h : ST M1 s len Z) {c : Nat} (hc : c < 13) (h18 : M 0 18 = nI c) (κ : Nat) (x2 : Int32) : ∃ M', fX12_command_j170 (nI κ) x2 M1 = some M' ∧ RSP M M' s len c κ Z ∧ (Z.2.1 = false → M' 8 (6 * c) = M1 9 0) := by
  obtain ⟨M', e1, e2, e3, e4⟩ := r_last h hc ((hf 0 18 (by omega) (by omega)).trans h18) (nI κ) x2
  refine ⟨M', e1, ⟨e2, fun k f a1 a2 a3 a4 => (e3 k f (by omega) a3 a4).trans (hf k f a1 (by omega)), fun hz => ?_⟩, fun hz => ?_⟩
  · obtain ⟨g1, g2, g3⟩ := e4 hz
    exact ⟨g1, g2, fun j hj hl => by rw [g3 j hj]; exact h.2.2.2.2.2.2 hz j hl⟩
  · exact (e4 hz).2.2 0 (by decide)
theorem r_kind0 {M : Mem} {s : Nat → Int32} {len : Nat} {Z : PZ} (h : ST M s len Z) (hl : Z.2.1 = false → Z.2.2.length = 0) {c : Nat} (hc : c < 13) (h18 : M 0 18 = nI c) : ∃ M', ((fX12_expect M 32).bind fun z44 => fX12_command_j33 (nI 0) z44) = some M' ∧ RSP M M' s len c 0 (pzl s len (rsK 0) Z) := by
  obtain ⟨M1, a1, s1, f1⟩ := n_exp h (c := 32) (by decide) (by decide)
  have l1 := ln_lit (s := s) (len := len) (c := 32) hl (by decide)
  obtain ⟨v2, K2, a2, s2, f2⟩ := n_cap s1 (j := 0) l1
  have l2 := ln_val (s := s) (len := len) (c := 76) l1 (by decide)
  obtain ⟨v3, K3, a3, s3, f3⟩ := n_num s2 (m := 1) (c := 68) (j := 1) (by decide) l2
  have l3 := ln_val (s := s) (len := len) (c := 68) l2 (by decide)
  obtain ⟨M4, a4, s4, f4⟩ := n_exp s3 (c := 32) (by decide) (by decide)
  have l4 := ln_lit (s := s) (len := len) (c := 32) l3 (by decide)
  obtain ⟨v5, K5, a5, s5, f5⟩ := n_num s4 (m := 2) (c := 78) (j := 2) (by decide) l4
  have l5 := ln_val (s := s) (len := len) (c := 78) l4 (by decide)
  obtain ⟨M6, a6, s6, f6⟩ := n_exp s5 (c := 44) (by decide) (by decide)
  have l6 := ln_lit (s := s) (len := len) (c := 44) l5 (by decide)
  obtain ⟨v7, K7, a7, s7, f7⟩ := n_num s6 (m := 2) (c := 78) (j := 3) (by decide) l6
  have l7 := ln_val (s := s) (len := len) (c := 78) l6 (by decide)
  obtain ⟨M8, a8, s8, f8⟩ := n_exp s7 (c := 32) (by decide) (by decide)
  have l8 := ln_lit (s := s) (len := len) (c := 32) l7 (by decide)
  obtain ⟨v9, K9, a9, s9, f9⟩ := n_num s8 (m := 2) (c := 78) (j := 4) (by decide) l8
  have l9 := ln_val (s := s) (len := len) (c := 78) l8 (by decide)
  obtain ⟨M10, a10, s10, f10⟩ := n_exp s9 (c := 32) (by decide) (by decide)
  have l10 := ln_lit (s := s) (len := len) (c := 32) l9 (by decide)
  obtain ⟨v11, K11, a11, s11, f11⟩ := n_num s10 (m := 1) (c := 68) (j := 5) (by decide) l10
  have l11 := ln_val (s := s) (len := len) (c := 68) l10 (by decide)
  obtain ⟨M', e1, e2, _⟩ := rsp_last ((((((((((f1.trans f2).trans f3).trans f4).trans f5).trans f6).trans f7).trans f8).trans f9).trans f10).trans f11) s11 hc h18 0 0
  refine ⟨M', ?_, e2⟩
  rw [a1]
  simp only [Option.bind_some]
  unfold fX12_command_j33
  rw [if_neg (by decide)]
  unfold fX12_command_j67
  rw [if_pos (by decide)]
  unfold fX12_readsStation
  rw [a2]
  simp only [Option.bind_some]
  rw [a3]
  simp only [Option.bind_some]
  rw [a4]
  simp only [Option.bind_some]
  rw [a5]
  simp only [Option.bind_some]
  rw [a6]
  simp only [Option.bind_some]
  rw [a7]
  simp only [Option.bind_some]
  rw [a8]
  simp only [Option.bind_some]
  rw [a9]
  simp only [Option.bind_some]
  rw [a10]
  simp only [Option.bind_some]
  rw [a11]
  simp only [Option.bind_some]
  rw [if_neg (by decide)]
  unfold fX12_command_j85
  rw [if_pos (by decide)]
  unfold fX12_command_j107
  rw [if_neg (by decide), if_neg (by decide), if_neg (by decide), if_neg (by decide)]
  exact e1
theorem r_kind1 {M : Mem} {s : Nat → Int32} {len : Nat} {Z : PZ} (h : ST M s len Z) (hl : Z.2.1 = false → Z.2.2.length = 0) {c : Nat} (hc : c < 13) (h18 : M 0 18 = nI c) : ∃ M', ((fX12_expect M 32).bind fun z44 => fX12_command_j33 (nI 1) z44) = some M' ∧ RSP M M' s len c 1 (pzl s len (rsK 1) Z) := by
  obtain ⟨M1, a1, s1, f1⟩ := n_exp h (c := 32) (by decide) (by decide)
  have l1 := ln_lit (s := s) (len := len) (c := 32) hl (by decide)
  obtain ⟨v2, K2, a2, s2, f2⟩ := n_num s1 (m := 1) (c := 68) (j := 0) (by decide) l1
  have l2 := ln_val (s := s) (len := len) (c := 68) l1 (by decide)
  obtain ⟨M3, a3, s3, f3⟩ := n_exp s2 (c := 32) (by decide) (by decide)
  have l3 := ln_lit (s := s) (len := len) (c := 32) l2 (by decide)
  obtain ⟨v4, K4, a4, s4, f4⟩ := n_num s3 (m := 2) (c := 78) (j := 1) (by decide) l3
  have l4 := ln_val (s := s) (len := len) (c := 78) l3 (by decide)
  obtain ⟨M5, a5, s5, f5⟩ := n_exp s4 (c := 44) (by decide) (by decide)
  have l5 := ln_lit (s := s) (len := len) (c := 44) l4 (by decide)
  obtain ⟨v6, K6, a6, s6, f6⟩ := n_num s5 (m := 2) (c := 78) (j := 2) (by decide) l5
  have l6 := ln_val (s := s) (len := len) (c := 78) l5 (by decide)
  obtain ⟨M', e1, e2, _⟩ := rsp_last (((((f1.trans f2).trans f3).trans f4).trans f5).trans f6) s6 hc h18 1 0
  refine ⟨M', ?_, e2⟩
  rw [a1]
  simp only [Option.bind_some]
  unfold fX12_command_j33
  rw [if_neg (by decide)]
  unfold fX12_command_j67
  rw [if_neg (by decide), if_pos (by decide)]
  unfold fX12_readsPlace
  rw [a2]
  simp only [Option.bind_some]
  rw [a3]
  simp only [Option.bind_some]
  rw [a4]
  simp only [Option.bind_some]
  rw [a5]
  simp only [Option.bind_some]
  rw [a6]
  simp only [Option.bind_some]
  unfold fX12_command_j85
  rw [if_pos (by decide)]
  unfold fX12_command_j107
  rw [if_neg (by decide), if_neg (by decide), if_neg (by decide), if_neg (by decide)]
  exact e1
theorem r_kind2 {M : Mem} {s : Nat → Int32} {len : Nat} {Z : PZ} (h : ST M s len Z) (hl : Z.2.1 = false → Z.2.2.length = 0) {c : Nat} (hc : c < 13) (h18 : M 0 18 = nI c) : ∃ M', ((fX12_expect M 32).bind fun z44 => fX12_command_j33 (nI 2) z44) = some M' ∧ RSP M M' s len c 2 (pzl s len (rsK 2) Z) := by
  obtain ⟨M1, a1, s1, f1⟩ := n_exp h (c := 32) (by decide) (by decide)
  have l1 := ln_lit (s := s) (len := len) (c := 32) hl (by decide)
  obtain ⟨v2, K2, a2, s2, f2⟩ := n_num s1 (m := 1) (c := 68) (j := 0) (by decide) l1
  have l2 := ln_val (s := s) (len := len) (c := 68) l1 (by decide)
  obtain ⟨M3, a3, s3, f3⟩ := n_exp s2 (c := 61) (by decide) (by decide)
  have l3 := ln_lit (s := s) (len := len) (c := 61) l2 (by decide)
  obtain ⟨v4, K4, a4, s4, f4⟩ := n_num s3 (m := 2) (c := 78) (j := 1) (by decide) l3
  have l4 := ln_val (s := s) (len := len) (c := 78) l3 (by decide)
  obtain ⟨M', e1, e2, _⟩ := rsp_last (((f1.trans f2).trans f3).trans f4) s4 hc h18 2 0
  refine ⟨M', ?_, e2⟩
  rw [a1]
  simp only [Option.bind_some]
  unfold fX12_command_j33
  rw [if_neg (by decide)]
  unfold fX12_command_j67
  rw [if_neg (by decide), if_neg (by decide)]
  unfold fX12_command_j85
  rw [if_neg (by decide), if_neg (by decide), a2]
  simp only [Option.bind_some]
  unfold fX12_command_j107
  rw [if_neg (by decide), if_neg (by decide), if_pos (by decide)]
  unfold fX12_command_j144
  rw [a3]
  simp only [Option.bind_some]
  rw [if_pos (by decide), a4]
  simp only [Option.bind_some]
  exact e1
theorem r_kind3 {M : Mem} {s : Nat → Int32} {len : Nat} {Z : PZ} (h : ST M s len Z) (hl : Z.2.1 = false → Z.2.2.length = 0) {c : Nat} (hc : c < 13) (h18 : M 0 18 = nI c) : ∃ M', ((fX12_expect M 32).bind fun z44 => fX12_command_j33 (nI 3) z44) = some M' ∧ RSP M M' s len c 3 (pzl s len (rsK 3) Z) := by
  obtain ⟨M1, a1, s1, f1⟩ := n_exp h (c := 32) (by decide) (by decide)
  have l1 := ln_lit (s := s) (len := len) (c := 32) hl (by decide)
  obtain ⟨v2, K2, a2, s2, f2⟩ := n_num s1 (m := 1) (c := 68) (j := 0) (by decide) l1
  have l2 := ln_val (s := s) (len := len) (c := 68) l1 (by decide)
  obtain ⟨M3, a3, s3, f3⟩ := n_exp s2 (c := 61) (by decide) (by decide)
  have l3 := ln_lit (s := s) (len := len) (c := 61) l2 (by decide)
  obtain ⟨v4, K4, a4, s4, f4⟩ := n_num s3 (m := 1) (c := 68) (j := 1) (by decide) l3
  have l4 := ln_val (s := s) (len := len) (c := 68) l3 (by decide)
  obtain ⟨M', e1, e2, _⟩ := rsp_last (((f1.trans f2).trans f3).trans f4) s4 hc h18 3 0
  refine ⟨M', ?_, e2⟩
  rw [a1]
  simp only [Option.bind_some]
  unfold fX12_command_j33
  rw [if_neg (by decide)]
  unfold fX12_command_j67
  rw [if_neg (by decide), if_neg (by decide)]
  unfold fX12_command_j85
  rw [if_neg (by decide), if_neg (by decide), a2]
  simp only [Option.bind_some]
  unfold fX12_command_j107
  rw [if_neg (by decide), if_neg (by decide), if_neg (by decide), if_pos (by decide)]
  unfold fX12_command_j144
  rw [a3]
  simp only [Option.bind_some]
  rw [if_neg (by decide), a4]
  simp only [Option.bind_some]
  exact e1
theorem r_kind4 {M : Mem} {s : Nat → Int32} {len : Nat} {Z : PZ} (h : ST M s len Z) (hl : Z.2.1 = false → Z.2.2.length = 0) {c : Nat} (hc : c < 13) (h18 : M 0 18 = nI c) : ∃ M', ((fX12_expect M 32).bind fun z44 => fX12_command_j33 (nI 4) z44) = some M' ∧ RSP M M' s len c 4 (pzl s len (rsK 4) Z) := by
  obtain ⟨M1, a1, s1, f1⟩ := n_exp h (c := 32) (by decide) (by decide)
  have l1 := ln_lit (s := s) (len := len) (c := 32) hl (by decide)
  obtain ⟨v2, K2, a2, s2, f2⟩ := n_num s1 (m := 1) (c := 68) (j := 0) (by decide) l1
  have l2 := ln_val (s := s) (len := len) (c := 68) l1 (by decide)
  obtain ⟨M', e1, e2, _⟩ := rsp_last (f1.trans f2) s2 hc h18 4 0
  refine ⟨M', ?_, e2⟩
  rw [a1]
  simp only [Option.bind_some]
  unfold fX12_command_j33
  rw [if_neg (by decide)]
  unfold fX12_command_j67
  rw [if_neg (by decide), if_neg (by decide)]
  unfold fX12_command_j85
  rw [if_neg (by decide), if_neg (by decide), a2]
  simp only [Option.bind_some]
  unfold fX12_command_j107
  rw [if_neg (by decide), if_neg (by decide), if_neg (by decide), if_neg (by decide)]
  exact e1
theorem r_kind5 {M : Mem} {s : Nat → Int32} {len : Nat} {Z : PZ} (h : ST M s len Z) (hl : Z.2.1 = false → Z.2.2.length = 0) {c : Nat} (hc : c < 13) (h18 : M 0 18 = nI c) : ∃ M', ((fX12_expect M 32).bind fun z44 => fX12_command_j33 (nI 5) z44) = some M' ∧ RSP M M' s len c 5 (pzl s len (rsK 5) Z) := by
  obtain ⟨M1, a1, s1, f1⟩ := n_exp h (c := 32) (by decide) (by decide)
  have l1 := ln_lit (s := s) (len := len) (c := 32) hl (by decide)
  obtain ⟨v2, K2, a2, s2, f2⟩ := n_num s1 (m := 1) (c := 68) (j := 0) (by decide) l1
  have l2 := ln_val (s := s) (len := len) (c := 68) l1 (by decide)
  obtain ⟨M', e1, e2, _⟩ := rsp_last (f1.trans f2) s2 hc h18 5 0
  refine ⟨M', ?_, e2⟩
  rw [a1]
  simp only [Option.bind_some]
  unfold fX12_command_j33
  rw [if_neg (by decide)]
  unfold fX12_command_j67
  rw [if_neg (by decide), if_neg (by decide)]
  unfold fX12_command_j85
  rw [if_neg (by decide), if_neg (by decide), a2]
  simp only [Option.bind_some]
  unfold fX12_command_j107
  rw [if_neg (by decide), if_neg (by decide), if_neg (by decide), if_neg (by decide)]
  exact e1
theorem r_kind6 {M : Mem} {s : Nat → Int32} {len : Nat} {Z : PZ} (h : ST M s len Z) (hl : Z.2.1 = false → Z.2.2.length = 0) {c : Nat} (hc : c < 13) (h18 : M 0 18 = nI c) : ∃ M', ((fX12_expect M 32).bind fun z44 => fX12_command_j33 (nI 6) z44) = some M' ∧ RSP M M' s len c 6 (pzl s len (rsK 6) Z) := by
  obtain ⟨M1, a1, s1, f1⟩ := n_exp h (c := 32) (by decide) (by decide)
  have l1 := ln_lit (s := s) (len := len) (c := 32) hl (by decide)
  obtain ⟨v2, K2, a2, s2, f2⟩ := n_num s1 (m := 1) (c := 68) (j := 0) (by decide) l1
  have l2 := ln_val (s := s) (len := len) (c := 68) l1 (by decide)
  obtain ⟨M', e1, e2, _⟩ := rsp_last (f1.trans f2) s2 hc h18 6 0
  refine ⟨M', ?_, e2⟩
  rw [a1]
  simp only [Option.bind_some]
  unfold fX12_command_j33
  rw [if_neg (by decide)]
  unfold fX12_command_j67
  rw [if_neg (by decide), if_neg (by decide)]
  unfold fX12_command_j85
  rw [if_neg (by decide), if_neg (by decide), a2]
  simp only [Option.bind_some]
  unfold fX12_command_j107
  rw [if_neg (by decide), if_neg (by decide), if_neg (by decide), if_neg (by decide)]
  exact e1
theorem r_kind7 {M : Mem} {s : Nat → Int32} {len : Nat} {Z : PZ} (h : ST M s len Z) (hl : Z.2.1 = false → Z.2.2.length = 0) {c : Nat} (hc : c < 13) (h18 : M 0 18 = nI c) : ∃ M', ((fX12_expect M 32).bind fun z44 => fX12_command_j33 (nI 7) z44) = some M' ∧ RSP M M' s len c 7 (pzl s len (rsK 7) Z) := by
  obtain ⟨M1, a1, s1, f1⟩ := n_exp h (c := 32) (by decide) (by decide)
  have l1 := ln_lit (s := s) (len := len) (c := 32) hl (by decide)
  obtain ⟨v2, K2, a2, s2, f2⟩ := n_num s1 (m := 2) (c := 78) (j := 0) (by decide) l1
  have l2 := ln_val (s := s) (len := len) (c := 78) l1 (by decide)
  obtain ⟨M', e1, e2, _⟩ := rsp_last (f1.trans f2) s2 hc h18 7 0
  refine ⟨M', ?_, e2⟩
  rw [a1]
  simp only [Option.bind_some]
  unfold fX12_command_j33
  rw [if_neg (by decide)]
  unfold fX12_command_j67
  rw [if_neg (by decide), if_neg (by decide)]
  unfold fX12_command_j85
  rw [if_neg (by decide), if_pos (by decide)]
  unfold fX12_command_j107
  rw [if_pos (by decide)]
  unfold fX12_command_j123
  rw [a2]
  simp only [Option.bind_some]
  rw [if_neg (by decide), if_neg (by decide)]
  exact e1
/-- 'wait' with a blank behind it -/
theorem r_kind9 {M : Mem} {s : Nat → Int32} {len : Nat} {Z : PZ} (h : ST M s len Z) (hl : Z.2.1 = false → Z.2.2.length = 0) {c : Nat} (hc : c < 13) (h18 : M 0 18 = nI c) (hz : Z.2.1 = false) (hx : Z.1 < len) (hb : s Z.1 = 32) : ∃ M', ((fX12_expect M 32).bind fun z49 => fX12_command_j33 (nI 8) z49) = some M' ∧ RSP M M' s len c 8 (pzl s len (rsK 9) Z) := by
  obtain ⟨M1, a1, s1, f1⟩ := n_exp h (c := 32) (by decide) (by decide)
  have l1 := ln_lit (s := s) (len := len) (c := 32) hl (by decide)
  obtain ⟨v2, K2, a2, s2, f2⟩ := n_num s1 (m := 2) (c := 78) (j := 0) (by decide) l1
  obtain ⟨M', e1, e2, _⟩ := rsp_last (f1.trans f2) s2 hc h18 8 0
  refine ⟨M', ?_, e2⟩
  have epz : (pz s len Z 32).1 = Z.1 + 1 := by
    obtain ⟨x, wr, vs⟩ := Z
    have hz : wr = false := hz
    subst hz
    rw [pz_lit (show lit 32 by unfold lit; decide), if_pos ⟨hx, hb⟩]
  have e17 : M1 0 17 = nI (Z.1 + 1) := by rw [s1.2.2.2.1, epz]
  have h60 := h.1
  have ecl : (nI Z.1).toNatClampNeg = Z.1 := nI_clamp (by omega)
  rw [a1]
  simp only [Option.bind_some]
  unfold fX12_command_j33
  rw [if_pos (by decide), e17, if_neg (nI_ne0 (by omega) (by omega)), nI_pred, gd_t (inb_nI (by omega) (by decide)), ecl, if_pos (by rw [s1.2.2.1 _ hx]; exact hb)]
  unfold fX12_command_j67
  rw [if_neg (by decide), if_neg (by decide)]
  unfold fX12_command_j85
  rw [if_neg (by decide), if_pos (by decide)]
  unfold fX12_command_j107
  rw [if_neg (by decide), if_pos (by decide), if_pos (by decide)]
  unfold fX12_command_j123
  rw [a2]
  simp only [Option.bind_some]
  rw [if_neg (by decide), if_neg (by decide)]
  exact e1
/-- 'wait' alone -/
theorem r_kind8 {M : Mem} {s : Nat → Int32} {len : Nat} {Z : PZ} (h : ST M s len Z) {c : Nat} (hc : c < 13) (h18 : M 0 18 = nI c) (h0 : 0 < Z.1) (hb : s (Z.1 - 1) ≠ 32) : ∃ M', fX12_command_j33 (nI 8) M = some M' ∧ RSP M M' s len c 8 Z ∧ (Z.2.1 = false → M' 8 (6 * c) = M 9 0) := by
  obtain ⟨M', e1, e2, e3⟩ := rsp_last (FR.rfl' M) h hc h18 8 1
  refine ⟨M', ?_, e2, e3⟩
  have h60 := h.1
  have hle := h.2.2.2.2.1
  have e17 : M 0 17 = nI Z.1 := h.2.2.2.1
  obtain ⟨y, hy⟩ : ∃ y, Z.1 = y + 1 := ⟨Z.1 - 1, by omega⟩
  have ecl : (nI y).toNatClampNeg = y := nI_clamp (by omega)
  have hb' : s y ≠ 32 := by rw [hy] at hb; exact hb
  unfold fX12_command_j33
  rw [if_pos (by decide), e17, hy, if_neg (nI_ne0 (by omega) (by omega)), nI_pred, gd_t (inb_nI (by omega) (by decide)), ecl, if_neg (by rw [h.2.2.1 y (by omega)]; exact hb')]
  unfold fX12_command_j67
  rw [if_neg (by decide), if_neg (by decide)]
  unfold fX12_command_j85
  rw [if_neg (by decide), if_pos (by decide)]
  unfold fX12_command_j107
  rw [if_neg (by decide), if_pos (by decide), if_neg (by decide), if_neg (by decide), if_neg (by decide)]
  exact e1
