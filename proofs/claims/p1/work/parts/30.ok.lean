/-! ===== partial functions: that they are defined, and what of their answers ===== -/
def ok {α : Type} (x : Option α) (P : α → Prop) : Prop := ∃ r, x = some r ∧ P r
theorem ok_some {α : Type} {a : α} {P : α → Prop} : ok (some a) P ↔ P a := ⟨fun ⟨r, h, hp⟩ => by cases h; exact hp, fun h => ⟨a, rfl, h⟩⟩
theorem ok_bind {α β : Type} {x : Option α} {f : α → Option β} {P : β → Prop} : ok (x.bind f) P ↔ ok x (fun a => ok (f a) P) := by
  constructor
  · rintro ⟨r, h, hp⟩
    obtain ⟨a, h1, h2⟩ := br_some h
    exact ⟨a, h1, r, h2, hp⟩
  · rintro ⟨a, h1, r, h2, hp⟩
    exact ⟨r, by rw [h1]; exact h2, hp⟩
theorem ok_gd {α : Type} {c : Bool} {x : Option α} {P : α → Prop} : ok (gd c x) P ↔ c = true ∧ ok x P := by
  constructor
  · rintro ⟨r, h, hp⟩
    obtain ⟨h1, h2⟩ := gd_some h
    exact ⟨h1, r, h2, hp⟩
  · rintro ⟨h1, r, h2, hp⟩
    exact ⟨r, by rw [gd_t h1]; exact h2, hp⟩
theorem ok_ite {α : Type} {c : Prop} [Decidable c] {x y : Option α} {P : α → Prop} : ok (if c then x else y) P ↔ (c → ok x P) ∧ (¬ c → ok y P) := by
  by_cases h : c
  · rw [if_pos h]
    exact ⟨fun q => ⟨fun _ => q, fun z => absurd h z⟩, fun q => q.1 h⟩
  · rw [if_neg h]
    exact ⟨fun q => ⟨fun z => absurd z h, fun _ => q⟩, fun q => q.2 h⟩
theorem ok_none {α : Type} {P : α → Prop} : ok (none : Option α) P ↔ False := ⟨fun ⟨_, h, _⟩ => (nomatch h), False.elim⟩
theorem ok_mono {α : Type} {x : Option α} {P Q : α → Prop} (h : ok x P) (hq : ∀ r, P r → Q r) : ok x Q := by
  obtain ⟨r, h1, h2⟩ := h
  exact ⟨r, h1, hq r h2⟩
theorem ok_eq {α : Type} {x : Option α} {r : α} : ok x (fun a => a = r) ↔ x = some r := ⟨fun ⟨a, h1, h2⟩ => by rw [h1, h2], fun h => ⟨r, h, rfl⟩⟩
theorem ok_of {α : Type} {x : Option α} {r : α} {P : α → Prop} (h : x = some r) (hp : P r) : ok x P := ⟨r, h, hp⟩
/-- a loop: an invariant, a number that goes down -/
theorem ok_lp {S R : Type} {f : S → Option (S ⊕ R)} (I : S → Prop) (μ : S → Nat) {P : R → Prop} (h : ∀ s, I s → ok (f s) (fun y => match y with | .inl s' => I s' ∧ μ s' < μ s | .inr r => P r)) : ∀ s, I s → ok (lp f s) P := by
  have key : ∀ (n : Nat) (s : S), μ s < n → I s → ok (lp f s) P := by
    intro n
    induction n with
    | zero => intro s hn; omega
    | succ n ih =>
      intro s hn hs
      obtain ⟨y, h1, h2⟩ := h s hs
      cases y with
      | inl s' =>
        rw [lp_inl h1]
        exact ih s' (by omega) h2.1
      | inr r => exact ⟨r, lp_inr h1, h2⟩
  intro s hs
  exact key (μ s + 1) s (Nat.lt_succ_self _) hs
theorem sx_inl {V X : Type} {e : Nat} {f : Nat → X} {g : V → X} : sx (.inl e) f g = f e := rfl
theorem sx_inr {V X : Type} {v : V} {f : Nat → X} {g : V → X} : sx (.inr v) f g = g v := rfl
/-- a loop by a step that is known -/
theorem lp_step {S R : Type} {f : S → Option (S ⊕ R)} {s : S} {y : S ⊕ R} (h : f s = some y) : lp f s = (match y with | .inl s' => lp f s' | .inr r => some r) := by
  cases y with
  | inl s' => exact lp_inl h
  | inr r => exact lp_inr h
/-- a loop that counts from 0 to n -/
theorem lp_up {S R : Type} {f : S → Option (S ⊕ R)} {r : R} (st : Nat → S) : ∀ (n : Nat), (∀ t, t < n → f (st t) = some (.inl (st (t + 1)))) → f (st n) = some (.inr r) → lp f (st 0) = some r := by
  intro n
  induction n generalizing st with
  | zero => intro _ h; exact lp_inr h
  | succ n ih =>
    intro h1 h2
    rw [lp_inl (h1 0 (Nat.succ_pos n))]
    exact ih (fun t => st (t + 1)) (fun t ht => h1 (t + 1) (Nat.succ_lt_succ ht)) h2
theorem up2_at (N : Mem) (k f : Nat) (v : Int32) (k' f' : Nat) : up2 N k f v k' f' = if k' = k ∧ f' = f then v else N k' f' := by
  by_cases h : k' = k
  · subst h
    rw [up2_row]
    by_cases h2 : f' = f
    · rw [if_pos ⟨rfl, h2⟩]; exact if_pos h2
    · rw [if_neg (fun z => h2 z.2)]; exact if_neg h2
  · rw [up2_ne N f v h, if_neg (fun z => h z.1)]
theorem inb_nI {k n : Nat} (h : k < n) (hn : n < 2 ^ 31) : inb (nI k) n = true := decide_eq_true (nI_in h hn)
/-! ===== the reference's rows copied ===== -/
def cpy (M : Mem) (k1 s k3 d t : Nat) : Mem := fun k f => if k = k3 ∧ d ≤ f ∧ f < d + t then M k1 (s + (f - d)) else M k f
theorem cpy_0 (M : Mem) (k1 s k3 d : Nat) : cpy M k1 s k3 d 0 = M := by
  funext k f
  unfold cpy
  rw [if_neg (by omega)]
theorem copy_spec (M : Mem) {k1 n1 s k3 n3 d : Nat} (h1 : arrok k1 n1 = true) (h3 : arrok k3 n3 = true) (hs : s + 160 ≤ n1) (hd : d + 160 ≤ n3) (b1 : n1 < 2 ^ 31) (b3 : n3 < 2 ^ 31) (hap : k1 ≠ k3 ∨ d ≤ s) : fX12_copy M k1 n1 (nI s) k3 n3 (nI d) = some (cpy M k1 s k3 d 160) := by
  unfold fX12_copy
  rw [gd_t h1, gd_t h3]
  have e0 : ((0 : Int32), M) = (fun t => (nI t, cpy M k1 s k3 d t)) 0 := by
    show (_, _) = (_, _)
    rw [cpy_0]
    rfl
  rw [e0]
  refine lp_up (fun t => (nI t, cpy M k1 s k3 d t)) 160 ?_ ?_
  · intro t ht
    unfold fX12_copy_s
    show (if (160 : Int32) ≤ nI t then _ else _) = _
    rw [if_neg (show ¬ (160 : Int32) ≤ nI t from nI_ge (a := t) (b := 160) ht (by decide))]
    show gd (inb (nI s + nI t) n1) (gd (inb (nI d + nI t) n3) _) = _
    rw [nI_add, nI_add, gd_t (inb_nI (by omega) b1), gd_t (inb_nI (by omega) b3)]
    show some (Sum.inl (nI t + 1, up2 (cpy M k1 s k3 d t) k3 (nI (d + t)).toNatClampNeg (cpy M k1 s k3 d t k1 (nI (s + t)).toNatClampNeg))) = _
    rw [nI_clamp (by omega), nI_clamp (by omega), nI_1]
    congr 3
    funext k f
    rw [up2_at]
    have e1 : cpy M k1 s k3 d t k1 (s + t) = M k1 (s + t) := by
      unfold cpy
      rw [if_neg (by omega)]
    rw [e1]
    unfold cpy
    by_cases e : k = k3 ∧ f = d + t
    · rw [if_pos e, if_pos (by omega)]
      congr 1
      omega
    · rw [if_neg e]
      by_cases e2 : k = k3 ∧ d ≤ f ∧ f < d + t
      · rw [if_pos e2, if_pos (by omega)]
      · rw [if_neg e2, if_neg (by omega)]
  · unfold fX12_copy_s
    show (if (160 : Int32) ≤ nI 160 then _ else _) = _
    rw [if_pos (by decide)]
