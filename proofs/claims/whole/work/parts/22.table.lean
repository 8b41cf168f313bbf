/-! a table: sizes of the piles, what lies where, boxes (9: none), cell and place of each thing, what is in a box (9: nothing) -/
abbrev tT : Type := (Nat → Nat) × (Nat → Nat → Nat) × (Nat → Nat) × (Nat → Nat) × (Nat → Nat) × (Nat → Nat)
abbrev zS (T : tT) : Nat → Nat := T.1
abbrev zA (T : tT) : Nat → Nat → Nat := T.2.1
abbrev zB (T : tT) : Nat → Nat := T.2.2.1
abbrev zC (T : tT) : Nat → Nat := T.2.2.2.1
abbrev zI (T : tT) : Nat → Nat := T.2.2.2.2.1
abbrev zN (T : tT) : Nat → Nat := T.2.2.2.2.2
def wfT (so : Nat → Nat) (n : Nat) (T : tT) : Prop :=
  (∀ c i, c < 8 → i < zS T c → zA T c i < n ∧ zB T (zA T c i) = 9 ∧ zC T (zA T c i) = c ∧ zI T (zA T c i) = i) ∧
  (∀ k, k < n → zB T k = 9 → zC T k < 8 ∧ zI T k < zS T (zC T k) ∧ zA T (zC T k) (zI T k) = k) ∧
  (∀ k, k < n → zB T k ≠ 9 → zB T k < n ∧ zB T (zB T k) = 9 ∧ so (zB T k) = 2 ∧ so k ≠ 2 ∧ zN T (zB T k) = k) ∧
  (∀ b, b < n → zN T b ≠ 9 → zN T b < n ∧ zB T (zN T b) = b) ∧
  ∀ k, n ≤ k → zB T k = 9 ∧ zN T k = 9
/-- where a thing is: a cell, or 8 and the number of a box -/
def spT (T : tT) (k : Nat) : Nat := if zB T k = 9 then zC T k else 8 + zB T k
/-- what is right below (9: nothing) -/
def blT (T : tT) (k : Nat) : Nat := if zB T k = 9 ∧ 0 < zI T k then zA T (zC T k) (zI T k - 1) else 9
def tpT (T : tT) (c : Nat) : Nat := if zS T c = 0 then 9 else zA T c (zS T c - 1)
def o9 (x : Nat) : Int32 := if x = 9 then nONE else nI x
def clT' (T : tT) (k : Nat) : Prop := zB T k = 9 ∧ zI T k + 1 = zS T (zC T k)
def ccT (T : tT) (k : Nat) : Nat := if zB T k = 9 then zC T k else zC T (zB T k)
def frT (T : tT) (k : Nat) : Prop := clT' T (if zB T k = 9 then k else zB T k)
/-- the class's rows of a table -/
def tabC (μ : sM) (t n : Nat) (T : tT) : Prop :=
  (∀ k, k < n → μ.1 9 t k = nI (spT T k) ∧ μ.1 10 t k = o9 (blT T k)) ∧ (∀ k, n ≤ k → k < 6 → μ.1 9 t k = nONE ∧ μ.1 10 t k = nONE) ∧
  (∀ b, b < 6 → μ.1 11 t b = o9 (zN T b)) ∧ ∀ c, c < 8 → μ.1 12 t c = o9 (tpT T c)
/-- the reference's row of a table -/
def tabR (μ : sM) (r : Nat) (T : tT) : Prop :=
  (∀ c, c < 8 → μ.1 42 0 (62 * r + 7 * c) = nI (zS T c)) ∧ (∀ c i, c < 8 → i < 6 → μ.1 42 0 (62 * r + 7 * c + 1 + i) = if i < zS T c then nI (zA T c i) else -1) ∧
  ∀ k, k < 6 → μ.1 42 0 (62 * r + 56 + k) = if zB T k = 9 then -1 else nI (zB T k)
section TW
variable {so : Nat → Nat} {n : Nat} {T : tT}
theorem holes : ∀ (m n : Nat) (f : Nat → Nat), (∀ i, i < m → f i < n) → (∀ i j, i < m → j < m → f i = f j → i = j) → m ≤ n
  | 0, n, _, _, _ => Nat.zero_le n
  | m + 1, 0, f, h, _ => absurd (h 0 (by omega)) (Nat.not_lt_zero _)
  | m + 1, n + 1, f, h, hj => by
    refine Nat.succ_le_succ (holes m n (fun i => if f i = n then f m else f i) (fun i hi => ?_) (fun i j hi hj' e => ?_))
    · show (if f i = n then f m else f i) < n
      have h1 := h i (by omega)
      have h2 := h m (by omega)
      split
      · rename_i e
        have : f m ≠ n := fun e2 => absurd (hj i m (by omega) (by omega) (by omega)) (by omega)
        omega
      · omega
    · have e : (if f i = n then f m else f i) = if f j = n then f m else f j := e
      split at e <;> split at e
      · exact hj i j (by omega) (by omega) (by omega)
      · exact absurd (hj m j (by omega) (by omega) e) (by omega)
      · exact absurd (hj i m (by omega) (by omega) e) (by omega)
      · exact hj i j (by omega) (by omega) e
theorem wf_size (h : wfT so n T) {c : Nat} (hc : c < 8) : zS T c ≤ n := by
  refine holes _ _ (zA T c) (fun i hi => (h.1 c i hc hi).1) (fun i j hi hj e => ?_)
  have h1 := (h.1 c i hc hi).2.2.2
  have h2 := (h.1 c j hc hj).2.2.2
  rw [e] at h1
  omega
theorem wf_cell (h : wfT so n T) {k : Nat} (hk : k < n) (hb : zB T k = 9) : zC T k < 8 ∧ zI T k < n := by
  have h1 := h.2.1 k hk hb
  have h2 := wf_size h h1.1
  exact ⟨h1.1, by omega⟩
theorem wf_spot (h : wfT so n T) (hn : n ≤ 6) {k : Nat} (hk : k < n) : spT T k < 14 ∧ (8 ≤ spT T k ↔ zB T k ≠ 9) ∧ (zB T k ≠ 9 → spT T k = 8 + zB T k ∧ zB T k < n) ∧ (zB T k = 9 → spT T k = zC T k ∧ zC T k < 8) := by
  unfold spT
  by_cases e : zB T k = 9
  · have := (wf_cell h hk e).1
    rw [if_pos e]
    exact ⟨by omega, ⟨fun h => by omega, fun h => absurd e h⟩, fun h => absurd e h, fun _ => ⟨rfl, this⟩⟩
  · have := (h.2.2.1 k hk e).1
    rw [if_neg e]
    exact ⟨by omega, ⟨fun _ => e, fun _ => by omega⟩, fun _ => ⟨rfl, this⟩, fun h => absurd h e⟩
theorem wf_below (h : wfT so n T) {k : Nat} (hk : k < n) : blT T k = 9 ∨ blT T k < n := by
  unfold blT
  split
  · rename_i e
    have h1 := h.2.1 k hk e.1
    exact Or.inr (h.1 _ _ h1.1 (by omega)).1
  · exact Or.inl rfl
theorem wf_top (h : wfT so n T) {c : Nat} (hc : c < 8) : tpT T c = 9 ∨ tpT T c < n := by
  unfold tpT
  split
  · exact Or.inl rfl
  · exact Or.inr (h.1 c _ hc (by omega)).1
/-- a thing is the uppermost of its pile just if it is its top -/
theorem wf_clear (h : wfT so n T) (hn : n ≤ 6) {k : Nat} (hk : k < n) (hb : zB T k = 9) : tpT T (zC T k) = k ↔ zI T k + 1 = zS T (zC T k) := by
  have h1 := h.2.1 k hk hb
  unfold tpT
  rw [if_neg (by omega)]
  constructor
  · intro e
    have h2 := (h.1 (zC T k) (zS T (zC T k) - 1) h1.1 (by omega)).2.2.2
    rw [e] at h2
    omega
  · intro e
    rw [← e]
    exact h1.2.2
theorem o9_9 : o9 9 = nONE := rfl
theorem o9_n {x : Nat} (h : x ≠ 9) : o9 x = nI x := if_neg h
theorem o9_none {x : Nat} (h : x < 100) : o9 x = nONE ↔ x = 9 := by
  constructor
  · intro e
    by_cases hx : x = 9
    · exact hx
    · rw [o9_n hx] at e
      exact absurd e (by simp (disch := first | omega | (simp (disch := omega) only [nI_toInt, Int32.reduceToInt, i_sub, i_add, i_mul]; omega)) only [iNONE, i_lt, i_le, i_eq, i_in, nI_toInt, Int32.reduceToInt, i_sub, i_add, i_mul]; omega)
  · rintro rfl; rfl
theorem o9_inj {x y : Nat} (hx : x < 100) (hy : y < 100) : o9 x = o9 y ↔ x = y := by
  constructor
  · intro e
    by_cases h1 : y = 9
    · subst h1; exact (o9_none hx).mp e
    · by_cases h2 : x = 9
      · subst h2; exact ((o9_none hy).mp e.symm).symm
      · rw [o9_n h1, o9_n h2] at e
        exact (nI_eq (by omega) (by omega)).mp e
  · rintro rfl; rfl
end TW
