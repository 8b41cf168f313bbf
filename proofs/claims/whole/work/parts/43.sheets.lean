/-! numbers in range, as the class and as the reference ask for it; sheets -/
theorem nI_ofB {x : Int32} {b : Nat} (h0 : 0 ≤ x.toInt) (h1 : x.toInt < b) : ∃ a, a < b ∧ x = nI a := by
  have h2 := i_rng x
  refine ⟨x.toInt.toNat, by omega, ?_⟩
  rw [i_eq, nI_toInt (by omega)]
  omega
theorem j_lt {x y : Int64} : x < y ↔ x.toInt < y.toInt := Int64.lt_iff_toInt_lt
theorem j_eq {x y : Int64} : x = y ↔ x.toInt = y.toInt := Int64.toInt_inj.symm
theorem j_of {x : Int32} : x.toInt64.toInt = x.toInt := Int32.toInt_toInt64 x
theorem j_add {x y : Int32} : (x.toInt64 + y.toInt64).toInt = x.toInt + y.toInt := by
  have h1 := i_rng x
  have h2 := i_rng y
  rw [Int64.toInt_add, j_of, j_of]; exact Int.bmod_eq_of_le (by omega) (by omega)
theorem cmp_lt {x y : Int64} : lg_cmp x y < 0 ↔ x.toInt < y.toInt := by
  unfold lg_cmp
  by_cases h : x > y
  · rw [if_pos h]
    have h' := j_lt.mp h
    exact ⟨fun z => absurd z (by decide), fun z => by omega⟩
  · rw [if_neg h]
    have h' : ¬ y.toInt < x.toInt := fun z => h (j_lt.mpr z)
    by_cases e : x = y
    · rw [if_pos e]
      have e' := j_eq.mp e
      exact ⟨fun z => absurd z (by decide), fun z => by omega⟩
    · rw [if_neg e]
      have e' : ¬ x.toInt = y.toInt := fun z => e (j_eq.mpr z)
      exact ⟨fun _ => by omega, fun _ => by decide⟩
theorem cmp_gt {x y : Int64} : 0 < lg_cmp x y ↔ y.toInt < x.toInt := by
  unfold lg_cmp
  by_cases h : x > y
  · rw [if_pos h]
    have h' := j_lt.mp h
    exact ⟨fun z => h', fun z => by decide⟩
  · rw [if_neg h]
    have h' : ¬ y.toInt < x.toInt := fun z => h (j_lt.mpr z)
    by_cases e : x = y
    · rw [if_pos e]
      exact ⟨fun z => absurd z (by decide), fun z => by omega⟩
    · rw [if_neg e]
      exact ⟨fun z => absurd z (by decide), fun z => by omega⟩
theorem cmp_le {x y : Int64} : lg_cmp x y ≤ 0 ↔ x.toInt ≤ y.toInt := by
  have h := cmp_gt (x := x) (y := y)
  have e : lg_cmp x y ≤ 0 ↔ ¬ 0 < lg_cmp x y := by simp only [i_lt, i_le]; omega
  rw [e, h]; omega
theorem cmp_eq {x y : Int64} : lg_cmp x y = 0 ↔ x = y := by
  unfold lg_cmp
  by_cases h : x > y
  · rw [if_pos h]
    have h' := j_lt.mp h
    exact ⟨fun z => absurd z (by decide), fun z => by rw [z] at h'; omega⟩
  · rw [if_neg h]
    by_cases e : x = y
    · rw [if_pos e]; exact ⟨fun _ => e, fun _ => rfl⟩
    · rw [if_neg e]; exact ⟨fun z => absurd z (by decide), fun z => absurd z e⟩
/-- the class's sheets: lanes (9: missing), sizes, items -/
def shC (μ : sM) (la mn : Nat → Nat) (it : Nat → Int32) : Prop := (∀ s, s < 8 → μ.1 2 0 s = m9 (la s) ∧ (la s ≠ 9 → μ.1 3 0 s = nI (mn s))) ∧ ∀ k, k < 320 → μ.1 4 0 k = it k
def shR (μ : sM) (la mn : Nat → Nat) (it : Nat → Int32) : Prop := (∀ s, s < 8 → μ.1 51 0 s = m9 (la s) ∧ (la s ≠ 9 → μ.1 52 0 s = nI (mn s))) ∧ ∀ k, k < 320 → μ.1 53 0 k = it k
def shW (la mn : Nat → Nat) : Prop := ∀ s, s < 8 → (la s = 9 ∨ la s < 3) ∧ mn s ≤ 40
section SH
variable {d n k c s a b r u o i rel : Nat} {μ : sM} {Q : sQ} {la mn : Nat → Nat} {it : Nat → Int32} {x y z w v : Int32}
theorem c11_within (hy : y = nI b) (hb : b < 100000) (h1 : ∀ a, a < b → x = nI a → Q 1 0 (0, 0) μ) (h2 : x.toInt < 0 ∨ (b : Int) ≤ x.toInt → Q 0 0 (0, 0) μ) : Call (d + 1) n11_isWithin [sI x, sI y] μ Q := by
  subst hy
  by_cases e : 0 ≤ x.toInt
  · by_cases e2 : x.toInt < b
    · obtain ⟨a, ha, rfl⟩ := nI_ofB e e2
      exact c11_isWithin rfl rfl (by omega) hb (fun _ => h1 a ha rfl) (fun z => absurd ha (by omega))
    · refine call_go (cd := k11_isWithin) 20 rfl rfl ?_
      refine brF (by simp (disch := first | omega | (simp (disch := omega) only [nI_toInt, Int32.reduceToInt, i_sub, i_add, i_mul]; omega)) only [iNONE, i_lt, i_le, i_eq, i_in, nI_toInt, Int32.reduceToInt, i_sub, i_add, i_mul]; omega) ?_
      refine brT (by simp (disch := first | omega | (simp (disch := omega) only [nI_toInt, Int32.reduceToInt, i_sub, i_add, i_mul]; omega)) only [iNONE, i_lt, i_le, i_eq, i_in, nI_toInt, Int32.reduceToInt, i_sub, i_add, i_mul]; omega) ?_
      exact ⟨Or.inl rfl, h2 (Or.inr (by omega))⟩
  · refine call_go (cd := k11_isWithin) 20 rfl rfl ?_
    refine brT (by simp (disch := first | omega | (simp (disch := omega) only [nI_toInt, Int32.reduceToInt, i_sub, i_add, i_mul]; omega)) only [iNONE, i_lt, i_le, i_eq, i_in, nI_toInt, Int32.reduceToInt, i_sub, i_add, i_mul]; omega) ?_
    exact ⟨Or.inl rfl, h2 (Or.inl (by omega))⟩
theorem r12_in {p q t : Int64} (h1 : q.toInt ≤ p.toInt ∧ p.toInt ≤ t.toInt → Q 1 0 (0, 0) μ) (h2 : ¬ (q.toInt ≤ p.toInt ∧ p.toInt ≤ t.toInt) → Q 0 0 (0, 0) μ) : Call (d + 1) n12_in [sL p, sL q, sL t] μ Q := by
  refine call_go (cd := k12_in) 30 rfl rfl ?_
  by_cases e : p.toInt < q.toInt
  · refine brT (cmp_lt.mpr e) ?_
    exact ⟨Or.inl rfl, h2 (fun z => by omega)⟩
  · refine brF (fun z => e (cmp_lt.mp z)) ?_
    by_cases e2 : t.toInt < p.toInt
    · refine brT (cmp_gt.mpr e2) ?_
      exact ⟨Or.inl rfl, h2 (fun z => by omega)⟩
    · refine brF (fun z => e2 (cmp_gt.mp z)) ?_
      exact ⟨Or.inr rfl, h1 (by omega)⟩
theorem r12_inN {t : Int64} (ht : t.toInt + 1 = (b : Int)) (h1 : ∀ a, a < b → x = nI a → Q 1 0 (0, 0) μ) (h2 : x.toInt < 0 ∨ (b : Int) ≤ x.toInt → Q 0 0 (0, 0) μ) : Call (d + 1) n12_in [sL x.toInt64, sL 0, sL t] μ Q := by
  refine r12_in (fun e => ?_) (fun e => ?_)
  · rw [j_of, show (0 : Int64).toInt = 0 from by decide] at e
    obtain ⟨a, ha, rfl⟩ := nI_ofB (x := x) (b := b) e.1 (by omega)
    exact h1 a ha rfl
  · rw [j_of, show (0 : Int64).toInt = 0 from by decide] at e
    exact h2 (by omega)
theorem r12_isSheet (h1 : ∀ a, a < 8 → x = nI a → Q 1 0 (0, 0) μ) (h2 : x.toInt < 0 ∨ 8 ≤ x.toInt → Q 0 0 (0, 0) μ) : Call (d + 2) n12_isSheet [sI x] μ Q := by
  refine call_go (cd := k12_isSheet) 30 rfl rfl ?_
  refine r12_inN (b := 8) (by decide) (fun a ha e => ?_) (fun e => ?_)
  · exact ⟨Or.inr rfl, h1 a ha e⟩
  · exact ⟨Or.inl rfl, h2 e⟩
theorem r12_finding (h : Q (-1000010 - x) 0 (0, 0) (m_i μ 41 0 1 x)) : Call (d + 1) n12_finding [sR 41 0, sI x] μ Q := by
  refine call_go (cd := k12_finding) 30 rfl rfl ?_
  exact h
theorem c11_found (h : Q (-1000010 - x) 0 (0, 0) (m_i μ 0 0 11 x)) : Call (d + 1) n11_found [sR 0 0, sI x] μ Q := by
  refine call_go (cd := k11_found) 30 rfl rfl ?_
  exact h
theorem c11_foundNothing (h : Q x 0 (0, 0) (m_i μ 0 0 11 0)) : Call (d + 1) n11_foundNothing [sR 0 0, sI x] μ Q := by
  refine call_go (cd := k11_foundNothing) 30 rfl rfl ?_
  exact h
theorem m9_1 (h : la s = 9 ∨ la s < 3) : m9 (la s) = -1 ↔ la s = 9 := by
  unfold m9
  constructor
  · intro e
    split at e
    · assumption
    · exact absurd e (by simp (disch := first | omega | (simp (disch := omega) only [nI_toInt, Int32.reduceToInt, i_sub, i_add, i_mul]; omega)) only [iNONE, i_lt, i_le, i_eq, i_in, nI_toInt, Int32.reduceToInt, i_sub, i_add, i_mul]; omega)
  · intro e; rw [if_pos e]
theorem m9_lt (h : la s = 9 ∨ la s < 3) : m9 (la s) < 0 ↔ la s = 9 := by
  unfold m9
  constructor
  · intro e
    split at e
    · assumption
    · exact absurd e (by simp (disch := first | omega | (simp (disch := omega) only [nI_toInt, Int32.reduceToInt, i_sub, i_add, i_mul]; omega)) only [iNONE, i_lt, i_le, i_eq, i_in, nI_toInt, Int32.reduceToInt, i_sub, i_add, i_mul]; omega)
  · intro e; rw [if_pos e]; decide
theorem c6_laneOf (hx : x = nI s) (hs : s < 8) (hC : shC μ la mn it) (h : Q (m9 (la s)) 0 (0, 0) μ) : Call (d + 2) n6_laneOf [sR 1 0, sI x] μ Q := by
  subst hx
  refine call_go (cd := k6_laneOf) 30 rfl rfl ?_
  refine c11_isWithin (b := 8) rfl rfl (by omega) (by omega) (fun _ => ?_) (fun z => by omega)
  refine brF (by decide) ?_
  refine And.intro (by simp (disch := first | omega | (simp (disch := omega) only [nI_toInt, Int32.reduceToInt, i_sub, i_add, i_mul]; omega)) only [iNONE, i_lt, i_le, i_eq, i_in, nI_toInt, Int32.reduceToInt, i_sub, i_add, i_mul]; omega) ?_
  rw [nI_clamp (by omega), (hC.1 s hs).1]
  exact h
theorem c6_isMissing (hx : x = nI s) (hs : s < 8) (hW : shW la mn) (hC : shC μ la mn it) (h1 : la s = 9 → Q 1 0 (0, 0) μ) (h2 : la s ≠ 9 → Q 0 0 (0, 0) μ) : Call (d + 3) n6_isMissing [sR 1 0, sI x] μ Q := by
  subst hx
  refine call_go (cd := k6_isMissing) 30 rfl rfl ?_
  refine c6_laneOf rfl hs hC ?_
  by_cases e : la s = 9
  · refine brnT ((m9_1 (hW s hs).1).mpr e) ?_
    exact ⟨Or.inr rfl, h1 e⟩
  · refine brnF (fun z => e ((m9_1 (hW s hs).1).mp z)) ?_
    exact ⟨Or.inl rfl, h2 e⟩
theorem c6_spans (hx : x = nI s) (hs : s < 8) (hW : shW la mn) (hC : shC μ la mn it) (hp : la s ≠ 9) (h1 : 0 ≤ y.toInt ∧ 0 ≤ z.toInt ∧ y.toInt + z.toInt ≤ mn s → Q 1 0 (0, 0) μ) (h2 : ¬ (0 ≤ y.toInt ∧ 0 ≤ z.toInt ∧ y.toInt + z.toInt ≤ mn s) → Q 0 0 (0, 0) μ) : Call (d + 2) n6_spans [sR 1 0, sI x, sI y, sI z] μ Q := by
  subst hx
  have hm := (hW s hs).2
  have r1 := i_rng y
  have r2 := i_rng z
  refine call_go (cd := k6_spans) 40 rfl rfl ?_
  refine c11_isWithin (b := 8) rfl rfl (by omega) (by omega) (fun _ => ?_) (fun z => by omega)
  refine brF (by decide) ?_
  by_cases e1 : 0 ≤ y.toInt
  · refine brF (by simp (disch := first | omega | (simp (disch := omega) only [nI_toInt, Int32.reduceToInt, i_sub, i_add, i_mul]; omega)) only [iNONE, i_lt, i_le, i_eq, i_in, nI_toInt, Int32.reduceToInt, i_sub, i_add, i_mul]; omega) ?_
    by_cases e2 : 0 ≤ z.toInt
    · refine brF (by simp (disch := first | omega | (simp (disch := omega) only [nI_toInt, Int32.reduceToInt, i_sub, i_add, i_mul]; omega)) only [iNONE, i_lt, i_le, i_eq, i_in, nI_toInt, Int32.reduceToInt, i_sub, i_add, i_mul]; omega) ?_
      refine And.intro (by simp (disch := first | omega | (simp (disch := omega) only [nI_toInt, Int32.reduceToInt, i_sub, i_add, i_mul]; omega)) only [iNONE, i_lt, i_le, i_eq, i_in, nI_toInt, Int32.reduceToInt, i_sub, i_add, i_mul]; omega) ?_
      rw [nI_clamp (by omega), (hC.1 s hs).2 hp]
      by_cases e3 : y.toInt + z.toInt ≤ mn s
      · refine brF (by simp (disch := first | omega | (simp (disch := omega) only [nI_toInt, Int32.reduceToInt, i_sub, i_add, i_mul]; omega)) only [iNONE, i_lt, i_le, i_eq, i_in, nI_toInt, Int32.reduceToInt, i_sub, i_add, i_mul]; omega) ?_
        exact ⟨Or.inr rfl, h1 ⟨e1, e2, e3⟩⟩
      · refine brT (by simp (disch := first | omega | (simp (disch := omega) only [nI_toInt, Int32.reduceToInt, i_sub, i_add, i_mul]; omega)) only [iNONE, i_lt, i_le, i_eq, i_in, nI_toInt, Int32.reduceToInt, i_sub, i_add, i_mul]; omega) ?_
        exact ⟨Or.inl rfl, h2 (fun z => e3 z.2.2)⟩
    · refine brT (by simp (disch := first | omega | (simp (disch := omega) only [nI_toInt, Int32.reduceToInt, i_sub, i_add, i_mul]; omega)) only [iNONE, i_lt, i_le, i_eq, i_in, nI_toInt, Int32.reduceToInt, i_sub, i_add, i_mul]; omega) ?_
      exact ⟨Or.inl rfl, h2 (fun z => e2 z.2.1)⟩
  · refine brT (by simp (disch := first | omega | (simp (disch := omega) only [nI_toInt, Int32.reduceToInt, i_sub, i_add, i_mul]; omega)) only [iNONE, i_lt, i_le, i_eq, i_in, nI_toInt, Int32.reduceToInt, i_sub, i_add, i_mul]; omega) ?_
    exact ⟨Or.inl rfl, h2 (fun z => e1 z.1)⟩
theorem nI_40 (s i : Nat) : nI s * 40 + nI i = nI (40 * s + i) := by
  show nI s * nI 40 + nI i = _
  simp only [nI_mul, nI_add]
  rw [Nat.mul_comm]
theorem nI_04 (s i : Nat) : 40 * nI s + nI i = nI (40 * s + i) := by
  show nI 40 * nI s + nI i = _
  simp only [nI_mul, nI_add]
theorem c6_read (hx : x = nI s) (hy : y = nI i) (hs : s < 8) (hW : shW la mn) (hC : shC μ la mn it) (hp : la s ≠ 9) (hi : i < mn s) (h : Q (it (40 * s + i)) 0 (0, 0) μ) : Call (d + 3) n6_read [sR 1 0, sI x, sI y] μ Q := by
  subst hx; subst hy
  have hm := (hW s hs).2
  refine call_go (cd := k6_read) 40 rfl rfl ?_
  refine c6_spans rfl hs hW hC hp (fun _ => ?_) (fun z => absurd ?_ z)
  · refine brF (by decide) ?_
    (refine And.intro (by rw [nI_40]; exact vp_in_nI (by omega) (by decide)) ?_; rw [nI_40, nI_clamp (by omega)])
    rw [hC.2 _ (by omega)]
    exact h
  · simp (disch := omega) only [nI_toInt, Int32.reduceToInt]; omega
/-- a row of forty cleared, up to m -/
def clR (μ : sM) (a s m : Nat) : sM := (fun b i k => if b = a ∧ i = 0 ∧ 40 * s ≤ k ∧ k < 40 * s + m then 0 else μ.1 b i k, μ.2)
theorem clR_0 (μ : sM) (a s : Nat) : clR μ a s 0 = μ := by
  refine Prod.ext ?_ rfl
  funext b i k
  exact if_neg (fun z => by omega)
theorem clR_s {μ : sM} {a s m : Nat} : m_i (clR μ a s m) a 0 (40 * s + m) 0 = clR μ a s (m + 1) := by
  refine Prod.ext ?_ rfl
  funext b i k
  show (if b = a ∧ i = 0 ∧ k = 40 * s + m then (0 : Int32) else (if b = a ∧ i = 0 ∧ 40 * s ≤ k ∧ k < 40 * s + m then 0 else μ.1 b i k)) = if b = a ∧ i = 0 ∧ 40 * s ≤ k ∧ k < 40 * s + (m + 1) then 0 else μ.1 b i k
  by_cases e : b = a ∧ i = 0 ∧ k = 40 * s + m
  · rw [if_pos e, if_pos ⟨e.1, e.2.1, by omega, by omega⟩]
  · rw [if_neg e]
    by_cases e2 : b = a ∧ i = 0 ∧ 40 * s ≤ k ∧ k < 40 * s + m
    · rw [if_pos e2, if_pos ⟨e2.1, e2.2.1, e2.2.2.1, by omega⟩]
    · rw [if_neg e2, if_neg (fun z => e2 ⟨z.1, z.2.1, z.2.2.1, by have : k ≠ 40 * s + m := fun q => e ⟨z.1, z.2.1, q⟩; omega⟩)]
/-- a sheet laid -/
def layC (μ : sM) (s : Nat) (y z : Int32) : sM := clR (m_i (m_i μ 2 0 s y) 3 0 s z) 4 s 40
def layR (μ : sM) (s : Nat) (y z : Int32) : sM := clR (m_i (m_i μ 51 0 s y) 52 0 s z) 53 s 40
theorem c6_lay (hx : x = nI s) (hs : s < 8) (h : Q 0 0 (0, 0) (layC μ s y z)) : Call (d + 2) n6_lay [sR 1 0, sI x, sI y, sI z] μ Q := by
  subst hx
  refine call_go (cd := k6_lay) 4 rfl rfl ?_
  refine c11_isWithin (b := 8) rfl rfl (by omega) (by omega) (fun _ => ?_) (fun z => by omega)
  refine brnF (by decide) ?_
  refine run_go 12 ?_
  refine And.intro (by simp (disch := first | omega | (simp (disch := omega) only [nI_toInt, Int32.reduceToInt, i_sub, i_add, i_mul]; omega)) only [iNONE, i_lt, i_le, i_eq, i_in, nI_toInt, Int32.reduceToInt, i_sub, i_add, i_mul]; omega) ?_
  refine And.intro (by simp (disch := first | omega | (simp (disch := omega) only [nI_toInt, Int32.reduceToInt, i_sub, i_add, i_mul]; omega)) only [iNONE, i_lt, i_le, i_eq, i_in, nI_toInt, Int32.reduceToInt, i_sub, i_add, i_mul]; omega) ?_
  rw [nI_clamp (by omega)]
  have key : Run k6_lay (Call (d + 1)) Q 27 [some (sR 1 0), some (sI (nI s)), some (sI y), some (sI z), some (sI 0)] [] (clR (m_i (m_i μ 2 0 s y) 3 0 s z) 4 s 0) := by
    refine loopF (cd := k6_lay) (d := d + 1) (Q := Q) 40 (fun _ j => [some (sR 1 0), some (sI (nI s)), some (sI y), some (sI z), some (sI j)]) (fun i => clR (m_i (m_i μ 2 0 s y) 3 0 s z) 4 s i) 27 ?_ (fun i hi kk => ?_)
    · refine run_go 20 ?_
      refine brT (by decide) ?_
      exact h
    · refine run_go 3 ?_
      refine brF (by simp (disch := first | omega | (simp (disch := omega) only [nI_toInt, Int32.reduceToInt, i_sub, i_add, i_mul]; omega)) only [iNONE, i_lt, i_le, i_eq, i_in, nI_toInt, Int32.reduceToInt, i_sub, i_add, i_mul]; omega) ?_
      refine run_go 11 ?_
      (refine And.intro (by rw [nI_40]; exact vp_in_nI (by omega) (by decide)) ?_; rw [nI_40, nI_clamp (by omega)])
      rw [clR_s]
      exact kk
  rw [clR_0] at key
  exact key
theorem c6_clear (hx : x = nI s) (hs : s < 8) (h : Q (μ.1 3 0 s) 0 (0, 0) (m_i (m_i μ 2 0 s (-1)) 3 0 s 0)) : Call (d + 2) n6_clear [sR 1 0, sI x] μ Q := by
  subst hx
  refine call_go (cd := k6_clear) 40 rfl rfl ?_
  refine c11_isWithin (b := 8) rfl rfl (by omega) (by omega) (fun _ => ?_) (fun z => by omega)
  refine brnF (by decide) ?_
  refine And.intro (by simp (disch := first | omega | (simp (disch := omega) only [nI_toInt, Int32.reduceToInt, i_sub, i_add, i_mul]; omega)) only [iNONE, i_lt, i_le, i_eq, i_in, nI_toInt, Int32.reduceToInt, i_sub, i_add, i_mul]; omega) ?_
  refine And.intro (by simp (disch := first | omega | (simp (disch := omega) only [nI_toInt, Int32.reduceToInt, i_sub, i_add, i_mul]; omega)) only [iNONE, i_lt, i_le, i_eq, i_in, nI_toInt, Int32.reduceToInt, i_sub, i_add, i_mul]; omega) ?_
  refine And.intro (by simp (disch := first | omega | (simp (disch := omega) only [nI_toInt, Int32.reduceToInt, i_sub, i_add, i_mul]; omega)) only [iNONE, i_lt, i_le, i_eq, i_in, nI_toInt, Int32.reduceToInt, i_sub, i_add, i_mul]; omega) ?_
  rw [nI_clamp (by omega)]
  exact h
def nrT (l : Nat) (v : Int32) : Int32 := if l = 0 then v.toInt8.toInt32 else if l = 1 then v.toInt16.toInt32 else v
theorem c6_write (hx : x = nI s) (hy : y = nI i) (hs : s < 8) (hW : shW la mn) (hC : shC μ la mn it) (hp : la s ≠ 9) (hi : i < mn s) (h : Q (nrT (la s) v) 0 (0, 0) (m_i μ 4 0 (40 * s + i) (nrT (la s) v))) : Call (d + 3) n6_write [sR 1 0, sI x, sI y, sI v] μ Q := by
  subst hx; subst hy
  have hm := hW s hs
  unfold nrT at h
  refine call_go (cd := k6_write) 60 rfl rfl ?_
  refine c6_spans rfl hs hW hC hp (fun _ => ?_) (fun z => absurd ?_ z)
  · refine brnF (by decide) ?_
    refine And.intro (by simp (disch := first | omega | (simp (disch := omega) only [nI_toInt, Int32.reduceToInt, i_sub, i_add, i_mul]; omega)) only [iNONE, i_lt, i_le, i_eq, i_in, nI_toInt, Int32.reduceToInt, i_sub, i_add, i_mul]; omega) ?_
    rw [nI_clamp (by omega), (hC.1 s hs).1, m9_n hp]
    by_cases e1 : la s = 0
    · rw [if_pos e1] at h
      refine brnT (by simp (disch := first | omega | (simp (disch := omega) only [nI_toInt, Int32.reduceToInt, i_sub, i_add, i_mul]; omega)) only [iNONE, i_lt, i_le, i_eq, i_in, nI_toInt, Int32.reduceToInt, i_sub, i_add, i_mul]; omega) ?_
      (refine And.intro (by rw [nI_40]; exact vp_in_nI (by omega) (by decide)) ?_; rw [nI_40, nI_clamp (by omega)])
      exact h
    · rw [if_neg e1] at h
      refine brnF (by simp (disch := first | omega | (simp (disch := omega) only [nI_toInt, Int32.reduceToInt, i_sub, i_add, i_mul]; omega)) only [iNONE, i_lt, i_le, i_eq, i_in, nI_toInt, Int32.reduceToInt, i_sub, i_add, i_mul]; omega) ?_
      by_cases e2 : la s = 1
      · rw [if_pos e2] at h
        refine brnT (by simp (disch := first | omega | (simp (disch := omega) only [nI_toInt, Int32.reduceToInt, i_sub, i_add, i_mul]; omega)) only [iNONE, i_lt, i_le, i_eq, i_in, nI_toInt, Int32.reduceToInt, i_sub, i_add, i_mul]; omega) ?_
        (refine And.intro (by rw [nI_40]; exact vp_in_nI (by omega) (by decide)) ?_; rw [nI_40, nI_clamp (by omega)])
        exact h
      · rw [if_neg e2] at h
        refine brnF (by simp (disch := first | omega | (simp (disch := omega) only [nI_toInt, Int32.reduceToInt, i_sub, i_add, i_mul]; omega)) only [iNONE, i_lt, i_le, i_eq, i_in, nI_toInt, Int32.reduceToInt, i_sub, i_add, i_mul]; omega) ?_
        (refine And.intro (by rw [nI_40]; exact vp_in_nI (by omega) (by decide)) ?_; rw [nI_40, nI_clamp (by omega)])
        exact h
  · simp (disch := omega) only [nI_toInt, Int32.reduceToInt]; omega
theorem c6_carry (hx : x = nI a) (hz : z = nI b) (ha : a < 8) (hb : b < 8) (hW : shW la mn) (hC : shC μ la mn it) (hp : la a ≠ 9) (hq : la b ≠ 9) (hy : y = nI i) (hw : w = nI u) (hv : v = nI n) (h1 : i + n ≤ mn a) (h2 : u + n ≤ mn b) (h : Q 0 0 (0, 0) (m_c μ 4 0 (40 * a + i) 4 0 (40 * b + u) n)) : Call (d + 3) n6_carry [sR 1 0, sI x, sI y, sI z, sI w, sI v] μ Q := by
  subst hx; subst hy; subst hz; subst hw; subst hv
  have hm := (hW a ha).2
  have hm2 := (hW b hb).2
  refine call_go (cd := k6_carry) 60 rfl rfl ?_
  refine c6_spans rfl ha hW hC hp (fun _ => ?_) (fun z => absurd ?_ z)
  · refine brF (by decide) ?_
    refine c6_spans rfl hb hW hC hq (fun _ => ?_) (fun z => absurd ?_ z)
    · refine brF (by decide) ?_
      refine And.intro (by
        rw [nI_40, nI_40, nI_clamp (by omega), nI_clamp (by omega), nI_clamp (by omega)]
        exact ⟨(by simp (disch := first | omega | (simp (disch := omega) only [nI_toInt, Int32.reduceToInt, i_sub, i_add, i_mul]; omega)) only [iNONE, i_lt, i_le, i_eq, i_in, nI_toInt, Int32.reduceToInt, i_sub, i_add, i_mul]; omega), (by simp (disch := first | omega | (simp (disch := omega) only [nI_toInt, Int32.reduceToInt, i_sub, i_add, i_mul]; omega)) only [iNONE, i_lt, i_le, i_eq, i_in, nI_toInt, Int32.reduceToInt, i_sub, i_add, i_mul]; omega), (by simp (disch := first | omega | (simp (disch := omega) only [nI_toInt, Int32.reduceToInt, i_sub, i_add, i_mul]; omega)) only [iNONE, i_lt, i_le, i_eq, i_in, nI_toInt, Int32.reduceToInt, i_sub, i_add, i_mul]; omega), by omega, by omega⟩) ?_
      rw [nI_40, nI_40, nI_clamp (by omega), nI_clamp (by omega), nI_clamp (by omega)]
      exact h
    · simp (disch := omega) only [nI_toInt, Int32.reduceToInt]; omega
  · simp (disch := omega) only [nI_toInt, Int32.reduceToInt]; omega
noncomputable def prS (la : Nat → Nat) (m : Nat) : Nat := sumN (fun s => tB (la s ≠ 9)) m
theorem prS_le (m : Nat) : prS la m ≤ m := by
  have := sumN_le (f := fun s => tB (la s ≠ 9)) (b := 1) (n := m) (fun _ _ => tB_le)
  unfold prS
  omega
theorem c6_present (hW : shW la mn) (hC : shC μ la mn it) (h : Q (nI (prS la 8)) 0 (0, 0) μ) : Call (d + 4) n6_present [sR 1 0] μ Q := by
  refine call_go (cd := k6_present) 4 rfl rfl ?_
  refine loopF (cd := k6_present) (d := d + 3) (Q := Q) 8 (fun i j => [some (sR 1 0), some (sI (nI (prS la i))), some (sI j)]) (fun _ => μ) 4 ?_ (fun i hi kk => ?_)
  · refine run_go 20 ?_
    refine brT (by decide) ?_
    exact h
  · have e : prS la (i + 1) = prS la i + tB (la i ≠ 9) := rfl
    rw [e] at kk
    refine run_go 3 ?_
    refine brF (by simp (disch := first | omega | (simp (disch := omega) only [nI_toInt, Int32.reduceToInt, i_sub, i_add, i_mul]; omega)) only [iNONE, i_lt, i_le, i_eq, i_in, nI_toInt, Int32.reduceToInt, i_sub, i_add, i_mul]; omega) ?_
    refine run_go 4 ?_
    refine c6_isMissing rfl hi hW hC (fun e => ?_) (fun e => ?_)
    · rw [tB_f (fun z => z e)] at kk
      refine brnF (by decide) ?_
      refine run_go 2 ?_
      exact kk
    · rw [tB_t e, ← nI_1] at kk
      refine brnT rfl ?_
      refine run_go 3 ?_
      exact kk
end SH
