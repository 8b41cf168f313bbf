/-! two arms along their rows: the class -/
def dR0 (L R : Nat → Int32) : Nat → Nat
  | 0 => if L 0 = R 0 then 1000 else 0
  | q + 1 => if L 0 = R (q + 1) then 1000 else min (dR0 L R q + 1) 1000
def dRS (L R : Nat → Int32) (v : Nat → Nat) (p : Nat) : Nat → Nat
  | 0 => if L (p + 1) = R 0 then 1000 else min (v 0 + 1) 1000
  | q + 1 => if L (p + 1) = R (q + 1) then 1000 else min ((if L p = R (q + 1) ∧ L (p + 1) = R q then min (v (q + 1)) (dRS L R v p q) else min (min (v (q + 1)) (dRS L R v p q)) (v q)) + 1) 1000
def dT (L R : Nat → Int32) : Nat → Nat → Nat
  | 0 => dR0 L R
  | p + 1 => dRS L R (dT L R p) p
section OP
variable {d n k c s a b r u o i m p q t : Nat} {μ μ' μ'' : sM} {Q : sQ} {L R f : Nat → Int32} {la mn : Nat → Nat} {it : Nat → Int32} {x y z v : Int32} {ξ : Nat → Nat → Int32}
theorem dT_le : dT L R p q ≤ 1000 := by
  cases p with
  | zero =>
    cases q with
    | zero => show (if L 0 = R 0 then 1000 else 0) ≤ 1000; split <;> omega
    | succ q => show (if L 0 = R (q + 1) then 1000 else min (dR0 L R q + 1) 1000) ≤ 1000; split <;> omega
  | succ p =>
    cases q with
    | zero => show (if L (p + 1) = R 0 then 1000 else min (dT L R p 0 + 1) 1000) ≤ 1000; split <;> omega
    | succ q => show (if L (p + 1) = R (q + 1) then 1000 else min _ 1000) ≤ 1000; split <;> omega
theorem nI_min {a b : Nat} (ha : a < 100000) (hb : b < 100000) : (if nI b < nI a then nI b else nI a) = nI (min a b) := by
  by_cases h : b < a
  · rw [if_pos (by simp (disch := first | omega | (simp (disch := omega) only [nI_toInt, Int32.reduceToInt, i_sub, i_add, i_mul]; omega)) only [iNONE, i_lt, i_le, i_eq, i_in, nI_toInt, Int32.reduceToInt, i_sub, i_add, i_mul]; omega), show min a b = b by omega]
  · rw [if_neg (by simp (disch := first | omega | (simp (disch := omega) only [nI_toInt, Int32.reduceToInt, i_sub, i_add, i_mul]; omega)) only [iNONE, i_lt, i_le, i_eq, i_in, nI_toInt, Int32.reduceToInt, i_sub, i_add, i_mul]; omega), show min a b = a by omega]
theorem nI_12m (p q : Nat) : nI p * 12 + nI q = nI (12 * p + q) := by
  show nI p * nI 12 + nI q = _
  rw [nI_mul, nI_add, Nat.mul_comm]
theorem c2_ticksAt (hx : x = nI p) (hy : y = nI q) (hp : p < 12) (hq : q < 12) (h : Q (μ.1 38 0 (12 * p + q)) 0 (0, 0) μ) : Call (d + 2) n2_ticksAt [sR 35 0, sI x, sI y] μ Q := by
  subst hx; subst hy
  refine call_go (cd := k2_ticksAt) 40 rfl rfl ?_
  refine c11_isWithin (b := 12) rfl rfl (by omega) (by decide) (fun _ => ?_) (fun z => by omega)
  refine brF (by decide) ?_
  refine c11_isWithin (b := 12) rfl rfl (by omega) (by decide) (fun _ => ?_) (fun z => by omega)
  refine brF (by decide) ?_
  (refine And.intro (by rw [nI_12m]; exact vp_in_nI (by omega) (by decide)) ?_; rw [nI_12m, nI_clamp (by omega)])
  exact h
theorem c2_ticksAt_n (hx : x.toInt < 0 ∨ y.toInt < 0) (h : Q 1000 0 (0, 0) μ) : Call (d + 2) n2_ticksAt [sR 35 0, sI x, sI y] μ Q := by
  refine call_go (cd := k2_ticksAt) 40 rfl rfl ?_
  refine c11_within (b := 12) rfl (by decide) (fun a ha e => ?_) (fun e => ?_)
  · refine brF (by decide) ?_
    refine c11_within (b := 12) rfl (by decide) (fun b hb e2 => ?_) (fun e => ?_)
    · subst e; subst e2
      rw [nI_toInt (by omega), nI_toInt (by omega)] at hx
      omega
    · refine brT rfl ?_
      exact h
  · refine brT rfl ?_
    exact h
theorem m1_neg : (nI 0 - 1).toInt < 0 := by decide
theorem nI_m1 (p : Nat) : nI (p + 1) - 1 = nI p := by
  rw [show (1 : Int32) = nI 1 from rfl, nI_sub (by omega), Nat.add_sub_cancel]
theorem c2_ticksTo (hx : x = nI p) (hy : y = nI q) (hp : p < 12) (hq : q < 12) (hL : ∀ j, j ≤ p → μ.1 36 0 j = L j) (hR : ∀ j, j ≤ q → μ.1 37 0 j = R j) (ht : ∀ p' q', p' < p ∧ q' ≤ q ∨ p' = p ∧ q' < q → μ.1 38 0 (12 * p' + q') = nI (dT L R p' q')) (h : Q (nI (dT L R p q)) 0 (0, 0) μ) : Call (d + 3) n2_ticksTo [sR 35 0, sI x, sI y] μ Q := by
  subst hx; subst hy
  have big : nI 1000 = 1000 := rfl
  -- the last step, from what is best ahead
  have tail : ∀ (a b M : Nat) , M ≤ 1000 → Q (nI (min (M + 1) 1000)) 0 (0, 0) μ → Run k2_ticksTo (Call (d + 2)) Q 124 [some (sR 35 0), some (sI (nI a)), some (sI (nI b)), some (sI (nI M))] [] μ := by
    intro a b M hM h'
    refine run_go 10 ?_
    show Q (if 1000 < nI M + 1 then 1000 else nI M + 1) 0 (0, 0) μ
    rw [nI_1, ← big, nI_min (by omega) (by omega)]
    exact h'
  refine call_go (cd := k2_ticksTo) 4 rfl rfl ?_
  refine c11_isWithin (b := 12) rfl rfl (by omega) (by decide) (fun _ => ?_) (fun z => by omega)
  refine brF (by decide) ?_
  refine run_go 4 ?_
  refine c11_isWithin (b := 12) rfl rfl (by omega) (by decide) (fun _ => ?_) (fun z => by omega)
  refine brF (by decide) ?_
  refine run_go 9 ?_
  refine And.intro (by simp (disch := first | omega | (simp (disch := omega) only [nI_toInt, Int32.reduceToInt, i_sub, i_add, i_mul]; omega)) only [iNONE, i_lt, i_le, i_eq, i_in, nI_toInt, Int32.reduceToInt, i_sub, i_add, i_mul]; omega) ?_
  refine And.intro (by simp (disch := first | omega | (simp (disch := omega) only [nI_toInt, Int32.reduceToInt, i_sub, i_add, i_mul]; omega)) only [iNONE, i_lt, i_le, i_eq, i_in, nI_toInt, Int32.reduceToInt, i_sub, i_add, i_mul]; omega) ?_
  rw [nI_clamp (by omega), nI_clamp (by omega), hL p (Nat.le_refl p), hR q (Nat.le_refl q)]
  cases p with
  | zero =>
    cases q with
    | zero =>
      have h' : Q (nI (if L 0 = R 0 then 1000 else 0)) 0 (0, 0) μ := h
      by_cases e : L 0 = R 0
      · rw [if_pos e] at h'
        refine brnT e ?_
        refine run_go 5 ?_
        exact h'
      · rw [if_neg e] at h'
        refine brnF e ?_
        refine run_go 10 ?_
        refine brnT rfl ?_
        refine brnT rfl ?_
        exact h'
    | succ q =>
      have h' : Q (nI (if L 0 = R (q + 1) then 1000 else min (dT L R 0 q + 1) 1000)) 0 (0, 0) μ := h
      have dl := dT_le (L := L) (R := R) (p := 0) (q := q)
      have t1 := ht 0 q (Or.inr ⟨rfl, by omega⟩)
      by_cases e : L 0 = R (q + 1)
      · rw [if_pos e] at h'
        refine brnT e ?_
        refine run_go 5 ?_
        exact h'
      · rw [if_neg e] at h'
        refine brnF e ?_
        refine run_go 2 ?_
        refine brnT rfl ?_
        refine run_go 2 ?_
        refine brnF (by exact (by simp (disch := first | omega | (simp (disch := omega) only [nI_toInt, Int32.reduceToInt, i_sub, i_add, i_mul]; omega)) only [iNONE, i_lt, i_le, i_eq, i_in, nI_toInt, Int32.reduceToInt, i_sub, i_add, i_mul]; omega)) ?_
        refine run_go 14 ?_
        refine c2_ticksAt_n (Or.inl m1_neg) ?_
        refine c2_ticksAt (p := 0) (q := q) rfl (nI_m1 q) (by omega) (by omega) ?_
        rw [t1, ← big]
        show Run k2_ticksTo (Call (d + 2)) Q 67 [some (sR 35 0), some (sI (nI 0)), some (sI (nI (q + 1))), some (sI (if nI (dT L R 0 q) < nI 1000 then nI (dT L R 0 q) else nI 1000))] [] μ
        rw [nI_min (by omega) (by omega)]
        refine run_go 2 ?_
        refine brT (by decide) ?_
        refine tail 0 (q + 1) _ (by omega) ?_
        rw [show min (min 1000 (dT L R 0 q) + 1) 1000 = min (dT L R 0 q + 1) 1000 by omega]
        exact h'
  | succ p =>
    cases q with
    | zero =>
      have h' : Q (nI (if L (p + 1) = R 0 then 1000 else min (dT L R p 0 + 1) 1000)) 0 (0, 0) μ := h
      have dl := dT_le (L := L) (R := R) (p := p) (q := 0)
      have t1 := ht p 0 (Or.inl ⟨by omega, by omega⟩)
      by_cases e : L (p + 1) = R 0
      · rw [if_pos e] at h'
        refine brnT e ?_
        refine run_go 5 ?_
        exact h'
      · rw [if_neg e] at h'
        refine brnF e ?_
        refine run_go 2 ?_
        refine brnF (by exact (by simp (disch := first | omega | (simp (disch := omega) only [nI_toInt, Int32.reduceToInt, i_sub, i_add, i_mul]; omega)) only [iNONE, i_lt, i_le, i_eq, i_in, nI_toInt, Int32.reduceToInt, i_sub, i_add, i_mul]; omega)) ?_
        refine run_go 14 ?_
        refine c2_ticksAt (p := p) (q := 0) (nI_m1 p) rfl (by omega) (by omega) ?_
        refine c2_ticksAt_n (Or.inr m1_neg) ?_
        rw [t1, ← big]
        show Run k2_ticksTo (Call (d + 2)) Q 67 [some (sR 35 0), some (sI (nI (p + 1))), some (sI (nI 0)), some (sI (if nI 1000 < nI (dT L R p 0) then nI 1000 else nI (dT L R p 0)))] [] μ
        rw [nI_min (by omega) (by omega)]
        refine run_go 2 ?_
        refine brF (by exact (by simp (disch := first | omega | (simp (disch := omega) only [nI_toInt, Int32.reduceToInt, i_sub, i_add, i_mul]; omega)) only [iNONE, i_lt, i_le, i_eq, i_in, nI_toInt, Int32.reduceToInt, i_sub, i_add, i_mul]; omega)) ?_
        refine run_go 2 ?_
        refine brT (by decide) ?_
        refine tail (p + 1) 0 _ (by omega) ?_
        rw [show min (min (dT L R p 0) 1000 + 1) 1000 = min (dT L R p 0 + 1) 1000 by omega]
        exact h'
    | succ q =>
      have h' : Q (nI (if L (p + 1) = R (q + 1) then 1000 else min ((if L p = R (q + 1) ∧ L (p + 1) = R q then min (dT L R p (q + 1)) (dT L R (p + 1) q) else min (min (dT L R p (q + 1)) (dT L R (p + 1) q)) (dT L R p q)) + 1) 1000)) 0 (0, 0) μ := h
      have d1 := dT_le (L := L) (R := R) (p := p) (q := q + 1)
      have d2 := dT_le (L := L) (R := R) (p := p + 1) (q := q)
      have d3 := dT_le (L := L) (R := R) (p := p) (q := q)
      have t1 := ht p (q + 1) (Or.inl ⟨by omega, by omega⟩)
      have t2 := ht (p + 1) q (Or.inr ⟨rfl, by omega⟩)
      have t3 := ht p q (Or.inl ⟨by omega, by omega⟩)
      generalize dT L R p (q + 1) = D1 at h' d1 t1
      generalize dT L R (p + 1) q = D2 at h' d2 t2
      generalize dT L R p q = D3 at h' d3 t3
      by_cases e : L (p + 1) = R (q + 1)
      · rw [if_pos e] at h'
        refine brnT e ?_
        refine run_go 5 ?_
        exact h'
      · rw [if_neg e] at h'
        refine brnF e ?_
        refine run_go 2 ?_
        refine brnF (by exact (by simp (disch := first | omega | (simp (disch := omega) only [nI_toInt, Int32.reduceToInt, i_sub, i_add, i_mul]; omega)) only [iNONE, i_lt, i_le, i_eq, i_in, nI_toInt, Int32.reduceToInt, i_sub, i_add, i_mul]; omega)) ?_
        refine run_go 14 ?_
        refine c2_ticksAt (p := p) (q := q + 1) (nI_m1 p) rfl (by omega) (by omega) ?_
        refine c2_ticksAt (p := p + 1) (q := q) rfl (nI_m1 q) (by omega) (by omega) ?_
        rw [t1, t2]
        show Run k2_ticksTo (Call (d + 2)) Q 67 [some (sR 35 0), some (sI (nI (p + 1))), some (sI (nI (q + 1))), some (sI (if nI D2 < nI D1 then nI D2 else nI D1))] [] μ
        rw [nI_min (by omega) (by omega)]
        refine run_go 2 ?_
        refine brF (by exact (by simp (disch := first | omega | (simp (disch := omega) only [nI_toInt, Int32.reduceToInt, i_sub, i_add, i_mul]; omega)) only [iNONE, i_lt, i_le, i_eq, i_in, nI_toInt, Int32.reduceToInt, i_sub, i_add, i_mul]; omega)) ?_
        refine run_go 2 ?_
        refine brF (by exact (by simp (disch := first | omega | (simp (disch := omega) only [nI_toInt, Int32.reduceToInt, i_sub, i_add, i_mul]; omega)) only [iNONE, i_lt, i_le, i_eq, i_in, nI_toInt, Int32.reduceToInt, i_sub, i_add, i_mul]; omega)) ?_
        refine run_go 11 ?_
        (refine And.intro (by rw [nI_m1]; exact vp_in_nI (by omega) (by decide)) ?_; rw [nI_m1, nI_clamp (by omega)])
        refine And.intro (by simp (disch := first | omega | (simp (disch := omega) only [nI_toInt, Int32.reduceToInt, i_sub, i_add, i_mul]; omega)) only [iNONE, i_lt, i_le, i_eq, i_in, nI_toInt, Int32.reduceToInt, i_sub, i_add, i_mul]; omega) ?_
        rw [nI_clamp (by omega), hL p (by omega), hR (q + 1) (Nat.le_refl _)]
        have far : Q (nI (min (min (min D1 D2) D3 + 1) 1000)) 0 (0, 0) μ → Run k2_ticksTo (Call (d + 2)) Q 109 [some (sR 35 0), some (sI (nI (p + 1))), some (sI (nI (q + 1))), some (sI (nI (min D1 D2)))] [] μ := by
          intro h'
          refine run_go 11 ?_
          refine c2_ticksAt (p := p) (q := q) (nI_m1 p) (nI_m1 q) (by omega) (by omega) ?_
          rw [t3]
          show Run k2_ticksTo (Call (d + 2)) Q 124 [some (sR 35 0), some (sI (nI (p + 1))), some (sI (nI (q + 1))), some (sI (if nI D3 < nI (min D1 D2) then nI D3 else nI (min D1 D2)))] [] μ
          rw [nI_min (by omega) (by omega)]
          exact tail _ _ _ (by omega) h'
        by_cases e2 : L p = R (q + 1)
        · refine brnT e2 ?_
          refine run_go 11 ?_
          refine And.intro (by simp (disch := first | omega | (simp (disch := omega) only [nI_toInt, Int32.reduceToInt, i_sub, i_add, i_mul]; omega)) only [iNONE, i_lt, i_le, i_eq, i_in, nI_toInt, Int32.reduceToInt, i_sub, i_add, i_mul]; omega) ?_
          (refine And.intro (by rw [nI_m1]; exact vp_in_nI (by omega) (by decide)) ?_; rw [nI_m1, nI_clamp (by omega)])
          rw [nI_clamp (by omega), hL (p + 1) (Nat.le_refl _), hR q (by omega)]
          by_cases e3 : L (p + 1) = R q
          · rw [if_pos ⟨e2, e3⟩] at h'
            refine brT e3 ?_
            exact tail _ _ _ (by omega) h'
          · rw [if_neg (fun z => e3 z.2)] at h'
            refine brF e3 ?_
            exact far h'
        · rw [if_neg (fun z => e2 z.1)] at h'
          refine brnF e2 ?_
          exact far h'
/-- the ticks laid out up to a pair -/
def tkI (μ μ' : sM) (L R : Nat → Int32) (m P q : Nat) : Prop := (∀ a i k, a ≠ 38 → μ'.1 a i k = μ.1 a i k) ∧ μ'.2 = μ.2 ∧ ∀ p' q', p' < P ∧ q' < m ∨ p' = P ∧ q' < q → μ'.1 38 0 (12 * p' + q') = nI (dT L R p' q')
theorem c2_fewestTicks (hn : 0 < n ∧ n ≤ 12) (hm : 0 < m ∧ m ≤ 12) (h3 : μ.1 35 0 3 = nI n) (h4 : μ.1 35 0 4 = nI m) (hL : ∀ j, j < n → μ.1 36 0 j = L j) (hR : ∀ j, j < m → μ.1 37 0 j = R j) (h : ∀ μ', (∀ a i k, a ≠ 38 → μ'.1 a i k = μ.1 a i k) → μ'.2 = μ.2 → Q (if dT L R (n - 1) (m - 1) = 1000 then nONE else nI (dT L R (n - 1) (m - 1))) 0 (0, 0) μ') : Call (d + 4) n2_fewestTicks [sR 35 0] μ Q := by
  refine call_go (cd := k2_fewestTicks) 4 rfl rfl ?_
  refine loopC (cd := k2_fewestTicks) (d := d + 3) (Q := Q) n (fun i ls μ' => ls = [some (sR 35 0), some (sI (if i = 0 then 1000 else nI (dT L R (i - 1) (m - 1)))), some (sI (nI i))] ∧ tkI μ μ' L R m i 0) 6 0 _ _ (Nat.zero_le _) ⟨rfl, fun _ _ _ _ => rfl, rfl, fun p' q' z => by omega⟩ ?_
  rintro i ls μ1 hi ⟨rfl, A1, E1, I1⟩ kk
  have n1 : μ1.1 35 0 3 = nI n := (A1 35 0 3 (by decide)).trans h3
  refine run_go 4 ?_
  by_cases e : i = n
  · refine brT (by simp (disch := first | omega | (simp (disch := omega) only [nI_toInt, Int32.reduceToInt, i_sub, i_add, i_mul]; omega)) only [n1, iNONE, i_lt, i_le, i_eq, i_in, nI_toInt, Int32.reduceToInt, i_sub, i_add, i_mul]; omega) ?_
    have dl := dT_le (L := L) (R := R) (p := n - 1) (q := m - 1)
    have h := h μ1 A1 E1
    refine run_go 10 ?_
    rw [if_neg (by omega), e]
    by_cases e2 : dT L R (n - 1) (m - 1) = 1000
    · rw [if_pos e2] at h
      refine brF (by simp (disch := first | omega | (simp (disch := omega) only [nI_toInt, Int32.reduceToInt, i_sub, i_add, i_mul]; omega)) only [iNONE, i_lt, i_le, i_eq, i_in, nI_toInt, Int32.reduceToInt, i_sub, i_add, i_mul]; omega) ?_
      exact h
    · rw [if_neg e2] at h
      refine brT (by simp (disch := first | omega | (simp (disch := omega) only [nI_toInt, Int32.reduceToInt, i_sub, i_add, i_mul]; omega)) only [iNONE, i_lt, i_le, i_eq, i_in, nI_toInt, Int32.reduceToInt, i_sub, i_add, i_mul]; omega) ?_
      exact h
  · refine brF (by simp (disch := first | omega | (simp (disch := omega) only [nI_toInt, Int32.reduceToInt, i_sub, i_add, i_mul]; omega)) only [n1, iNONE, i_lt, i_le, i_eq, i_in, nI_toInt, Int32.reduceToInt, i_sub, i_add, i_mul]; omega) ?_
    refine run_go 2 ?_
    refine loopC (cd := k2_fewestTicks) (d := d + 3) (Q := Q) m (fun j ls μ' => ls = [some (sR 35 0), some (sI (if j = 0 then (if i = 0 then 1000 else nI (dT L R (i - 1) (m - 1))) else nI (dT L R i (j - 1)))), some (sI (nI i)), some (sI (nI j))] ∧ tkI μ μ' L R m i j) 16 0 _ _ (Nat.zero_le _) ⟨rfl, A1, E1, I1⟩ ?_
    rintro j ls μ2 hj ⟨rfl, A2, E2, I2⟩ kk2
    have m2 : μ2.1 35 0 4 = nI m := (A2 35 0 4 (by decide)).trans h4
    refine run_go 4 ?_
    by_cases e2 : j = m
    · refine brT (by simp (disch := first | omega | (simp (disch := omega) only [nI_toInt, Int32.reduceToInt, i_sub, i_add, i_mul]; omega)) only [m2, iNONE, i_lt, i_le, i_eq, i_in, nI_toInt, Int32.reduceToInt, i_sub, i_add, i_mul]; omega) ?_
      refine run_go 2 ?_
      refine run_sub (kk [some (sR 35 0), some (sI (nI (dT L R i (m - 1)))), some (sI (nI i + 1))] μ2 (by omega) ⟨?_, A2, E2, fun p' q' z => I2 p' q' (by omega)⟩) ?_
      · rw [if_neg (by omega), Nat.add_sub_cancel, nI_1]
      · rw [e2, if_neg (by omega)]
        exact subL.app _ [some (sI (nI m))]
    · refine brF (by simp (disch := first | omega | (simp (disch := omega) only [nI_toInt, Int32.reduceToInt, i_sub, i_add, i_mul]; omega)) only [m2, iNONE, i_lt, i_le, i_eq, i_in, nI_toInt, Int32.reduceToInt, i_sub, i_add, i_mul]; omega) ?_
      refine run_go 16 ?_
      refine c2_ticksTo (L := L) (R := R) rfl rfl (by omega) (by omega) (fun q hq => (A2 36 0 q (by decide)).trans (hL q (by omega))) (fun q hq => (A2 37 0 q (by decide)).trans (hR q (by omega))) (fun p' q' z => I2 p' q' (by omega)) ?_
      (refine And.intro (by rw [nI_12m]; exact vp_in_nI (by omega) (by decide)) ?_; rw [nI_12m, nI_clamp (by omega)])
      refine kk2 _ _ (by omega) ⟨?_, fun a i k z => (mi_t z).trans (A2 a i k z), E2, fun p' q' z => ?_⟩
      · rw [if_neg (by omega), Nat.add_sub_cancel, ← nI_1 j]
      · by_cases e3 : p' = i ∧ q' = j
        · obtain ⟨rfl, rfl⟩ := e3; exact mi_s
        · rw [mi_k (by omega)]; exact I2 p' q' (by omega)
/-- a row of cells -/
def rwP (f : Nat → Int32) (n : Nat) : Prop := ∀ p, p < n → (∃ c, c < 8 ∧ f p = nI c) ∧ (0 < p → f p = f (p - 1) ∨ ∃ a b, a < 8 ∧ b < 8 ∧ f p = nI a ∧ f (p - 1) = nI b ∧ nb a b = true)
theorem c2_isRow (ht : t = 36 ∨ t = 37) (hn : n ≤ 12) (hL : ∀ j, j < n → μ.1 t 0 j = L j) (h1 : rwP L n → Q 1 0 (0, 0) μ) (h2 : ¬ rwP L n → Q 0 0 (0, 0) μ) : Call (d + 2) n2_isRow [sR t 0, sI (nI n)] μ Q := by
  rcases ht with rfl | rfl
  · refine call_go (cd := k2_isRow) 2 rfl rfl ?_
    refine loopC (cd := k2_isRow) (d := d + 1) (Q := Q) n (fun i ls μ' => ls = [some (sR 36 0), some (sI (nI n)), some (sI (nI i))] ∧ μ' = μ ∧ rwP L i) 2 0 _ _ (Nat.zero_le _) ⟨rfl, rfl, fun p hp => absurd hp (Nat.not_lt_zero p)⟩ ?_
    rintro i ls μ1 hi ⟨rfl, rfl, I1⟩ kk
    refine run_go 3 ?_
    by_cases e : i = n
    · subst e
      refine brT (by simp (disch := first | omega | (simp (disch := omega) only [nI_toInt, Int32.reduceToInt, i_sub, i_add, i_mul]; omega)) only [iNONE, i_lt, i_le, i_eq, i_in, nI_toInt, Int32.reduceToInt, i_sub, i_add, i_mul]; omega) ?_
      refine run_go 5 ?_
      exact ⟨Or.inr rfl, h1 I1⟩
    · refine brF (by simp (disch := first | omega | (simp (disch := omega) only [nI_toInt, Int32.reduceToInt, i_sub, i_add, i_mul]; omega)) only [iNONE, i_lt, i_le, i_eq, i_in, nI_toInt, Int32.reduceToInt, i_sub, i_add, i_mul]; omega) ?_
      have hi' : i < n := by omega
      refine run_go 4 ?_
      refine brF (show ¬ Int32.ofNat 12 ≤ nI i from by rw [show Int32.ofNat 12 = nI 12 from rfl]; exact (by simp (disch := first | omega | (simp (disch := omega) only [nI_toInt, Int32.reduceToInt, i_sub, i_add, i_mul]; omega)) only [iNONE, i_lt, i_le, i_eq, i_in, nI_toInt, Int32.reduceToInt, i_sub, i_add, i_mul]; omega)) ?_
      refine run_go 6 ?_
      refine And.intro (by simp (disch := first | omega | (simp (disch := omega) only [nI_toInt, Int32.reduceToInt, i_sub, i_add, i_mul]; omega)) only [iNONE, i_lt, i_le, i_eq, i_in, nI_toInt, Int32.reduceToInt, i_sub, i_add, i_mul]; omega) ?_
      rw [nI_clamp (by omega), hL i hi']
      refine c11_within (b := 8) rfl (by decide) (fun c hc e1 => ?_) (fun e1 => ?_)
      · refine brnF (by decide) ?_
        have nx : (0 < i → L i = L (i - 1) ∨ ∃ a b, a < 8 ∧ b < 8 ∧ L i = nI a ∧ L (i - 1) = nI b ∧ nb a b = true) → Run k2_isRow (Call (d + 1)) Q 57 [some (sR 36 0), some (sI (nI n)), some (sI (nI i))] [] μ1 := by
          intro z
          refine run_go 2 ?_
          refine kk _ _ hi' ⟨by rw [← nI_1 i], rfl, fun p hp => ?_⟩
          by_cases q2 : p = i
          · subst q2; exact ⟨⟨c, hc, e1⟩, z⟩
          · exact I1 p (by omega)
        refine run_go 2 ?_
        by_cases e2 : i = 0
        · refine brT (by simp (disch := first | omega | (simp (disch := omega) only [nI_toInt, Int32.reduceToInt, i_sub, i_add, i_mul]; omega)) only [iNONE, i_lt, i_le, i_eq, i_in, nI_toInt, Int32.reduceToInt, i_sub, i_add, i_mul]; omega) ?_
          exact nx (fun z => by omega)
        · refine brF (by simp (disch := first | omega | (simp (disch := omega) only [nI_toInt, Int32.reduceToInt, i_sub, i_add, i_mul]; omega)) only [iNONE, i_lt, i_le, i_eq, i_in, nI_toInt, Int32.reduceToInt, i_sub, i_add, i_mul]; omega) ?_
          have em : nI i - 1 = nI (i - 1) := by rw [show (1 : Int32) = nI 1 from rfl, nI_sub (by omega)]
          refine run_go 9 ?_
          refine And.intro (by simp (disch := first | omega | (simp (disch := omega) only [nI_toInt, Int32.reduceToInt, i_sub, i_add, i_mul]; omega)) only [iNONE, i_lt, i_le, i_eq, i_in, nI_toInt, Int32.reduceToInt, i_sub, i_add, i_mul]; omega) ?_
          (refine And.intro (by rw [em]; exact vp_in_nI (by omega) (by decide)) ?_; rw [em, nI_clamp (by omega)])
          rw [nI_clamp (by omega), hL i hi', hL (i - 1) (by omega)]
          obtain ⟨c', hc', e1'⟩ := (I1 (i - 1) (by omega)).1
          by_cases e3 : L i = L (i - 1)
          · refine brT e3 ?_
            exact nx (fun _ => Or.inl e3)
          · refine brF e3 ?_
            refine run_go 10 ?_
            refine And.intro (by simp (disch := first | omega | (simp (disch := omega) only [nI_toInt, Int32.reduceToInt, i_sub, i_add, i_mul]; omega)) only [iNONE, i_lt, i_le, i_eq, i_in, nI_toInt, Int32.reduceToInt, i_sub, i_add, i_mul]; omega) ?_
            (refine And.intro (by rw [em]; exact vp_in_nI (by omega) (by decide)) ?_; rw [em, nI_clamp (by omega)])
            rw [nI_clamp (by omega), hL i hi', hL (i - 1) (by omega)]
            refine c11_areNeighbours e1 e1' hc hc' (fun e4 => ?_) (fun e4 => ?_)
            · refine brnF (by decide) ?_
              exact nx (fun _ => Or.inr ⟨c, c', hc, hc', e1, e1', e4⟩)
            · refine brnT rfl ?_
              refine run_go 5 ?_
              refine ⟨Or.inl rfl, h2 (fun z => ?_)⟩
              rcases (z i hi').2 (by omega) with w | ⟨a, b, ha, hb, w1, w2, w3⟩
              · exact e3 w
              · have x1 : a = c := (nI_eq (by omega) (by omega)).mp (w1.symm.trans e1)
                have x2 : b = c' := (nI_eq (by omega) (by omega)).mp (w2.symm.trans e1')
                rw [x1, x2, e4] at w3
                cases w3
      · refine brnT rfl ?_
        refine run_go 5 ?_
        refine ⟨Or.inl rfl, h2 (fun z => ?_)⟩
        obtain ⟨c, hc, w⟩ := (z i hi').1
        rw [w, nI_toInt (by omega)] at e1
        omega
  · refine call_go (cd := k2_isRow) 2 rfl rfl ?_
    refine loopC (cd := k2_isRow) (d := d + 1) (Q := Q) n (fun i ls μ' => ls = [some (sR 37 0), some (sI (nI n)), some (sI (nI i))] ∧ μ' = μ ∧ rwP L i) 2 0 _ _ (Nat.zero_le _) ⟨rfl, rfl, fun p hp => absurd hp (Nat.not_lt_zero p)⟩ ?_
    rintro i ls μ1 hi ⟨rfl, rfl, I1⟩ kk
    refine run_go 3 ?_
    by_cases e : i = n
    · subst e
      refine brT (by simp (disch := first | omega | (simp (disch := omega) only [nI_toInt, Int32.reduceToInt, i_sub, i_add, i_mul]; omega)) only [iNONE, i_lt, i_le, i_eq, i_in, nI_toInt, Int32.reduceToInt, i_sub, i_add, i_mul]; omega) ?_
      refine run_go 5 ?_
      exact ⟨Or.inr rfl, h1 I1⟩
    · refine brF (by simp (disch := first | omega | (simp (disch := omega) only [nI_toInt, Int32.reduceToInt, i_sub, i_add, i_mul]; omega)) only [iNONE, i_lt, i_le, i_eq, i_in, nI_toInt, Int32.reduceToInt, i_sub, i_add, i_mul]; omega) ?_
      have hi' : i < n := by omega
      refine run_go 4 ?_
      refine brF (show ¬ Int32.ofNat 12 ≤ nI i from by rw [show Int32.ofNat 12 = nI 12 from rfl]; exact (by simp (disch := first | omega | (simp (disch := omega) only [nI_toInt, Int32.reduceToInt, i_sub, i_add, i_mul]; omega)) only [iNONE, i_lt, i_le, i_eq, i_in, nI_toInt, Int32.reduceToInt, i_sub, i_add, i_mul]; omega)) ?_
      refine run_go 6 ?_
      refine And.intro (by simp (disch := first | omega | (simp (disch := omega) only [nI_toInt, Int32.reduceToInt, i_sub, i_add, i_mul]; omega)) only [iNONE, i_lt, i_le, i_eq, i_in, nI_toInt, Int32.reduceToInt, i_sub, i_add, i_mul]; omega) ?_
      rw [nI_clamp (by omega), hL i hi']
      refine c11_within (b := 8) rfl (by decide) (fun c hc e1 => ?_) (fun e1 => ?_)
      · refine brnF (by decide) ?_
        have nx : (0 < i → L i = L (i - 1) ∨ ∃ a b, a < 8 ∧ b < 8 ∧ L i = nI a ∧ L (i - 1) = nI b ∧ nb a b = true) → Run k2_isRow (Call (d + 1)) Q 57 [some (sR 37 0), some (sI (nI n)), some (sI (nI i))] [] μ1 := by
          intro z
          refine run_go 2 ?_
          refine kk _ _ hi' ⟨by rw [← nI_1 i], rfl, fun p hp => ?_⟩
          by_cases q2 : p = i
          · subst q2; exact ⟨⟨c, hc, e1⟩, z⟩
          · exact I1 p (by omega)
        refine run_go 2 ?_
        by_cases e2 : i = 0
        · refine brT (by simp (disch := first | omega | (simp (disch := omega) only [nI_toInt, Int32.reduceToInt, i_sub, i_add, i_mul]; omega)) only [iNONE, i_lt, i_le, i_eq, i_in, nI_toInt, Int32.reduceToInt, i_sub, i_add, i_mul]; omega) ?_
          exact nx (fun z => by omega)
        · refine brF (by simp (disch := first | omega | (simp (disch := omega) only [nI_toInt, Int32.reduceToInt, i_sub, i_add, i_mul]; omega)) only [iNONE, i_lt, i_le, i_eq, i_in, nI_toInt, Int32.reduceToInt, i_sub, i_add, i_mul]; omega) ?_
          have em : nI i - 1 = nI (i - 1) := by rw [show (1 : Int32) = nI 1 from rfl, nI_sub (by omega)]
          refine run_go 9 ?_
          refine And.intro (by simp (disch := first | omega | (simp (disch := omega) only [nI_toInt, Int32.reduceToInt, i_sub, i_add, i_mul]; omega)) only [iNONE, i_lt, i_le, i_eq, i_in, nI_toInt, Int32.reduceToInt, i_sub, i_add, i_mul]; omega) ?_
          (refine And.intro (by rw [em]; exact vp_in_nI (by omega) (by decide)) ?_; rw [em, nI_clamp (by omega)])
          rw [nI_clamp (by omega), hL i hi', hL (i - 1) (by omega)]
          obtain ⟨c', hc', e1'⟩ := (I1 (i - 1) (by omega)).1
          by_cases e3 : L i = L (i - 1)
          · refine brT e3 ?_
            exact nx (fun _ => Or.inl e3)
          · refine brF e3 ?_
            refine run_go 10 ?_
            refine And.intro (by simp (disch := first | omega | (simp (disch := omega) only [nI_toInt, Int32.reduceToInt, i_sub, i_add, i_mul]; omega)) only [iNONE, i_lt, i_le, i_eq, i_in, nI_toInt, Int32.reduceToInt, i_sub, i_add, i_mul]; omega) ?_
            (refine And.intro (by rw [em]; exact vp_in_nI (by omega) (by decide)) ?_; rw [em, nI_clamp (by omega)])
            rw [nI_clamp (by omega), hL i hi', hL (i - 1) (by omega)]
            refine c11_areNeighbours e1 e1' hc hc' (fun e4 => ?_) (fun e4 => ?_)
            · refine brnF (by decide) ?_
              exact nx (fun _ => Or.inr ⟨c, c', hc, hc', e1, e1', e4⟩)
            · refine brnT rfl ?_
              refine run_go 5 ?_
              refine ⟨Or.inl rfl, h2 (fun z => ?_)⟩
              rcases (z i hi').2 (by omega) with w | ⟨a, b, ha, hb, w1, w2, w3⟩
              · exact e3 w
              · have x1 : a = c := (nI_eq (by omega) (by omega)).mp (w1.symm.trans e1)
                have x2 : b = c' := (nI_eq (by omega) (by omega)).mp (w2.symm.trans e1')
                rw [x1, x2, e4] at w3
                cases w3
      · refine brnT rfl ?_
        refine run_go 5 ?_
        refine ⟨Or.inl rfl, h2 (fun z => ?_)⟩
        obtain ⟨c, hc, w⟩ := (z i hi').1
        rw [w, nI_toInt (by omega)] at e1
        omega
end OP
