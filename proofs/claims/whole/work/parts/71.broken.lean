/-! nevers that are broken on a table -/
def bkP (so : Nat → Nat) (n : Nat) (wt : Nat → Nat) (T : tT) (p w q : Nat) : Prop := if w = 4 then q < ldT wt T p n else if w = 3 then hpT so n T q p else ∃ k, k < n ∧ so k = p ∧ atT so n T k w q
noncomputable def bkN (so : Nat → Nat) (n : Nat) (wt : Nat → Nat) (T : tT) (p w q : Nat → Nat) (m : Nat) : Nat := sumN (fun j => tB (bkP so n wt T (p j) (w j) (q j))) m
def ruC (μ : sM) (nv : Nat) (p w q : Nat → Nat) : Prop := nv ≤ 16 ∧ μ.1 28 0 5 = nI nv ∧ ∀ j, j < nv → nvW (p j) (w j) (q j) ∧ nvC μ j (p j) (w j) (q j)
def ruR (μ : sM) (nv : Nat) (p w q : Nat → Nat) : Prop := nv ≤ 16 ∧ μ.1 41 0 17 = nI nv ∧ ∀ j, j < nv → nvW (p j) (w j) (q j) ∧ nvR μ j (p j) (w j) (q j)
section OP
variable {d n k c s a b r u o i rel κ lr t j m nv : Nat} {μ μ' μ'' : sM} {Q : sQ} {so wt p w q : Nat → Nat} {T T' : tT} {tb : Nat → tT} {x y z v : Int32} {ξ : Nat → Nat → Int32}
theorem ruC.ag (h : ruC μ nv p w q) (e : frm fN μ μ') : ruC μ' nv p w q := by
  refine ⟨h.1, ?_, fun j hj => ?_⟩
  · rw [e 28 0 5 (by unfold fN; omega)]; exact h.2.1
  · unfold nvC
    rw [e 29 0 j (by unfold fN; omega), e 30 0 j (by unfold fN; omega), e 31 0 j (by unfold fN; omega), e 32 0 j (by unfold fN; omega)]
    exact h.2.2 j hj
theorem ruR.ag (h : ruR μ nv p w q) (e : frm fN μ μ') : ruR μ' nv p w q := by
  refine ⟨h.1, ?_, fun j hj => ?_⟩
  · rw [e 41 0 17 (by unfold fN; omega)]; exact h.2.1
  · unfold nvR
    rw [e 54 0 _ (by unfold fN; omega), e 54 0 _ (by unfold fN; omega), e 54 0 _ (by unfold fN; omega)]
    exact h.2.2 j hj
theorem ld_le (hS : ∀ k, k < n → wt k ≤ 20) : ∀ i, i ≤ n → ldT wt T c i ≤ 20 * i
  | 0, _ => Nat.le_refl 0
  | i + 1, h => by
    have ih := ld_le hS i (by omega)
    have h2 := hS i (by omega)
    show ldT wt T c i + (if ccT T i = c then wt i else 0) ≤ 20 * (i + 1)
    split <;> omega
theorem c5_isBrokenOn (hx : x = nI j) (hw : wfT so n T) (hS : stkC μ n so wt) (hT : tabC μ t n T) (hR : ruC μ nv p w q) (hj : j < nv) (h1 : bkP so n wt T (p j) (w j) (q j) → Q 1 0 (0, 0) μ) (h2 : ¬ bkP so n wt T (p j) (w j) (q j) → Q 0 0 (0, 0) μ) : Call (d + 5) n5_isBrokenOn [sR 28 0, sR 8 t, sI x] μ Q := by
  subst hx
  have hn := hS.2.1
  have hv := hR.1
  obtain ⟨W, C⟩ := hR.2.2 j hj
  have w5 := W.1
  unfold bkP at h1 h2
  refine call_go (cd := k5_isBrokenOn) 6 rfl rfl ?_
  refine And.intro (by simp (disch := first | omega | (simp (disch := omega) only [nI_toInt, Int32.reduceToInt, i_sub, i_add, i_mul]; omega)) only [iNONE, i_lt, i_le, i_eq, i_in, nI_toInt, Int32.reduceToInt, i_sub, i_add, i_mul]; omega) ?_
  rw [nI_clamp (by omega)]
  by_cases e4 : w j = 4
  · have c4 := C.2.1 e4
    have w4 := W.2.1 e4
    have ld := ld_le (T := T) (c := p j) (fun k hk => (hS.2.2 k hk).2.2.2) n (Nat.le_refl n)
    rw [if_pos e4] at h1 h2
    refine brnT c4.1 ?_
    refine run_go 20 ?_
    refine And.intro (by simp (disch := first | omega | (simp (disch := omega) only [nI_toInt, Int32.reduceToInt, i_sub, i_add, i_mul]; omega)) only [iNONE, i_lt, i_le, i_eq, i_in, nI_toInt, Int32.reduceToInt, i_sub, i_add, i_mul]; omega) ?_
    rw [nI_clamp (by omega), C.1]
    refine c9_loadOn rfl hw hS hT w4.1 ?_
    refine And.intro (by simp (disch := first | omega | (simp (disch := omega) only [nI_toInt, Int32.reduceToInt, i_sub, i_add, i_mul]; omega)) only [iNONE, i_lt, i_le, i_eq, i_in, nI_toInt, Int32.reduceToInt, i_sub, i_add, i_mul]; omega) ?_
    rw [nI_clamp (by omega), c4.2]
    by_cases e : q j < ldT wt T (p j) n
    · refine brF (by simp (disch := first | omega | (simp (disch := omega) only [nI_toInt, Int32.reduceToInt, i_sub, i_add, i_mul]; omega)) only [iNONE, i_lt, i_le, i_eq, i_in, nI_toInt, Int32.reduceToInt, i_sub, i_add, i_mul]; omega) ?_
      exact ⟨Or.inr rfl, h1 e⟩
    · refine brT (by simp (disch := first | omega | (simp (disch := omega) only [nI_toInt, Int32.reduceToInt, i_sub, i_add, i_mul]; omega)) only [iNONE, i_lt, i_le, i_eq, i_in, nI_toInt, Int32.reduceToInt, i_sub, i_add, i_mul]; omega) ?_
      exact ⟨Or.inl rfl, h2 e⟩
  · rw [if_neg e4] at h1 h2
    by_cases e3 : w j = 3
    · have c3 := C.2.2.1 e3
      have w3 := W.2.2.1 e3
      rw [if_pos e3] at h1 h2
      refine brnF (by rw [c3.1]; decide) ?_
      refine run_go 20 ?_
      refine And.intro (by simp (disch := first | omega | (simp (disch := omega) only [nI_toInt, Int32.reduceToInt, i_sub, i_add, i_mul]; omega)) only [iNONE, i_lt, i_le, i_eq, i_in, nI_toInt, Int32.reduceToInt, i_sub, i_add, i_mul]; omega) ?_
      rw [nI_clamp (by omega)]
      refine brnT c3.1 ?_
      refine And.intro (by simp (disch := first | omega | (simp (disch := omega) only [nI_toInt, Int32.reduceToInt, i_sub, i_add, i_mul]; omega)) only [iNONE, i_lt, i_le, i_eq, i_in, nI_toInt, Int32.reduceToInt, i_sub, i_add, i_mul]; omega) ?_
      rw [nI_clamp (by omega), c3.2]
      refine And.intro (by simp (disch := first | omega | (simp (disch := omega) only [nI_toInt, Int32.reduceToInt, i_sub, i_add, i_mul]; omega)) only [iNONE, i_lt, i_le, i_eq, i_in, nI_toInt, Int32.reduceToInt, i_sub, i_add, i_mul]; omega) ?_
      rw [nI_clamp (by omega), C.1]
      refine c9_hasInPile rfl rfl hw hS hT w3.2 w3.1 (fun e => ?_) (fun e => ?_)
      · exact ⟨Or.inr rfl, h1 e⟩
      · exact ⟨Or.inl rfl, h2 e⟩
    · have c0 := C.2.2.2 (by omega)
      have w0 := W.2.2.2 (by omega)
      rw [if_neg e3] at h1 h2
      refine brnF (by rw [c0.1]; decide) ?_
      refine run_go 6 ?_
      refine And.intro (by simp (disch := first | omega | (simp (disch := omega) only [nI_toInt, Int32.reduceToInt, i_sub, i_add, i_mul]; omega)) only [iNONE, i_lt, i_le, i_eq, i_in, nI_toInt, Int32.reduceToInt, i_sub, i_add, i_mul]; omega) ?_
      rw [nI_clamp (by omega)]
      refine brnF (by rw [c0.1]; decide) ?_
      refine run_go 2 ?_
      refine loopS (cd := k5_isBrokenOn) (d := d + 4) (Q := Q) n (fun k => so k = p j ∧ atT so n T k (w j) (q j)) (fun v => [some (sR 28 0), some (sR 8 t), some (sI (nI j)), some (sI v)]) μ 64 (fun hp => ?_) (fun i hi hp kk => ?_)
      · refine run_go 5 ?_
        refine c8_size hS ?_
        refine brT (by simp (disch := first | omega | (simp (disch := omega) only [nI_toInt, Int32.reduceToInt, i_sub, i_add, i_mul]; omega)) only [iNONE, i_lt, i_le, i_eq, i_in, nI_toInt, Int32.reduceToInt, i_sub, i_add, i_mul]; omega) ?_
        refine run_go 10 ?_
        exact ⟨Or.inl rfl, h2 (fun ⟨k, hk, e⟩ => hp k hk e)⟩
      · have hs := hS.2.2 i hi
        refine run_go 5 ?_
        refine c8_size hS ?_
        refine brF (by simp (disch := first | omega | (simp (disch := omega) only [nI_toInt, Int32.reduceToInt, i_sub, i_add, i_mul]; omega)) only [iNONE, i_lt, i_le, i_eq, i_in, nI_toInt, Int32.reduceToInt, i_sub, i_add, i_mul]; omega) ?_
        refine run_go 9 ?_
        refine c8_sortOf rfl hS hi ?_
        refine And.intro (by simp (disch := first | omega | (simp (disch := omega) only [nI_toInt, Int32.reduceToInt, i_sub, i_add, i_mul]; omega)) only [iNONE, i_lt, i_le, i_eq, i_in, nI_toInt, Int32.reduceToInt, i_sub, i_add, i_mul]; omega) ?_
        rw [nI_clamp (by omega), C.1]
        by_cases e : so i = p j
        · refine brnT (by rw [e]) ?_
          refine run_go 12 ?_
          refine And.intro (by simp (disch := first | omega | (simp (disch := omega) only [nI_toInt, Int32.reduceToInt, i_sub, i_add, i_mul]; omega)) only [iNONE, i_lt, i_le, i_eq, i_in, nI_toInt, Int32.reduceToInt, i_sub, i_add, i_mul]; omega) ?_
          refine And.intro (by simp (disch := first | omega | (simp (disch := omega) only [nI_toInt, Int32.reduceToInt, i_sub, i_add, i_mul]; omega)) only [iNONE, i_lt, i_le, i_eq, i_in, nI_toInt, Int32.reduceToInt, i_sub, i_add, i_mul]; omega) ?_
          rw [nI_clamp (by omega), c0.2.1, c0.2.2]
          refine c9_isAsTold rfl rfl rfl hw hS hT hi (by omega) w0.2 (fun e2 => ?_) (fun e2 => ?_)
          · refine brF (by decide) ?_
            refine run_go 10 ?_
            exact ⟨Or.inr rfl, h1 ⟨i, hi, e, e2⟩⟩
          · refine brT rfl ?_
            refine run_go 2 ?_
            exact kk (fun z => e2 z.2)
        · refine brnF (fun z => e ((nI_eq (by omega) (by omega)).mp z)) ?_
          refine run_go 2 ?_
          exact kk (fun z => e z.1)
theorem bk_le (m : Nat) : bkN so n wt T p w q m ≤ m := by
  have := sumN_le (f := fun j => tB (bkP so n wt T (p j) (w j) (q j))) (b := 1) (n := m) (fun _ _ => tB_le)
  unfold bkN
  omega
theorem c5_brokenOn (hw : wfT so n T) (hS : stkC μ n so wt) (hT : tabC μ t n T) (hR : ruC μ nv p w q) (h : Q (nI (bkN so n wt T p w q nv)) 0 (0, 0) μ) : Call (d + 6) n5_brokenOn [sR 28 0, sR 8 t] μ Q := by
  have hv := hR.1
  refine call_go (cd := k5_brokenOn) 4 rfl rfl ?_
  refine loopF (cd := k5_brokenOn) (d := d + 5) (Q := Q) nv (fun i v => [some (sR 28 0), some (sR 8 t), some (sI (nI (bkN so n wt T p w q i))), some (sI v)]) (fun _ => μ) 4 ?_ (fun i hi kk => ?_)
  · refine run_go 20 ?_
    refine brT (by simp (disch := first | omega | (simp (disch := omega) only [nI_toInt, Int32.reduceToInt, i_sub, i_add, i_mul]; omega)) only [hR.2.1, iNONE, i_lt, i_le, i_eq, i_in, nI_toInt, Int32.reduceToInt, i_sub, i_add, i_mul]; omega) ?_
    exact h
  · rw [show bkN so n wt T p w q (i + 1) = bkN so n wt T p w q i + tB (bkP so n wt T (p i) (w i) (q i)) from rfl, ← nI_add] at kk
    refine run_go 4 ?_
    refine brF (by simp (disch := first | omega | (simp (disch := omega) only [nI_toInt, Int32.reduceToInt, i_sub, i_add, i_mul]; omega)) only [hR.2.1, iNONE, i_lt, i_le, i_eq, i_in, nI_toInt, Int32.reduceToInt, i_sub, i_add, i_mul]; omega) ?_
    refine run_go 3 ?_
    refine brF (by simp (disch := first | omega | (simp (disch := omega) only [nI_toInt, Int32.reduceToInt, i_sub, i_add, i_mul]; omega)) only [iNONE, i_lt, i_le, i_eq, i_in, nI_toInt, Int32.reduceToInt, i_sub, i_add, i_mul]; omega) ?_
    refine run_go 6 ?_
    refine c5_isBrokenOn rfl hw hS hT hR hi (fun e => ?_) (fun e => ?_)
    · rw [tB_t e] at kk
      refine brF (by decide) ?_
      refine run_go 6 ?_
      exact kk
    · rw [tB_f e] at kk
      refine brT rfl ?_
      refine run_go 5 ?_
      exact kk
theorem nI_3 (j : Nat) : 3 * nI j = nI (3 * j) := by
  show nI 3 * nI j = _
  rw [nI_mul]
theorem nI_31 (j : Nat) : 3 * nI j + 1 = nI (3 * j + 1) := by rw [nI_3, nI_1]
theorem nI_32 (j : Nat) : 3 * nI j + 2 = nI (3 * j + 2) := by
  rw [nI_3]
  show nI (3 * j) + nI 2 = _
  rw [nI_add]
theorem r12_isBroken (hx : x = nI r) (hy : y = nI j) (hw : wfT so n T) (hS : stkR μ n so wt) (hr : r < 108) (hT : tabR μ r T) (hR : ruR μ nv p w q) (hj : j < nv) (h1 : bkP so n wt T (p j) (w j) (q j) → Q 1 0 (0, 0) μ) (h2 : ¬ bkP so n wt T (p j) (w j) (q j) → Q 0 0 (0, 0) μ) : Call (d + 5) n12_isBroken [sR 41 0, sI x, sI y] μ Q := by
  subst hx; subst hy
  have hn := hS.2.1
  have hv := hR.1
  obtain ⟨W, C⟩ := hR.2.2 j hj
  have w5 := W.1
  unfold bkP at h1 h2
  refine call_go (cd := k12_isBroken) 31 rfl rfl ?_
  (refine And.intro (by rw [nI_3]; exact vp_in_nI (by omega) (by decide)) ?_; rw [nI_3, nI_clamp (by omega)])
  (refine And.intro (by rw [nI_31]; exact vp_in_nI (by omega) (by decide)) ?_; rw [nI_31, nI_clamp (by omega)])
  (refine And.intro (by rw [nI_32]; exact vp_in_nI (by omega) (by decide)) ?_; rw [nI_32, nI_clamp (by omega)])
  rw [C.1, C.2.1, C.2.2]
  by_cases e4 : w j = 4
  · have w4 := W.2.1 e4
    rw [if_pos e4] at h1 h2
    have ld := fun i hi => ld_le (T := T) (c := p j) (fun k hk => (hS.2.2 k hk).2.2.2) i hi
    refine loopF (cd := k12_isBroken) (d := d + 4) (Q := Q) n (fun i v => [some (sR 41 0), some (sI (nI r)), some (sI (nI j)), some (sI (nI (p j))), some (sI (nI (w j))), some (sI (nI (q j))), some (sI (nI (ldT wt T (p j) i))), some (sI 0), some (sI v)]) (fun _ => μ) 42 ?_ (fun i hi kk => ?_)
    · have ld := ld n (Nat.le_refl n)
      refine run_go 4 ?_
      refine brT (by simp (disch := first | omega | (simp (disch := omega) only [nI_toInt, Int32.reduceToInt, i_sub, i_add, i_mul]; omega)) only [hS.1, iNONE, i_lt, i_le, i_eq, i_in, nI_toInt, Int32.reduceToInt, i_sub, i_add, i_mul]; omega) ?_
      refine run_go 20 ?_
      refine brnT (by rw [e4]; rfl) ?_
      by_cases e : q j < ldT wt T (p j) n
      · refine brF (by simp (disch := first | omega | (simp (disch := omega) only [nI_toInt, Int32.reduceToInt, i_sub, i_add, i_mul]; omega)) only [iNONE, i_lt, i_le, i_eq, i_in, nI_toInt, Int32.reduceToInt, i_sub, i_add, i_mul]; omega) ?_
        exact ⟨Or.inr rfl, h1 e⟩
      · refine brT (by simp (disch := first | omega | (simp (disch := omega) only [nI_toInt, Int32.reduceToInt, i_sub, i_add, i_mul]; omega)) only [iNONE, i_lt, i_le, i_eq, i_in, nI_toInt, Int32.reduceToInt, i_sub, i_add, i_mul]; omega) ?_
        exact ⟨Or.inl rfl, h2 e⟩
    · have hs := hS.2.2 i hi
      have hcc := wf_cc hw hi
      rw [show ldT wt T (p j) (i + 1) = ldT wt T (p j) i + (if ccT T i = p j then wt i else 0) from rfl, ← nI_add] at kk
      refine run_go 4 ?_
      refine brF (by simp (disch := first | omega | (simp (disch := omega) only [nI_toInt, Int32.reduceToInt, i_sub, i_add, i_mul]; omega)) only [hS.1, iNONE, i_lt, i_le, i_eq, i_in, nI_toInt, Int32.reduceToInt, i_sub, i_add, i_mul]; omega) ?_
      refine run_go 3 ?_
      refine brnT (by rw [e4]; rfl) ?_
      refine run_go 7 ?_
      refine r12_cellOf rfl rfl hw hn hr hT hi ?_
      by_cases e : ccT T i = p j
      · rw [if_pos e] at kk
        refine brnT (by rw [e]) ?_
        refine run_go 10 ?_
        refine And.intro (by simp (disch := first | omega | (simp (disch := omega) only [nI_toInt, Int32.reduceToInt, i_sub, i_add, i_mul]; omega)) only [iNONE, i_lt, i_le, i_eq, i_in, nI_toInt, Int32.reduceToInt, i_sub, i_add, i_mul]; omega) ?_
        rw [nI_clamp (by omega), hs.2.1]
        exact kk
      · rw [if_neg e] at kk
        refine brnF (fun z => e ((nI_eq (by omega) (by omega)).mp z)) ?_
        refine run_go 6 ?_
        exact kk
  · rw [if_neg e4] at h1 h2
    -- one thing that does it, among the first i
    have fin : ∀ X : Nat → Prop, ((∃ k, k < n ∧ X k) → Q 1 0 (0, 0) μ) → ((¬ ∃ k, k < n ∧ X k) → Q 0 0 (0, 0) μ) → Run k12_isBroken (Call (d + 4)) Q 42 [some (sR 41 0), some (sI (nI r)), some (sI (nI j)), some (sI (nI (p j))), some (sI (nI (w j))), some (sI (nI (q j))), some (sI 0), some (sI (nI (tB (∃ k, k < n ∧ X k)))), some (sI (nI n))] [] μ := by
      intro X q1 q2
      refine run_go 4 ?_
      refine brT (by simp (disch := first | omega | (simp (disch := omega) only [nI_toInt, Int32.reduceToInt, i_sub, i_add, i_mul]; omega)) only [hS.1, iNONE, i_lt, i_le, i_eq, i_in, nI_toInt, Int32.reduceToInt, i_sub, i_add, i_mul]; omega) ?_
      refine run_go 20 ?_
      refine brnF (by exact (by simp (disch := first | omega | (simp (disch := omega) only [nI_toInt, Int32.reduceToInt, i_sub, i_add, i_mul]; omega)) only [iNONE, i_lt, i_le, i_eq, i_in, nI_toInt, Int32.reduceToInt, i_sub, i_add, i_mul]; omega)) ?_
      by_cases e : ∃ k, k < n ∧ X k
      · rw [tB_t e]
        exact ⟨Or.inr rfl, q1 e⟩
      · rw [tB_f e]
        exact ⟨Or.inl rfl, q2 e⟩
    have stp : ∀ X : Nat → Prop, ∀ i, tB (∃ k, k < i + 1 ∧ X k) = if tB (∃ k, k < i ∧ X k) = 1 then 1 else tB (X i) := by
      intro X i
      by_cases e : ∃ k, k < i ∧ X k
      · obtain ⟨k, z1, z2⟩ := e
        have a1 : tB (∃ k, k < i ∧ X k) = 1 := tB_t ⟨k, z1, z2⟩
        have a2 : tB (∃ k, k < i + 1 ∧ X k) = 1 := tB_t ⟨k, by omega, z2⟩
        rw [a1, a2, if_pos rfl]
      · have a1 : tB (∃ k, k < i ∧ X k) = 0 := tB_f e
        rw [a1, if_neg (by decide)]
        by_cases e2 : X i
        · have a2 : tB (∃ k, k < i + 1 ∧ X k) = 1 := tB_t ⟨i, by omega, e2⟩
          rw [a2, tB_t e2]
        · have a2 : tB (∃ k, k < i + 1 ∧ X k) = 0 := tB_f (fun ⟨k, z1, z2⟩ => by
            by_cases q : k = i
            · subst q; exact e2 z2
            · exact e ⟨k, by omega, z2⟩)
          rw [a2, tB_f e2]
    by_cases e3 : w j = 3
    · have w3 := W.2.2.1 e3
      rw [if_pos e3] at h1 h2
      have key : Run k12_isBroken (Call (d + 4)) Q 42 [some (sR 41 0), some (sI (nI r)), some (sI (nI j)), some (sI (nI (p j))), some (sI (nI (w j))), some (sI (nI (q j))), some (sI 0), some (sI (nI (tB (∃ k, k < 0 ∧ (zB T k = 9 ∧ zC T k = q j ∧ so k = p j))))), some (sI 0)] [] μ := by
        refine loopF (cd := k12_isBroken) (d := d + 4) (Q := Q) n (fun i v => [some (sR 41 0), some (sI (nI r)), some (sI (nI j)), some (sI (nI (p j))), some (sI (nI (w j))), some (sI (nI (q j))), some (sI 0), some (sI (nI (tB (∃ k, k < i ∧ (zB T k = 9 ∧ zC T k = q j ∧ so k = p j))))), some (sI v)]) (fun _ => μ) 42 (fin (fun k => zB T k = 9 ∧ zC T k = q j ∧ so k = p j) h1 h2) (fun i hi kk => ?_)
        have hs := hS.2.2 i hi
        rw [stp (fun k => zB T k = 9 ∧ zC T k = q j ∧ so k = p j) i] at kk
        have t1 := tB_le (P := ∃ k, k < i ∧ (zB T k = 9 ∧ zC T k = q j ∧ so k = p j))
        generalize tB (∃ k, k < i ∧ (zB T k = 9 ∧ zC T k = q j ∧ so k = p j)) = Y at kk t1 ⊢
        refine run_go 4 ?_
        refine brF (by simp (disch := first | omega | (simp (disch := omega) only [nI_toInt, Int32.reduceToInt, i_sub, i_add, i_mul]; omega)) only [hS.1, iNONE, i_lt, i_le, i_eq, i_in, nI_toInt, Int32.reduceToInt, i_sub, i_add, i_mul]; omega) ?_
        refine run_go 3 ?_
        refine brnF (by exact (by simp (disch := first | omega | (simp (disch := omega) only [nI_toInt, Int32.reduceToInt, i_sub, i_add, i_mul]; omega)) only [iNONE, i_lt, i_le, i_eq, i_in, nI_toInt, Int32.reduceToInt, i_sub, i_add, i_mul]; omega)) ?_
        refine run_go 3 ?_
        refine brnT (by rw [e3]; rfl) ?_
        refine run_go 2 ?_
        by_cases y1 : Y = 1
        · rw [if_pos y1] at kk
          refine brnF (by exact (by simp (disch := first | omega | (simp (disch := omega) only [nI_toInt, Int32.reduceToInt, i_sub, i_add, i_mul]; omega)) only [iNONE, i_lt, i_le, i_eq, i_in, nI_toInt, Int32.reduceToInt, i_sub, i_add, i_mul]; omega)) ?_
          refine run_go 6 ?_
          exact kk
        · rw [if_neg y1] at kk
          refine brnT (by rw [show Y = 0 by omega]; rfl) ?_
          refine run_go 6 ?_
          refine And.intro (by simp (disch := first | omega | (simp (disch := omega) only [nI_toInt, Int32.reduceToInt, i_sub, i_add, i_mul]; omega)) only [iNONE, i_lt, i_le, i_eq, i_in, nI_toInt, Int32.reduceToInt, i_sub, i_add, i_mul]; omega) ?_
          rw [nI_clamp (by omega), hs.1]
          by_cases e : so i = p j
          · refine brnT (by rw [e]) ?_
            refine run_go 5 ?_
            refine r12_boxOf rfl rfl hr hT (by omega) ?_
            by_cases eb : zB T i = 9
            · refine brF (by rw [eb]; decide) ?_
              refine run_go 6 ?_
              refine r12_cellOf rfl rfl hw hn hr hT hi ?_
              have ec : ccT T i = zC T i := if_pos eb
              have hcc := wf_cc hw hi
              by_cases e5 : zC T i = q j
              · refine brnT (by rw [ec, e5]) ?_
                rw [tB_t ⟨eb, e5, e⟩] at kk
                refine run_go 6 ?_
                exact kk
              · refine brnF (fun z => e5 (by rw [← ec]; exact (nI_eq (by omega) (by omega)).mp z)) ?_
                rw [tB_f (fun z => e5 z.2.1)] at kk
                refine run_go 5 ?_
                exact kk
            · have hbx := wf_bx hw hi
              refine brT (by rw [m9_n eb]; exact (by simp (disch := first | omega | (simp (disch := omega) only [nI_toInt, Int32.reduceToInt, i_sub, i_add, i_mul]; omega)) only [iNONE, i_lt, i_le, i_eq, i_in, nI_toInt, Int32.reduceToInt, i_sub, i_add, i_mul]; omega)) ?_
              rw [tB_f (fun z => eb z.1)] at kk
              refine run_go 5 ?_
              exact kk
          · refine brnF (fun z => e ((nI_eq (by omega) (by omega)).mp z)) ?_
            rw [tB_f (fun z => e z.2.2)] at kk
            refine run_go 5 ?_
            exact kk
      rw [tB_f (fun ⟨k, z, _⟩ => absurd z (Nat.not_lt_zero k))] at key
      exact key
    · have w0 := W.2.2.2 (by omega)
      rw [if_neg e3] at h1 h2
      have key : Run k12_isBroken (Call (d + 4)) Q 42 [some (sR 41 0), some (sI (nI r)), some (sI (nI j)), some (sI (nI (p j))), some (sI (nI (w j))), some (sI (nI (q j))), some (sI 0), some (sI (nI (tB (∃ k, k < 0 ∧ (so k = p j ∧ atT so n T k (w j) (q j)))))), some (sI 0)] [] μ := by
        refine loopF (cd := k12_isBroken) (d := d + 4) (Q := Q) n (fun i v => [some (sR 41 0), some (sI (nI r)), some (sI (nI j)), some (sI (nI (p j))), some (sI (nI (w j))), some (sI (nI (q j))), some (sI 0), some (sI (nI (tB (∃ k, k < i ∧ (so k = p j ∧ atT so n T k (w j) (q j)))))), some (sI v)]) (fun _ => μ) 42 (fin (fun k => so k = p j ∧ atT so n T k (w j) (q j)) h1 h2) (fun i hi kk => ?_)
        have hs := hS.2.2 i hi
        rw [stp (fun k => so k = p j ∧ atT so n T k (w j) (q j)) i] at kk
        have t1 := tB_le (P := ∃ k, k < i ∧ (so k = p j ∧ atT so n T k (w j) (q j)))
        generalize tB (∃ k, k < i ∧ (so k = p j ∧ atT so n T k (w j) (q j))) = Y at kk t1 ⊢
        refine run_go 4 ?_
        refine brF (by simp (disch := first | omega | (simp (disch := omega) only [nI_toInt, Int32.reduceToInt, i_sub, i_add, i_mul]; omega)) only [hS.1, iNONE, i_lt, i_le, i_eq, i_in, nI_toInt, Int32.reduceToInt, i_sub, i_add, i_mul]; omega) ?_
        refine run_go 3 ?_
        refine brnF (by exact (by simp (disch := first | omega | (simp (disch := omega) only [nI_toInt, Int32.reduceToInt, i_sub, i_add, i_mul]; omega)) only [iNONE, i_lt, i_le, i_eq, i_in, nI_toInt, Int32.reduceToInt, i_sub, i_add, i_mul]; omega)) ?_
        refine run_go 3 ?_
        refine brnF (by exact (by simp (disch := first | omega | (simp (disch := omega) only [nI_toInt, Int32.reduceToInt, i_sub, i_add, i_mul]; omega)) only [iNONE, i_lt, i_le, i_eq, i_in, nI_toInt, Int32.reduceToInt, i_sub, i_add, i_mul]; omega)) ?_
        refine run_go 2 ?_
        by_cases y1 : Y = 1
        · rw [if_pos y1] at kk
          refine brnF (by exact (by simp (disch := first | omega | (simp (disch := omega) only [nI_toInt, Int32.reduceToInt, i_sub, i_add, i_mul]; omega)) only [iNONE, i_lt, i_le, i_eq, i_in, nI_toInt, Int32.reduceToInt, i_sub, i_add, i_mul]; omega)) ?_
          refine run_go 5 ?_
          exact kk
        · rw [if_neg y1] at kk
          refine brnT (by rw [show Y = 0 by omega]; rfl) ?_
          refine run_go 6 ?_
          refine And.intro (by simp (disch := first | omega | (simp (disch := omega) only [nI_toInt, Int32.reduceToInt, i_sub, i_add, i_mul]; omega)) only [iNONE, i_lt, i_le, i_eq, i_in, nI_toInt, Int32.reduceToInt, i_sub, i_add, i_mul]; omega) ?_
          rw [nI_clamp (by omega), hs.1]
          by_cases e : so i = p j
          · refine brnT (by rw [e]) ?_
            refine run_go 7 ?_
            refine r12_isAsTold rfl rfl rfl rfl hw hS hr hT hi (by omega) w0.2 (fun e5 => ?_) (fun e5 => ?_)
            · refine brF (by decide) ?_
              rw [tB_t ⟨e, e5⟩] at kk
              refine run_go 5 ?_
              exact kk
            · refine brT rfl ?_
              rw [tB_f (fun z => e5 z.2)] at kk
              refine run_go 4 ?_
              exact kk
          · refine brnF (fun z => e ((nI_eq (by omega) (by omega)).mp z)) ?_
            rw [tB_f (fun z => e z.1)] at kk
            refine run_go 4 ?_
            exact kk
      rw [tB_f (fun ⟨k, z, _⟩ => absurd z (Nat.not_lt_zero k))] at key
      exact key
theorem r12_brokenOn (hx : x = nI r) (hw : wfT so n T) (hS : stkR μ n so wt) (hr : r < 108) (hT : tabR μ r T) (hR : ruR μ nv p w q) (h : Q (nI (bkN so n wt T p w q nv)) 0 (0, 0) μ) : Call (d + 6) n12_brokenOn [sR 41 0, sI x] μ Q := by
  subst hx
  have hv := hR.1
  refine call_go (cd := k12_brokenOn) 4 rfl rfl ?_
  refine loopF (cd := k12_brokenOn) (d := d + 5) (Q := Q) nv (fun i v => [some (sR 41 0), some (sI (nI r)), some (sI (nI (bkN so n wt T p w q i))), some (sI v)]) (fun _ => μ) 4 ?_ (fun i hi kk => ?_)
  · refine run_go 20 ?_
    refine brT (by simp (disch := first | omega | (simp (disch := omega) only [nI_toInt, Int32.reduceToInt, i_sub, i_add, i_mul]; omega)) only [hR.2.1, iNONE, i_lt, i_le, i_eq, i_in, nI_toInt, Int32.reduceToInt, i_sub, i_add, i_mul]; omega) ?_
    exact h
  · rw [show bkN so n wt T p w q (i + 1) = bkN so n wt T p w q i + tB (bkP so n wt T (p i) (w i) (q i)) from rfl, ← nI_add] at kk
    refine run_go 4 ?_
    refine brF (by simp (disch := first | omega | (simp (disch := omega) only [nI_toInt, Int32.reduceToInt, i_sub, i_add, i_mul]; omega)) only [hR.2.1, iNONE, i_lt, i_le, i_eq, i_in, nI_toInt, Int32.reduceToInt, i_sub, i_add, i_mul]; omega) ?_
    refine run_go 6 ?_
    refine r12_isBroken rfl rfl hw hS hr hT hR hi (fun e => ?_) (fun e => ?_)
    · rw [tB_t e] at kk
      refine brF (by decide) ?_
      refine run_go 6 ?_
      exact kk
    · rw [tB_f e] at kk
      refine brT rfl ?_
      refine run_go 5 ?_
      exact kk
theorem nvG.ru (h : nvG μ nv p w q) : ruC μ nv p w q ∧ ruR μ nv p w q := ⟨⟨h.1, h.2.1, fun j hj => ⟨(h.2.2.2.2 j hj).1, (h.2.2.2.2 j hj).2.1⟩⟩, ⟨h.1, h.2.2.2.1, fun j hj => ⟨(h.2.2.2.2 j hj).1, (h.2.2.2.2 j hj).2.2⟩⟩⟩
theorem op_broken (hI : INV ξ μ) (h : ∀ v μ', opQ ξ (d + 20) n12_broken [sR 41 0] v μ' → Q v 0 (0, 0) μ') : Call (d + 20) n11_broken [sR 0 0] μ Q := by
  have hI0 := hI
  obtain ⟨n, so, wt, κ, tb, lr, h1, h2, h3⟩ := hI0
  have g1 : tbG (m_i μ 41 0 0 0) n so wt κ tb := h1.fr (frm.rf.mi (by unfold fT; omega))
  obtain ⟨nv, p, w, q, hN⟩ := h3.2.2.1
  have hw := h1.2.2.2.2.2.1 0 (Nat.zero_le _)
  refine call_go (cd := k11_broken) 20 rfl rfl ?_
  refine c5_brokenOn hw h1.1 h1.2.2.2.2.2.2.1 hN.ru.1 ?_
  refine h _ _ (fun Q hq => ?_)
  refine call_go (cd := k12_broken) 20 rfl rfl ?_
  refine r12_brokenOn (r := 0) rfl hw g1.2.1 (by decide) (g1.2.2.2.2.2.2.2.2 0 (Nat.zero_le _)) (hN.ru.2.ag (frm.rf.mi (by unfold fN; omega))) ?_
  exact hq _ hI.th
end OP
