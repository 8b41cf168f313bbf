/-! an order's end -/
def thT (so : Nat → Nat) (a n : Nat) : Nat := sumN (fun i => if so i = a then 1 else 0) n
noncomputable def asT (so : Nat → Nat) (m : Nat) (T : tT) (a r b n : Nat) : Nat := sumN (fun i => tB (so i = a ∧ atT so m T i r b)) n
def enT (so : Nat → Nat) (n : Nat) (T : tT) (o : Nat) : Prop := 0 < asT so n T (o / 2 % 4) (o / 8 % 3) (o / 24) n ∧ (o % 2 = 1 → asT so n T (o / 2 % 4) (o / 8 % 3) (o / 24) n = thT so (o / 2 % 4) n)
def ceT (so : Nat → Nat) (o k : Nat) : Prop := so k = o / 2 % 4 ∨ o / 8 % 3 = 2 ∧ so k = o / 24
section CO
variable {d t n k c s a b r u o : Nat} {μ : sM} {Q : sQ} {so wt : Nat → Nat} {T : tT} {x y z : Int32}
theorem c3_isEnd (hx : x = nI o) (ho : o < 96) (hw : wfT so n T) (hS : stkC μ n so wt) (hT : tabC μ t n T) (h1 : enT so n T o → Q 1 0 (0, 0) μ) (h2 : ¬ enT so n T o → Q 0 0 (0, 0) μ) : Call (d + 4) n3_isEnd [sR 13 0, sI x, sR 8 t] μ Q := by
  subst hx
  have hn := hS.2.1
  unfold enT at h1 h2
  have ha : o / 2 % 4 < 4 := Nat.mod_lt _ (by decide)
  have hr : o / 8 % 3 < 3 := Nat.mod_lt _ (by decide)
  have hb : o / 24 < 4 := by omega
  have hl : ∀ i, i ≤ n → asT so n T (o / 2 % 4) (o / 8 % 3) (o / 24) i ≤ i ∧ thT so (o / 2 % 4) i ≤ i := fun i hi => by
    have q1 := sumN_le (f := fun i => tB (so i = o / 2 % 4 ∧ atT so n T i (o / 8 % 3) (o / 24))) (b := 1) (n := i) (fun _ _ => tB_le)
    have q2 := sumN_le (f := fun i => if so i = o / 2 % 4 then 1 else 0) (b := 1) (n := i) (fun j _ => by split <;> omega)
    unfold asT thT
    omega
  have key : ∀ e : Nat, e = o % 2 → Run k3_isEnd (Call (d + 3)) Q 14 [some (sR 13 0), some (sI (nI o)), some (sR 8 t), some (sI (nI e)), some (sI 0), some (sI 0), some (sI 0)] [] μ := by
    intro e he
    refine loopF (cd := k3_isEnd) (d := d + 3) (Q := Q) n (fun i j => [some (sR 13 0), some (sI (nI o)), some (sR 8 t), some (sI (nI e)), some (sI (nI (thT so (o / 2 % 4) i))), some (sI (nI (asT so n T (o / 2 % 4) (o / 8 % 3) (o / 24) i))), some (sI j)]) (fun _ => μ) 14 ?_ (fun i hi kk => ?_)
    · have hl := hl n (Nat.le_refl n)
      generalize asT so n T (o / 2 % 4) (o / 8 % 3) (o / 24) n = A at hl h1 h2 ⊢
      generalize thT so (o / 2 % 4) n = B at hl h1 h2 ⊢
      refine run_go 30 ?_
      refine c8_size hS ?_
      refine brT (by simp (disch := first | omega | (simp (disch := omega) only [nI_toInt, Int32.reduceToInt, i_sub, i_add, i_mul]; omega)) only [iNONE, i_lt, i_le, i_eq, i_in, nI_toInt, Int32.reduceToInt, i_sub, i_add, i_mul]; omega) ?_
      by_cases e1 : A = 0
      · refine brT (by simp (disch := first | omega | (simp (disch := omega) only [nI_toInt, Int32.reduceToInt, i_sub, i_add, i_mul]; omega)) only [iNONE, i_lt, i_le, i_eq, i_in, nI_toInt, Int32.reduceToInt, i_sub, i_add, i_mul]; omega) ?_
        exact ⟨Or.inl rfl, h2 (fun z => by omega)⟩
      · refine brF (by simp (disch := first | omega | (simp (disch := omega) only [nI_toInt, Int32.reduceToInt, i_sub, i_add, i_mul]; omega)) only [iNONE, i_lt, i_le, i_eq, i_in, nI_toInt, Int32.reduceToInt, i_sub, i_add, i_mul]; omega) ?_
        by_cases e2 : e = 0
        · refine brT (by simp (disch := first | omega | (simp (disch := omega) only [nI_toInt, Int32.reduceToInt, i_sub, i_add, i_mul]; omega)) only [iNONE, i_lt, i_le, i_eq, i_in, nI_toInt, Int32.reduceToInt, i_sub, i_add, i_mul]; omega) ?_
          exact ⟨Or.inr rfl, h1 ⟨by omega, fun z => by omega⟩⟩
        · refine brF (by simp (disch := first | omega | (simp (disch := omega) only [nI_toInt, Int32.reduceToInt, i_sub, i_add, i_mul]; omega)) only [iNONE, i_lt, i_le, i_eq, i_in, nI_toInt, Int32.reduceToInt, i_sub, i_add, i_mul]; omega) ?_
          by_cases e3 : A = B
          · refine brnT (by rw [e3]) ?_
            exact ⟨Or.inr rfl, h1 ⟨by omega, fun _ => e3⟩⟩
          · refine brnF (by simp (disch := first | omega | (simp (disch := omega) only [nI_toInt, Int32.reduceToInt, i_sub, i_add, i_mul]; omega)) only [iNONE, i_lt, i_le, i_eq, i_in, nI_toInt, Int32.reduceToInt, i_sub, i_add, i_mul]; omega) ?_
            exact ⟨Or.inl rfl, h2 (fun z => e3 (z.2 (by omega)))⟩
    · have hs := hS.2.2 i hi
      have eA : asT so n T (o / 2 % 4) (o / 8 % 3) (o / 24) (i + 1) = asT so n T (o / 2 % 4) (o / 8 % 3) (o / 24) i + tB (so i = o / 2 % 4 ∧ atT so n T i (o / 8 % 3) (o / 24)) := rfl
      have eB : thT so (o / 2 % 4) (i + 1) = thT so (o / 2 % 4) i + if so i = o / 2 % 4 then 1 else 0 := rfl
      rw [eA, eB] at kk
      refine run_go 5 ?_
      refine c8_size hS ?_
      refine brF (by simp (disch := first | omega | (simp (disch := omega) only [nI_toInt, Int32.reduceToInt, i_sub, i_add, i_mul]; omega)) only [iNONE, i_lt, i_le, i_eq, i_in, nI_toInt, Int32.reduceToInt, i_sub, i_add, i_mul]; omega) ?_
      refine run_go 7 ?_
      refine c8_sortOf rfl hS hi ?_
      refine c3_movedSort rfl ho ?_
      by_cases e2 : so i = o / 2 % 4
      · refine brnT (by rw [e2]) ?_
        rw [if_pos e2, ← nI_1] at kk
        refine run_go 10 ?_
        refine c3_relOf rfl ho ?_
        refine c3_otherSort rfl ho ?_
        refine c9_isAsTold rfl rfl rfl hw hS hT hi hr hb (fun e3 => ?_) (fun e3 => ?_)
        · refine brF (by decide) ?_
          rw [tB_t ⟨e2, e3⟩, ← nI_1] at kk
          refine run_go 6 ?_
          exact kk
        · refine brT rfl ?_
          rw [tB_f (fun z => e3 z.2), ← nI_add] at kk
          refine run_go 5 ?_
          exact kk
      · refine brnF (fun z => e2 ((nI_eq (by omega) (by omega)).mp z)) ?_
        rw [if_neg e2, tB_f (fun z => e2 z.1)] at kk
        refine run_go 2 ?_
        exact kk
  refine call_go (cd := k3_isEnd) 9 rfl rfl ?_
  refine c3_isEach rfl ho (fun e => ?_) (fun e => ?_)
  · exact key 1 (by omega)
  · exact key 0 (by omega)
theorem c3_canEndBy (hx : x = nI o) (hy : y = nI k) (ho : o < 96) (hS : stkC μ n so wt) (hk : k < n) (h1 : ceT so o k → Q 1 0 (0, 0) μ) (h2 : ¬ ceT so o k → Q 0 0 (0, 0) μ) : Call (d + 2) n3_canEndBy [sR 13 0, sI x, sI y] μ Q := by
  subst hx; subst hy
  have hn := hS.2.1
  have hs := hS.2.2 k hk
  unfold ceT at h1 h2
  have ha : o / 2 % 4 < 4 := Nat.mod_lt _ (by decide)
  have hr : o / 8 % 3 < 3 := Nat.mod_lt _ (by decide)
  have hb : o / 24 < 4 := by omega
  refine call_go (cd := k3_canEndBy) 60 rfl rfl ?_
  refine c8_sortOf rfl hS hk ?_
  refine c3_movedSort rfl ho ?_
  by_cases e1 : so k = o / 2 % 4
  · refine brT (by rw [e1]) ?_
    exact ⟨Or.inr rfl, h1 (Or.inl e1)⟩
  · refine brF (fun z => e1 ((nI_eq (by omega) (by omega)).mp z)) ?_
    refine c3_relOf rfl ho ?_
    by_cases e2 : o / 8 % 3 = 2
    · refine brnT (by rw [e2]; rfl) ?_
      refine c3_otherSort rfl ho ?_
      by_cases e3 : so k = o / 24
      · refine brnT (by rw [e3]) ?_
        exact ⟨Or.inr rfl, h1 (Or.inr ⟨e2, e3⟩)⟩
      · refine brnF (fun z => e3 ((nI_eq (by omega) (by omega)).mp z)) ?_
        exact ⟨Or.inl rfl, h2 (fun z => by omega)⟩
    · refine brnF (by
        intro z
        exact e2 ((nI_eq (a := o / 8 % 3) (b := 2) (by omega) (by omega)).mp z)) ?_
      exact ⟨Or.inl rfl, h2 (fun z => by omega)⟩
end CO
