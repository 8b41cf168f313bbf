/-! orders: the first that has a property (99: none) -/
noncomputable def fstN (P : Nat → Prop) : Nat → Nat
  | 0 => 99
  | n + 1 => if fstN P n = 99 then @ite Nat (P n) (Classical.propDecidable _) n 99 else fstN P n
theorem fstN_no {P : Nat → Prop} : ∀ {n : Nat}, (∀ a, a < n → ¬ P a) → fstN P n = 99
  | 0, _ => rfl
  | n + 1, h => by
    have h1 := fstN_no (n := n) (fun a ha => h a (by omega))
    show (if fstN P n = 99 then @ite Nat (P n) (Classical.propDecidable _) n 99 else fstN P n) = 99
    rw [if_pos h1, if_neg (h n (by omega))]
theorem fstN_is {P : Nat → Prop} {v : Nat} (hv : P v) (hl : ∀ a, a < v → ¬ P a) : ∀ {n : Nat}, v < n → n ≤ 99 → fstN P n = v
  | 0, h, _ => absurd h (Nat.not_lt_zero _)
  | n + 1, h, hn => by
    show (if fstN P n = 99 then @ite Nat (P n) (Classical.propDecidable _) n 99 else fstN P n) = v
    by_cases e : v = n
    · subst e
      rw [if_pos (fstN_no hl), if_pos hv]
    · have h1 := fstN_is hv hl (n := n) (by omega) (by omega)
      rw [if_neg (by omega)]; exact h1
theorem fstN_sp {P : Nat → Prop} : ∀ {n : Nat}, n ≤ 99 → (fstN P n = 99 ∧ ∀ a, a < n → ¬ P a) ∨ (fstN P n < n ∧ P (fstN P n) ∧ ∀ a, a < fstN P n → ¬ P a)
  | 0, _ => Or.inl ⟨rfl, fun a h => absurd h (Nat.not_lt_zero a)⟩
  | n + 1, hn => by
    rcases fstN_sp (P := P) (n := n) (by omega) with h | h
    · by_cases e : P n
      · have := fstN_is e h.2 (n := n + 1) (by omega) hn
        rw [this]
        exact Or.inr ⟨by omega, e, h.2⟩
      · refine Or.inl ?_
        have g : ∀ a, a < n + 1 → ¬ P a := fun a ha => by
          by_cases e2 : a = n
          · subst e2; exact e
          · exact h.2 a (by omega)
        exact ⟨fstN_no g, g⟩
    · have := fstN_is h.2.1 h.2.2 (n := n + 1) (by omega) hn
      rw [this]
      exact Or.inr ⟨by omega, h.2⟩
noncomputable def onT (so : Nat → Nat) (n : Nat) (T : tT) (k b : Nat) : Nat := if fstN (fun o => o ≠ k ∧ so o = b ∧ clT' T o) n = 99 then 99 else zC T (fstN (fun o => o ≠ k ∧ so o = b ∧ clT' T o) n)
noncomputable def inT (so : Nat → Nat) (n : Nat) (T : tT) (b : Nat) : Nat := if fstN (fun o => b = 2 ∧ so o = 2 ∧ clT' T o ∧ zN T o = 9) n = 99 then 99 else 8 + fstN (fun o => b = 2 ∧ so o = 2 ∧ clT' T o ∧ zN T o = 9) n
noncomputable def bsT (so : Nat → Nat) (n : Nat) (T : tT) (k b : Nat) : Nat := if fstN (fun o => o ≠ k ∧ so o = b ∧ zB T o = 9) n = 99 then 99 else fstN (fun c => nb c (zC T (fstN (fun o => o ≠ k ∧ so o = b ∧ zB T o = 9) n)) = true ∧ zS T c = 0) 8
noncomputable def wtT (so : Nat → Nat) (n : Nat) (T : tT) (k r b : Nat) : Nat := if r = 0 then onT so n T k b else if r = 1 then inT so n T b else bsT so n T k b
def p9 (x : Nat) : Int32 := if x = 99 then nONE else nI x
theorem p9_n {x : Nat} (h : x ≠ 99) : p9 x = nI x := if_neg h
section CO
variable {d t n k c s a b r u o : Nat} {μ : sM} {Q : sQ} {so wt : Nat → Nat} {T : tT} {x y z : Int32}
theorem or_a : ∀ o, o < 96 → nI o / 2 - nI o / 2 / 4 * 4 = nI (o / 2 % 4) ∧ nI o / 8 - nI o / 8 / 3 * 3 = nI (o / 8 % 3) ∧ nI o / 24 = nI (o / 24) ∧ (nI o - nI o / 2 * 2 = 1 ↔ o % 2 = 1) := by decide +kernel
theorem c3_isEach (hx : x = nI o) (ho : o < 96) (h1 : o % 2 = 1 → Q 1 0 (0, 0) μ) (h2 : ¬ o % 2 = 1 → Q 0 0 (0, 0) μ) : Call (d + 1) n3_isEach [sI x] μ Q := by
  subst hx
  refine call_go (cd := k3_isEach) 20 rfl rfl ?_
  refine And.intro (by decide) ?_
  refine And.intro (fun c1 => ?_) (fun c1 => ?_)
  · exact ⟨Or.inl rfl, h2 (fun z => c1 ((or_a o ho).2.2.2.mpr z))⟩
  · exact ⟨Or.inr rfl, h1 ((or_a o ho).2.2.2.mp c1)⟩
theorem c3_movedSort (hx : x = nI o) (ho : o < 96) (h : Q (nI (o / 2 % 4)) 0 (0, 0) μ) : Call (d + 1) n3_movedSort [sI x] μ Q := by
  subst hx
  refine call_go (cd := k3_movedSort) 20 rfl rfl ?_
  refine And.intro (by decide) ?_
  refine And.intro (by decide) ?_
  rw [← (or_a o ho).1] at h
  exact h
theorem c3_relOf (hx : x = nI o) (ho : o < 96) (h : Q (nI (o / 8 % 3)) 0 (0, 0) μ) : Call (d + 1) n3_relOf [sI x] μ Q := by
  subst hx
  refine call_go (cd := k3_relOf) 20 rfl rfl ?_
  refine And.intro (by decide) ?_
  refine And.intro (by decide) ?_
  rw [← (or_a o ho).2.1] at h
  exact h
theorem c3_otherSort (hx : x = nI o) (ho : o < 96) (h : Q (nI (o / 24)) 0 (0, 0) μ) : Call (d + 1) n3_otherSort [sI x] μ Q := by
  subst hx
  refine call_go (cd := k3_otherSort) 20 rfl rfl ?_
  refine And.intro (by decide) ?_
  rw [← (or_a o ho).2.2.1] at h
  exact h
theorem c3_spotOn (hx : x = nI k) (hy : y = nI b) (hw : wfT so n T) (hS : stkC μ n so wt) (hT : tabC μ t n T) (hk : k < n) (hb : b < 4) (h : Q (p9 (onT so n T k b)) 0 (0, 0) μ) : Call (d + 3) n3_spotOn [sR 13 0, sR 8 t, sI x, sI y] μ Q := by
  subst hx; subst hy
  have hn := hS.2.1
  refine call_go (cd := k3_spotOn) 2 rfl rfl ?_
  refine loopS (cd := k3_spotOn) (d := d + 2) (Q := Q) n (fun o => o ≠ k ∧ so o = b ∧ clT' T o) (fun j => [some (sR 13 0), some (sR 8 t), some (sI (nI k)), some (sI (nI b)), some (sI j)]) μ 3 (fun hp => ?_) (fun i hi hp kk => ?_)
  · refine run_go 5 ?_
    refine c8_size hS ?_
    refine brT (by simp (disch := first | omega | (simp (disch := omega) only [nI_toInt, Int32.reduceToInt, i_sub, i_add, i_mul]; omega)) only [iNONE, i_lt, i_le, i_eq, i_in, nI_toInt, Int32.reduceToInt, i_sub, i_add, i_mul]; omega) ?_
    refine run_go 2 ?_
    have e : onT so n T k b = 99 := if_pos (fstN_no hp)
    rw [e] at h
    exact h
  · have h6 := hS.2.2 i hi
    refine run_go 5 ?_
    refine c8_size hS ?_
    refine brF (by simp (disch := first | omega | (simp (disch := omega) only [nI_toInt, Int32.reduceToInt, i_sub, i_add, i_mul]; omega)) only [iNONE, i_lt, i_le, i_eq, i_in, nI_toInt, Int32.reduceToInt, i_sub, i_add, i_mul]; omega) ?_
    refine run_go 3 ?_
    by_cases e1 : i = k
    · refine brT (by rw [e1]) ?_
      refine run_go 2 ?_
      exact kk (fun z => z.1 e1)
    · refine brF (by simp (disch := first | omega | (simp (disch := omega) only [nI_toInt, Int32.reduceToInt, i_sub, i_add, i_mul]; omega)) only [iNONE, i_lt, i_le, i_eq, i_in, nI_toInt, Int32.reduceToInt, i_sub, i_add, i_mul]; omega) ?_
      refine run_go 6 ?_
      refine c8_sortOf rfl hS hi ?_
      by_cases e2 : so i = b
      · refine brnT (by simp (disch := first | omega | (simp (disch := omega) only [nI_toInt, Int32.reduceToInt, i_sub, i_add, i_mul]; omega)) only [iNONE, i_lt, i_le, i_eq, i_in, nI_toInt, Int32.reduceToInt, i_sub, i_add, i_mul]; omega) ?_
        refine run_go 4 ?_
        refine c9_isClear rfl hw hn hT hi (fun e3 => ?_) (fun e3 => ?_)
        · refine brF (by decide) ?_
          refine run_go 4 ?_
          refine c9_spotOf rfl (by omega) ?_
          have e4 := fstN_is (P := fun o => o ≠ k ∧ so o = b ∧ clT' T o) ⟨e1, e2, e3⟩ hp hi (by omega)
          have h7 := (wf_spot hw hn hi).2.2.2 e3.1
          have e5 : onT so n T k b = zC T i := by
            unfold onT
            rw [e4, if_neg (by omega)]
          rw [e5, p9_n (by omega), ← h7.1, ← (hT.1 i hi).1] at h
          exact h
        · refine brT rfl ?_
          refine run_go 2 ?_
          exact kk (fun z => e3 z.2.2)
      · refine brnF (by simp (disch := first | omega | (simp (disch := omega) only [nI_toInt, Int32.reduceToInt, i_sub, i_add, i_mul]; omega)) only [iNONE, i_lt, i_le, i_eq, i_in, nI_toInt, Int32.reduceToInt, i_sub, i_add, i_mul]; omega) ?_
        refine run_go 2 ?_
        exact kk (fun z => e2 z.2.1)
theorem c3_spotIn (hy : y = nI b) (hw : wfT so n T) (hS : stkC μ n so wt) (hT : tabC μ t n T) (hb : b < 4) (h : Q (p9 (inT so n T b)) 0 (0, 0) μ) : Call (d + 3) n3_spotIn [sR 13 0, sR 8 t, sI y] μ Q := by
  subst hy
  have hn := hS.2.1
  refine call_go (cd := k3_spotIn) 2 rfl rfl ?_
  refine loopS (cd := k3_spotIn) (d := d + 2) (Q := Q) n (fun o => b = 2 ∧ so o = 2 ∧ clT' T o ∧ zN T o = 9) (fun j => [some (sR 13 0), some (sR 8 t), some (sI (nI b)), some (sI j)]) μ 2 (fun hp => ?_) (fun i hi hp kk => ?_)
  · have e : inT so n T b = 99 := if_pos (fstN_no hp)
    rw [e] at h
    refine run_go 3 ?_
    by_cases e1 : b = 2
    · refine brnT (by simp (disch := first | omega | (simp (disch := omega) only [nI_toInt, Int32.reduceToInt, i_sub, i_add, i_mul]; omega)) only [iNONE, i_lt, i_le, i_eq, i_in, nI_toInt, Int32.reduceToInt, i_sub, i_add, i_mul]; omega) ?_
      refine run_go 5 ?_
      refine c8_size hS ?_
      refine brT (by simp (disch := first | omega | (simp (disch := omega) only [nI_toInt, Int32.reduceToInt, i_sub, i_add, i_mul]; omega)) only [iNONE, i_lt, i_le, i_eq, i_in, nI_toInt, Int32.reduceToInt, i_sub, i_add, i_mul]; omega) ?_
      refine run_go 2 ?_
      exact h
    · refine brnF (by simp (disch := first | omega | (simp (disch := omega) only [nI_toInt, Int32.reduceToInt, i_sub, i_add, i_mul]; omega)) only [iNONE, i_lt, i_le, i_eq, i_in, nI_toInt, Int32.reduceToInt, i_sub, i_add, i_mul]; omega) ?_
      refine run_go 2 ?_
      exact h
  · refine run_go 3 ?_
    by_cases e1 : b = 2
    · refine brnT (by simp (disch := first | omega | (simp (disch := omega) only [nI_toInt, Int32.reduceToInt, i_sub, i_add, i_mul]; omega)) only [iNONE, i_lt, i_le, i_eq, i_in, nI_toInt, Int32.reduceToInt, i_sub, i_add, i_mul]; omega) ?_
      refine run_go 5 ?_
      refine c8_size hS ?_
      refine brF (by simp (disch := first | omega | (simp (disch := omega) only [nI_toInt, Int32.reduceToInt, i_sub, i_add, i_mul]; omega)) only [iNONE, i_lt, i_le, i_eq, i_in, nI_toInt, Int32.reduceToInt, i_sub, i_add, i_mul]; omega) ?_
      refine run_go 5 ?_
      refine c8_isBox rfl hS (by omega) (fun e2 => ?_) (fun e2 => ?_)
      · refine brF (by decide) ?_
        refine run_go 4 ?_
        refine c9_isClear rfl hw hn hT hi (fun e3 => ?_) (fun e3 => ?_)
        · refine brF (by decide) ?_
          refine run_go 5 ?_
          refine c9_insideOf rfl (by omega) ?_
          rw [hT.2.2.1 _ (by omega)]
          have h7 : zN T i = 9 ∨ zN T i < n := by
            by_cases e : zN T i = 9
            · exact Or.inl e
            · exact Or.inr (hw.2.2.2.1 _ hi e).1
          by_cases e6 : zN T i = 9
          · refine brnT (by rw [e6]; rfl) ?_
            refine run_go 4 ?_
            have e4 := fstN_is (P := fun o => b = 2 ∧ so o = 2 ∧ clT' T o ∧ zN T o = 9) ⟨e1, e2.2, e3, e6⟩ hp hi (by omega)
            have e5 : inT so n T b = 8 + i := by
              unfold inT
              rw [e4, if_neg (by omega)]
            rw [e5, p9_n (by omega), ← nI_add] at h
            exact h
          · refine brnF (by rw [show (-1000000 : Int32) = nONE from rfl, o9_none (by omega)]; exact e6) ?_
            refine run_go 2 ?_
            exact kk (fun z => e6 z.2.2.2)
        · refine brT rfl ?_
          refine run_go 2 ?_
          exact kk (fun z => e3 z.2.2.1)
      · refine brT rfl ?_
        refine run_go 2 ?_
        exact kk (fun z => e2 ⟨hi, z.2.1⟩)
    · refine brnF (by simp (disch := first | omega | (simp (disch := omega) only [nI_toInt, Int32.reduceToInt, i_sub, i_add, i_mul]; omega)) only [iNONE, i_lt, i_le, i_eq, i_in, nI_toInt, Int32.reduceToInt, i_sub, i_add, i_mul]; omega) ?_
      refine run_go 2 ?_
      have e : inT so n T b = 99 := if_pos (fstN_no (fun a _ z => e1 z.1))
      rw [e] at h
      exact h
end CO
