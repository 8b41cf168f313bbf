/-! counts on a table -/
def hpT (so : Nat → Nat) (n : Nat) (T : tT) (c s : Nat) : Prop := ∃ o, o < n ∧ zB T o = 9 ∧ zC T o = c ∧ so o = s
def ldT (wt : Nat → Nat) (T : tT) (c n : Nat) : Nat := sumN (fun o => if ccT T o = c then wt o else 0) n
noncomputable def cnC (T : tT) (n : Nat) : Nat := sumN (fun o => tB (clT' T o)) n
noncomputable def cnS (so : Nat → Nat) (m : Nat) (T : tT) (n : Nat) : Nat := sumN (fun o => tB (shT so m T o)) n
section CT
variable {d t n k c s a b r : Nat} {μ : sM} {Q : sQ} {so wt : Nat → Nat} {T : tT} {x y z : Int32}
theorem c9_hasInPile (hx : x = nI c) (hy : y = nI s) (hw : wfT so n T) (hS : stkC μ n so wt) (hT : tabC μ t n T) (hc : c < 8) (hs : s < 4) (h1 : hpT so n T c s → Q 1 0 (0, 0) μ) (h2 : ¬ hpT so n T c s → Q 0 0 (0, 0) μ) : Call (d + 2) n9_hasInPile [sR 8 t, sI x, sI y] μ Q := by
  subst hx; subst hy
  have hn := hS.2.1
  refine call_go (cd := k9_hasInPile) 2 rfl rfl ?_
  refine loopS (cd := k9_hasInPile) (d := d + 1) (Q := Q) n (fun o => zB T o = 9 ∧ zC T o = c ∧ so o = s) (fun j => [some (sR 8 t), some (sI (nI c)), some (sI (nI s)), some (sI j)]) μ 2 (fun hp => ?_) (fun i hi hp kk => ?_)
  · refine run_go 5 ?_
    refine c8_size hS ?_
    refine brT (by simp (disch := first | omega | (simp (disch := omega) only [nI_toInt, Int32.reduceToInt, i_sub, i_add, i_mul]; omega)) only [iNONE, i_lt, i_le, i_eq, i_in, nI_toInt, Int32.reduceToInt, i_sub, i_add, i_mul]; omega) ?_
    refine run_go 2 ?_
    exact ⟨Or.inl rfl, h2 (fun ⟨o, h3, h4⟩ => hp o h3 h4)⟩
  · have h5 := wf_spot hw hn hi
    have h6 := hS.2.2 i hi
    refine run_go 5 ?_
    refine c8_size hS ?_
    refine brF (by simp (disch := first | omega | (simp (disch := omega) only [nI_toInt, Int32.reduceToInt, i_sub, i_add, i_mul]; omega)) only [iNONE, i_lt, i_le, i_eq, i_in, nI_toInt, Int32.reduceToInt, i_sub, i_add, i_mul]; omega) ?_
    refine run_go 5 ?_
    refine c9_spotOf rfl (by omega) ?_
    rw [(hT.1 i hi).1]
    by_cases e1 : zB T i = 9 ∧ zC T i = c
    · have h7 := h5.2.2.2 e1.1
      refine brnT (by rw [h7.1, e1.2]) ?_
      refine run_go 6 ?_
      refine c8_sortOf rfl hS hi ?_
      by_cases e2 : so i = s
      · refine brnT (by simp (disch := first | omega | (simp (disch := omega) only [nI_toInt, Int32.reduceToInt, i_sub, i_add, i_mul]; omega)) only [iNONE, i_lt, i_le, i_eq, i_in, nI_toInt, Int32.reduceToInt, i_sub, i_add, i_mul]; omega) ?_
        refine run_go 2 ?_
        exact ⟨Or.inr rfl, h1 ⟨i, hi, e1.1, e1.2, e2⟩⟩
      · refine brnF (by simp (disch := first | omega | (simp (disch := omega) only [nI_toInt, Int32.reduceToInt, i_sub, i_add, i_mul]; omega)) only [iNONE, i_lt, i_le, i_eq, i_in, nI_toInt, Int32.reduceToInt, i_sub, i_add, i_mul]; omega) ?_
        refine run_go 2 ?_
        exact kk (fun z => e2 z.2.2)
    · refine brnF ?_ ?_
      · by_cases e2 : zB T i = 9
        · have h7 := h5.2.2.2 e2
          rw [h7.1]
          exact fun z => e1 ⟨e2, (nI_eq (by omega) (by omega)).mp z⟩
        · have h7 := h5.2.2.1 e2
          simp (disch := first | omega | (simp (disch := omega) only [nI_toInt, Int32.reduceToInt, i_sub, i_add, i_mul]; omega)) only [iNONE, i_lt, i_le, i_eq, i_in, nI_toInt, Int32.reduceToInt, i_sub, i_add, i_mul] at ⊢
          omega
      · refine run_go 2 ?_
        exact kk (fun z => e1 ⟨z.1, z.2.1⟩)
theorem wf_cc (hw : wfT so n T) (hk : k < n) : ccT T k < 8 := by
  unfold ccT
  by_cases e : zB T k = 9
  · rw [if_pos e]; exact (wf_cell hw hk e).1
  · have h := hw.2.2.1 k hk e
    rw [if_neg e]; exact (wf_cell hw h.1 h.2.1).1
theorem c9_loadOn (hx : x = nI c) (hw : wfT so n T) (hS : stkC μ n so wt) (hT : tabC μ t n T) (hc : c < 8) (h : Q (nI (ldT wt T c n)) 0 (0, 0) μ) : Call (d + 4) n9_loadOn [sR 8 t, sI x] μ Q := by
  subst hx
  have hn := hS.2.1
  refine call_go (cd := k9_loadOn) 4 rfl rfl ?_
  refine loopF (cd := k9_loadOn) (d := d + 3) (Q := Q) n (fun i j => [some (sR 8 t), some (sI (nI c)), some (sI (nI (ldT wt T c i))), some (sI j)]) (fun _ => μ) 4 ?_ (fun i hi kk => ?_)
  · refine run_go 5 ?_
    refine c8_size hS ?_
    refine brT (by simp (disch := first | omega | (simp (disch := omega) only [nI_toInt, Int32.reduceToInt, i_sub, i_add, i_mul]; omega)) only [iNONE, i_lt, i_le, i_eq, i_in, nI_toInt, Int32.reduceToInt, i_sub, i_add, i_mul]; omega) ?_
    refine run_go 2 ?_
    exact h
  · refine run_go 5 ?_
    refine c8_size hS ?_
    refine brF (by simp (disch := first | omega | (simp (disch := omega) only [nI_toInt, Int32.reduceToInt, i_sub, i_add, i_mul]; omega)) only [iNONE, i_lt, i_le, i_eq, i_in, nI_toInt, Int32.reduceToInt, i_sub, i_add, i_mul]; omega) ?_
    refine run_go 5 ?_
    refine c9_cellOf rfl hw hn hT hi ?_
    have h1 := wf_cc hw hi
    by_cases e : ccT T i = c
    · have e2 : ldT wt T c (i + 1) = ldT wt T c i + wt i := by
        show ldT wt T c i + (if ccT T i = c then wt i else 0) = _
        rw [if_pos e]
      rw [e2, ← nI_add] at kk
      refine brnT (by rw [e]) ?_
      refine run_go 9 ?_
      refine c8_weightOf rfl hS hi ?_
      exact kk
    · have e2 : ldT wt T c (i + 1) = ldT wt T c i := by
        show ldT wt T c i + (if ccT T i = c then wt i else 0) = _
        rw [if_neg e]; rfl
      rw [e2] at kk
      refine brnF (fun z => e ((nI_eq (by omega) (by omega)).mp z)) ?_
      refine run_go 2 ?_
      exact kk
theorem c9_clearThings (hw : wfT so n T) (hS : stkC μ n so wt) (hT : tabC μ t n T) (h : Q (nI (cnC T n)) 0 (0, 0) μ) : Call (d + 3) n9_clearThings [sR 8 t] μ Q := by
  have hn := hS.2.1
  refine call_go (cd := k9_clearThings) 4 rfl rfl ?_
  refine loopF (cd := k9_clearThings) (d := d + 2) (Q := Q) n (fun i j => [some (sR 8 t), some (sI (nI (cnC T i))), some (sI j)]) (fun _ => μ) 4 ?_ (fun i hi kk => ?_)
  · refine run_go 5 ?_
    refine c8_size hS ?_
    refine brT (by simp (disch := first | omega | (simp (disch := omega) only [nI_toInt, Int32.reduceToInt, i_sub, i_add, i_mul]; omega)) only [iNONE, i_lt, i_le, i_eq, i_in, nI_toInt, Int32.reduceToInt, i_sub, i_add, i_mul]; omega) ?_
    refine run_go 2 ?_
    exact h
  · refine run_go 5 ?_
    refine c8_size hS ?_
    refine brF (by simp (disch := first | omega | (simp (disch := omega) only [nI_toInt, Int32.reduceToInt, i_sub, i_add, i_mul]; omega)) only [iNONE, i_lt, i_le, i_eq, i_in, nI_toInt, Int32.reduceToInt, i_sub, i_add, i_mul]; omega) ?_
    refine run_go 4 ?_
    refine c9_isClear rfl hw hn hT hi (fun e => ?_) (fun e => ?_)
    · have e2 : cnC T (i + 1) = cnC T i + 1 := by
        show cnC T i + tB (clT' T i) = _
        rw [tB_t e]
      rw [e2, ← nI_1] at kk
      refine brF (by decide) ?_
      refine run_go 3 ?_
      exact kk
    · have e2 : cnC T (i + 1) = cnC T i := by
        show cnC T i + tB (clT' T i) = _
        rw [tB_f e]; rfl
      rw [e2] at kk
      refine brT rfl ?_
      refine run_go 2 ?_
      exact kk
theorem c9_shutBoxes (hw : wfT so n T) (hS : stkC μ n so wt) (hT : tabC μ t n T) (h : Q (nI (cnS so n T n)) 0 (0, 0) μ) : Call (d + 4) n9_shutBoxes [sR 8 t] μ Q := by
  have hn := hS.2.1
  refine call_go (cd := k9_shutBoxes) 4 rfl rfl ?_
  refine loopF (cd := k9_shutBoxes) (d := d + 3) (Q := Q) n (fun i j => [some (sR 8 t), some (sI (nI (cnS so n T i))), some (sI j)]) (fun _ => μ) 4 ?_ (fun i hi kk => ?_)
  · refine run_go 5 ?_
    refine c8_size hS ?_
    refine brT (by simp (disch := first | omega | (simp (disch := omega) only [nI_toInt, Int32.reduceToInt, i_sub, i_add, i_mul]; omega)) only [iNONE, i_lt, i_le, i_eq, i_in, nI_toInt, Int32.reduceToInt, i_sub, i_add, i_mul]; omega) ?_
    refine run_go 2 ?_
    exact h
  · refine run_go 5 ?_
    refine c8_size hS ?_
    refine brF (by simp (disch := first | omega | (simp (disch := omega) only [nI_toInt, Int32.reduceToInt, i_sub, i_add, i_mul]; omega)) only [iNONE, i_lt, i_le, i_eq, i_in, nI_toInt, Int32.reduceToInt, i_sub, i_add, i_mul]; omega) ?_
    refine run_go 4 ?_
    refine c9_isShut rfl hw hS hT hi (fun e => ?_) (fun e => ?_)
    · have e2 : cnS so n T (i + 1) = cnS so n T i + 1 := by
        show cnS so n T i + tB (shT so n T i) = _
        rw [tB_t e]
      rw [e2, ← nI_1] at kk
      refine brF (by decide) ?_
      refine run_go 3 ?_
      exact kk
    · have e2 : cnS so n T (i + 1) = cnS so n T i := by
        show cnS so n T i + tB (shT so n T i) = _
        rw [tB_f e]; rfl
      rw [e2] at kk
      refine brT rfl ?_
      refine run_go 2 ?_
      exact kk
theorem c9_kindOf (hx : x = nI k) (hw : wfT so n T) (hS : stkC μ n so wt) (hT : tabC μ t n T) (hk : k < n) (h : Q (nI (kdT so n T k)) 0 (0, 0) μ) : Call (d + 4) n9_kindOf [sR 8 t, sI x] μ Q := by
  subst hx
  have hn := hS.2.1
  have hs := hS.2.2 k hk
  unfold kdT at h
  refine call_go (cd := k9_kindOf) 30 rfl rfl ?_
  refine c8_sortOf rfl hS hk ?_
  rcases (show so k = 0 ∨ so k = 1 ∨ so k = 2 ∨ so k = 3 by omega) with e | e | e | e
  · rw [e] at h ⊢
    refine brT (by decide) ?_
    exact h
  · rw [e] at h ⊢
    refine brF (by decide) ?_
    refine brT (by decide) ?_
    exact h
  · rw [e] at h ⊢
    refine brF (by decide) ?_
    refine brF (by decide) ?_
    refine brT (by decide) ?_
    refine c9_isShut rfl hw hS hT hk (fun e2 => ?_) (fun e2 => ?_)
    · refine brF (by decide) ?_
      rw [tB_t e2] at h
      exact h
    · refine brT rfl ?_
      rw [tB_f e2] at h
      exact h
  · rw [e] at h ⊢
    refine brF (by decide) ?_
    refine brF (by decide) ?_
    refine brF (by decide) ?_
    refine brT (by decide) ?_
    exact h
end CT
