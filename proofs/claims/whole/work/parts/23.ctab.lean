/-! the class's stock and tables: reading -/
def stkC (μ : sM) (n : Nat) (so wt : Nat → Nat) : Prop := μ.1 5 0 2 = nI n ∧ n ≤ 6 ∧ ∀ k, k < n → μ.1 6 0 k = nI (so k) ∧ μ.1 7 0 k = nI (wt k) ∧ so k < 4 ∧ wt k ≤ 20
section CT
variable {d t n k c : Nat} {μ : sM} {Q : sQ} {so wt : Nat → Nat} {T : tT} {x : Int32}
theorem c9_spotOf (hx : x = nI k) (hk : k < 6) (h : Q (μ.1 9 t k) 0 (0, 0) μ) : Call (d + 1) n9_spotOf [sR 8 t, sI x] μ Q := by
  subst hx
  refine call_go (cd := k9_spotOf) 20 rfl rfl ?_
  refine brF (by simp (disch := first | omega | (simp (disch := omega) only [nI_toInt, Int32.reduceToInt, i_sub, i_add, i_mul]; omega)) only [iNONE, i_lt, i_le, i_eq, i_in, nI_toInt, Int32.reduceToInt, i_sub, i_add, i_mul]; omega) ?_
  refine brF (by simp (disch := first | omega | (simp (disch := omega) only [nI_toInt, Int32.reduceToInt, i_sub, i_add, i_mul]; omega)) only [iNONE, i_lt, i_le, i_eq, i_in, nI_toInt, Int32.reduceToInt, i_sub, i_add, i_mul]; omega) ?_
  refine And.intro (by simp (disch := first | omega | (simp (disch := omega) only [nI_toInt, Int32.reduceToInt, i_sub, i_add, i_mul]; omega)) only [iNONE, i_lt, i_le, i_eq, i_in, nI_toInt, Int32.reduceToInt, i_sub, i_add, i_mul]; omega) ?_
  rw [nI_clamp (by omega)]
  exact h
theorem c9_spotOf_o (hx : x.toInt < 0 ∨ 6 ≤ x.toInt) (h : Q nONE 0 (0, 0) μ) : Call (d + 1) n9_spotOf [sR 8 t, sI x] μ Q := by
  refine call_go (cd := k9_spotOf) 20 rfl rfl ?_
  refine And.intro (fun _ => h) (fun c1 => ?_)
  refine brT (by simp only [i_lt, i_le, Int32.reduceToInt] at c1 ⊢; omega) ?_
  exact h
theorem c9_belowOf (hx : x = nI k) (hk : k < 6) (h : Q (μ.1 10 t k) 0 (0, 0) μ) : Call (d + 1) n9_belowOf [sR 8 t, sI x] μ Q := by
  subst hx
  refine call_go (cd := k9_belowOf) 20 rfl rfl ?_
  refine brF (by simp (disch := first | omega | (simp (disch := omega) only [nI_toInt, Int32.reduceToInt, i_sub, i_add, i_mul]; omega)) only [iNONE, i_lt, i_le, i_eq, i_in, nI_toInt, Int32.reduceToInt, i_sub, i_add, i_mul]; omega) ?_
  refine brF (by simp (disch := first | omega | (simp (disch := omega) only [nI_toInt, Int32.reduceToInt, i_sub, i_add, i_mul]; omega)) only [iNONE, i_lt, i_le, i_eq, i_in, nI_toInt, Int32.reduceToInt, i_sub, i_add, i_mul]; omega) ?_
  refine And.intro (by simp (disch := first | omega | (simp (disch := omega) only [nI_toInt, Int32.reduceToInt, i_sub, i_add, i_mul]; omega)) only [iNONE, i_lt, i_le, i_eq, i_in, nI_toInt, Int32.reduceToInt, i_sub, i_add, i_mul]; omega) ?_
  rw [nI_clamp (by omega)]
  exact h
theorem c9_insideOf (hx : x = nI k) (hk : k < 6) (h : Q (μ.1 11 t k) 0 (0, 0) μ) : Call (d + 1) n9_insideOf [sR 8 t, sI x] μ Q := by
  subst hx
  refine call_go (cd := k9_insideOf) 20 rfl rfl ?_
  refine brF (by simp (disch := first | omega | (simp (disch := omega) only [nI_toInt, Int32.reduceToInt, i_sub, i_add, i_mul]; omega)) only [iNONE, i_lt, i_le, i_eq, i_in, nI_toInt, Int32.reduceToInt, i_sub, i_add, i_mul]; omega) ?_
  refine brF (by simp (disch := first | omega | (simp (disch := omega) only [nI_toInt, Int32.reduceToInt, i_sub, i_add, i_mul]; omega)) only [iNONE, i_lt, i_le, i_eq, i_in, nI_toInt, Int32.reduceToInt, i_sub, i_add, i_mul]; omega) ?_
  refine And.intro (by simp (disch := first | omega | (simp (disch := omega) only [nI_toInt, Int32.reduceToInt, i_sub, i_add, i_mul]; omega)) only [iNONE, i_lt, i_le, i_eq, i_in, nI_toInt, Int32.reduceToInt, i_sub, i_add, i_mul]; omega) ?_
  rw [nI_clamp (by omega)]
  exact h
theorem c9_topOf (hx : x = nI k) (hk : k < 8) (h : Q (μ.1 12 t k) 0 (0, 0) μ) : Call (d + 1) n9_topOf [sR 8 t, sI x] μ Q := by
  subst hx
  refine call_go (cd := k9_topOf) 20 rfl rfl ?_
  refine brF (by simp (disch := first | omega | (simp (disch := omega) only [nI_toInt, Int32.reduceToInt, i_sub, i_add, i_mul]; omega)) only [iNONE, i_lt, i_le, i_eq, i_in, nI_toInt, Int32.reduceToInt, i_sub, i_add, i_mul]; omega) ?_
  refine brF (by simp (disch := first | omega | (simp (disch := omega) only [nI_toInt, Int32.reduceToInt, i_sub, i_add, i_mul]; omega)) only [iNONE, i_lt, i_le, i_eq, i_in, nI_toInt, Int32.reduceToInt, i_sub, i_add, i_mul]; omega) ?_
  refine And.intro (by simp (disch := first | omega | (simp (disch := omega) only [nI_toInt, Int32.reduceToInt, i_sub, i_add, i_mul]; omega)) only [iNONE, i_lt, i_le, i_eq, i_in, nI_toInt, Int32.reduceToInt, i_sub, i_add, i_mul]; omega) ?_
  rw [nI_clamp (by omega)]
  exact h
theorem c9_boxOf (hx : x = nI k) (hw : wfT so n T) (hn : n ≤ 6) (hT : tabC μ t n T) (hk : k < n) (h : Q (o9 (zB T k)) 0 (0, 0) μ) : Call (d + 2) n9_boxOf [sR 8 t, sI x] μ Q := by
  subst hx
  refine call_go (cd := k9_boxOf) 20 rfl rfl ?_
  refine c9_spotOf rfl (by omega) ?_
  rw [(hT.1 k hk).1]
  have hs := wf_spot hw hn hk
  by_cases e : zB T k = 9
  · have := hs.2.2.2 e
    refine brT (by simp (disch := first | omega | (simp (disch := omega) only [nI_toInt, Int32.reduceToInt, i_sub, i_add, i_mul]; omega)) only [iNONE, i_lt, i_le, i_eq, i_in, nI_toInt, Int32.reduceToInt, i_sub, i_add, i_mul]; omega) ?_
    rw [e] at h
    exact h
  · have := hs.2.2.1 e
    refine brF (by simp (disch := first | omega | (simp (disch := omega) only [nI_toInt, Int32.reduceToInt, i_sub, i_add, i_mul]; omega)) only [iNONE, i_lt, i_le, i_eq, i_in, nI_toInt, Int32.reduceToInt, i_sub, i_add, i_mul]; omega) ?_
    have e2 : nI (spT T k) - 8 = o9 (zB T k) := by
      rw [o9_n e, this.1]
      exact nI_sub (a := 8 + zB T k) (b := 8) (by omega) |>.trans (by rw [Nat.add_sub_cancel_left])
    rw [← e2] at h
    exact h
theorem c9_cellAt (hx : x = nI k) (hw : wfT so n T) (hn : n ≤ 6) (hT : tabC μ t n T) (hk : k < 8 ∨ 8 ≤ k ∧ k - 8 < n) (h : Q (nI (if k < 8 then k else spT T (k - 8))) 0 (0, 0) μ) : Call (d + 2) n9_cellAt [sR 8 t, sI x] μ Q := by
  subst hx
  refine call_go (cd := k9_cellAt) 20 rfl rfl ?_
  by_cases e : k < 8
  · refine brT (by simp (disch := first | omega | (simp (disch := omega) only [nI_toInt, Int32.reduceToInt, i_sub, i_add, i_mul]; omega)) only [iNONE, i_lt, i_le, i_eq, i_in, nI_toInt, Int32.reduceToInt, i_sub, i_add, i_mul]; omega) ?_
    rw [if_pos e] at h
    exact h
  · refine brF (by simp (disch := first | omega | (simp (disch := omega) only [nI_toInt, Int32.reduceToInt, i_sub, i_add, i_mul]; omega)) only [iNONE, i_lt, i_le, i_eq, i_in, nI_toInt, Int32.reduceToInt, i_sub, i_add, i_mul]; omega) ?_
    rw [if_neg e] at h
    have e2 : nI k - 8 = nI (k - 8) := nI_sub (a := k) (b := 8) (by omega)
    refine c9_spotOf e2 (by omega) ?_
    rw [(hT.1 _ (by omega)).1]
    exact h
theorem c9_isClear (hx : x = nI k) (hw : wfT so n T) (hn : n ≤ 6) (hT : tabC μ t n T) (hk : k < n) (h1 : clT' T k → Q 1 0 (0, 0) μ) (h2 : ¬ clT' T k → Q 0 0 (0, 0) μ) : Call (d + 2) n9_isClear [sR 8 t, sI x] μ Q := by
  subst hx
  refine call_go (cd := k9_isClear) 30 rfl rfl ?_
  refine c9_spotOf rfl (by omega) ?_
  rw [(hT.1 k hk).1]
  have hs := wf_spot hw hn hk
  refine brF (by simp (disch := first | omega | (simp (disch := omega) only [nI_toInt, Int32.reduceToInt, i_sub, i_add, i_mul]; omega)) only [iNONE, i_lt, i_le, i_eq, i_in, nI_toInt, Int32.reduceToInt, i_sub, i_add, i_mul]; omega) ?_
  by_cases e : zB T k = 9
  · have h3 := hs.2.2.2 e
    refine brF (by simp (disch := first | omega | (simp (disch := omega) only [nI_toInt, Int32.reduceToInt, i_sub, i_add, i_mul]; omega)) only [iNONE, i_lt, i_le, i_eq, i_in, nI_toInt, Int32.reduceToInt, i_sub, i_add, i_mul]; omega) ?_
    refine And.intro (by simp (disch := first | omega | (simp (disch := omega) only [nI_toInt, Int32.reduceToInt, i_sub, i_add, i_mul]; omega)) only [iNONE, i_lt, i_le, i_eq, i_in, nI_toInt, Int32.reduceToInt, i_sub, i_add, i_mul]; omega) ?_
    rw [nI_clamp (by omega), h3.1, hT.2.2.2 _ h3.2]
    have h4 := wf_clear hw hn hk e
    have h5 := wf_top hw h3.2
    by_cases e2 : tpT T (zC T k) = k
    · refine brnT (by rw [e2, o9_n (by omega)]) ?_
      exact ⟨Or.inr rfl, h1 ⟨e, h4.mp e2⟩⟩
    · refine brnF (by
        rw [← o9_n (x := k) (by omega), o9_inj (by omega) (by omega)]; exact e2) ?_
      exact ⟨Or.inl rfl, h2 (fun z => e2 (h4.mpr z.2))⟩
  · have := hs.2.2.1 e
    refine brT (by simp (disch := first | omega | (simp (disch := omega) only [nI_toInt, Int32.reduceToInt, i_sub, i_add, i_mul]; omega)) only [iNONE, i_lt, i_le, i_eq, i_in, nI_toInt, Int32.reduceToInt, i_sub, i_add, i_mul]; omega) ?_
    exact ⟨Or.inl rfl, h2 (fun z => e z.1)⟩
theorem c9_isFree (hx : x = nI k) (hw : wfT so n T) (hn : n ≤ 6) (hT : tabC μ t n T) (hk : k < n) (h1 : frT T k → Q 1 0 (0, 0) μ) (h2 : ¬ frT T k → Q 0 0 (0, 0) μ) : Call (d + 3) n9_isFree [sR 8 t, sI x] μ Q := by
  subst hx
  refine call_go (cd := k9_isFree) 30 rfl rfl ?_
  refine c9_boxOf rfl hw hn hT hk ?_
  unfold frT at h1 h2
  by_cases e : zB T k = 9
  · rw [if_pos e] at h1 h2
    refine brnT (by rw [e]; rfl) ?_
    refine c9_isClear rfl hw hn hT hk (fun z => ⟨Or.inr rfl, h1 z⟩) (fun z => ⟨Or.inl rfl, h2 z⟩)
  · rw [if_neg e] at h1 h2
    have h3 := hw.2.2.1 k hk e
    refine brnF (by rw [show (-1000000 : Int32) = nONE from rfl, o9_none (by omega)]; exact e) ?_
    rw [o9_n e]
    refine c9_isClear rfl hw hn hT h3.1 (fun z => ⟨Or.inr rfl, h1 z⟩) (fun z => ⟨Or.inl rfl, h2 z⟩)
theorem c9_cellOf (hx : x = nI k) (hw : wfT so n T) (hn : n ≤ 6) (hT : tabC μ t n T) (hk : k < n) (h : Q (nI (ccT T k)) 0 (0, 0) μ) : Call (d + 3) n9_cellOf [sR 8 t, sI x] μ Q := by
  subst hx
  refine call_go (cd := k9_cellOf) 30 rfl rfl ?_
  refine c9_spotOf (k := k) rfl (by omega) ?_
  rw [(hT.1 k hk).1]
  have hs := wf_spot hw hn hk
  have e : ccT T k = if spT T k < 8 then spT T k else spT T (spT T k - 8) := by
    unfold ccT
    by_cases e : zB T k = 9
    · have := hs.2.2.2 e
      rw [if_pos e, if_pos (by omega)]; exact this.1.symm
    · have h3 := hs.2.2.1 e
      have h4 := hw.2.2.1 k hk e
      rw [if_neg e, if_neg (by omega), h3.1, Nat.add_sub_cancel_left]
      unfold spT
      rw [if_pos h4.2.1]
  rw [e] at h
  refine c9_cellAt rfl hw hn hT ?_ h
  by_cases e : zB T k = 9
  · have := hs.2.2.2 e
    omega
  · have := hs.2.2.1 e
    omega
theorem c8_size (hS : stkC μ n so wt) (h : Q (nI n) 0 (0, 0) μ) : Call (d + 1) n8_size [sR 5 0] μ Q := by
  refine call_go (cd := k8_size) 20 rfl rfl ?_
  rw [← hS.1] at h
  exact h
theorem c8_sortOf (hx : x = nI k) (hS : stkC μ n so wt) (hk : k < n) (h : Q (nI (so k)) 0 (0, 0) μ) : Call (d + 1) n8_sortOf [sR 5 0, sI x] μ Q := by
  subst hx
  have hn := hS.2.1
  refine call_go (cd := k8_sortOf) 30 rfl rfl ?_
  refine brF (by simp (disch := first | omega | (simp (disch := omega) only [nI_toInt, Int32.reduceToInt, i_sub, i_add, i_mul]; omega)) only [iNONE, i_lt, i_le, i_eq, i_in, nI_toInt, Int32.reduceToInt, i_sub, i_add, i_mul]; omega) ?_
  refine brF (by simp (disch := first | omega | (simp (disch := omega) only [nI_toInt, Int32.reduceToInt, i_sub, i_add, i_mul]; omega)) only [hS.1, iNONE, i_lt, i_le, i_eq, i_in, nI_toInt, Int32.reduceToInt, i_sub, i_add, i_mul]; omega) ?_
  refine And.intro (by simp (disch := first | omega | (simp (disch := omega) only [nI_toInt, Int32.reduceToInt, i_sub, i_add, i_mul]; omega)) only [iNONE, i_lt, i_le, i_eq, i_in, nI_toInt, Int32.reduceToInt, i_sub, i_add, i_mul]; omega) ?_
  rw [nI_clamp (by omega), (hS.2.2 k hk).1]
  exact h
theorem c8_sortOf_o (hx : x = nI k) (hS : stkC μ n so wt) (hk : n ≤ k) (hk2 : k < 100) (h : Q nONE 0 (0, 0) μ) : Call (d + 1) n8_sortOf [sR 5 0, sI x] μ Q := by
  subst hx
  have hn := hS.2.1
  refine call_go (cd := k8_sortOf) 30 rfl rfl ?_
  refine brF (by simp (disch := first | omega | (simp (disch := omega) only [nI_toInt, Int32.reduceToInt, i_sub, i_add, i_mul]; omega)) only [iNONE, i_lt, i_le, i_eq, i_in, nI_toInt, Int32.reduceToInt, i_sub, i_add, i_mul]; omega) ?_
  refine brT (by simp (disch := first | omega | (simp (disch := omega) only [nI_toInt, Int32.reduceToInt, i_sub, i_add, i_mul]; omega)) only [hS.1, iNONE, i_lt, i_le, i_eq, i_in, nI_toInt, Int32.reduceToInt, i_sub, i_add, i_mul]; omega) ?_
  exact h
theorem c8_weightOf (hx : x = nI k) (hS : stkC μ n so wt) (hk : k < n) (h : Q (nI (wt k)) 0 (0, 0) μ) : Call (d + 1) n8_weightOf [sR 5 0, sI x] μ Q := by
  subst hx
  have hn := hS.2.1
  refine call_go (cd := k8_weightOf) 30 rfl rfl ?_
  refine brF (by simp (disch := first | omega | (simp (disch := omega) only [nI_toInt, Int32.reduceToInt, i_sub, i_add, i_mul]; omega)) only [iNONE, i_lt, i_le, i_eq, i_in, nI_toInt, Int32.reduceToInt, i_sub, i_add, i_mul]; omega) ?_
  refine brF (by simp (disch := first | omega | (simp (disch := omega) only [nI_toInt, Int32.reduceToInt, i_sub, i_add, i_mul]; omega)) only [hS.1, iNONE, i_lt, i_le, i_eq, i_in, nI_toInt, Int32.reduceToInt, i_sub, i_add, i_mul]; omega) ?_
  refine And.intro (by simp (disch := first | omega | (simp (disch := omega) only [nI_toInt, Int32.reduceToInt, i_sub, i_add, i_mul]; omega)) only [iNONE, i_lt, i_le, i_eq, i_in, nI_toInt, Int32.reduceToInt, i_sub, i_add, i_mul]; omega) ?_
  rw [nI_clamp (by omega), (hS.2.2 k hk).2.1]
  exact h
theorem c8_weightOf_o (h : Q 0 0 (0, 0) μ) : Call (d + 1) n8_weightOf [sR 5 0, sI nONE] μ Q := by
  refine call_go (cd := k8_weightOf) 30 rfl rfl ?_
  refine brT (by decide) ?_
  exact h
theorem c8_isBox (hx : x = nI k) (hS : stkC μ n so wt) (hk : k < 100) (h1 : k < n ∧ so k = 2 → Q 1 0 (0, 0) μ) (h2 : ¬ (k < n ∧ so k = 2) → Q 0 0 (0, 0) μ) : Call (d + 2) n8_isBox [sR 5 0, sI x] μ Q := by
  subst hx
  have hn := hS.2.1
  refine call_go (cd := k8_isBox) 30 rfl rfl ?_
  by_cases e : k < n
  · have h3 := hS.2.2 k e
    refine c8_sortOf rfl hS e ?_
    by_cases e2 : so k = 2
    · refine brnT (by simp (disch := first | omega | (simp (disch := omega) only [nI_toInt, Int32.reduceToInt, i_sub, i_add, i_mul]; omega)) only [iNONE, i_lt, i_le, i_eq, i_in, nI_toInt, Int32.reduceToInt, i_sub, i_add, i_mul]; omega) ?_
      exact ⟨Or.inr rfl, h1 ⟨e, e2⟩⟩
    · refine brnF (by simp (disch := first | omega | (simp (disch := omega) only [nI_toInt, Int32.reduceToInt, i_sub, i_add, i_mul]; omega)) only [iNONE, i_lt, i_le, i_eq, i_in, nI_toInt, Int32.reduceToInt, i_sub, i_add, i_mul]; omega) ?_
      exact ⟨Or.inl rfl, h2 (fun z => e2 z.2)⟩
  · refine c8_sortOf_o rfl hS (by omega) hk ?_
    refine brnF (by simp (disch := first | omega | (simp (disch := omega) only [nI_toInt, Int32.reduceToInt, i_sub, i_add, i_mul]; omega)) only [iNONE, i_lt, i_le, i_eq, i_in, nI_toInt, Int32.reduceToInt, i_sub, i_add, i_mul]; omega) ?_
    exact ⟨Or.inl rfl, h2 (fun z => e z.1)⟩
end CT
