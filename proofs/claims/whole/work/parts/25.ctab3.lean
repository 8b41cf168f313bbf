/-! loops whose locals and memory are functions of the turn -/
theorem loopF {cd : sK} {d : Nat} {Q : sQ} (N : Nat) (L : Nat → Int32 → sO) (M : Nat → sM) (pc : Nat) (hend : Run cd (Call d) Q pc (L N (nI N)) [] (M N))
    (hs : ∀ i, i < N → Run cd (Call d) Q pc (L (i + 1) (nI i + 1)) [] (M (i + 1)) → Run cd (Call d) Q pc (L i (nI i)) [] (M i)) : Run cd (Call d) Q pc (L 0 0) [] (M 0) := by
  have key : ∀ k i, k + i = N → Run cd (Call d) Q pc (L i (nI i)) [] (M i) := by
    intro k
    induction k with
    | zero => intro i h; rw [show i = N by omega]; exact hend
    | succ k ih => intro i h; exact hs i (by omega) (by rw [nI_1]; exact ih (i + 1) (by omega))
  exact key N 0 (by omega)
/-- a search: the first turn that has P, or the end -/
theorem loopS {cd : sK} {d : Nat} {Q : sQ} (N : Nat) (P : Nat → Prop) (L : Int32 → sO) (μ : sM) (pc : Nat) (hend : (∀ a, a < N → ¬ P a) → Run cd (Call d) Q pc (L (nI N)) [] μ)
    (hs : ∀ i, i < N → (∀ a, a < i → ¬ P a) → (¬ P i → Run cd (Call d) Q pc (L (nI i + 1)) [] μ) → Run cd (Call d) Q pc (L (nI i)) [] μ) : Run cd (Call d) Q pc (L 0) [] μ := by
  have key : ∀ k i, k + i = N → (∀ a, a < i → ¬ P a) → Run cd (Call d) Q pc (L (nI i)) [] μ := by
    intro k
    induction k with
    | zero => intro i h hp; rw [show i = N by omega]; exact hend (fun a ha => hp a (by omega))
    | succ k ih =>
      intro i h hp
      refine hs i (by omega) hp (fun hn => by
        rw [nI_1]
        refine ih (i + 1) (by omega) (fun a ha => ?_)
        by_cases e : a = i
        · subst e; exact hn
        · exact hp a (by omega))
  exact key N 0 (by omega) (fun a h => absurd h (Nat.not_lt_zero a))
section CT
variable {d t n k c s a b r : Nat} {μ : sM} {Q : sQ} {so wt : Nat → Nat} {T : tT} {x y z : Int32}
theorem c9_isNextTo (hx : x = nI c) (hy : y = nI s) (hw : wfT so n T) (hS : stkC μ n so wt) (hT : tabC μ t n T) (hc : c < 14) (hs : s < 100) (h1 : c < 8 ∧ nxT so n T c s → Q 1 0 (0, 0) μ) (h2 : ¬ (c < 8 ∧ nxT so n T c s) → Q 0 0 (0, 0) μ) : Call (d + 2) n9_isNextTo [sR 8 t, sI x, sI y] μ Q := by
  subst hx; subst hy
  have hn := hS.2.1
  refine call_go (cd := k9_isNextTo) 2 rfl rfl ?_
  refine brF (by simp (disch := first | omega | (simp (disch := omega) only [nI_toInt, Int32.reduceToInt, i_sub, i_add, i_mul]; omega)) only [iNONE, i_lt, i_le, i_eq, i_in, nI_toInt, Int32.reduceToInt, i_sub, i_add, i_mul]; omega) ?_
  refine run_go 3 ?_
  by_cases e : c < 8
  · refine brT (by simp (disch := first | omega | (simp (disch := omega) only [nI_toInt, Int32.reduceToInt, i_sub, i_add, i_mul]; omega)) only [iNONE, i_lt, i_le, i_eq, i_in, nI_toInt, Int32.reduceToInt, i_sub, i_add, i_mul]; omega) ?_
    refine run_go 2 ?_
    refine loopS (cd := k9_isNextTo) (d := d + 1) (Q := Q) n (fun o => zB T o = 9 ∧ so o = s ∧ nb (zC T o) c = true) (fun j => [some (sR 8 t), some (sI (nI c)), some (sI (nI s)), some (sI j)]) μ 14 (fun hp => ?_) (fun i hi hp kk => ?_)
    · refine run_go 5 ?_
      refine c8_size hS ?_
      refine brT (by simp (disch := first | omega | (simp (disch := omega) only [nI_toInt, Int32.reduceToInt, i_sub, i_add, i_mul]; omega)) only [iNONE, i_lt, i_le, i_eq, i_in, nI_toInt, Int32.reduceToInt, i_sub, i_add, i_mul]; omega) ?_
      refine run_go 2 ?_
      exact ⟨Or.inl rfl, h2 (fun ⟨_, o, h3, h4⟩ => hp o h3 h4)⟩
    · have kk2 := fun h => run_sub (kk h) (subL.app _ [some (sI (nI (spT T i)))])
      have h5 := wf_spot hw hn hi
      have h6 := hS.2.2 i hi
      refine run_go 5 ?_
      refine c8_size hS ?_
      refine brF (by simp (disch := first | omega | (simp (disch := omega) only [nI_toInt, Int32.reduceToInt, i_sub, i_add, i_mul]; omega)) only [iNONE, i_lt, i_le, i_eq, i_in, nI_toInt, Int32.reduceToInt, i_sub, i_add, i_mul]; omega) ?_
      refine run_go 6 ?_
      refine c9_spotOf rfl (by omega) ?_
      rw [(hT.1 i hi).1]
      refine brF (by simp (disch := first | omega | (simp (disch := omega) only [nI_toInt, Int32.reduceToInt, i_sub, i_add, i_mul]; omega)) only [iNONE, i_lt, i_le, i_eq, i_in, nI_toInt, Int32.reduceToInt, i_sub, i_add, i_mul]; omega) ?_
      refine run_go 3 ?_
      by_cases e1 : zB T i = 9
      · have h7 := h5.2.2.2 e1
        refine brF (by simp (disch := first | omega | (simp (disch := omega) only [nI_toInt, Int32.reduceToInt, i_sub, i_add, i_mul]; omega)) only [iNONE, i_lt, i_le, i_eq, i_in, nI_toInt, Int32.reduceToInt, i_sub, i_add, i_mul]; omega) ?_
        refine run_go 6 ?_
        refine c8_sortOf rfl hS hi ?_
        by_cases e2 : so i = s
        · refine brnT (by simp (disch := first | omega | (simp (disch := omega) only [nI_toInt, Int32.reduceToInt, i_sub, i_add, i_mul]; omega)) only [iNONE, i_lt, i_le, i_eq, i_in, nI_toInt, Int32.reduceToInt, i_sub, i_add, i_mul]; omega) ?_
          refine run_go 4 ?_
          refine c11_areNeighbours rfl rfl (by omega) e (fun e3 => ?_) (fun e3 => ?_)
          · refine brF (by decide) ?_
            refine run_go 2 ?_
            rw [h7.1] at e3
            exact ⟨Or.inr rfl, h1 ⟨e, i, hi, e1, e2, e3⟩⟩
          · refine brT rfl ?_
            refine run_go 2 ?_
            rw [h7.1] at e3
            exact kk2 (fun z => by rw [e3] at z; cases z.2.2)
        · refine brnF (by simp (disch := first | omega | (simp (disch := omega) only [nI_toInt, Int32.reduceToInt, i_sub, i_add, i_mul]; omega)) only [iNONE, i_lt, i_le, i_eq, i_in, nI_toInt, Int32.reduceToInt, i_sub, i_add, i_mul]; omega) ?_
          refine run_go 2 ?_
          exact kk2 (fun z => e2 z.2.1)
      · have h7 := h5.2.2.1 e1
        refine brT (by simp (disch := first | omega | (simp (disch := omega) only [nI_toInt, Int32.reduceToInt, i_sub, i_add, i_mul]; omega)) only [iNONE, i_lt, i_le, i_eq, i_in, nI_toInt, Int32.reduceToInt, i_sub, i_add, i_mul]; omega) ?_
        refine run_go 2 ?_
        exact kk2 (fun z => e1 z.1)
  · refine brF (by simp (disch := first | omega | (simp (disch := omega) only [nI_toInt, Int32.reduceToInt, i_sub, i_add, i_mul]; omega)) only [iNONE, i_lt, i_le, i_eq, i_in, nI_toInt, Int32.reduceToInt, i_sub, i_add, i_mul]; omega) ?_
    refine run_go 2 ?_
    exact ⟨Or.inl rfl, h2 (fun z => e z.1)⟩
theorem c9_isAsTold (hx : x = nI k) (hy : y = nI r) (hz : z = nI s) (hw : wfT so n T) (hS : stkC μ n so wt) (hT : tabC μ t n T) (hk : k < n) (hr : r < 3) (hs : s < 4) (h1 : atT so n T k r s → Q 1 0 (0, 0) μ) (h2 : ¬ atT so n T k r s → Q 0 0 (0, 0) μ) : Call (d + 3) n9_isAsTold [sR 8 t, sI x, sI y, sI z] μ Q := by
  subst hx; subst hy; subst hz
  have hn := hS.2.1
  have hb := wf_below hw hk
  have h5 := wf_spot hw hn hk
  unfold atT at h1 h2
  refine call_go (cd := k9_isAsTold) 60 rfl rfl ?_
  by_cases e1 : r = 1
  · rw [if_pos e1] at h1 h2
    refine brnT (by simp (disch := first | omega | (simp (disch := omega) only [nI_toInt, Int32.reduceToInt, i_sub, i_add, i_mul]; omega)) only [iNONE, i_lt, i_le, i_eq, i_in, nI_toInt, Int32.reduceToInt, i_sub, i_add, i_mul]; omega) ?_
    by_cases e2 : s = 2
    · refine brnT (by simp (disch := first | omega | (simp (disch := omega) only [nI_toInt, Int32.reduceToInt, i_sub, i_add, i_mul]; omega)) only [iNONE, i_lt, i_le, i_eq, i_in, nI_toInt, Int32.reduceToInt, i_sub, i_add, i_mul]; omega) ?_
      refine c9_boxOf rfl hw hn hT hk ?_
      by_cases e3 : zB T k = 9
      · refine brT (by rw [e3]; rfl) ?_
        exact ⟨Or.inl rfl, h2 (fun z => z.2 e3)⟩
      · have h6 := hw.2.2.1 k hk e3
        refine brF (by rw [show (-1000000 : Int32) = nONE from rfl, o9_none (by omega)]; exact e3) ?_
        exact ⟨Or.inr rfl, h1 ⟨e2, e3⟩⟩
    · refine brnF (by simp (disch := first | omega | (simp (disch := omega) only [nI_toInt, Int32.reduceToInt, i_sub, i_add, i_mul]; omega)) only [iNONE, i_lt, i_le, i_eq, i_in, nI_toInt, Int32.reduceToInt, i_sub, i_add, i_mul]; omega) ?_
      exact ⟨Or.inl rfl, h2 (fun z => e2 z.1)⟩
  · rw [if_neg e1] at h1 h2
    refine brnF (by simp (disch := first | omega | (simp (disch := omega) only [nI_toInt, Int32.reduceToInt, i_sub, i_add, i_mul]; omega)) only [iNONE, i_lt, i_le, i_eq, i_in, nI_toInt, Int32.reduceToInt, i_sub, i_add, i_mul]; omega) ?_
    refine c9_belowOf rfl (by omega) ?_
    rw [(hT.1 k hk).2]
    by_cases e2 : r = 0
    · rw [if_pos e2] at h1 h2
      refine brnT (by simp (disch := first | omega | (simp (disch := omega) only [nI_toInt, Int32.reduceToInt, i_sub, i_add, i_mul]; omega)) only [iNONE, i_lt, i_le, i_eq, i_in, nI_toInt, Int32.reduceToInt, i_sub, i_add, i_mul]; omega) ?_
      by_cases e3 : blT T k = 9
      · refine brT (by rw [e3]; rfl) ?_
        exact ⟨Or.inl rfl, h2 (fun z => z.1 e3)⟩
      · refine brF (by rw [show (-1000000 : Int32) = nONE from rfl, o9_none (by omega)]; exact e3) ?_
        refine c8_sortOf (o9_n e3) hS (by omega) ?_
        have h6 := hS.2.2 (blT T k) (by omega)
        by_cases e4 : so (blT T k) = s
        · refine brnT (by simp (disch := first | omega | (simp (disch := omega) only [nI_toInt, Int32.reduceToInt, i_sub, i_add, i_mul]; omega)) only [iNONE, i_lt, i_le, i_eq, i_in, nI_toInt, Int32.reduceToInt, i_sub, i_add, i_mul]; omega) ?_
          exact ⟨Or.inr rfl, h1 ⟨e3, e4⟩⟩
        · refine brnF (by simp (disch := first | omega | (simp (disch := omega) only [nI_toInt, Int32.reduceToInt, i_sub, i_add, i_mul]; omega)) only [iNONE, i_lt, i_le, i_eq, i_in, nI_toInt, Int32.reduceToInt, i_sub, i_add, i_mul]; omega) ?_
          exact ⟨Or.inl rfl, h2 (fun z => e4 z.2)⟩
    · rw [if_neg e2] at h1 h2
      refine brnF (by simp (disch := first | omega | (simp (disch := omega) only [nI_toInt, Int32.reduceToInt, i_sub, i_add, i_mul]; omega)) only [iNONE, i_lt, i_le, i_eq, i_in, nI_toInt, Int32.reduceToInt, i_sub, i_add, i_mul]; omega) ?_
      by_cases e3 : blT T k = 9
      · refine brnT (by rw [e3]; rfl) ?_
        refine c9_spotOf rfl (by omega) ?_
        rw [(hT.1 k hk).1]
        refine c9_isNextTo rfl rfl hw hS hT h5.1 (by omega) (fun e4 => ?_) (fun e4 => ?_)
        · refine brF (by decide) ?_
          have e5 : zB T k = 9 := by
            by_cases e : zB T k = 9
            · exact e
            · have := h5.2.1.mpr e; omega
          rw [(h5.2.2.2 e5).1] at e4
          exact ⟨Or.inr rfl, h1 ⟨e3, e5, e4.2⟩⟩
        · refine brT rfl ?_
          refine ⟨Or.inl rfl, h2 (fun ⟨_, e5, e6⟩ => e4 ?_)⟩
          have h7 := h5.2.2.2 e5
          rw [h7.1]
          exact ⟨h7.2, e6⟩
      · refine brnF (by rw [show (-1000000 : Int32) = nONE from rfl, o9_none (by omega)]; exact e3) ?_
        exact ⟨Or.inl rfl, h2 (fun z => e3 z.1)⟩
theorem c9_canGo (hx : x = nI k) (hy : y = nI a) (hw : wfT so n T) (hS : stkC μ n so wt) (hT : tabC μ t n T) (hk : k < n) (ha : a < 14) (h1 : cgT so n T k a → Q 1 0 (0, 0) μ) (h2 : ¬ cgT so n T k a → Q 0 0 (0, 0) μ) : Call (d + 4) n9_canGo [sR 8 t, sI x, sI y] μ Q := by
  subst hx; subst hy
  have hn := hS.2.1
  unfold cgT at h1 h2
  refine call_go (cd := k9_canGo) 60 rfl rfl ?_
  refine c9_isFree rfl hw hn hT hk (fun e => ?_) (fun e => ?_)
  · refine brnF (by decide) ?_
    by_cases e1 : a < 8
    · refine brF (by simp (disch := first | omega | (simp (disch := omega) only [nI_toInt, Int32.reduceToInt, i_sub, i_add, i_mul]; omega)) only [iNONE, i_lt, i_le, i_eq, i_in, nI_toInt, Int32.reduceToInt, i_sub, i_add, i_mul]; omega) ?_
      refine brF (by simp (disch := first | omega | (simp (disch := omega) only [nI_toInt, Int32.reduceToInt, i_sub, i_add, i_mul]; omega)) only [iNONE, i_lt, i_le, i_eq, i_in, nI_toInt, Int32.reduceToInt, i_sub, i_add, i_mul]; omega) ?_
      exact ⟨Or.inr rfl, h1 ⟨e, fun z => absurd z (by omega)⟩⟩
    · refine brT (by simp (disch := first | omega | (simp (disch := omega) only [nI_toInt, Int32.reduceToInt, i_sub, i_add, i_mul]; omega)) only [iNONE, i_lt, i_le, i_eq, i_in, nI_toInt, Int32.reduceToInt, i_sub, i_add, i_mul]; omega) ?_
      have e2 : nI a - 8 = nI (a - 8) := nI_sub (a := a) (b := 8) (by omega)
      refine c8_isBox e2 hS (by omega) (fun e3 => ?_) (fun e3 => ?_)
      · refine brF (by decide) ?_
        refine c8_isBox rfl hS (by omega) (fun e4 => ?_) (fun e4 => ?_)
        · refine brnF (by decide) ?_
          exact ⟨Or.inl rfl, h2 (fun z => (z.2 (by omega)).2.2.1 e4.2)⟩
        · refine brnT rfl ?_
          refine c9_isClear e2 hw hn hT e3.1 (fun e5 => ?_) (fun e5 => ?_)
          · refine brF (by decide) ?_
            refine c9_insideOf e2 (by omega) ?_
            rw [hT.2.2.1 _ (by omega)]
            have h7 : zN T (a - 8) = 9 ∨ zN T (a - 8) < n := by
              by_cases e : zN T (a - 8) = 9
              · exact Or.inl e
              · exact Or.inr (hw.2.2.2.1 _ e3.1 e).1
            by_cases e6 : zN T (a - 8) = 9
            · refine brnT (by rw [e6]; rfl) ?_
              exact ⟨Or.inr rfl, h1 ⟨e, fun _ => ⟨e3.1, e3.2, fun z => e4 ⟨hk, z⟩, e5, e6⟩⟩⟩
            · refine brnF (by rw [show (-1000000 : Int32) = nONE from rfl, o9_none (by omega)]; exact e6) ?_
              exact ⟨Or.inl rfl, h2 (fun z => e6 (z.2 (by omega)).2.2.2.2)⟩
          · refine brT rfl ?_
            exact ⟨Or.inl rfl, h2 (fun z => e5 (z.2 (by omega)).2.2.2.1)⟩
      · refine brT rfl ?_
        exact ⟨Or.inl rfl, h2 (fun z => e3 ⟨(z.2 (by omega)).1, (z.2 (by omega)).2.1⟩)⟩
  · refine brnT rfl ?_
    exact ⟨Or.inl rfl, h2 (fun z => e z.1)⟩
end CT
