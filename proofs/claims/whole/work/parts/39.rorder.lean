/-! the reference: an order, done -/
section RT
variable {d t n k c s a b r u o i rel : Nat} {μ : sM} {Q : sQ} {so wt : Nat → Nat} {T : tT} {x y z w : Int32}
theorem r12_whereTo (hx : x = nI r) (hy : y = nI k) (hz : z = nI rel) (hw' : w = nI b) (hw : wfT so n T) (hS : stkR μ n so wt) (hr : r < 108) (hT : tabR μ r T) (hk : k < n) (hl : rel < 3) (hb : b < 4) (h : Q (p9 (wtT so n T k rel b)) 0 (0, 0) μ) : Call (d + 4) n12_whereTo [sR 41 0, sI x, sI y, sI z, sI w] μ Q := by
  subst hx; subst hy; subst hz; subst hw'
  have hn := hS.2.1
  unfold wtT at h
  refine call_go (cd := k12_whereTo) 3 rfl rfl ?_
  by_cases e1 : rel = 1
  · rw [if_neg (by omega), if_pos e1] at h
    refine brnT (by simp (disch := first | omega | (simp (disch := omega) only [nI_toInt, Int32.reduceToInt, i_sub, i_add, i_mul]; omega)) only [iNONE, i_lt, i_le, i_eq, i_in, nI_toInt, Int32.reduceToInt, i_sub, i_add, i_mul]; omega) ?_
    refine run_go 2 ?_
    refine loopS (cd := k12_whereTo) (d := d + 3) (Q := Q) n (fun o => b = 2 ∧ so o = 2 ∧ clT' T o ∧ zN T o = 9) (fun j => [some (sR 41 0), some (sI (nI r)), some (sI (nI k)), some (sI (nI rel)), some (sI (nI b)), some (sI j)]) μ 8 (fun hp => ?_) (fun i hi hp kk => ?_)
    · refine run_go 4 ?_
      refine brT (by simp (disch := first | omega | (simp (disch := omega) only [nI_toInt, Int32.reduceToInt, i_sub, i_add, i_mul]; omega)) only [hS.1, iNONE, i_lt, i_le, i_eq, i_in, nI_toInt, Int32.reduceToInt, i_sub, i_add, i_mul]; omega) ?_
      refine run_go 2 ?_
      have e : inT so n T b = 99 := if_pos (fstN_no hp)
      rw [e] at h
      exact h
    · have hs := hS.2.2 i hi
      refine run_go 4 ?_
      refine brF (by simp (disch := first | omega | (simp (disch := omega) only [nI_toInt, Int32.reduceToInt, i_sub, i_add, i_mul]; omega)) only [hS.1, iNONE, i_lt, i_le, i_eq, i_in, nI_toInt, Int32.reduceToInt, i_sub, i_add, i_mul]; omega) ?_
      refine run_go 3 ?_
      by_cases e2 : b = 2
      · refine brnT (by simp (disch := first | omega | (simp (disch := omega) only [nI_toInt, Int32.reduceToInt, i_sub, i_add, i_mul]; omega)) only [iNONE, i_lt, i_le, i_eq, i_in, nI_toInt, Int32.reduceToInt, i_sub, i_add, i_mul]; omega) ?_
        refine run_go 6 ?_
        refine And.intro (by simp (disch := first | omega | (simp (disch := omega) only [nI_toInt, Int32.reduceToInt, i_sub, i_add, i_mul]; omega)) only [iNONE, i_lt, i_le, i_eq, i_in, nI_toInt, Int32.reduceToInt, i_sub, i_add, i_mul]; omega) ?_
        rw [nI_clamp (by omega), hs.1]
        by_cases e3 : so i = 2
        · refine brnT (by simp (disch := first | omega | (simp (disch := omega) only [nI_toInt, Int32.reduceToInt, i_sub, i_add, i_mul]; omega)) only [iNONE, i_lt, i_le, i_eq, i_in, nI_toInt, Int32.reduceToInt, i_sub, i_add, i_mul]; omega) ?_
          refine run_go 5 ?_
          refine r12_isClear rfl rfl hw hn hr hT hi (fun e4 => ?_) (fun e4 => ?_)
          · refine brF (by decide) ?_
            refine run_go 5 ?_
            refine r12_insideOf rfl rfl hw hS hr hT hi ?_
            by_cases e5 : zN T i = 9
            · refine brF (by rw [e5]; decide) ?_
              refine run_go 4 ?_
              have e6 := fstN_is (P := fun o => b = 2 ∧ so o = 2 ∧ clT' T o ∧ zN T o = 9) ⟨e2, e3, e4, e5⟩ hp hi (by omega)
              have e7 : inT so n T b = 8 + i := by
                unfold inT
                rw [e6, if_neg (by omega)]
              rw [e7, p9_n (by omega), ← nI_add] at h
              exact h
            · have g := hw.2.2.2.1 i hi e5
              refine brT (by simp (disch := first | omega | (simp (disch := omega) only [nI_toInt, Int32.reduceToInt, i_sub, i_add, i_mul]; omega)) only [m9_n e5, iNONE, i_lt, i_le, i_eq, i_in, nI_toInt, Int32.reduceToInt, i_sub, i_add, i_mul]; omega) ?_
              refine run_go 2 ?_
              exact kk (fun z => e5 z.2.2.2)
          · refine brT rfl ?_
            refine run_go 2 ?_
            exact kk (fun z => e4 z.2.2.1)
        · refine brnF (by simp (disch := first | omega | (simp (disch := omega) only [nI_toInt, Int32.reduceToInt, i_sub, i_add, i_mul]; omega)) only [iNONE, i_lt, i_le, i_eq, i_in, nI_toInt, Int32.reduceToInt, i_sub, i_add, i_mul]; omega) ?_
          refine run_go 2 ?_
          exact kk (fun z => e3 z.2.1)
      · refine brnF (by simp (disch := first | omega | (simp (disch := omega) only [nI_toInt, Int32.reduceToInt, i_sub, i_add, i_mul]; omega)) only [iNONE, i_lt, i_le, i_eq, i_in, nI_toInt, Int32.reduceToInt, i_sub, i_add, i_mul]; omega) ?_
        refine run_go 2 ?_
        exact kk (fun z => e2 z.1)
  · refine brnF (by simp (disch := first | omega | (simp (disch := omega) only [nI_toInt, Int32.reduceToInt, i_sub, i_add, i_mul]; omega)) only [iNONE, i_lt, i_le, i_eq, i_in, nI_toInt, Int32.reduceToInt, i_sub, i_add, i_mul]; omega) ?_
    refine run_go 2 ?_
    by_cases e0 : rel = 0
    · rw [if_pos e0] at h
      refine loopS (cd := k12_whereTo) (d := d + 3) (Q := Q) n (fun o => o ≠ k ∧ so o = b ∧ clT' T o) (fun j => [some (sR 41 0), some (sI (nI r)), some (sI (nI k)), some (sI (nI rel)), some (sI (nI b)), some (sI j)]) μ 72 (fun hp => ?_) (fun i hi hp kk => ?_)
      · refine run_go 4 ?_
        refine brT (by simp (disch := first | omega | (simp (disch := omega) only [nI_toInt, Int32.reduceToInt, i_sub, i_add, i_mul]; omega)) only [hS.1, iNONE, i_lt, i_le, i_eq, i_in, nI_toInt, Int32.reduceToInt, i_sub, i_add, i_mul]; omega) ?_
        refine run_go 2 ?_
        have e : onT so n T k b = 99 := if_pos (fstN_no hp)
        rw [e] at h
        exact h
      · have hs := hS.2.2 i hi
        refine run_go 4 ?_
        refine brF (by simp (disch := first | omega | (simp (disch := omega) only [nI_toInt, Int32.reduceToInt, i_sub, i_add, i_mul]; omega)) only [hS.1, iNONE, i_lt, i_le, i_eq, i_in, nI_toInt, Int32.reduceToInt, i_sub, i_add, i_mul]; omega) ?_
        refine run_go 3 ?_
        by_cases e2 : i = k
        · refine brT (by rw [e2]) ?_
          refine run_go 2 ?_
          exact kk (fun z => z.1 e2)
        · refine brF (by simp (disch := first | omega | (simp (disch := omega) only [nI_toInt, Int32.reduceToInt, i_sub, i_add, i_mul]; omega)) only [iNONE, i_lt, i_le, i_eq, i_in, nI_toInt, Int32.reduceToInt, i_sub, i_add, i_mul]; omega) ?_
          refine run_go 6 ?_
          refine And.intro (by simp (disch := first | omega | (simp (disch := omega) only [nI_toInt, Int32.reduceToInt, i_sub, i_add, i_mul]; omega)) only [iNONE, i_lt, i_le, i_eq, i_in, nI_toInt, Int32.reduceToInt, i_sub, i_add, i_mul]; omega) ?_
          rw [nI_clamp (by omega), hs.1]
          by_cases e3 : so i = b
          · refine brnT (by simp (disch := first | omega | (simp (disch := omega) only [nI_toInt, Int32.reduceToInt, i_sub, i_add, i_mul]; omega)) only [iNONE, i_lt, i_le, i_eq, i_in, nI_toInt, Int32.reduceToInt, i_sub, i_add, i_mul]; omega) ?_
            refine run_go 2 ?_
            refine brnT (by simp (disch := first | omega | (simp (disch := omega) only [nI_toInt, Int32.reduceToInt, i_sub, i_add, i_mul]; omega)) only [iNONE, i_lt, i_le, i_eq, i_in, nI_toInt, Int32.reduceToInt, i_sub, i_add, i_mul]; omega) ?_
            refine run_go 5 ?_
            refine r12_isClear rfl rfl hw hn hr hT hi (fun e4 => ?_) (fun e4 => ?_)
            · refine brF (by decide) ?_
              refine run_go 8 ?_
              refine r12_cellOf rfl rfl hw hn hr hT hi ?_
              refine brnT (by simp (disch := first | omega | (simp (disch := omega) only [nI_toInt, Int32.reduceToInt, i_sub, i_add, i_mul]; omega)) only [iNONE, i_lt, i_le, i_eq, i_in, nI_toInt, Int32.reduceToInt, i_sub, i_add, i_mul]; omega) ?_
              refine run_go 2 ?_
              have e6 := fstN_is (P := fun o => o ≠ k ∧ so o = b ∧ clT' T o) ⟨e2, e3, e4⟩ hp hi (by omega)
              have g := wf_cell hw hi e4.1
              have e7 : onT so n T k b = ccT T i := by
                unfold onT ccT
                rw [e6, if_neg (by omega), if_pos e4.1]
              have e8 : ccT T i = zC T i := if_pos e4.1
              rw [e7, p9_n (by omega)] at h
              exact h
            · refine brT rfl ?_
              refine run_go 2 ?_
              exact kk (fun z => e4 z.2.2)
          · refine brnF (by simp (disch := first | omega | (simp (disch := omega) only [nI_toInt, Int32.reduceToInt, i_sub, i_add, i_mul]; omega)) only [iNONE, i_lt, i_le, i_eq, i_in, nI_toInt, Int32.reduceToInt, i_sub, i_add, i_mul]; omega) ?_
            refine run_go 2 ?_
            exact kk (fun z => e3 z.2.1)
    · rw [if_neg e0, if_neg e1] at h
      refine loopS (cd := k12_whereTo) (d := d + 3) (Q := Q) n (fun o => o ≠ k ∧ so o = b ∧ zB T o = 9) (fun j => [some (sR 41 0), some (sI (nI r)), some (sI (nI k)), some (sI (nI rel)), some (sI (nI b)), some (sI j)]) μ 72 (fun hp => ?_) (fun i hi hp kk => ?_)
      · refine run_go 4 ?_
        refine brT (by simp (disch := first | omega | (simp (disch := omega) only [nI_toInt, Int32.reduceToInt, i_sub, i_add, i_mul]; omega)) only [hS.1, iNONE, i_lt, i_le, i_eq, i_in, nI_toInt, Int32.reduceToInt, i_sub, i_add, i_mul]; omega) ?_
        refine run_go 2 ?_
        have e : bsT so n T k b = 99 := if_pos (fstN_no hp)
        rw [e] at h
        exact h
      · have hs := hS.2.2 i hi
        refine run_go 4 ?_
        refine brF (by simp (disch := first | omega | (simp (disch := omega) only [nI_toInt, Int32.reduceToInt, i_sub, i_add, i_mul]; omega)) only [hS.1, iNONE, i_lt, i_le, i_eq, i_in, nI_toInt, Int32.reduceToInt, i_sub, i_add, i_mul]; omega) ?_
        refine run_go 3 ?_
        by_cases e2 : i = k
        · refine brT (by rw [e2]) ?_
          refine run_go 2 ?_
          exact kk (fun z => z.1 e2)
        · refine brF (by simp (disch := first | omega | (simp (disch := omega) only [nI_toInt, Int32.reduceToInt, i_sub, i_add, i_mul]; omega)) only [iNONE, i_lt, i_le, i_eq, i_in, nI_toInt, Int32.reduceToInt, i_sub, i_add, i_mul]; omega) ?_
          refine run_go 6 ?_
          refine And.intro (by simp (disch := first | omega | (simp (disch := omega) only [nI_toInt, Int32.reduceToInt, i_sub, i_add, i_mul]; omega)) only [iNONE, i_lt, i_le, i_eq, i_in, nI_toInt, Int32.reduceToInt, i_sub, i_add, i_mul]; omega) ?_
          rw [nI_clamp (by omega), hs.1]
          by_cases e3 : so i = b
          · refine brnT (by simp (disch := first | omega | (simp (disch := omega) only [nI_toInt, Int32.reduceToInt, i_sub, i_add, i_mul]; omega)) only [iNONE, i_lt, i_le, i_eq, i_in, nI_toInt, Int32.reduceToInt, i_sub, i_add, i_mul]; omega) ?_
            refine run_go 2 ?_
            refine brnF (by simp (disch := first | omega | (simp (disch := omega) only [nI_toInt, Int32.reduceToInt, i_sub, i_add, i_mul]; omega)) only [iNONE, i_lt, i_le, i_eq, i_in, nI_toInt, Int32.reduceToInt, i_sub, i_add, i_mul]; omega) ?_
            refine run_go 5 ?_
            refine r12_boxOf rfl rfl hr hT (by omega) ?_
            by_cases e4 : zB T i = 9
            · have g := wf_cell hw hi e4
              have e8 : ccT T i = zC T i := if_pos e4
              refine brF (by rw [e4]; decide) ?_
              refine run_go 7 ?_
              refine r12_cellOf rfl rfl hw hn hr hT hi ?_
              rw [e8]
              refine brnF (by simp (disch := first | omega | (simp (disch := omega) only [nI_toInt, Int32.reduceToInt, i_sub, i_add, i_mul]; omega)) only [iNONE, i_lt, i_le, i_eq, i_in, nI_toInt, Int32.reduceToInt, i_sub, i_add, i_mul]; omega) ?_
              have e6 := fstN_is (P := fun o => o ≠ k ∧ so o = b ∧ zB T o = 9) ⟨e2, e3, e4⟩ hp hi (by omega)
              have e5 : bsT so n T k b = fstN (fun c => nb c (zC T i) = true ∧ zS T c = 0) 8 := by
                unfold bsT
                rw [e6, if_neg (by omega)]
              rw [e5] at h
              refine run_go 2 ?_
              refine loopS (cd := k12_whereTo) (d := d + 3) (Q := Q) 8 (fun c => nb c (zC T i) = true ∧ zS T c = 0) (fun j => [some (sR 41 0), some (sI (nI r)), some (sI (nI k)), some (sI (nI rel)), some (sI (nI b)), some (sI (nI i)), some (sI (nI (zC T i))), some (sI j)]) μ 145 (fun hp2 => ?_) (fun c hc hp2 kk2 => ?_)
              · refine run_go 3 ?_
                refine brT (by decide) ?_
                refine run_go 2 ?_
                rw [fstN_no hp2] at h
                exact h
              · have hz := wf_size hw hc
                refine run_go 3 ?_
                refine brF (by simp (disch := first | omega | (simp (disch := omega) only [nI_toInt, Int32.reduceToInt, i_sub, i_add, i_mul]; omega)) only [iNONE, i_lt, i_le, i_eq, i_in, nI_toInt, Int32.reduceToInt, i_sub, i_add, i_mul]; omega) ?_
                refine run_go 4 ?_
                refine r12_isNeighbour rfl rfl g.1 hc (fun e7 => ?_) (fun e7 => ?_)
                · rw [nb_sym _ g.1 _ hc] at e7
                  refine brF (by decide) ?_
                  refine run_go 5 ?_
                  refine r12_sizeOf rfl rfl hr hc ?_
                  rw [hT.1 c hc]
                  by_cases e9 : zS T c = 0
                  · refine brnT (by simp (disch := first | omega | (simp (disch := omega) only [nI_toInt, Int32.reduceToInt, i_sub, i_add, i_mul]; omega)) only [iNONE, i_lt, i_le, i_eq, i_in, nI_toInt, Int32.reduceToInt, i_sub, i_add, i_mul]; omega) ?_
                    refine run_go 2 ?_
                    rw [fstN_is (P := fun c => nb c (zC T i) = true ∧ zS T c = 0) ⟨e7, e9⟩ hp2 hc (by omega), p9_n (by omega)] at h
                    exact h
                  · refine brnF (by simp (disch := first | omega | (simp (disch := omega) only [nI_toInt, Int32.reduceToInt, i_sub, i_add, i_mul]; omega)) only [iNONE, i_lt, i_le, i_eq, i_in, nI_toInt, Int32.reduceToInt, i_sub, i_add, i_mul]; omega) ?_
                    refine run_go 2 ?_
                    exact kk2 (fun z => e9 z.2)
                · rw [nb_sym _ g.1 _ hc] at e7
                  refine brT rfl ?_
                  refine run_go 2 ?_
                  exact kk2 (fun z => by rw [e7] at z; cases z.1)
            · have g := hw.2.2.1 i hi e4
              refine brT (by simp (disch := first | omega | (simp (disch := omega) only [nI_toInt, Int32.reduceToInt, i_sub, i_add, i_mul]; omega)) only [m9_n e4, iNONE, i_lt, i_le, i_eq, i_in, nI_toInt, Int32.reduceToInt, i_sub, i_add, i_mul]; omega) ?_
              refine run_go 2 ?_
              exact kk (fun z => e4 z.2.2)
          · refine brnF (by simp (disch := first | omega | (simp (disch := omega) only [nI_toInt, Int32.reduceToInt, i_sub, i_add, i_mul]; omega)) only [iNONE, i_lt, i_le, i_eq, i_in, nI_toInt, Int32.reduceToInt, i_sub, i_add, i_mul]; omega) ?_
            refine run_go 2 ?_
            exact kk (fun z => e3 z.2.1)
theorem wt_to (hw : wfT so n T) (hn : n ≤ 6) (h : wtT so n T k r b ≠ 99) : wtT so n T k r b < 8 ∨ 8 ≤ wtT so n T k r b ∧ wtT so n T k r b - 8 < n ∧ so (wtT so n T k r b - 8) = 2 := by
  unfold wtT at h ⊢
  by_cases e : r = 0
  · rw [if_pos e] at h ⊢
    unfold onT at h ⊢
    rcases fstN_sp (P := fun o => o ≠ k ∧ so o = b ∧ clT' T o) (n := n) (by omega) with g | g
    · rw [if_pos g.1] at h; exact absurd rfl h
    · rw [if_neg (by omega)]
      exact Or.inl (wf_cell hw g.1 g.2.1.2.2.1).1
  · rw [if_neg e] at h ⊢
    by_cases e1 : r = 1
    · rw [if_pos e1] at h ⊢
      unfold inT at h ⊢
      rcases fstN_sp (P := fun o => b = 2 ∧ so o = 2 ∧ clT' T o ∧ zN T o = 9) (n := n) (by omega) with g | g
      · rw [if_pos g.1] at h; exact absurd rfl h
      · rw [if_neg (by omega), Nat.add_sub_cancel_left]
        exact Or.inr ⟨by omega, g.1, g.2.1.2.1⟩
    · rw [if_neg e1] at h ⊢
      unfold bsT at h ⊢
      rcases fstN_sp (P := fun o => o ≠ k ∧ so o = b ∧ zB T o = 9) (n := n) (by omega) with g | g
      · rw [if_pos g.1] at h; exact absurd rfl h
      · rw [if_neg (by omega)] at h ⊢
        rcases fstN_sp (P := fun c => nb c (zC T (fstN (fun o => o ≠ k ∧ so o = b ∧ zB T o = 9) n)) = true ∧ zS T c = 0) (n := 8) (by omega) with g2 | g2
        · exact absurd g2.1 h
        · exact Or.inl g2.1
theorem r12_isPut (hx : x = nI r) (hy : y = nI k) (hz : z = nI rel) (hw' : w = nI b) (hw : wfT so n T) (hS : stkR μ n so wt) (hr : r < 108) (hT : tabR μ r T) (hk : k < n) (hl : rel < 3) (hb : b < 4) (h1 : ptT so n T k rel b → ∀ μ', agR r μ μ' → tabR μ' r (goT T k (wtT so n T k rel b)) → Q 1 0 (0, 0) μ') (h2 : ¬ ptT so n T k rel b → Q 0 0 (0, 0) μ) : Call (d + 7) n12_isPut [sR 41 0, sI x, sI y, sI z, sI w] μ Q := by
  subst hx; subst hy; subst hz; subst hw'
  have hn := hS.2.1
  unfold ptT at h1 h2
  refine call_go (cd := k12_isPut) 60 rfl rfl ?_
  refine r12_whereTo rfl rfl rfl rfl hw hS hr hT hk hl hb ?_
  by_cases e : wtT so n T k rel b = 99
  · refine brT (by rw [e]; rfl) ?_
    exact ⟨Or.inl rfl, h2 (fun z => z.1 e)⟩
  · have g := wt_lt hw hn e
    have g2 := wt_to hw hn e
    refine brF (by simp (disch := first | omega | (simp (disch := omega) only [nI_toInt, Int32.reduceToInt, i_sub, i_add, i_mul]; omega)) only [p9_n e, iNONE, i_lt, i_le, i_eq, i_in, nI_toInt, Int32.reduceToInt, i_sub, i_add, i_mul]; omega) ?_
    refine r12_canMove rfl rfl (p9_n e) hw hS hr hT hk g2 (fun e2 => ?_) (fun e2 => ?_)
    · refine brnF (by decide) ?_
      refine r12_doMove rfl rfl (p9_n e) hw hn hr hT hk g e2 (fun μ' g3 g4 => ?_)
      exact ⟨Or.inr rfl, h1 ⟨e, e2⟩ μ' g3 g4⟩
    · refine brnT rfl ?_
      exact ⟨Or.inl rfl, h2 (fun z => e2 z.2)⟩
end RT
