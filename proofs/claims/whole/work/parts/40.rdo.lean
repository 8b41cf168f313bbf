/-! the reference: orders, rows copied and held against each other -/
section RT
variable {d t n k c s a b r u o i rel : Nat} {μ : sM} {Q : sQ} {so wt : Nat → Nat} {T : tT} {x y z w : Int32}
theorem or_m : ∀ o, o < 96 → (nI o - nI o / 2 * 2 = 1 ↔ o % 2 = 1) ∧ (nI o - nI o / 2 * 2 = 0 ↔ ¬ o % 2 = 1) := by decide +kernel
theorem r12_doOrder (hx : x = nI r) (hy : y = nI o) (ho : o < 96) (hw : wfT so n T) (hS : stkR μ n so wt) (hr : r < 108) (hT : tabR μ r T) (h1 : (odT so n T o).1 ≠ 99 → ∀ μ', agR r μ μ' → tabR μ' r (odT so n T o).2 → Q (nI (odT so n T o).1) 0 (0, 0) μ') (h2 : (odT so n T o).1 = 99 → ∀ μ', agR r μ μ' → Q nONE 0 (0, 0) μ') : Call (d + 8) n12_doOrder [sR 41 0, sI x, sI y] μ Q := by
  subst hx; subst hy
  have hn := hS.2.1
  unfold odT at h1 h2
  have ha : o / 2 % 4 < 4 := Nat.mod_lt _ (by decide)
  have hl : o / 8 % 3 < 3 := Nat.mod_lt _ (by decide)
  have hb : o / 24 < 4 := by omega
  have q := or_a o ho
  refine call_go (cd := k12_doOrder) 22 rfl rfl ?_
  refine And.intro (by decide) ?_
  refine And.intro (by decide) ?_
  refine And.intro (by decide) ?_
  refine And.intro (by decide) ?_
  refine And.intro (by decide) ?_
  rw [q.1, q.2.1, q.2.2.1]
  by_cases e : o % 2 = 1
  · rw [if_pos e] at h1 h2
    refine loopC (cd := k12_doOrder) (d := d + 7) (Q := Q) n (fun i ls μ' => ls = [some (sR 41 0), some (sI (nI r)), some (sI (nI o)), some (sI (nI (o / 2 % 4))), some (sI (nI (o / 8 % 3))), some (sI (nI (o / 24))), some (sI (nI (evT so n (o / 2 % 4) (o / 8 % 3) (o / 24) T i).2.2)), some (sI (nI (evT so n (o / 2 % 4) (o / 8 % 3) (o / 24) T i).2.1)), some (sI (nI i))] ∧ agR r μ μ' ∧ tabR μ' r (evT so n (o / 2 % 4) (o / 8 % 3) (o / 24) T i).1) 29 0 [some (sR 41 0), some (sI (nI r)), some (sI (nI o)), some (sI (nI (o / 2 % 4))), some (sI (nI (o / 8 % 3))), some (sI (nI (o / 24))), some (sI 0), some (sI 0), some (sI 0)] μ (Nat.zero_le n) ⟨rfl, agR.rf, hT⟩ ?_
    rintro i ls μ' hi ⟨rfl, g1, g2⟩ kk
    have hS' := hS.ag g1
    have hv := ev_wf hw hn (a := o / 2 % 4) (r := o / 8 % 3) (b := o / 24) i hi
    refine run_go 4 ?_
    by_cases e1 : i = n
    · refine brT (by simp (disch := first | omega | (simp (disch := omega) only [nI_toInt, Int32.reduceToInt, i_sub, i_add, i_mul]; omega)) only [hS'.1, iNONE, i_lt, i_le, i_eq, i_in, nI_toInt, Int32.reduceToInt, i_sub, i_add, i_mul]; omega) ?_
      subst e1
      refine run_go 30 ?_
      refine And.intro (by decide) ?_
      refine brF (fun z => (or_m o ho).2.mp z e) ?_
      by_cases e2 : 0 < (evT so i (o / 2 % 4) (o / 8 % 3) (o / 24) T i).2.1
      · refine brF (by simp (disch := first | omega | (simp (disch := omega) only [nI_toInt, Int32.reduceToInt, i_sub, i_add, i_mul]; omega)) only [iNONE, i_lt, i_le, i_eq, i_in, nI_toInt, Int32.reduceToInt, i_sub, i_add, i_mul]; omega) ?_
        by_cases e3 : (evT so i (o / 2 % 4) (o / 8 % 3) (o / 24) T i).2.2 = 0
        · refine brnT (by simp (disch := first | omega | (simp (disch := omega) only [nI_toInt, Int32.reduceToInt, i_sub, i_add, i_mul]; omega)) only [iNONE, i_lt, i_le, i_eq, i_in, nI_toInt, Int32.reduceToInt, i_sub, i_add, i_mul]; omega) ?_
          rw [if_pos ⟨e3, e2⟩] at h2
          exact h2 rfl μ' g1
        · refine brnF (by simp (disch := first | omega | (simp (disch := omega) only [nI_toInt, Int32.reduceToInt, i_sub, i_add, i_mul]; omega)) only [iNONE, i_lt, i_le, i_eq, i_in, nI_toInt, Int32.reduceToInt, i_sub, i_add, i_mul]; omega) ?_
          rw [if_neg (fun z => e3 z.1)] at h1
          exact h1 (by show ¬ (evT so i (o / 2 % 4) (o / 8 % 3) (o / 24) T i).2.2 = 99; omega) μ' g1 g2
      · refine brT (by simp (disch := first | omega | (simp (disch := omega) only [nI_toInt, Int32.reduceToInt, i_sub, i_add, i_mul]; omega)) only [iNONE, i_lt, i_le, i_eq, i_in, nI_toInt, Int32.reduceToInt, i_sub, i_add, i_mul]; omega) ?_
        rw [if_neg (fun z => e2 z.2)] at h1
        exact h1 (by show ¬ (evT so i (o / 2 % 4) (o / 8 % 3) (o / 24) T i).2.2 = 99; omega) μ' g1 g2
    · refine brF (by simp (disch := first | omega | (simp (disch := omega) only [nI_toInt, Int32.reduceToInt, i_sub, i_add, i_mul]; omega)) only [hS'.1, iNONE, i_lt, i_le, i_eq, i_in, nI_toInt, Int32.reduceToInt, i_sub, i_add, i_mul]; omega) ?_
      have hs := hS'.2.2 i (by omega)
      have kk := fun ls' μ' => kk ls' μ' (by omega)
      have ev1 : evT so n (o / 2 % 4) (o / 8 % 3) (o / 24) T (i + 1) = stE so n (o / 2 % 4) (o / 8 % 3) (o / 24) i (evT so n (o / 2 % 4) (o / 8 % 3) (o / 24) T i) := rfl
      rw [ev1] at kk
      generalize evT so n (o / 2 % 4) (o / 8 % 3) (o / 24) T i = p at kk g2 hv
      unfold stE at kk
      refine run_go 6 ?_
      refine And.intro (by simp (disch := first | omega | (simp (disch := omega) only [nI_toInt, Int32.reduceToInt, i_sub, i_add, i_mul]; omega)) only [iNONE, i_lt, i_le, i_eq, i_in, nI_toInt, Int32.reduceToInt, i_sub, i_add, i_mul]; omega) ?_
      rw [nI_clamp (by omega), hs.1]
      by_cases e2 : so i = o / 2 % 4
      · refine brnT (by rw [e2]) ?_
        refine run_go 7 ?_
        refine r12_isAsTold rfl rfl rfl rfl hv.1 hS' hr g2 (by omega) hl hb (fun e3 => ?_) (fun e3 => ?_)
        · refine brnF (by decide) ?_
          rw [iteP_f (fun z => z.2 e3)] at kk
          refine run_go 2 ?_
          exact kk _ _ ⟨by rw [← nI_1], g1, g2⟩
        · refine brnT rfl ?_
          rw [iteP_t ⟨e2, e3⟩] at kk
          refine run_go 5 ?_
          refine And.intro (by decide) ?_
          refine brnT ((or_m o ho).1.mpr e) ?_
          refine run_go 9 ?_
          refine r12_isPut rfl rfl rfl rfl hv.1 hS' hr g2 (by omega) hl hb (fun e4 μ'' g3 g4 => ?_) (fun e4 => ?_)
          · refine brF (by decide) ?_
            rw [iteP_t e4] at kk
            refine run_go 7 ?_
            exact kk _ _ ⟨by rw [← nI_1, ← nI_1, ← nI_1], g1.tr g3, g4⟩
          · refine brT rfl ?_
            rw [iteP_f e4] at kk
            refine run_go 6 ?_
            refine kk _ _ ⟨?_, g1, g2⟩
            rw [← nI_1, ← nI_1]
            show _ = [some (sR 41 0), some (sI (nI r)), some (sI (nI o)), some (sI (nI (o / 2 % 4))), some (sI (nI (o / 8 % 3))), some (sI (nI (o / 24))), some (sI (nI p.2.2)), some (sI (nI p.2.1 + 1)), some (sI (nI i + 1))]
            rw [show nI p.2.2 + 0 = nI p.2.2 from nI_add p.2.2 0]
      · refine brnF (fun z => e2 ((nI_eq (by omega) (by omega)).mp z)) ?_
        rw [iteP_f (fun z => e2 z.1)] at kk
        refine run_go 2 ?_
        exact kk _ _ ⟨by rw [← nI_1], g1, g2⟩
  · rw [if_neg e] at h1 h2
    refine loopS (cd := k12_doOrder) (d := d + 7) (Q := Q) n (foP so n T (o / 2 % 4) (o / 8 % 3) (o / 24)) (fun j => [some (sR 41 0), some (sI (nI r)), some (sI (nI o)), some (sI (nI (o / 2 % 4))), some (sI (nI (o / 8 % 3))), some (sI (nI (o / 24))), some (sI 0), some (sI 0), some (sI j)]) μ 29 (fun hp => ?_) (fun i hi hp kk => ?_)
    · refine run_go 4 ?_
      refine brT (by simp (disch := first | omega | (simp (disch := omega) only [nI_toInt, Int32.reduceToInt, i_sub, i_add, i_mul]; omega)) only [hS.1, iNONE, i_lt, i_le, i_eq, i_in, nI_toInt, Int32.reduceToInt, i_sub, i_add, i_mul]; omega) ?_
      refine run_go 30 ?_
      refine And.intro (by decide) ?_
      refine brT ((or_m o ho).2.mpr e) ?_
      rw [if_pos (fstN_no hp)] at h2
      exact h2 rfl μ agR.rf
    · have hs := hS.2.2 i hi
      refine run_go 4 ?_
      refine brF (by simp (disch := first | omega | (simp (disch := omega) only [nI_toInt, Int32.reduceToInt, i_sub, i_add, i_mul]; omega)) only [hS.1, iNONE, i_lt, i_le, i_eq, i_in, nI_toInt, Int32.reduceToInt, i_sub, i_add, i_mul]; omega) ?_
      refine run_go 6 ?_
      refine And.intro (by simp (disch := first | omega | (simp (disch := omega) only [nI_toInt, Int32.reduceToInt, i_sub, i_add, i_mul]; omega)) only [iNONE, i_lt, i_le, i_eq, i_in, nI_toInt, Int32.reduceToInt, i_sub, i_add, i_mul]; omega) ?_
      rw [nI_clamp (by omega), hs.1]
      by_cases e2 : so i = o / 2 % 4
      · refine brnT (by rw [e2]) ?_
        refine run_go 7 ?_
        refine r12_isAsTold rfl rfl rfl rfl hw hS hr hT hi hl hb (fun e3 => ?_) (fun e3 => ?_)
        · refine brnF (by decide) ?_
          refine run_go 2 ?_
          exact kk (fun z => z.2.1 e3)
        · refine brnT rfl ?_
          refine run_go 5 ?_
          refine And.intro (by decide) ?_
          refine brnF (fun z => e ((or_m o ho).1.mp z)) ?_
          refine run_go 5 ?_
          refine r12_isLoose rfl rfl hw hn hr hT hi (fun e4 => ?_) (fun e4 => ?_)
          · refine brF (by decide) ?_
            have e5 := fstN_is (P := foP so n T (o / 2 % 4) (o / 8 % 3) (o / 24)) ⟨e2, e3, e4⟩ hp hi (by omega)
            rw [if_neg (by omega), e5] at h1 h2
            refine run_go 30 ?_
            refine r12_isPut rfl rfl rfl rfl hw hS hr hT hi hl hb (fun e6 μ'' g3 g4 => ?_) (fun e6 => ?_)
            · refine brF (by decide) ?_
              rw [iteP_t e6] at h1
              exact h1 (by show ¬ 1 = 99; decide) μ'' g3 g4
            · refine brT rfl ?_
              rw [iteP_f e6] at h2
              exact h2 rfl μ agR.rf
          · refine brT rfl ?_
            refine run_go 2 ?_
            exact kk (fun z => e4 z.2.2)
      · refine brnF (fun z => e2 ((nI_eq (by omega) (by omega)).mp z)) ?_
        refine run_go 2 ?_
        exact kk (fun z => e2 z.1)
end RT
