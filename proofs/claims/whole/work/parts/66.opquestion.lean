/-! question -/
section OP
variable {d n k c s a b r u o i rel κ lr t p j S m m' : Nat} {μ μ' μ'' : sM} {Q : sQ} {so wt : Nat → Nat} {T T' : tT} {tb : Nat → tT} {l : lT} {x y z w v : Int32} {ξ : Nat → Nat → Int32}
theorem bs_rg {U : Nat → Nat} (hU : ∀ q, U q ≤ 96) : ∀ i, i ≤ 8 → ((bsQ U i).1 = 99 ∧ (bsQ U i).2 = 0 ∨ (bsQ U i).1 < i) ∧ (bsQ U i).2 ≤ 96
  | 0, _ => ⟨Or.inl ⟨rfl, rfl⟩, Nat.zero_le 96⟩
  | i + 1, h => by
    have ih := bs_rg hU i (by omega)
    have hu := hU i
    unfold bsQ
    split
    · exact ⟨Or.inr (by omega), hu⟩
    · rename_i e
      exact ⟨Or.inr (by omega), ih.2⟩
theorem op_question (hI : INV ξ μ) (h : ∀ v μ', opQ ξ (d + 20) n12_question [sR 41 0, sI x] v μ' → Q v 0 (0, 0) μ') : Call (d + 20) n11_question [sR 0 0, sI x] μ Q := by
  refine call_go (cd := k11_question) 4 rfl rfl ?_
  refine c11_within (b := 2) rfl (by decide) (fun a ha e1 => ?_) (fun e1 => ?_)
  · subst e1
    refine brnF (by decide) ?_
    refine run_go 13 ?_
    refine c7_learnI hI (fun μ1 n so wt κ tb h1 h2 h3 hI1 => ?_)
    obtain ⟨l, g1, g2, g3⟩ := h3.lg
    have hκ := h1.2.2.1
    refine c10_gatherFitting h1 h2 g1 g2 (fun μ2 I2 => ?_)
    obtain ⟨F2, E2, M2, V2⟩ := I2
    have hI2 := hI1.G F2 E2
    have t2 := fG_tb h1 F2
    have l2 := fG_lr h2 F2 E2
    have R2 : lsR μ2 l := g3.fr (F2.sub (fun a i k z => by unfold fLr at z; unfold fG; omega))
    have G2 := rf_of t2 R2
    generalize hU : (fun q => sqN so n tb l (tb (q + 1)) 96) = U
    have hU' : ∀ q, sqN so n tb l (tb (q + 1)) 96 = U q := fun q => by rw [← hU]
    have uL : ∀ q, U q ≤ 96 := fun q => by rw [← hU']; exact sq_le
    have fin : ∀ μ3, agU μ2 μ3 → Q (if a = 0 then p9 (bsQ U κ).1 else nI (bsQ U κ).2) 0 (0, 0) μ3 := by
      intro μ3 A3
      have hI3 := hI2.U A3
      have t3 := agU_tb t2 A3
      have R3 : lsR μ3 l := R2.fr (fun a i k _ => by rw [A3.1])
      have G3 := rf_of t3 R3
      refine h _ _ (fun Q hq => ?_)
      refine call_go (cd := k12_question) 9 rfl rfl ?_
      refine r12_inN (b := 2) (by decide) (fun _ _ _ => ?_) (fun q => by rw [nI_toInt (by omega)] at q; omega)
      refine brnF (by decide) ?_
      refine run_go 6 ?_
      refine loopC (cd := k12_question) (d := d + 19) (Q := Q) κ (fun i ls μ' => ls = [some (sR 41 0), some (sI (nI a)), some (sI (p9 (bsQ U i).1)), some (sI (nI (bsQ U i).2)), some (sI (nI i))] ∧ agK (m_i μ3 41 0 0 0) μ') 26 0 _ _ (Nat.zero_le _) ⟨rfl, agK.rf⟩ ?_
      rintro i ls μ4 hi ⟨rfl, A4⟩ kk
      have K4 : μ4.1 41 0 6 = nI κ := (A4.1 41 0 6 (by omega)).trans ((mi_k (by decide)).trans t3.2.2.2.2.1)
      have rg := bs_rg uL i (by omega)
      refine run_go 4 ?_
      by_cases q : i = κ
      · subst q
        refine brT (by simp (disch := first | omega | (simp (disch := omega) only [nI_toInt, Int32.reduceToInt, i_sub, i_add, i_mul]; omega)) only [K4, iNONE, i_lt, i_le, i_eq, i_in, nI_toInt, Int32.reduceToInt, i_sub, i_add, i_mul]; omega) ?_
        refine run_go 20 ?_
        have hq := hq _ (hI3.th.K A4)
        rcases (by omega : a = 0 ∨ a = 1) with rfl | rfl
        · refine brnT rfl ?_
          exact hq
        · refine brnF (by decide) ?_
          exact hq
      · refine brF (by simp (disch := first | omega | (simp (disch := omega) only [nI_toInt, Int32.reduceToInt, i_sub, i_add, i_mul]; omega)) only [K4, iNONE, i_lt, i_le, i_eq, i_in, nI_toInt, Int32.reduceToInt, i_sub, i_add, i_mul]; omega) ?_
        refine run_go 7 ?_
        refine r12_unlike rfl (by omega) hκ t3.2.2.2.2.2.1 (G3.K hκ A4) g1 (fun μ5 A5 => ?_)
        rw [hU']
        have ui := uL i
        have kk3 := run_sub (kk [some (sR 41 0), some (sI (nI a)), some (sI (p9 (bsQ U (i + 1)).1)), some (sI (nI (bsQ U (i + 1)).2)), some (sI (nI (i + 1)))] μ5 (by omega) ⟨rfl, A4.tr A5⟩) (subL.app _ [some (sI (nI (U i)))])
        rw [show bsQ U (i + 1) = if (bsQ U i).1 = 99 ∨ (bsQ U i).2 < U i then (i, U i) else bsQ U i from rfl, ← nI_1 i] at kk3
        by_cases c1 : (bsQ U i).1 = 99
        · rw [if_pos (Or.inl c1)] at kk3
          refine brT (by rw [c1]; rfl) ?_
          refine run_go 6 ?_
          rw [p9_n (by omega)] at kk3
          exact kk3
        · refine brF (by rw [p9_n c1, show (-1000000 : Int32) = nONE from rfl]; exact (by simp (disch := first | omega | (simp (disch := omega) only [nI_toInt, Int32.reduceToInt, i_sub, i_add, i_mul]; omega)) only [iNONE, i_lt, i_le, i_eq, i_in, nI_toInt, Int32.reduceToInt, i_sub, i_add, i_mul]; omega)) ?_
          refine run_go 3 ?_
          by_cases c2 : (bsQ U i).2 < U i
          · rw [if_pos (Or.inr c2)] at kk3
            refine brF (by simp (disch := first | omega | (simp (disch := omega) only [nI_toInt, Int32.reduceToInt, i_sub, i_add, i_mul]; omega)) only [iNONE, i_lt, i_le, i_eq, i_in, nI_toInt, Int32.reduceToInt, i_sub, i_add, i_mul]; omega) ?_
            refine run_go 6 ?_
            rw [p9_n (by omega)] at kk3
            exact kk3
          · rw [if_neg (by omega)] at kk3
            refine brT (by simp (disch := first | omega | (simp (disch := omega) only [nI_toInt, Int32.reduceToInt, i_sub, i_add, i_mul]; omega)) only [iNONE, i_lt, i_le, i_eq, i_in, nI_toInt, Int32.reduceToInt, i_sub, i_add, i_mul]; omega) ?_
            refine run_go 2 ?_
            exact kk3
    refine loopC (cd := k11_question) (d := d + 19) (Q := Q) κ (fun i ls μ' => ls = [some (sR 0 0), some (sI (nI a)), some (sI (p9 (bsQ U i).1)), some (sI (if (bsQ U i).1 = 99 then -1 else nI (bsQ U i).2)), some (sI (nI i))] ∧ agU μ2 μ') 34 0 _ _ (Nat.zero_le _) ⟨rfl, agU.rf⟩ ?_
    rintro i ls μ3 hi ⟨rfl, A3⟩ kk
    have t3 := agU_tb t2 A3
    have rg := bs_rg uL i (by omega)
    refine run_go 5 ?_
    refine call_go (cd := k7_size) 10 rfl rfl ?_
    by_cases q : i = κ
    · subst q
      refine brT (by simp (disch := first | omega | (simp (disch := omega) only [nI_toInt, Int32.reduceToInt, i_sub, i_add, i_mul]; omega)) only [t3.2.2.2.1, iNONE, i_lt, i_le, i_eq, i_in, nI_toInt, Int32.reduceToInt, i_sub, i_add, i_mul]; omega) ?_
      refine run_go 20 ?_
      have fin := fin _ A3
      rcases (by omega : a = 0 ∨ a = 1) with rfl | rfl
      · refine brnT rfl ?_
        exact fin
      · refine brnF (by decide) ?_
        rw [if_neg (by decide)] at fin
        by_cases c1 : (bsQ U i).1 = 99
        · rw [if_pos c1]
          have c2 : (bsQ U i).2 = 0 := by omega
          rw [c2] at fin
          exact fin
        · rw [if_neg c1]
          show Q (if nI (bsQ U i).2 < 0 then 0 else nI (bsQ U i).2) 0 (0, 0) μ3
          rw [if_neg (by simp (disch := first | omega | (simp (disch := omega) only [nI_toInt, Int32.reduceToInt, i_sub, i_add, i_mul]; omega)) only [iNONE, i_lt, i_le, i_eq, i_in, nI_toInt, Int32.reduceToInt, i_sub, i_add, i_mul]; omega)]
          exact fin
    · refine brF (by simp (disch := first | omega | (simp (disch := omega) only [nI_toInt, Int32.reduceToInt, i_sub, i_add, i_mul]; omega)) only [t3.2.2.2.1, iNONE, i_lt, i_le, i_eq, i_in, nI_toInt, Int32.reduceToInt, i_sub, i_add, i_mul]; omega) ?_
      refine run_go 8 ?_
      refine c10_unlikeOn rfl t3 (l2.U A3) (by omega) (by rw [A3.1]; exact M2) (fun o h1 h2 => by rw [A3.1]; exact V2 o h1 h2) (fun μ4 A4 => ?_)
      rw [hU']
      have ui := uL i
      have kk3 := run_sub (kk [some (sR 0 0), some (sI (nI a)), some (sI (p9 (bsQ U (i + 1)).1)), some (sI (if (bsQ U (i + 1)).1 = 99 then -1 else nI (bsQ U (i + 1)).2)), some (sI (nI (i + 1)))] μ4 (by omega) ⟨rfl, A3.tr A4⟩) (subL.app _ [some (sI (nI (U i)))])
      rw [show bsQ U (i + 1) = if (bsQ U i).1 = 99 ∨ (bsQ U i).2 < U i then (i, U i) else bsQ U i from rfl, ← nI_1 i] at kk3
      by_cases c1 : (bsQ U i).1 = 99
      · rw [if_pos (Or.inl c1), if_neg (by omega : ¬ i = 99), p9_n (by omega)] at kk3
        refine brF (by rw [if_pos c1]; exact (by simp (disch := first | omega | (simp (disch := omega) only [nI_toInt, Int32.reduceToInt, i_sub, i_add, i_mul]; omega)) only [iNONE, i_lt, i_le, i_eq, i_in, nI_toInt, Int32.reduceToInt, i_sub, i_add, i_mul]; omega)) ?_
        refine run_go 6 ?_
        exact kk3
      · by_cases c2 : (bsQ U i).2 < U i
        · rw [if_pos (Or.inr c2), if_neg (by omega : ¬ i = 99), p9_n (by omega)] at kk3
          refine brF (by rw [if_neg c1]; exact (by simp (disch := first | omega | (simp (disch := omega) only [nI_toInt, Int32.reduceToInt, i_sub, i_add, i_mul]; omega)) only [iNONE, i_lt, i_le, i_eq, i_in, nI_toInt, Int32.reduceToInt, i_sub, i_add, i_mul]; omega)) ?_
          refine run_go 6 ?_
          exact kk3
        · rw [if_neg (by omega)] at kk3
          refine brT (by rw [if_neg c1]; exact (by simp (disch := first | omega | (simp (disch := omega) only [nI_toInt, Int32.reduceToInt, i_sub, i_add, i_mul]; omega)) only [iNONE, i_lt, i_le, i_eq, i_in, nI_toInt, Int32.reduceToInt, i_sub, i_add, i_mul]; omega)) ?_
          refine run_go 2 ?_
          exact kk3
  · refine brnT rfl ?_
    refine run_go 10 ?_
    refine h _ _ (fun Q hq => ?_)
    refine call_go (cd := k12_question) 20 rfl rfl ?_
    refine r12_inN (b := 2) (by decide) (fun a ha e2 => by subst e2; rw [nI_toInt (by omega)] at e1; omega) (fun q => ?_)
    refine brnT rfl ?_
    exact hq _ hI.th
end OP
