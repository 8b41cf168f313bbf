/-! plan -/
section OP
variable {d n k c s a b r u o i rel κ lr t p j S m m' e : Nat} {μ μ' μ'' : sM} {Q : sQ} {so wt rc : Nat → Nat} {T T' : tT} {tb : Nat → tT} {l : lT} {x y z w v : Int32} {ξ : Nat → Nat → Int32}
theorem agK_tab0 (hT : tabR μ 0 T) (g : agK μ μ') : tabR μ' 0 T := by
  refine ⟨fun c hc => ?_, fun c i hc hi => ?_, fun k hk => ?_⟩
  · rw [g.1 42 0 _ (by omega)]; exact hT.1 c hc
  · rw [g.1 42 0 _ (by omega)]; exact hT.2.1 c i hc hi
  · rw [g.1 42 0 _ (by omega)]; exact hT.2.2 k hk
theorem agK_stk (hS : stkR μ n so wt) (g : agK μ μ') : stkR μ' n so wt := by
  refine ⟨?_, hS.2.1, fun k hk => ?_⟩
  · rw [g.1 41 0 3 (by omega)]; exact hS.1
  · rw [g.1 43 0 k (by omega), g.1 44 0 k (by omega)]; exact hS.2.2 k hk
/-- all moves of things, in order, up to the first that has P -/
theorem r12_scan {P : Nat → Nat → Prop} (hw : wfT so n T) (hS : stkR μ n so wt) (hrc : rcR μ rc) (hT : tabR μ 0 T)
    (hev : ∀ k a μ', k < n → a < 14 → mvT so n T rc k a → agK μ μ' → tabR μ' 9 (goT T k a) → (P k a → ∀ μ'', agK μ μ'' → Run k12_plan (Call (d + 9)) Q 131 [some (sR 41 0), some (sI (nI o)), some (sI (nI e)), some (sI (nI m)), some (sI (nI k)), some (sI (nI a))] [] μ'') → (¬ P k a → ∀ μ'', agK μ μ'' → Run k12_plan (Call (d + 9)) Q 148 [some (sR 41 0), some (sI (nI o)), some (sI (nI e)), some (sI (nI m)), some (sI (nI k)), some (sI (nI a))] [] μ'') → Run k12_plan (Call (d + 9)) Q 103 [some (sR 41 0), some (sI (nI o)), some (sI (nI e)), some (sI (nI m)), some (sI (nI k)), some (sI (nI a))] [] μ')
    (hy : ∀ k a μ', k < n → a < 14 → fstN (fun p => mvT so n T rc (p / 14) (p % 14) ∧ P (p / 14) (p % 14)) (14 * n) = 14 * k + a → agK μ μ' → Run k12_plan (Call (d + 9)) Q 131 [some (sR 41 0), some (sI (nI o)), some (sI (nI e)), some (sI (nI m)), some (sI (nI k)), some (sI (nI a))] [] μ')
    (hno : ∀ μ', fstN (fun p => mvT so n T rc (p / 14) (p % 14) ∧ P (p / 14) (p % 14)) (14 * n) = 99 → agK μ μ' → Run k12_plan (Call (d + 9)) Q 160 [some (sR 41 0), some (sI (nI o)), some (sI (nI e)), some (sI (nI m)), some (sI (nI n))] [] μ') :
    Run k12_plan (Call (d + 9)) Q 55 [some (sR 41 0), some (sI (nI o)), some (sI (nI e)), some (sI (nI m)), some (sI 0)] [] μ := by
  have hn := hS.2.1
  refine loopC (cd := k12_plan) (d := d + 9) (Q := Q) n (fun i ls μ' => ls = [some (sR 41 0), some (sI (nI o)), some (sI (nI e)), some (sI (nI m)), some (sI (nI i))] ∧ agK μ μ' ∧ ∀ p, p < 14 * i → ¬ (mvT so n T rc (p / 14) (p % 14) ∧ P (p / 14) (p % 14))) 55 0 _ _ (Nat.zero_le _) ⟨rfl, agK.rf, fun p hp => absurd hp (Nat.not_lt_zero p)⟩ ?_
  rintro k ls μ1 hk ⟨rfl, A1, N1⟩ kk
  have S1 := agK_stk hS A1
  refine run_go 4 ?_
  by_cases q : k = n
  · subst q
    refine brT (by simp (disch := first | omega | (simp (disch := omega) only [nI_toInt, Int32.reduceToInt, i_sub, i_add, i_mul]; omega)) only [S1.1, iNONE, i_lt, i_le, i_eq, i_in, nI_toInt, Int32.reduceToInt, i_sub, i_add, i_mul]; omega) ?_
    exact hno μ1 (fstN_no N1) A1
  · refine brF (by simp (disch := first | omega | (simp (disch := omega) only [nI_toInt, Int32.reduceToInt, i_sub, i_add, i_mul]; omega)) only [S1.1, iNONE, i_lt, i_le, i_eq, i_in, nI_toInt, Int32.reduceToInt, i_sub, i_add, i_mul]; omega) ?_
    have hk' : k < n := by omega
    refine run_go 2 ?_
    refine loopC (cd := k12_plan) (d := d + 9) (Q := Q) 14 (fun a ls μ' => ls = [some (sR 41 0), some (sI (nI o)), some (sI (nI e)), some (sI (nI m)), some (sI (nI k)), some (sI (nI a))] ∧ agK μ μ' ∧ ∀ a', a' < a → ¬ (mvT so n T rc k a' ∧ P k a')) 67 0 _ _ (Nat.zero_le _) ⟨rfl, A1, fun p hp => absurd hp (Nat.not_lt_zero p)⟩ ?_
    rintro a ls μ2 ha ⟨rfl, A2, N2⟩ kk2
    have S2 := agK_stk hS A2
    have T2 := agK_tab0 hT A2
    have r2 := hrc.K A2
    refine run_go 3 ?_
    by_cases q2 : a = 14
    · subst q2
      refine brT (by simp (disch := first | omega | (simp (disch := omega) only [nI_toInt, Int32.reduceToInt, i_sub, i_add, i_mul]; omega)) only [iNONE, i_lt, i_le, i_eq, i_in, nI_toInt, Int32.reduceToInt, i_sub, i_add, i_mul]; omega) ?_
      refine run_go 2 ?_
      refine run_sub (kk [some (sR 41 0), some (sI (nI o)), some (sI (nI e)), some (sI (nI m)), some (sI (nI k + 1))] _ hk' ⟨by rw [nI_1], A2, fun p hp => ?_⟩) (subL.app _ [some (sI (nI 14))])
      by_cases q3 : p < 14 * k
      · exact N1 p q3
      · rw [show p / 14 = k by omega]
        exact N2 (p % 14) (Nat.mod_lt _ (by decide))
    · refine brF (by simp (disch := first | omega | (simp (disch := omega) only [nI_toInt, Int32.reduceToInt, i_sub, i_add, i_mul]; omega)) only [iNONE, i_lt, i_le, i_eq, i_in, nI_toInt, Int32.reduceToInt, i_sub, i_add, i_mul]; omega) ?_
      have ha' : a < 14 := by omega
      have no : ∀ μ3, agK μ μ3 → ¬ (mvT so n T rc k a ∧ P k a) → Run k12_plan (Call (d + 9)) Q 148 [some (sR 41 0), some (sI (nI o)), some (sI (nI e)), some (sI (nI m)), some (sI (nI k)), some (sI (nI a))] [] μ3 := by
        intro μ3 A3 N3
        refine run_go 2 ?_
        refine kk2 _ _ ha' ⟨by rw [← nI_1 a], A3, fun a' ha' => ?_⟩
        by_cases q4 : a' = a
        · subst q4; exact N3
        · exact N2 a' (by omega)
      refine run_go 6 ?_
      refine r12_canBySome (r := 0) rfl rfl rfl hw S2 r2 (by decide) T2 hk' ha' (fun e => ?_) (fun e => ?_)
      · refine brF (by decide) ?_
        refine run_go 9 ?_
        refine r12_copyTable (u := 0) (r := 9) rfl rfl (by decide) (by decide) (by decide) T2 (fun μ3 a3 t3 => ?_)
        refine r12_doMove (r := 9) rfl rfl rfl hw hn (by decide) t3 hk' ha' e.1 (fun μ4 a4 t4 => ?_)
        refine hev k a μ4 hk' ha' e ((A2.tr (a3.K (by decide))).tr (a4.K (by decide))) t4 (fun e2 μ5 A5 => ?_) (fun e2 μ5 A5 => no μ5 A5 (fun z => e2 z.2))
        refine hy k a μ5 hk' ha' ?_ A5
        exact fstN_is (P := fun p => mvT so n T rc (p / 14) (p % 14) ∧ P (p / 14) (p % 14)) (v := 14 * k + a) (by rw [show (14 * k + a) / 14 = k by omega, show (14 * k + a) % 14 = a by omega]; exact ⟨e, e2⟩) (fun p hp' => by
          by_cases q5 : p < 14 * k
          · exact N1 p q5
          · rw [show p / 14 = k by omega]
            exact N2 (p % 14) (by omega)) (by omega) (by omega)
      · refine brT rfl ?_
        exact no _ A2 (fun z => e z.1)
theorem op_plan (hI : INV ξ μ) (h : ∀ v μ', opQ ξ (d + 20) n12_plan [sR 41 0, sI x, sI y] v μ' → Q v 0 (0, 0) μ') : Call (d + 20) n11_plan [sR 0 0, sI x, sI y] μ Q := by
  by_cases hb : (∃ o, o < 96 ∧ x = nI o) ∧ ∃ a, a < 2 ∧ y = nI a
  · obtain ⟨⟨o, ho, rfl⟩, b, hb, rfl⟩ := hb
    have hI0 := hI
    obtain ⟨n, so, wt, κ, tb, lr, h1, h2, h3⟩ := hI0
    have hw := h1.2.2.2.2.2.1 0 (Nat.zero_le _)
    have hC := h1.2.2.2.2.2.2.1
    have hR := h1.2.2.2.2.2.2.2.2 0 (Nat.zero_le _)
    have hn := h1.1.2.1
    obtain ⟨rc, hrc⟩ := h3.2.1
    generalize tb 0 = T at hw hC hR
    refine call_go (cd := k11_plan) 60 rfl rfl ?_
    refine c11_isWithin (b := 96) rfl rfl (by omega) (by decide) (fun _ => ?_) (fun z => by omega)
    refine brF (by decide) ?_
    refine c11_isWithin (b := 2) rfl rfl (by omega) (by decide) (fun _ => ?_) (fun z => by omega)
    refine brnF (by decide) ?_
    refine c0_seek ho hw h1.1 (fun a ha => ⟨(hrc a ha).1, (hrc a ha).2.1⟩) hC (fun μ1 K1 E1 V4 V5 => ?_)
    have hI1 : INV ξ μ1 := hI.fr (K1.sub (fun a i k z => by unfold fA fT fO fS fR fN fP fX fF fL at z; unfold fK; omega)) E1
    have ref : Q (if b = 0 then pfT so n rc o T else pmT so n rc o T) 0 (0, 0) μ1 := by
      refine h _ _ (fun Q hq => ?_)
      have U : frm (fun a i k => fU a i k ∨ a = 45) μ (m_i μ1 41 0 0 0) := fun a i k z => by
        rw [mi_n (by unfold fU at z; omega)]; exact K1 a i k (by unfold fU at z; unfold fK; omega)
      have S0 : stkR (m_i μ1 41 0 0 0) n so wt := h1.2.1.f2 (U.sub (fun _ _ _ z => Or.inl z))
      have R0 : tabR (m_i μ1 41 0 0 0) 0 T := hR.f2 (U.sub (fun _ _ _ z => Or.inl z))
      have C0 : rcR (m_i μ1 41 0 0 0) rc := fun a ha => (U 45 0 a (Or.inr rfl)).trans (hrc a ha).2.2
      refine call_go (cd := k12_plan) 6 rfl rfl ?_
      refine r12_isOrder (fun _ _ _ => ?_) (fun q => by rw [nI_toInt (by omega)] at q; omega)
      refine brF (by decide) ?_
      refine run_go 6 ?_
      refine r12_inN (b := 2) (by decide) (fun _ _ _ => ?_) (fun q => by rw [nI_toInt (by omega)] at q; omega)
      refine brnF (by decide) ?_
      refine run_go 5 ?_
      refine r12_isEnd (r := 0) rfl rfl ho hw S0 (by decide) R0 (fun e => ?_) (fun e => ?_)
      · have hq := hq _ hI1.th
        unfold pfT pmT at hq
        rw [if_pos e, if_pos e] at hq
        refine brF (by decide) ?_
        refine run_go 20 ?_
        rcases (by omega : b = 0 ∨ b = 1) with rfl | rfl
        · refine brnT rfl ?_
          exact hq
        · refine brnF (by decide) ?_
          exact hq
      · unfold pfT pmT at hq
        rw [if_neg e, if_neg e] at hq
        refine brT rfl ?_
        have out : ∀ (m f k a : Nat) (μ' : sM), k < n → a < 14 → f = 14 * k + a → agK (m_i μ1 41 0 0 0) μ' → (if b = 0 then (if f1T so n rc o T = 99 then if f2T so n rc o T = 99 then nONE else 2 else 1) else if f1T so n rc o T = 99 then pvT (f2T so n rc o T) else pvT (f1T so n rc o T)) = (if b = 0 then nI m else pvT f) → Run k12_plan (Call (d + 19)) Q 131 [some (sR 41 0), some (sI (nI o)), some (sI (nI b)), some (sI (nI m)), some (sI (nI k)), some (sI (nI a))] [] μ' := by
          intro m f k a μ' hk ha hf A' hv
          have hq := hq _ (hI1.th.K A')
          rw [hv, hf, pv_n hk hn ha] at hq
          refine run_go 20 ?_
          rcases (by omega : b = 0 ∨ b = 1) with rfl | rfl
          · refine brnT rfl ?_
            exact hq
          · refine brnF (by decide) ?_
            exact hq
        refine run_go 2 ?_
        refine run_go 3 ?_
        refine brF (by decide) ?_
        refine run_go 2 ?_
        refine r12_scan (d := d + 10) (m := 1) (e := b) (o := o) (P := fun k a => enT so n (goT T k a) o) hw S0 C0 R0 (fun k a μ' hk ha hmv A' t' q1 q2 => ?_) (fun k a μ' hk ha hf A' => ?_) (fun μ2 hf A2 => ?_)
        · refine run_go 3 ?_
          refine brnT rfl ?_
          refine run_go 5 ?_
          refine r12_isEnd (r := 9) rfl rfl ho (wf_go hw hn hk ha hmv.1) (agK_stk S0 A') (by decide) t' (fun e2 => ?_) (fun e2 => ?_)
          · refine brF (by decide) ?_
            refine run_go 1 ?_
            exact q1 e2 _ A'
          · refine brT rfl ?_
            exact q2 e2 _ A'
        · have hf : f1T so n rc o T = 14 * k + a := hf
          refine out 1 _ k a μ' hk ha rfl A' ?_
          have n1 : ¬ f1T so n rc o T = 99 := by omega
          rw [if_neg n1, if_neg n1, hf]; rfl
        · have hf1 : f1T so n rc o T = 99 := hf
          have S2 := agK_stk S0 A2
          refine run_go 2 ?_
          refine run_go 3 ?_
          refine brF (by decide) ?_
          refine run_go 2 ?_
          refine run_sub (ls := [some (sR 41 0), some (sI (nI o)), some (sI (nI b)), some (sI (nI 2)), some (sI 0)]) ?_ subL.rf
          refine r12_scan (d := d + 10) (m := 2) (e := b) (o := o) (P := fun k a => ¬ f1T so n rc o (goT T k a) = 99) hw S2 (C0.K A2) (agK_tab0 R0 A2) (fun k a μ' hk ha hmv A' t' q1 q2 => ?_) (fun k a μ' hk ha hf A' => ?_) (fun μ3 hf A3 => ?_)
          · refine run_go 3 ?_
            refine brnF (by decide) ?_
            refine run_go 5 ?_
            refine r12_endsByOne (r := 9) rfl rfl ho (wf_go hw hn hk ha hmv.1) (agK_stk S2 A') ((C0.K A2).K A') rfl t' (fun e2 μ'' A'' => ?_) (fun e2 μ'' A'' => ?_)
            · refine brF (by decide) ?_
              exact q1 e2 _ (A'.tr A'')
            · refine brT rfl ?_
              exact q2 (fun z => z e2) _ (A'.tr A'')
          · have hf : f2T so n rc o T = 14 * k + a := hf
            refine out 2 _ k a μ' hk ha rfl (A2.tr A') ?_
            have n2 : ¬ f2T so n rc o T = 99 := by omega
            rw [if_pos hf1, if_neg n2, if_pos hf1, hf]; rfl
          · have hf2 : f2T so n rc o T = 99 := hf
            refine run_go 2 ?_
            refine run_go 3 ?_
            refine brT (by decide) ?_
            refine run_go 10 ?_
            have hq := hq _ (hI1.th.K (A2.tr A3))
            rw [if_pos hf1, if_pos hf2, if_pos hf1, hf2] at hq
            rcases (by omega : b = 0 ∨ b = 1) with rfl | rfl
            · exact hq
            · exact hq
    rcases (by omega : b = 0 ∨ b = 1) with rfl | rfl
    · refine brnT rfl ?_
      refine call_go (cd := k0_fewestMoves) 10 rfl rfl ?_
      rw [← V4] at ref
      exact ref
    · refine brnF (by decide) ?_
      refine call_go (cd := k0_firstMove) 10 rfl rfl ?_
      rw [← V5] at ref
      exact ref
  · have hB : Q (-1000001) 0 (0, 0) μ := by
      refine h _ _ (fun Q hq => ?_)
      have hq' := hq _ hI.th
      refine call_go (cd := k12_plan) 60 rfl rfl ?_
      refine r12_isOrder (fun o ho e1 => ?_) (fun q => ?_)
      · refine brF (by decide) ?_
        refine r12_inN (b := 2) (by decide) (fun a ha e2 => absurd ⟨⟨o, ho, e1⟩, a, ha, e2⟩ hb) (fun q => ?_)
        refine brnT rfl ?_
        exact hq'
      · refine brT rfl ?_
        exact hq'
    refine call_go (cd := k11_plan) 60 rfl rfl ?_
    refine c11_within (b := 96) rfl (by decide) (fun o ho e1 => ?_) (fun _ => ?_)
    · refine brF (by decide) ?_
      refine c11_within (b := 2) rfl (by decide) (fun a ha e2 => absurd ⟨⟨o, ho, e1⟩, a, ha, e2⟩ hb) (fun _ => ?_)
      refine brnT rfl ?_
      exact hB
    · refine brT rfl ?_
      exact hB
end OP
