/-! plans: the reference, and both -/
section OP
variable {d n k c s a b r u o i rel κ lr t p j S m m' : Nat} {μ μ' μ'' : sM} {Q : sQ} {so wt rc : Nat → Nat} {T T' : tT} {tb : Nat → tT} {l : lT} {x y z w v : Int32} {ξ : Nat → Nat → Int32}
theorem r12_isEnd (hx : x = nI r) (hy : y = nI o) (ho : o < 96) (hw : wfT so n T) (hS : stkR μ n so wt) (hr : r < 108) (hT : tabR μ r T) (h1 : enT so n T o → Q 1 0 (0, 0) μ) (h2 : ¬ enT so n T o → Q 0 0 (0, 0) μ) : Call (d + 5) n12_isEnd [sR 41 0, sI x, sI y] μ Q := by
  subst hx; subst hy
  have hn := hS.2.1
  unfold enT at h1 h2
  have ha : o / 2 % 4 < 4 := Nat.mod_lt _ (by decide)
  have hr' : o / 8 % 3 < 3 := Nat.mod_lt _ (by decide)
  have hb : o / 24 < 4 := by omega
  have q := or_a o ho
  have hl : ∀ i, i ≤ n → asT so n T (o / 2 % 4) (o / 8 % 3) (o / 24) i ≤ i ∧ thT so (o / 2 % 4) i ≤ i := fun i hi => by
    have q1 := sumN_le (f := fun i => tB (so i = o / 2 % 4 ∧ atT so n T i (o / 8 % 3) (o / 24))) (b := 1) (n := i) (fun _ _ => tB_le)
    have q2 := sumN_le (f := fun i => if so i = o / 2 % 4 then 1 else 0) (b := 1) (n := i) (fun j _ => by split <;> omega)
    unfold asT thT
    omega
  refine call_go (cd := k12_isEnd) 12 rfl rfl ?_
  refine And.intro (by decide) ?_
  refine And.intro (by decide) ?_
  rw [q.1]
  refine loopF (cd := k12_isEnd) (d := d + 4) (Q := Q) n (fun i j => [some (sR 41 0), some (sI (nI r)), some (sI (nI o)), some (sI (nI (o / 2 % 4))), some (sI (nI (asT so n T (o / 2 % 4) (o / 8 % 3) (o / 24) i))), some (sI (nI (thT so (o / 2 % 4) i))), some (sI j)]) (fun _ => μ) 15 ?_ (fun i hi kk => ?_)
  · have hl := hl n (Nat.le_refl n)
    generalize asT so n T (o / 2 % 4) (o / 8 % 3) (o / 24) n = A at hl h1 h2 ⊢
    generalize thT so (o / 2 % 4) n = B at hl h1 h2 ⊢
    refine run_go 4 ?_
    refine brT (by simp (disch := first | omega | (simp (disch := omega) only [nI_toInt, Int32.reduceToInt, i_sub, i_add, i_mul]; omega)) only [hS.1, iNONE, i_lt, i_le, i_eq, i_in, nI_toInt, Int32.reduceToInt, i_sub, i_add, i_mul]; omega) ?_
    refine run_go 30 ?_
    refine And.intro (by decide) ?_
    by_cases e : o % 2 = 1
    · refine brnF (fun z => (or_m o ho).2.mp z e) ?_
      by_cases e1 : B = 0
      · refine brT (by simp (disch := first | omega | (simp (disch := omega) only [nI_toInt, Int32.reduceToInt, i_sub, i_add, i_mul]; omega)) only [iNONE, i_lt, i_le, i_eq, i_in, nI_toInt, Int32.reduceToInt, i_sub, i_add, i_mul]; omega) ?_
        exact ⟨Or.inl rfl, h2 (fun z => by have := z.2 e; omega)⟩
      · refine brF (by simp (disch := first | omega | (simp (disch := omega) only [nI_toInt, Int32.reduceToInt, i_sub, i_add, i_mul]; omega)) only [iNONE, i_lt, i_le, i_eq, i_in, nI_toInt, Int32.reduceToInt, i_sub, i_add, i_mul]; omega) ?_
        by_cases e2 : A = B
        · refine brnT (by rw [e2]) ?_
          exact ⟨Or.inr rfl, h1 ⟨by omega, fun _ => e2⟩⟩
        · refine brnF (by simp (disch := first | omega | (simp (disch := omega) only [nI_toInt, Int32.reduceToInt, i_sub, i_add, i_mul]; omega)) only [iNONE, i_lt, i_le, i_eq, i_in, nI_toInt, Int32.reduceToInt, i_sub, i_add, i_mul]; omega) ?_
          exact ⟨Or.inl rfl, h2 (fun z => e2 (z.2 e))⟩
    · refine brnT ((or_m o ho).2.mpr e) ?_
      by_cases e1 : A = 0
      · refine brT (by simp (disch := first | omega | (simp (disch := omega) only [nI_toInt, Int32.reduceToInt, i_sub, i_add, i_mul]; omega)) only [iNONE, i_lt, i_le, i_eq, i_in, nI_toInt, Int32.reduceToInt, i_sub, i_add, i_mul]; omega) ?_
        exact ⟨Or.inl rfl, h2 (fun z => by omega)⟩
      · refine brF (by simp (disch := first | omega | (simp (disch := omega) only [nI_toInt, Int32.reduceToInt, i_sub, i_add, i_mul]; omega)) only [iNONE, i_lt, i_le, i_eq, i_in, nI_toInt, Int32.reduceToInt, i_sub, i_add, i_mul]; omega) ?_
        exact ⟨Or.inr rfl, h1 ⟨by omega, fun z => absurd z e⟩⟩
  · have hs := hS.2.2 i hi
    have eA : asT so n T (o / 2 % 4) (o / 8 % 3) (o / 24) (i + 1) = asT so n T (o / 2 % 4) (o / 8 % 3) (o / 24) i + tB (so i = o / 2 % 4 ∧ atT so n T i (o / 8 % 3) (o / 24)) := rfl
    have eB : thT so (o / 2 % 4) (i + 1) = thT so (o / 2 % 4) i + if so i = o / 2 % 4 then 1 else 0 := rfl
    rw [eA, eB] at kk
    refine run_go 4 ?_
    refine brF (by simp (disch := first | omega | (simp (disch := omega) only [nI_toInt, Int32.reduceToInt, i_sub, i_add, i_mul]; omega)) only [hS.1, iNONE, i_lt, i_le, i_eq, i_in, nI_toInt, Int32.reduceToInt, i_sub, i_add, i_mul]; omega) ?_
    refine run_go 6 ?_
    refine And.intro (by simp (disch := first | omega | (simp (disch := omega) only [nI_toInt, Int32.reduceToInt, i_sub, i_add, i_mul]; omega)) only [iNONE, i_lt, i_le, i_eq, i_in, nI_toInt, Int32.reduceToInt, i_sub, i_add, i_mul]; omega) ?_
    rw [nI_clamp (by omega), hs.1]
    by_cases e2 : so i = o / 2 % 4
    · refine brnT (by rw [e2]) ?_
      rw [if_pos e2, ← nI_1] at kk
      refine run_go 15 ?_
      refine And.intro (by decide) ?_
      refine And.intro (by decide) ?_
      refine And.intro (by decide) ?_
      rw [q.2.1, q.2.2.1]
      refine r12_isAsTold rfl rfl rfl rfl hw hS hr hT hi hr' hb (fun e3 => ?_) (fun e3 => ?_)
      · refine brF (by decide) ?_
        rw [tB_t ⟨e2, e3⟩, ← nI_add] at kk
        refine run_go 6 ?_
        exact kk
      · refine brT rfl ?_
        rw [tB_f (fun z => e3 z.2), ← nI_add] at kk
        refine run_go 5 ?_
        exact kk
    · refine brnF (fun z => e2 ((nI_eq (by omega) (by omega)).mp z)) ?_
      rw [if_neg e2, tB_f (fun z => e2 z.1)] at kk
      refine run_go 2 ?_
      exact kk
def rcR (μ : sM) (rc : Nat → Nat) : Prop := ∀ a, a < 2 → μ.1 45 0 a = nI (rc a)
theorem rcR.K (h : rcR μ rc) (g : agK μ μ') : rcR μ' rc := fun a ha => (g.1 45 0 a (by omega)).trans (h a ha)
theorem r12_canBySome (hx : x = nI r) (hy : y = nI k) (hz : z = nI a) (hw : wfT so n T) (hS : stkR μ n so wt) (hrc : rcR μ rc) (hr : r < 108) (hT : tabR μ r T) (hk : k < n) (ha : a < 14) (h1 : mvT so n T rc k a → Q 1 0 (0, 0) μ) (h2 : ¬ mvT so n T rc k a → Q 0 0 (0, 0) μ) : Call (d + 7) n12_canBySome [sR 41 0, sI x, sI y, sI z] μ Q := by
  subst hx; subst hy; subst hz
  refine call_go (cd := k12_canBySome) 60 rfl rfl ?_
  refine r12_isTo hS (fun a' ha' ht e => ?_) (fun e => ?_)
  · have ea : a' = a := ((nI_eq (by omega) (by omega)).mp e).symm
    subst ea
    refine brF (by decide) ?_
    refine r12_canMove rfl rfl rfl hw hS hr hT hk ht (fun e2 => ?_) (fun e2 => ?_)
    · refine brF (by decide) ?_
      refine r12_doesReach (b := 0) rfl rfl rfl rfl (by decide) hw hS hr hT hk ht (hrc 0 (by decide)) (fun e3 => ?_) (fun e3 => ?_)
      · refine brnF (by decide) ?_
        exact ⟨Or.inr rfl, h1 ⟨e2, Or.inl e3⟩⟩
      · refine brnT rfl ?_
        refine r12_doesReach (b := 1) rfl rfl rfl rfl (by decide) hw hS hr hT hk ht (hrc 1 (by decide)) (fun e4 => ?_) (fun e4 => ?_)
        · refine brF (by decide) ?_
          exact ⟨Or.inr rfl, h1 ⟨e2, Or.inr e4⟩⟩
        · refine brT rfl ?_
          refine ⟨Or.inl rfl, h2 (fun z => ?_)⟩
          rcases z.2 with z | z
          · exact e3 z
          · exact e4 z
    · refine brT rfl ?_
      exact ⟨Or.inl rfl, h2 (fun z => e2 z.1)⟩
  · refine brT rfl ?_
    refine ⟨Or.inl rfl, h2 (fun z => e a ?_ rfl)⟩
    by_cases q : a < 8
    · exact Or.inl q
    · have := z.1.2 (by omega)
      exact Or.inr ⟨by omega, this.1, this.2.1⟩
theorem r12_endsByOne (hx : x = nI r) (hy : y = nI o) (ho : o < 96) (hw : wfT so n T) (hS : stkR μ n so wt) (hrc : rcR μ rc) (hr : r = 9) (hT : tabR μ r T) (h1 : ¬ f1T so n rc o T = 99 → ∀ μ', agK μ μ' → Q 1 0 (0, 0) μ') (h2 : f1T so n rc o T = 99 → ∀ μ', agK μ μ' → Q 0 0 (0, 0) μ') : Call (d + 8) n12_endsByOne [sR 41 0, sI x, sI y] μ Q := by
  subst hx; subst hy; subst hr
  have hn := hS.2.1
  refine call_go (cd := k12_endsByOne) 2 rfl rfl ?_
  refine loopC (cd := k12_endsByOne) (d := d + 7) (Q := Q) n (fun i ls μ' => ls = [some (sR 41 0), some (sI (nI 9)), some (sI (nI o)), some (sI (nI i))] ∧ agR 10 μ μ' ∧ ∀ p, p < 14 * i → ¬ (mvT so n T rc (p / 14) (p % 14) ∧ enT so n (goT T (p / 14) (p % 14)) o)) 2 0 _ _ (Nat.zero_le _) ⟨rfl, agR.rf, fun p hp => absurd hp (Nat.not_lt_zero p)⟩ ?_
  rintro k ls μ1 hk ⟨rfl, A1, N1⟩ kk
  have S1 := hS.ag A1
  refine run_go 4 ?_
  by_cases q : k = n
  · subst q
    refine brT (by simp (disch := first | omega | (simp (disch := omega) only [nI_toInt, Int32.reduceToInt, i_sub, i_add, i_mul]; omega)) only [S1.1, iNONE, i_lt, i_le, i_eq, i_in, nI_toInt, Int32.reduceToInt, i_sub, i_add, i_mul]; omega) ?_
    refine run_go 10 ?_
    exact ⟨Or.inl rfl, h2 (fstN_no N1) _ (A1.K (by decide))⟩
  · refine brF (by simp (disch := first | omega | (simp (disch := omega) only [nI_toInt, Int32.reduceToInt, i_sub, i_add, i_mul]; omega)) only [S1.1, iNONE, i_lt, i_le, i_eq, i_in, nI_toInt, Int32.reduceToInt, i_sub, i_add, i_mul]; omega) ?_
    have hk' : k < n := by omega
    refine run_go 2 ?_
    refine loopC (cd := k12_endsByOne) (d := d + 7) (Q := Q) 14 (fun a ls μ' => ls = [some (sR 41 0), some (sI (nI 9)), some (sI (nI o)), some (sI (nI k)), some (sI (nI a))] ∧ agR 10 μ μ' ∧ ∀ a', a' < a → ¬ (mvT so n T rc k a' ∧ enT so n (goT T k a') o)) 13 0 _ _ (Nat.zero_le _) ⟨rfl, A1, fun p hp => absurd hp (Nat.not_lt_zero p)⟩ ?_
    rintro a ls μ2 ha ⟨rfl, A2, N2⟩ kk2
    have S2 := hS.ag A2
    have T2 := hT.ag A2 (by decide)
    have r2 := hrc.K (A2.K (by decide))
    refine run_go 3 ?_
    by_cases q2 : a = 14
    · subst q2
      refine brT (by simp (disch := first | omega | (simp (disch := omega) only [nI_toInt, Int32.reduceToInt, i_sub, i_add, i_mul]; omega)) only [iNONE, i_lt, i_le, i_eq, i_in, nI_toInt, Int32.reduceToInt, i_sub, i_add, i_mul]; omega) ?_
      refine run_go 2 ?_
      refine run_sub (kk [some (sR 41 0), some (sI (nI 9)), some (sI (nI o)), some (sI (nI k + 1))] _ hk' ⟨by rw [nI_1], A2, fun p hp => ?_⟩) (subL.app _ [some (sI (nI 14))])
      by_cases q3 : p < 14 * k
      · exact N1 p q3
      · rw [show p / 14 = k by omega]
        exact N2 (p % 14) (Nat.mod_lt _ (by decide))
    · refine brF (by simp (disch := first | omega | (simp (disch := omega) only [nI_toInt, Int32.reduceToInt, i_sub, i_add, i_mul]; omega)) only [iNONE, i_lt, i_le, i_eq, i_in, nI_toInt, Int32.reduceToInt, i_sub, i_add, i_mul]; omega) ?_
      have ha' : a < 14 := by omega
      have no : ∀ μ3, agR 10 μ μ3 → ¬ (mvT so n T rc k a ∧ enT so n (goT T k a) o) → Run k12_endsByOne (Call (d + 7)) Q 59 [some (sR 41 0), some (sI (nI 9)), some (sI (nI o)), some (sI (nI k)), some (sI (nI a))] [] μ3 := by
        intro μ3 A3 N3
        refine run_go 2 ?_
        refine kk2 _ _ ha' ⟨by rw [← nI_1 a], A3, fun a' ha' => ?_⟩
        by_cases q4 : a' = a
        · subst q4; exact N3
        · exact N2 a' (by omega)
      refine run_go 6 ?_
      refine r12_canBySome rfl rfl rfl hw S2 r2 (by decide) T2 hk' ha' (fun e => ?_) (fun e => ?_)
      · refine brF (by decide) ?_
        refine run_go 14 ?_
        refine r12_copyTable (u := 9) (r := 10) rfl rfl (by decide) (by decide) (by decide) T2 (fun μ3 a3 t3 => ?_)
        refine r12_doMove (r := 10) rfl rfl rfl hw hn (by decide) t3 hk' ha' e.1 (fun μ4 a4 t4 => ?_)
        refine r12_isEnd (r := 10) rfl rfl ho (wf_go hw hn hk' ha' e.1) ((S2.ag a3).ag a4) (by decide) t4 (fun e2 => ?_) (fun e2 => ?_)
        · refine brF (by decide) ?_
          refine run_go 10 ?_
          refine ⟨Or.inr rfl, h1 (fun z => ?_) _ (((A2.tr a3).tr a4).K (by decide))⟩
          rcases fstN_sp (P := fun p => mvT so n T rc (p / 14) (p % 14) ∧ enT so n (goT T (p / 14) (p % 14)) o) (n := 14 * n) (by omega) with w | w
          · refine w.2 (14 * k + a) (by omega) ?_
            rw [show (14 * k + a) / 14 = k by omega, show (14 * k + a) % 14 = a by omega]
            exact ⟨e, e2⟩
          · have w1 := w.1
            have z : fstN (fun p => mvT so n T rc (p / 14) (p % 14) ∧ enT so n (goT T (p / 14) (p % 14)) o) (14 * n) = 99 := z
            omega
        · refine brT rfl ?_
          exact no _ ((A2.tr a3).tr a4) (fun z => e2 z.2)
      · refine brT rfl ?_
        exact no _ A2 (fun z => e z.1)
/-- how many moves, and which first -/
noncomputable def pfT (so : Nat → Nat) (n : Nat) (rc : Nat → Nat) (o : Nat) (T : tT) : Int32 := @ite Int32 (enT so n T o) (Classical.propDecidable _) 0 (if f1T so n rc o T = 99 then (if f2T so n rc o T = 99 then nONE else 2) else 1)
noncomputable def pmT (so : Nat → Nat) (n : Nat) (rc : Nat → Nat) (o : Nat) (T : tT) : Int32 := @ite Int32 (enT so n T o) (Classical.propDecidable _) nONE (if f1T so n rc o T = 99 then pvT (f2T so n rc o T) else pvT (f1T so n rc o T))
theorem f2_rg : f2T so n rc o T = 99 ∨ f2T so n rc o T < 14 * n ∨ 99 < 14 * n := by
  by_cases h : 14 * n ≤ 99
  · rcases fstN_sp (P := fun p => mvT so n T rc (p / 14) (p % 14) ∧ ¬ f1T so n rc o (goT T (p / 14) (p % 14)) = 99) h with z | z
    · exact Or.inl z.1
    · exact Or.inr (Or.inl z.1)
  · exact Or.inr (Or.inr (by omega))
theorem f1_no (hn : n ≤ 6) (h : f1T so n rc o T = 99) (hk : k < n) (ha : a < 14) (hm : mvT so n T rc k a) : ¬ enT so n (goT T k a) o := by
  intro z
  rcases fstN_sp (P := fun p => mvT so n T rc (p / 14) (p % 14) ∧ enT so n (goT T (p / 14) (p % 14)) o) (n := 14 * n) (by omega) with w | w
  · refine w.2 (14 * k + a) (by omega) ?_
    rw [show (14 * k + a) / 14 = k by omega, show (14 * k + a) % 14 = a by omega]
    exact ⟨hm, z⟩
  · have w1 := w.1
    have h : fstN (fun p => mvT so n T rc (p / 14) (p % 14) ∧ enT so n (goT T (p / 14) (p % 14)) o) (14 * n) = 99 := h
    omega
def fK (a i k : Nat) : Prop := ¬ (9 ≤ a ∧ a ≤ 12 ∧ i = 1) ∧ ¬ (a = 14)
theorem c0_seek (ho : o < 96) (hw : wfT so n T) (hS : stkC μ n so wt) (hrc : rcC μ rc) (hT : tabC μ 0 n T) (h : ∀ μ', frm fK μ μ' → μ'.2 = μ.2 → μ'.1 14 0 4 = pfT so n rc o T → μ'.1 14 0 5 = pmT so n rc o T → Q 0 0 (0, 0) μ') : Call (d + 9) n0_seek [sR 14 0, sI (nI o), sR 8 0] μ Q := by
  have hn := hS.2.1
  have r1 := f1_rg (so := so) (n := n) (rc := rc) (o := o) (T := T)
  have r2 := f2_rg (so := so) (n := n) (rc := rc) (o := o) (T := T)
  refine call_go (cd := k0_seek) 15 rfl rfl ?_
  refine c9_takeOver (t := 1) (by decide) hT hn (fun μ1 a1 t1 => ?_)
  have K1 : frm fK μ (m_i μ1 14 0 5 nONE) := (frm.rf.agT a1 (fun a i k z => by unfold fK at z; omega)).mi (by unfold fK; omega)
  have S1 : stkC (m_i μ1 14 0 5 nONE) n so wt := ⟨(hS.ag a1).1, hn, (hS.ag a1).2.2⟩
  have t1' : tabC (m_i μ1 14 0 5 nONE) 1 n T := t1
  refine c3_isEnd rfl ho hw S1 t1' (fun e => ?_) (fun e => ?_)
  · refine brF (by decide) ?_
    refine run_go 5 ?_
    refine run_go 3 ?_
    refine brF (by decide) ?_
    refine run_go 4 ?_
    refine brnF (show ¬ (m_i (m_i μ1 14 0 5 nONE) 14 0 4 0).1 14 0 4 = nONE from by rw [mi_s]; decide) ?_
    refine run_go 5 ?_
    refine h _ (K1.mi (by unfold fK; omega)) a1.2 ?_ ?_
    · rw [mi_s]; exact (if_pos e).symm
    · rw [mi_k (by decide), mi_s]; exact (if_pos e).symm
  · refine brT rfl ?_
    refine run_go 4 ?_
    refine run_go 3 ?_
    refine brF (by decide) ?_
    refine run_go 4 ?_
    refine brnT (show (m_i (m_i μ1 14 0 5 nONE) 14 0 4 nONE).1 14 0 4 = nONE from mi_s) ?_
    have S2 : stkC (m_i (m_i μ1 14 0 5 nONE) 14 0 4 nONE) n so wt := S1
    have t2 : tabC (m_i (m_i μ1 14 0 5 nONE) 14 0 4 nONE) 1 n T := t1
    have K2 : frm fK μ (m_i (m_i μ1 14 0 5 nONE) 14 0 4 nONE) := K1.mi (by unfold fK; omega)
    have rc2 : rcC (m_i (m_i μ1 14 0 5 nONE) 14 0 4 nONE) rc := (hrc.ag a1 : rcC μ1 rc)
    have E2 : (m_i (m_i μ1 14 0 5 nONE) 14 0 4 nONE).2 = μ.2 := a1.2
    generalize m_i (m_i μ1 14 0 5 nONE) 14 0 4 nONE = M2 at S2 t2 K2 rc2 E2 ⊢
    refine run_go 11 ?_
    refine c0_lfm1 ho hw S2 rc2 t2 e (fun μ3 a3 t3 => ?_)
    have K3 : ∀ x, frm fK μ (m_i μ3 14 0 5 x) := fun x => (K2.agT a3 (fun a i k z => by unfold fK at z; omega)).mi (by unfold fK; omega)
    have E3 : μ3.2 = μ.2 := a3.2.trans E2
    by_cases e1 : f1T so n rc o T = 99
    · refine brnT (show (m_i μ3 14 0 5 (pvT (f1T so n rc o T))).1 14 0 5 = nONE from by rw [mi_s, e1]; rfl) ?_
      have S4 : stkC (m_i (m_i μ3 14 0 5 (pvT (f1T so n rc o T))) 14 0 4 nONE) n so wt := (S2.ag a3 : stkC μ3 n so wt)
      have t4 : tabC (m_i (m_i μ3 14 0 5 (pvT (f1T so n rc o T))) 14 0 4 nONE) 1 n T := t3
      have K4 : frm fK μ (m_i (m_i μ3 14 0 5 (pvT (f1T so n rc o T))) 14 0 4 nONE) := (K3 _).mi (by unfold fK; omega)
      have rc4 : rcC (m_i (m_i μ3 14 0 5 (pvT (f1T so n rc o T))) 14 0 4 nONE) rc := (rc2.ag a3 : rcC μ3 rc)
      have V4 : (m_i (m_i μ3 14 0 5 (pvT (f1T so n rc o T))) 14 0 4 nONE).1 14 0 4 = nONE := mi_s
      have E4 : (m_i (m_i μ3 14 0 5 (pvT (f1T so n rc o T))) 14 0 4 nONE).2 = μ.2 := E3
      refine run_go 5 ?_
      refine run_go 3 ?_
      refine brF (by decide) ?_
      refine run_go 4 ?_
      refine brnT V4 ?_
      refine run_go 11 ?_
      refine c0_lfm2 ho hw S4 rc4 t4 (fun k a hk ha hm => f1_no hn e1 hk ha hm) (fun μ5 a5 t5 => ?_)
      have K5 : ∀ x y, frm fK μ (m_i (m_i μ5 14 0 5 x) 14 0 4 y) := fun x y => ((K4.agT a5 (fun a i k z => by unfold fK at z; omega)).mi (by unfold fK; omega)).mi (by unfold fK; omega)
      have E5 : μ5.2 = μ.2 := a5.2.trans E4
      by_cases e2 : f2T so n rc o T = 99
      · refine brnT (show (m_i μ5 14 0 5 (pvT (f2T so n rc o T))).1 14 0 5 = nONE from by rw [mi_s, e2]; rfl) ?_
        refine run_go 5 ?_
        refine run_go 3 ?_
        refine brT (by decide) ?_
        refine run_go 5 ?_
        refine h _ (K5 _ _) E5 ?_ ?_
        · rw [mi_s]; unfold pfT; rw [if_neg e, if_pos e1, if_pos e2]
        · rw [mi_k (by decide), mi_s]; unfold pmT; rw [if_neg e, if_pos e1]
      · refine brnF (show ¬ (m_i μ5 14 0 5 (pvT (f2T so n rc o T))).1 14 0 5 = nONE from by rw [mi_s, pv_none (by omega)]; exact e2) ?_
        refine run_go 4 ?_
        refine run_go 3 ?_
        refine brT (by decide) ?_
        refine run_go 5 ?_
        refine h _ (K5 _ _) E5 ?_ ?_
        · rw [mi_s]; unfold pfT; rw [if_neg e, if_pos e1, if_neg e2]; rfl
        · rw [mi_k (by decide), mi_s]; unfold pmT; rw [if_neg e, if_pos e1]
    · refine brnF (show ¬ (m_i μ3 14 0 5 (pvT (f1T so n rc o T))).1 14 0 5 = nONE from by rw [mi_s, pv_none (by omega)]; exact e1) ?_
      refine run_go 4 ?_
      refine run_go 3 ?_
      refine brF (by decide) ?_
      refine run_go 4 ?_
      refine brnF (show ¬ (m_i (m_i μ3 14 0 5 (pvT (f1T so n rc o T))) 14 0 4 1).1 14 0 4 = nONE from by rw [mi_s]; decide) ?_
      refine run_go 5 ?_
      refine h _ ((K3 _).mi (by unfold fK; omega)) E3 ?_ ?_
      · rw [mi_s]; unfold pfT; rw [if_neg e, if_neg e1]
      · rw [mi_k (by decide), mi_s]; unfold pmT; rw [if_neg e, if_neg e1]
end OP
