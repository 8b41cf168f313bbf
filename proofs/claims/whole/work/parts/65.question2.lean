/-! question: the reference -/
/-- the best of the first i tables, and what it gives -/
noncomputable def bsQ (U : Nat → Nat) : Nat → Nat × Nat
  | 0 => (99, 0)
  | i + 1 => if (bsQ U i).1 = 99 ∨ (bsQ U i).2 < U i then (i, U i) else bsQ U i
section OP
variable {d n k c s a b r u o i rel κ lr t p j S m m' : Nat} {μ μ' μ'' : sM} {Q : sQ} {so wt : Nat → Nat} {T T' : tT} {tb : Nat → tT} {l : lT} {x y z w v : Int32} {ξ : Nat → Nat → Int32}
theorem nI_12 (j : Nat) : 12 + nI j = nI (12 + j) := by
  show nI 12 + nI j = _
  rw [nI_add]
theorem sf_01 : sfN so n tb l T m = 0 ∨ sfN so n tb l T m = 1 := by
  have := tB_le (P := ∃ o, o < m ∧ fbT so n tb l o = 99 ∧ (odT so n T o).1 = 99)
  unfold sfN
  omega
def unI (μ : sM) (so : Nat → Nat) (n : Nat) (tb : Nat → tT) (l : lT) (T : tT) (o : Nat) (g : Nat → Nat) : Prop := (∀ j, j < snN so n tb l T o → g j < o ∧ fbT so n tb l (g j) = 99 ∧ ¬ (odT so n T (g j)).1 = 99 ∧ tabR μ (12 + j) (odT so n T (g j)).2) ∧ ∀ o', o' < o → fbT so n tb l o' = 99 → ¬ (odT so n T o').1 = 99 → ∃ j, j < snN so n tb l T o ∧ ocT so n T (g j) = ocT so n T o'
theorem r12_unlike (hx : x = nI t) (ht : t < κ) (hκ : κ ≤ 8) (hw : ∀ t, t ≤ κ → wfT so n (tb t)) (hG : rfG μ n so wt κ tb l) (hW : lsW κ l) (h : ∀ μ', agK μ μ' → Q (nI (sqN so n tb l (tb (t + 1)) 96)) 0 (0, 0) μ') : Call (d + 11) n12_unlike [sR 41 0, sI x] μ Q := by
  subst hx
  have hn := hG.1.2.1
  have wT := hw (t + 1) (by omega)
  have rT : ∀ {μ'}, agK μ μ' → tabR μ' (t + 1) (tb (t + 1)) := fun A => (hG.K hκ A).2.1 (t + 1) (by omega)
  rw [sq_sn wT hn] at h
  generalize tb (t + 1) = T at h wT rT
  refine call_go (cd := k12_unlike) 6 rfl rfl ?_
  refine loopC (cd := k12_unlike) (d := d + 10) (Q := Q) 96 (fun o ls μ' => ls = [some (sR 41 0), some (sI (nI t)), some (sI (nI (snN so n tb l T o))), some (sI (nI (sfN so n tb l T o))), some (sI (nI o))] ∧ agK μ μ' ∧ ∃ g, unI μ' so n tb l T o g) 7 0 _ _ (Nat.zero_le _) ⟨?_, agK.rf, fun _ => 0, fun j hj => absurd hj (Nat.not_lt_zero j), fun o ho => absurd ho (Nat.not_lt_zero o)⟩ ?_
  · rw [show sfN so n tb l T 0 = 0 from tB_f (fun ⟨o, z, _⟩ => absurd z (Nat.not_lt_zero o))]; rfl
  rintro o ls μ1 ho ⟨rfl, A1, g, I1⟩ kk
  have sl := sn_le (so := so) (n := n) (tb := tb) (l := l) (T := T) (m := o)
  refine run_go 3 ?_
  by_cases q : o = 96
  · subst q
    refine brT (by simp (disch := first | omega | (simp (disch := omega) only [nI_toInt, Int32.reduceToInt, i_sub, i_add, i_mul]; omega)) only [iNONE, i_lt, i_le, i_eq, i_in, nI_toInt, Int32.reduceToInt, i_sub, i_add, i_mul]; omega) ?_
    refine run_go 10 ?_
    have h := h _ A1
    rw [← nI_add] at h
    exact h
  · refine brF (by simp (disch := first | omega | (simp (disch := omega) only [nI_toInt, Int32.reduceToInt, i_sub, i_add, i_mul]; omega)) only [iNONE, i_lt, i_le, i_eq, i_in, nI_toInt, Int32.reduceToInt, i_sub, i_add, i_mul]; omega) ?_
    refine run_go 7 ?_
    refine r12_standing2 hW (hG.K hκ A1).2.2 ?_
    refine r12_barredBy9 rfl rfl hκ hw (hG.K hκ A1) hW (by omega) (fun μ2 A2 => ?_)
    have A2K := A1.tr (A2.K (by decide))
    have I2 : unI μ2 so n tb l T o g := ⟨fun j hj => ⟨(I1.1 j hj).1, (I1.1 j hj).2.1, (I1.1 j hj).2.2.1, (I1.1 j hj).2.2.2.ag A2 (by omega)⟩, I1.2⟩
    by_cases F : fbT so n tb l o = 99
    · rw [F]
      refine brnT rfl ?_
      refine run_go 16 ?_
      refine r12_copyTable (u := t + 1) (r := 12 + snN so n tb l T o) (nI_1 t) (nI_12 _) (by omega) (by omega) (by omega) (rT A2K) (fun μ3 a3 t3 => ?_)
      have A3K := A2K.tr (a3.K (by omega))
      refine r12_doOrder (r := 12 + snN so n tb l T o) (nI_12 _) rfl (by omega) wT (hG.K hκ A3K).1 (by omega) t3 (fun e μ4 a4 t4 => ?_) (fun e μ4 a4 => ?_)
      · have hod := od_wf (so := so) (o := o) wT hn
        have q1 := hod.2.1
        have A4K := A3K.tr (a4.K (by omega))
        have I4 : ∀ j, j < snN so n tb l T o → tabR μ4 (12 + j) (odT so n T (g j)).2 := fun j hj => ((I2.1 j hj).2.2.2.ag a3 (by omega)).ag a4 (by omega)
        have sf : sfN so n tb l T (o + 1) = sfN so n tb l T o := by
          unfold sfN
          rw [show (∃ o', o' < o + 1 ∧ fbT so n tb l o' = 99 ∧ (odT so n T o').1 = 99) = ∃ o', o' < o ∧ fbT so n tb l o' = 99 ∧ (odT so n T o').1 = 99 from propext ⟨fun ⟨o', z1, z2, z3⟩ => ⟨o', by
            have : o' ≠ o := fun w => e (by rw [← w]; exact z3)
            omega, z2, z3⟩, fun ⟨o', z1, z2⟩ => ⟨o', by omega, z2⟩⟩]
        have new : nwO so n tb l T o ↔ ∀ j, j < snN so n tb l T o → ¬ eqT n (odT so n T (g j)).2 (odT so n T o).2 := by
          constructor
          · intro z j hj z2
            have w := I2.1 j hj
            exact z.2 (g j) w.1 w.2.1 ((oc_e wT hn e w.2.2.1).mpr z2)
          · intro z
            refine ⟨F, fun o' z1 z2 z3 => ?_⟩
            by_cases e' : (odT so n T o').1 = 99
            · rw [(oc_f wT hn).mpr e'] at z3
              exact e ((oc_f wT hn).mp z3.symm)
            · obtain ⟨j, hj, ej⟩ := I2.2 o' z1 z2 e'
              exact z j hj ((oc_e wT hn e (I2.1 j hj).2.2.1).mp (ej.trans z3))
        refine brnF (by rw [show (-1000000 : Int32) = nONE from rfl]; exact (by simp (disch := first | omega | (simp (disch := omega) only [nI_toInt, Int32.reduceToInt, i_sub, i_add, i_mul]; omega)) only [iNONE, i_lt, i_le, i_eq, i_in, nI_toInt, Int32.reduceToInt, i_sub, i_add, i_mul]; omega)) ?_
        refine run_go 4 ?_
        -- the end of the search
        have fin : ∀ (b : Nat) (v : Int32), (b = 1 → ¬ nwO so n tb l T o) → (b = 0 → nwO so n tb l T o) → b < 2 → Run k12_unlike (Call (d + 10)) Q 98 [some (sR 41 0), some (sI (nI t)), some (sI (nI (snN so n tb l T o))), some (sI (nI (sfN so n tb l T o))), some (sI (nI o)), some (sI (nI b)), some (sI v)] [] μ4 := by
          intro b v b1 b0 hb
          have es : snN so n tb l T (o + 1) = snN so n tb l T o + tB (nwO so n tb l T o ∧ ¬ (odT so n T o).1 = 99) := rfl
          rcases (by omega : b = 0 ∨ b = 1) with rfl | rfl
          · have N := b0 rfl
            rw [tB_t ⟨N, e⟩] at es
            have kk3 := run_sub (kk [some (sR 41 0), some (sI (nI t)), some (sI (nI (snN so n tb l T (o + 1)))), some (sI (nI (sfN so n tb l T (o + 1)))), some (sI (nI (o + 1)))] μ4 (by omega) ⟨rfl, A4K, up1 g (snN so n tb l T o) o, ?_, ?_⟩) (subL.app _ [some (sI (nI 0)), some (sI v)])
            · rw [es, sf, ← nI_1, ← nI_1] at kk3
              refine run_go 3 ?_
              refine brT rfl ?_
              refine run_go 5 ?_
              exact kk3
            · rw [es]
              intro j hj
              by_cases q2 : j = snN so n tb l T o
              · subst q2
                rw [up1_s]
                exact ⟨by omega, F, e, t4⟩
              · rw [up1_n q2]
                have w := I2.1 j (by omega)
                exact ⟨by omega, w.2.1, w.2.2.1, I4 j (by omega)⟩
            · rw [es]
              intro o' z1 z2 z3
              by_cases q2 : o' = o
              · subst q2
                exact ⟨snN so n tb l T o', by omega, by rw [up1_s]⟩
              · obtain ⟨j, hj, ej⟩ := I2.2 o' (by omega) z2 z3
                exact ⟨j, by omega, by rw [up1_n (by omega)]; exact ej⟩
          · have N := b1 rfl
            rw [tB_f (fun z => N z.1)] at es
            have kk3 := run_sub (kk [some (sR 41 0), some (sI (nI t)), some (sI (nI (snN so n tb l T (o + 1)))), some (sI (nI (sfN so n tb l T (o + 1)))), some (sI (nI (o + 1)))] μ4 (by omega) ⟨rfl, A4K, g, ?_, ?_⟩) (subL.app _ [some (sI (nI 1)), some (sI v)])
            · rw [es, sf, ← nI_1, ← nI_add] at kk3
              refine run_go 3 ?_
              refine brF (by decide) ?_
              refine run_go 6 ?_
              exact kk3
            · rw [es]
              intro j hj
              have w := I2.1 j (by omega)
              exact ⟨by omega, w.2.1, w.2.2.1, I4 j (by omega)⟩
            · rw [es]
              intro o' z1 z2 z3
              by_cases q2 : o' = o
              · subst q2
                have : ∃ j, j < snN so n tb l T o' ∧ eqT n (odT so n T (g j)).2 (odT so n T o').2 := Classical.byContradiction (fun z => N (new.mpr (fun j hj w => z ⟨j, hj, w⟩)))
                obtain ⟨j, hj, ej⟩ := this
                exact ⟨j, by omega, (oc_e wT hn e (I2.1 j hj).2.2.1).mpr ej⟩
              · obtain ⟨j, hj, ej⟩ := I2.2 o' (by omega) z2 z3
                exact ⟨j, by omega, ej⟩
        refine loopC (cd := k12_unlike) (d := d + 10) (Q := Q) (snN so n tb l T o) (fun p ls μ' => ls = [some (sR 41 0), some (sI (nI t)), some (sI (nI (snN so n tb l T o))), some (sI (nI (sfN so n tb l T o))), some (sI (nI o)), some (sI 0), some (sI (nI p))] ∧ μ' = μ4 ∧ ∀ j, j < p → ¬ eqT n (odT so n T (g j)).2 (odT so n T o).2) 66 0 _ _ (Nat.zero_le _) ⟨rfl, rfl, fun j hj => absurd hj (Nat.not_lt_zero j)⟩ ?_
        rintro p ls μ5 hp ⟨rfl, rfl, hne⟩ kk2
        refine run_go 3 ?_
        by_cases q3 : p = snN so n tb l T o
        · refine brT (by simp (disch := first | omega | (simp (disch := omega) only [nI_toInt, Int32.reduceToInt, i_sub, i_add, i_mul]; omega)) only [iNONE, i_lt, i_le, i_eq, i_in, nI_toInt, Int32.reduceToInt, i_sub, i_add, i_mul]; omega) ?_
          exact fin 0 _ (fun z => by omega) (fun _ => new.mpr (fun j hj => hne j (by omega))) (by decide)
        · refine brF (by simp (disch := first | omega | (simp (disch := omega) only [nI_toInt, Int32.reduceToInt, i_sub, i_add, i_mul]; omega)) only [iNONE, i_lt, i_le, i_eq, i_in, nI_toInt, Int32.reduceToInt, i_sub, i_add, i_mul]; omega) ?_
          refine run_go 2 ?_
          refine brnT rfl ?_
          refine run_go 11 ?_
          have wg := I2.1 p (by omega)
          refine r12_isSame (u := 12 + p) (r := 12 + snN so n tb l T o) (nI_12 _) (nI_12 _) (by omega) (by omega) (od_wf (so := so) (o := g p) wT hn).1 hod.1 hn (I4 p (by omega)) t4 (fun e2 => ?_) (fun e2 => ?_)
          · have N : ¬ nwO so n tb l T o := fun z => new.mp z p (by omega) e2
            refine run_go 3 ?_
            rw [nI_1]
            by_cases q4 : p + 1 = snN so n tb l T o
            · refine brT (by simp (disch := first | omega | (simp (disch := omega) only [nI_toInt, Int32.reduceToInt, i_sub, i_add, i_mul]; omega)) only [iNONE, i_lt, i_le, i_eq, i_in, nI_toInt, Int32.reduceToInt, i_sub, i_add, i_mul]; omega) ?_
              exact fin 1 _ (fun _ => N) (fun z => by omega) (by decide)
            · refine brF (by simp (disch := first | omega | (simp (disch := omega) only [nI_toInt, Int32.reduceToInt, i_sub, i_add, i_mul]; omega)) only [iNONE, i_lt, i_le, i_eq, i_in, nI_toInt, Int32.reduceToInt, i_sub, i_add, i_mul]; omega) ?_
              refine run_go 2 ?_
              refine brnF (by decide) ?_
              exact fin 1 _ (fun _ => N) (fun z => by omega) (by decide)
          · refine kk2 _ _ (by omega) ⟨by rw [← nI_1], rfl, fun j hj => ?_⟩
            by_cases q4 : j = p
            · subst q4; exact e2
            · exact hne j (by omega)
      · have A4K := A3K.tr (a4.K (by omega))
        have es : snN so n tb l T (o + 1) = snN so n tb l T o + tB (nwO so n tb l T o ∧ ¬ (odT so n T o).1 = 99) := rfl
        rw [tB_f (fun z => z.2 e)] at es
        have kk3 := run_sub (kk [some (sR 41 0), some (sI (nI t)), some (sI (nI (snN so n tb l T (o + 1)))), some (sI (nI (sfN so n tb l T (o + 1)))), some (sI (nI (o + 1)))] μ4 (by omega) ⟨rfl, A4K, g, ?_, ?_⟩) subL.rf
        · rw [es, show sfN so n tb l T (o + 1) = 1 from tB_t ⟨o, by omega, F, e⟩, ← nI_1 o] at kk3
          refine brnT rfl ?_
          refine run_go 5 ?_
          exact kk3
        · rw [es]
          intro j hj
          have w := I2.1 j (by omega)
          exact ⟨by omega, w.2.1, w.2.2.1, (w.2.2.2.ag a3 (by omega)).ag a4 (by omega)⟩
        · rw [es]
          intro o' z1 z2 z3
          by_cases q2 : o' = o
          · subst q2; exact absurd e z3
          · obtain ⟨j, hj, ej⟩ := I2.2 o' (by omega) z2 z3
            exact ⟨j, by omega, ej⟩
    · have fl := fb_lt hW F
      have es : snN so n tb l T (o + 1) = snN so n tb l T o + tB (nwO so n tb l T o ∧ ¬ (odT so n T o).1 = 99) := rfl
      rw [tB_f (fun z => F z.1.1)] at es
      have sf : sfN so n tb l T (o + 1) = sfN so n tb l T o := by
        unfold sfN
        rw [show (∃ o', o' < o + 1 ∧ fbT so n tb l o' = 99 ∧ (odT so n T o').1 = 99) = ∃ o', o' < o ∧ fbT so n tb l o' = 99 ∧ (odT so n T o').1 = 99 from propext ⟨fun ⟨o', z1, z2, z3⟩ => ⟨o', by
          have : o' ≠ o := fun w => F (by rw [← w]; exact z2)
          omega, z2, z3⟩, fun ⟨o', z1, z2⟩ => ⟨o', by omega, z2⟩⟩]
      have kk3 := kk [some (sR 41 0), some (sI (nI t)), some (sI (nI (snN so n tb l T (o + 1)))), some (sI (nI (sfN so n tb l T (o + 1)))), some (sI (nI (o + 1)))] μ2 (by omega) ⟨rfl, A2K, g, ?_, ?_⟩
      · rw [es, sf, ← nI_1 o] at kk3
        rw [p9_n F]
        refine brnF (by rw [show (-1000000 : Int32) = nONE from rfl]; exact (by simp (disch := first | omega | (simp (disch := omega) only [nI_toInt, Int32.reduceToInt, i_sub, i_add, i_mul]; omega)) only [iNONE, i_lt, i_le, i_eq, i_in, nI_toInt, Int32.reduceToInt, i_sub, i_add, i_mul]; omega)) ?_
        refine run_go 2 ?_
        exact kk3
      · rw [es]
        intro j hj
        have w := I2.1 j (by omega)
        exact ⟨by omega, w.2⟩
      · rw [es]
        intro o' z1 z2 z3
        by_cases q2 : o' = o
        · subst q2; exact absurd z2 F
        · obtain ⟨j, hj, ej⟩ := I2.2 o' (by omega) z2 z3
          exact ⟨j, by omega, ej⟩
end OP
