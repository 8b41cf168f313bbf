section CO
variable {d t n k c s a b r u o : Nat} {μ : sM} {Q : sQ} {so wt : Nat → Nat} {T : tT} {x y z : Int32}
theorem tp_none (hw : wfT so n T) (hn : n ≤ 6) (hc : c < 8) : o9 (tpT T c) = nONE ↔ zS T c = 0 := by
  have h := wf_top hw hc
  rw [o9_none (by omega)]
  unfold tpT
  by_cases e : zS T c = 0
  · rw [if_pos e]; exact ⟨fun _ => e, fun _ => rfl⟩
  · rw [if_neg e]
    have := (hw.1 c (zS T c - 1) hc (by omega)).1
    exact ⟨fun z => by omega, fun z => absurd z e⟩
theorem c3_spotBeside (hx : x = nI k) (hy : y = nI b) (hw : wfT so n T) (hS : stkC μ n so wt) (hT : tabC μ t n T) (hk : k < n) (hb : b < 4) (h : Q (p9 (bsT so n T k b)) 0 (0, 0) μ) : Call (d + 3) n3_spotBeside [sR 13 0, sR 8 t, sI x, sI y] μ Q := by
  subst hx; subst hy
  have hn := hS.2.1
  refine call_go (cd := k3_spotBeside) 4 rfl rfl ?_
  refine loopS (cd := k3_spotBeside) (d := d + 2) (Q := Q) n (fun o => o ≠ k ∧ so o = b ∧ zB T o = 9) (fun j => [some (sR 13 0), some (sR 8 t), some (sI (nI k)), some (sI (nI b)), some (sI nONE), some (sI j)]) μ 7 (fun hp => ?_) (fun i hi hp kk => ?_)
  · refine run_go 3 ?_
    refine brnT rfl ?_
    refine run_go 5 ?_
    refine c8_size hS ?_
    refine brT (by simp (disch := first | omega | (simp (disch := omega) only [nI_toInt, Int32.reduceToInt, i_sub, i_add, i_mul]; omega)) only [iNONE, i_lt, i_le, i_eq, i_in, nI_toInt, Int32.reduceToInt, i_sub, i_add, i_mul]; omega) ?_
    refine run_go 5 ?_
    refine brT rfl ?_
    refine run_go 2 ?_
    have e : bsT so n T k b = 99 := if_pos (fstN_no hp)
    rw [e] at h
    exact h
  · have h6 := hS.2.2 i hi
    refine run_go 3 ?_
    refine brnT rfl ?_
    refine run_go 5 ?_
    refine c8_size hS ?_
    refine brF (by simp (disch := first | omega | (simp (disch := omega) only [nI_toInt, Int32.reduceToInt, i_sub, i_add, i_mul]; omega)) only [iNONE, i_lt, i_le, i_eq, i_in, nI_toInt, Int32.reduceToInt, i_sub, i_add, i_mul]; omega) ?_
    refine run_go 3 ?_
    by_cases e1 : i = k
    · refine brT (by rw [e1]) ?_
      refine run_go 2 ?_
      exact kk (fun z => z.1 e1)
    · refine brF (by simp (disch := first | omega | (simp (disch := omega) only [nI_toInt, Int32.reduceToInt, i_sub, i_add, i_mul]; omega)) only [iNONE, i_lt, i_le, i_eq, i_in, nI_toInt, Int32.reduceToInt, i_sub, i_add, i_mul]; omega) ?_
      refine run_go 6 ?_
      refine c8_sortOf rfl hS hi ?_
      by_cases e2 : so i = b
      · refine brnT (by simp (disch := first | omega | (simp (disch := omega) only [nI_toInt, Int32.reduceToInt, i_sub, i_add, i_mul]; omega)) only [iNONE, i_lt, i_le, i_eq, i_in, nI_toInt, Int32.reduceToInt, i_sub, i_add, i_mul]; omega) ?_
        refine run_go 5 ?_
        refine c9_boxOf rfl hw hn hT hi ?_
        by_cases e3 : zB T i = 9
        · refine brnT (by rw [e3]; rfl) ?_
          refine run_go 6 ?_
          refine c9_spotOf rfl (by omega) ?_
          have h7 := (wf_spot hw hn hi).2.2.2 e3
          rw [(hT.1 i hi).1, h7.1]
          have e4 := fstN_is (P := fun o => o ≠ k ∧ so o = b ∧ zB T o = 9) ⟨e1, e2, e3⟩ hp hi (by omega)
          have e5 : bsT so n T k b = fstN (fun c => nb c (zC T i) = true ∧ zS T c = 0) 8 := by
            unfold bsT
            rw [e4, if_neg (by omega)]
          rw [e5] at h
          refine run_go 3 ?_
          refine brnF (by simp (disch := first | omega | (simp (disch := omega) only [nI_toInt, Int32.reduceToInt, i_sub, i_add, i_mul]; omega)) only [iNONE, i_lt, i_le, i_eq, i_in, nI_toInt, Int32.reduceToInt, i_sub, i_add, i_mul]; omega) ?_
          refine run_go 2 ?_
          refine loopS (cd := k3_spotBeside) (d := d + 2) (Q := Q) 8 (fun c => nb c (zC T i) = true ∧ zS T c = 0) (fun j => [some (sR 13 0), some (sR 8 t), some (sI (nI k)), some (sI (nI b)), some (sI (nI (zC T i))), some (sI j)]) μ 73 (fun hp2 => ?_) (fun c hc hp2 kk2 => ?_)
          · refine run_go 3 ?_
            refine brF (by simp (disch := first | omega | (simp (disch := omega) only [nI_toInt, Int32.reduceToInt, i_sub, i_add, i_mul]; omega)) only [iNONE, i_lt, i_le, i_eq, i_in, nI_toInt, Int32.reduceToInt, i_sub, i_add, i_mul]; omega) ?_
            refine run_go 3 ?_
            refine brT (by decide) ?_
            refine run_go 2 ?_
            rw [fstN_no hp2] at h
            exact h
          · refine run_go 3 ?_
            refine brF (by simp (disch := first | omega | (simp (disch := omega) only [nI_toInt, Int32.reduceToInt, i_sub, i_add, i_mul]; omega)) only [iNONE, i_lt, i_le, i_eq, i_in, nI_toInt, Int32.reduceToInt, i_sub, i_add, i_mul]; omega) ?_
            refine run_go 3 ?_
            refine brF (by simp (disch := first | omega | (simp (disch := omega) only [nI_toInt, Int32.reduceToInt, i_sub, i_add, i_mul]; omega)) only [iNONE, i_lt, i_le, i_eq, i_in, nI_toInt, Int32.reduceToInt, i_sub, i_add, i_mul]; omega) ?_
            refine run_go 4 ?_
            refine c11_areNeighbours rfl rfl hc h7.2 (fun e6 => ?_) (fun e6 => ?_)
            · refine brF (by decide) ?_
              refine run_go 5 ?_
              refine c9_topOf rfl hc ?_
              rw [hT.2.2.2 c hc]
              have h8 := tp_none (c := c) hw hn hc
              by_cases e7 : zS T c = 0
              · refine brnT (h8.mpr e7) ?_
                refine run_go 2 ?_
                rw [fstN_is (P := fun c => nb c (zC T i) = true ∧ zS T c = 0) ⟨e6, e7⟩ hp2 hc (by omega), p9_n (by omega)] at h
                exact h
              · refine brnF (fun z => e7 (h8.mp z)) ?_
                refine run_go 2 ?_
                exact kk2 (fun z => e7 z.2)
            · refine brT rfl ?_
              refine run_go 2 ?_
              exact kk2 (fun z => by rw [e6] at z; cases z.1)
        · have h7 := hw.2.2.1 i hi e3
          refine brnF (by rw [show (-1000000 : Int32) = nONE from rfl, o9_none (by omega)]; exact e3) ?_
          refine run_go 2 ?_
          exact kk (fun z => e3 z.2.2)
      · refine brnF (by simp (disch := first | omega | (simp (disch := omega) only [nI_toInt, Int32.reduceToInt, i_sub, i_add, i_mul]; omega)) only [iNONE, i_lt, i_le, i_eq, i_in, nI_toInt, Int32.reduceToInt, i_sub, i_add, i_mul]; omega) ?_
        refine run_go 2 ?_
        exact kk (fun z => e2 z.2.1)
theorem wt_lt (hw : wfT so n T) (hn : n ≤ 6) (h : wtT so n T k r b ≠ 99) : wtT so n T k r b < 14 := by
  unfold wtT at h ⊢
  by_cases e : r = 0
  · rw [if_pos e] at h ⊢
    unfold onT at h ⊢
    rcases fstN_sp (P := fun o => o ≠ k ∧ so o = b ∧ clT' T o) (n := n) (by omega) with g | g
    · rw [if_pos g.1] at h; exact absurd rfl h
    · rw [if_neg (by omega)]
      have := (wf_cell hw g.1 g.2.1.2.2.1).1
      omega
  · rw [if_neg e] at h ⊢
    by_cases e1 : r = 1
    · rw [if_pos e1] at h ⊢
      unfold inT at h ⊢
      rcases fstN_sp (P := fun o => b = 2 ∧ so o = 2 ∧ clT' T o ∧ zN T o = 9) (n := n) (by omega) with g | g
      · rw [if_pos g.1] at h; exact absurd rfl h
      · rw [if_neg (by omega)]; omega
    · rw [if_neg e1] at h ⊢
      unfold bsT at h ⊢
      rcases fstN_sp (P := fun o => o ≠ k ∧ so o = b ∧ zB T o = 9) (n := n) (by omega) with g | g
      · rw [if_pos g.1] at h; exact absurd rfl h
      · rw [if_neg (by omega)] at h ⊢
        rcases fstN_sp (P := fun c => nb c (zC T (fstN (fun o => o ≠ k ∧ so o = b ∧ zB T o = 9) n)) = true ∧ zS T c = 0) (n := 8) (by omega) with g2 | g2
        · exact absurd g2.1 h
        · omega
/-- what can be put -/
def ptT (so : Nat → Nat) (n : Nat) (T : tT) (k r b : Nat) : Prop := wtT so n T k r b ≠ 99 ∧ cgT so n T k (wtT so n T k r b)
theorem c3_put (hx : x = nI k) (hy : y = nI r) (hz : z = nI b) (hw : wfT so n T) (hS : stkC μ n so wt) (hT : tabC μ t n T) (hk : k < n) (hr : r < 3) (hb : b < 4) (h1 : ptT so n T k r b → ∀ μ', agT t μ μ' → tabC μ' t n (goT T k (wtT so n T k r b)) → Q 1 0 (0, 0) μ') (h2 : ¬ ptT so n T k r b → Q 0 0 (0, 0) μ) : Call (d + 5) n3_put [sR 13 0, sR 8 t, sI x, sI y, sI z] μ Q := by
  subst hx; subst hy; subst hz
  have hn := hS.2.1
  have key : ∀ v : Nat, v = wtT so n T k r b → Run k3_put (Call (d + 4)) Q 38 [some (sR 13 0), some (sR 8 t), some (sI (nI k)), some (sI (nI r)), some (sI (nI b))] [sI (p9 v)] μ := by
    intro v hv
    refine run_go 20 ?_
    unfold ptT at h1 h2
    rw [← hv] at h1 h2
    by_cases e : v = 99
    · refine brT (by rw [e]; rfl) ?_
      exact ⟨Or.inl rfl, h2 (fun z => z.1 e)⟩
    · have h3 := wt_lt hw hn (k := k) (r := r) (b := b) (by omega)
      refine brF (by simp (disch := first | omega | (simp (disch := omega) only [nI_toInt, Int32.reduceToInt, i_sub, i_add, i_mul]; omega)) only [p9_n e, iNONE, i_lt, i_le, i_eq, i_in, nI_toInt, Int32.reduceToInt, i_sub, i_add, i_mul]; omega) ?_
      refine c9_canGo rfl (p9_n e) hw hS hT hk (by omega) (fun e2 => ?_) (fun e2 => ?_)
      · refine brnF (by decide) ?_
        have g := cg_go hw e2 (by omega)
        refine c9_go rfl (p9_n e) hw hn hT hk g.1 g.2 (fun μ' g1 g2 => ?_)
        exact ⟨Or.inr rfl, h1 ⟨e, e2⟩ μ' g1 g2⟩
      · refine brnT rfl ?_
        exact ⟨Or.inl rfl, h2 (fun z => e2 z.2)⟩
  refine call_go (cd := k3_put) 2 rfl rfl ?_
  by_cases e : r = 0
  · refine brnT (by simp (disch := first | omega | (simp (disch := omega) only [nI_toInt, Int32.reduceToInt, i_sub, i_add, i_mul]; omega)) only [iNONE, i_lt, i_le, i_eq, i_in, nI_toInt, Int32.reduceToInt, i_sub, i_add, i_mul]; omega) ?_
    refine run_go 6 ?_
    refine c3_spotOn rfl rfl hw hS hT hk hb ?_
    exact key _ (by unfold wtT; rw [if_pos e])
  · refine brnF (by simp (disch := first | omega | (simp (disch := omega) only [nI_toInt, Int32.reduceToInt, i_sub, i_add, i_mul]; omega)) only [iNONE, i_lt, i_le, i_eq, i_in, nI_toInt, Int32.reduceToInt, i_sub, i_add, i_mul]; omega) ?_
    refine run_go 3 ?_
    by_cases e1 : r = 1
    · refine brnT (by simp (disch := first | omega | (simp (disch := omega) only [nI_toInt, Int32.reduceToInt, i_sub, i_add, i_mul]; omega)) only [iNONE, i_lt, i_le, i_eq, i_in, nI_toInt, Int32.reduceToInt, i_sub, i_add, i_mul]; omega) ?_
      refine run_go 5 ?_
      refine c3_spotIn rfl hw hS hT hb ?_
      exact key _ (by unfold wtT; rw [if_neg e, if_pos e1])
    · refine brnF (by simp (disch := first | omega | (simp (disch := omega) only [nI_toInt, Int32.reduceToInt, i_sub, i_add, i_mul]; omega)) only [iNONE, i_lt, i_le, i_eq, i_in, nI_toInt, Int32.reduceToInt, i_sub, i_add, i_mul]; omega) ?_
      refine run_go 5 ?_
      refine c3_spotBeside rfl rfl hw hS hT hk hb ?_
      exact key _ (by unfold wtT; rw [if_neg e, if_neg e1])
end CO
